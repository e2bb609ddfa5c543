/-! the other program's reading: tongues, wooers, items -/
def Fdm (σ σ' : St) : Prop := (∀ c, ¬ c = 0 → ¬ c = 2 → ¬ c = 3 → σ' c = σ c) ∧ (∀ k, (k < 1001 ∨ 1092 ≤ k) → σ' 3 k = σ 3 k) ∧ ∀ k, ¬ k = 3 → ¬ k = 4 → ¬ k = 5 → ¬ k = 9 → ¬ k = 11 → σ' 0 k = σ 0 k
theorem Fdm_rf {σ : St} : Fdm σ σ := ⟨fun _ _ _ _ => rfl, fun _ _ => rfl, fun _ _ _ _ _ _ => rfl⟩
theorem Fdm_tr {σ σ1 σ2 : St} (h1 : Fdm σ σ1) (h2 : Fdm σ1 σ2) : Fdm σ σ2 := ⟨fun c a b d => (h2.1 c a b d).trans (h1.1 c a b d), fun k hk => (h2.2.1 k hk).trans (h1.2.1 k hk), fun k a b c d e => (h2.2.2 k a b c d e).trans (h1.2.2 k a b c d e)⟩
theorem Fdm_w0 {σ : St} {k : Nat} {v : Int32} (hk : k = 3 ∨ k = 4 ∨ k = 5 ∨ k = 9 ∨ k = 11) : Fdm σ (w2 σ 0 k v) := ⟨fun c a _ _ => by funext j; rw [w2_ap, if_neg (fun z => a z.1)], fun j _ => by rw [w2_ap, if_neg (by omega)], fun j _ _ _ _ _ => by rw [w2_ap, if_neg (by omega)]⟩
theorem Fdm_w2 {σ : St} {k : Nat} {v : Int32} : Fdm σ (w2 σ 2 k v) := ⟨fun c _ b _ => by funext j; rw [w2_ap, if_neg (fun z => b z.1)], fun j _ => by rw [w2_ap, if_neg (by omega)], fun j _ _ _ _ _ => by rw [w2_ap, if_neg (by omega)]⟩
theorem Fdm_w3 {σ : St} {k : Nat} {v : Int32} (h1 : 1001 ≤ k) (h2 : k < 1092) : Fdm σ (w2 σ 3 k v) := ⟨fun c _ _ d => by funext j; rw [w2_ap, if_neg (fun z => d z.1)], fun j _ => by rw [w2_ap, if_neg (by omega)], fun j _ _ _ _ _ => by rw [w2_ap, if_neg (by omega)]⟩
theorem Fdm_st {σ : St} {a b : Int32} : Fdm σ (st σ a b) := ⟨fun c a _ _ => st_c a, fun j _ => st_o (by omega), fun j _ _ _ _ _ => st_o (by omega)⟩
theorem TX_fd {σ σ' : St} {X : Nat → Nat} {n : Nat} (h : TX σ X n) (hf : Fdm σ σ') : TX σ' X n := by
  unfold TX
  rw [hf.2.2 8 (by omega) (by omega) (by omega) (by omega) (by omega), hf.1 4 (by omega) (by omega) (by omega)]
  exact h
def MD (σ : St) (D : Tb) : Prop := σ 0 3 = nI (tW D) ∧ σ 0 4 = nI (tN D) ∧ σ 0 5 = nI (tS D) ∧ (∀ w, w < tW D → σ 2 w = nI (snd D w)) ∧ MW (σ 3) 1001 D ∧ (∀ p w, tN D ≤ p → p < 5 → w < 8 → σ 3 (1001 + 18 * p + 10 + w) = 0) ∧ (tW D ≤ 8 ∧ tN D ≤ 5 ∧ 1 ≤ tS D ∧ tS D ≤ 8 ∧ tD D = 0)
section TI2
variable {σ : St} {X : Nat → Nat} {n i : Nat} {D : Tb}
theorem tongueM (h : TX σ X n) (hi : i < 900) (hM : MD σ D) (hN : tN D = 0) : Ok (f_X4_tongueItem (st σ (nI i) 0)) (fun q => ∃ σ1, Fdm σ σ1 ∧ (1 ≤ dc X n i 9 ∧ dc X n i 9 ≤ 8 ∧ q.2 = st σ1 (nI (i + dc X n i 9)) 0 ∧ MD σ1 (setTg D X n i (dc X n i 9)) ∨ ¬ (1 ≤ dc X n i 9 ∧ dc X n i 9 ≤ 8) ∧ q.2 = st σ1 (nI (i + dc X n i 9)) 1)) := by
  have ht := h.2.2
  have y9 : (9 : Int32) = nI 9 := rfl
  have y7 : (7 : Int32) = nI 7 := rfl
  have a48 : (48 : Int32) = nI 48 := rfl
  unfold f_X4_tongueItem
  have fin : ∀ (k : Nat) (σ1 : St), k ≤ 9 → dc X n i 9 = k → (∀ c, ¬ c = 2 → σ1 c = σ c) → (k ≤ 8 → ∀ j, j < k → σ1 2 j = nI (chr X n (i + j) - 48)) → Ok ((f_X4_in (nI k).toInt64 (1 : Int64) (8 : Int64) (st σ1 (nI (i + k)) 0)).bind (fun q13 => jn (fun (q14 : Int32 × St) => (if ¬ (q14.1 = 0 ∨ q14.1 = 1) then none else nm (w2 q14.2 0 11 q14.1) (fun σ16 => nm (w2 σ16 0 3 (nI k)) (fun σ17 => some ((), σ17))))) (fun k14 => (if ¬ q13.1 = 0 then k14 ((0 : Int32), q13.2) else k14 ((1 : Int32), q13.2))))) (fun q => ∃ σ1, Fdm σ σ1 ∧ (1 ≤ dc X n i 9 ∧ dc X n i 9 ≤ 8 ∧ q.2 = st σ1 (nI (i + dc X n i 9)) 0 ∧ MD σ1 (setTg D X n i (dc X n i 9)) ∨ ¬ (1 ≤ dc X n i 9 ∧ dc X n i 9 ≤ 8) ∧ q.2 = st σ1 (nI (i + dc X n i 9)) 1)) := by
    intro k σ1 hk hd hc hs
    rw [hd]
    have fd1 : Fdm σ σ1 := ⟨fun c _ b _ => hc c b, fun j _ => by rw [hc 3 (by omega)], fun j _ _ _ _ _ => by rw [hc 0 (by omega)]⟩
    refine Ok_bindE (in_nn (l := 1) (h := 8) _ (by omega) (by omega) (by omega)) ?_
    dsimp only
    by_cases hr : 1 ≤ k ∧ k ≤ 8
    · rw [if_pos hr]
      refine Ok_jn (fun q => q = ((0 : Int32), st σ1 (nI (i + k)) 0)) (fun q hq => ?_) (fun k14 hk14 => ?_)
      · subst hq
        dsimp only
        rw [if_neg (by decide), st_w11]
        refine Ok_nm ?_
        rw [st_w (by omega)]
        refine Ok_nm (Ok_some ⟨w2 σ1 0 3 (nI k), Fdm_tr fd1 (Fdm_w0 (by omega)), Or.inl ⟨hr.1, hr.2, rfl, ?_⟩⟩)
        obtain ⟨m1, m2, m3, m4, m5, m6, m7⟩ := hM
        have t1 : tW (setTg D X n i k) = k := by simp [tW, setTg]
        have t2 : tN (setTg D X n i k) = tN D := by simp [tN, setTg]
        have t3 : tS (setTg D X n i k) = tS D := by simp [tS, setTg]
        have t4 : tD (setTg D X n i k) = tD D := by simp [tD, setTg]
        refine ⟨?_, ?_, ?_, fun w hw => ?_, ⟨?_, fun p hp => ?_⟩, fun p w hp hp5 hw => ?_, ?_⟩
        · rw [w2_ap, if_pos ⟨rfl, rfl⟩, t1]
        · rw [w2_ap, if_neg (by omega), hc 0 (by omega), t2]; exact m2
        · rw [w2_ap, if_neg (by omega), hc 0 (by omega), t3]; exact m3
        · rw [t1] at hw
          rw [w2_ap, if_neg (by omega), hs hr.2 w hw]
          simp [snd, setTg, hw]
        · rw [w2_ap, if_neg (by omega), hc 3 (by omega), t4]; exact m5.1
        · rw [t2, hN] at hp; omega
        · rw [t2] at hp
          rw [w2_ap, if_neg (by omega), hc 3 (by omega)]; exact m6 p w hp hp5 hw
        · rw [t1, t2, t3, t4]; exact ⟨hr.2, m7.2⟩
      · rw [if_pos (by decide)]
        exact hk14 _ rfl
    · rw [if_neg hr]
      refine Ok_jn (fun q => q = ((1 : Int32), st σ1 (nI (i + k)) 0)) (fun q hq => ?_) (fun k14 hk14 => ?_)
      · subst hq
        dsimp only
        rw [if_neg (by decide), st_w11]
        refine Ok_nm ?_
        rw [st_w (by omega)]
        exact Ok_nm (Ok_some ⟨w2 σ1 0 3 (nI k), Fdm_tr fd1 (Fdm_w0 (by omega)), Or.inr ⟨hr, rfl⟩⟩)
      · rw [if_neg (by decide)]
        exact hk14 _ rfl
  refine Ok_for (fun k y => (∀ j, j < k → 48 ≤ chr X n (i + j) ∧ chr X n (i + j) ≤ 57) ∧ ∃ σ1, y = (nI k, st σ1 (nI (i + k)) 0) ∧ (∀ c, ¬ c = 2 → σ1 c = σ c) ∧ (k ≤ 8 → ∀ j, j < k → σ1 2 j = nI (chr X n (i + j) - 48))) 0 9 _ ⟨fun j hj => by omega, σ, rfl, fun _ _ => rfl, fun _ j hj => by omega⟩ (by omega) (by omega) (fun rec k y _ hk hy hr => ?_) (fun rec y hy => ?_)
  · obtain ⟨hdig, σ1, rfl, hc1, hs1⟩ := hy
    dsimp only
    have tx1 : TX σ1 X n := TX_fd h ⟨fun c _ b _ => hc1 c b, fun j _ => by rw [hc1 3 (by omega)], fun j _ _ _ _ _ => by rw [hc1 0 (by omega)]⟩
    refine Ok_bindE (nextM tx1 (by omega)) ?_
    dsimp only
    refine Ok_bindE (nx_in ht _) ?_
    dsimp only
    by_cases hc : 48 ≤ chr X n (i + k) ∧ chr X n (i + k) ≤ 57
    · rw [if_pos hc]
      refine Ok_jn (fun _ => False) (fun q hq => hq.elim) (fun k4 _ => ?_)
      rw [if_neg (by decide), if_neg (by rw [y9, nI_leI (by omega) (by omega)]; omega)]
      have esm : f_X4_smaller (7 : Int32) (nI k) (st σ1 (nI (i + k)) 0) = some (nI (if k ≤ 7 then k else 7), st σ1 (nI (i + k)) 0) := by
        unfold f_X4_smaller
        simp (disch := omega) only [y7, nI_leI]
        by_cases h7 : k ≤ 7
        · rw [if_pos h7, if_pos h7]
        · rw [if_neg h7, if_neg h7]
      refine Ok_bindE esm ?_
      refine Ok_bindE (nextM tx1 (by omega)) ?_
      dsimp only
      have hlt : (if k ≤ 7 then k else 7) < 8 := by split <;> omega
      rw [if_neg (in_nI hlt (by decide)), nI_clamp (by omega), nx_val hc.1, a48, pk_sub (by omega), st_w (by omega)]
      refine Ok_nm (Ok_nm ?_)
      rw [st_9, st_w9]
      refine Ok_nm (hr _ ⟨fun j hj => ?_, w2 σ1 2 (if k ≤ 7 then k else 7) (nI (chr X n (i + k) - 48)), ?_, fun c hc2 => ?_, fun hk8 j hj => ?_⟩)
      · by_cases hz : j = k
        · rw [hz]; exact hc
        · exact hdig j (by omega)
      · rw [z1, nI_add, nI_add]; rfl
      · funext x; rw [w2_ap, if_neg (fun z => hc2 z.1), hc1 c hc2]
      · rw [if_pos (by omega), w2_ap]
        by_cases hz : j = k
        · rw [if_pos ⟨rfl, hz⟩, hz]
        · rw [if_neg (fun z => hz z.2)]; exact hs1 (by omega) j (by omega)
    · rw [if_neg hc]
      have hd : dc X n i 9 = k := dc_uniq (by omega) hdig (fun _ => hc)
      refine Ok_jn (fun q => q = st σ1 (nI (i + k)) 0) (fun q hq => ?_) (fun k4 hk4 => ?_)
      · subst hq
        exact fin k σ1 (by omega) hd hc1 hs1
      · rw [if_pos rfl]
        exact hk4 _ rfl
  · obtain ⟨hdig, σ1, rfl, hc1, hs1⟩ := hy
    dsimp only
    have tx1 : TX σ1 X n := TX_fd h ⟨fun c _ b _ => hc1 c b, fun j _ => by rw [hc1 3 (by omega)], fun j _ _ _ _ _ => by rw [hc1 0 (by omega)]⟩
    have hd : dc X n i 9 = 9 := dc_uniq (by omega) hdig (fun z => by omega)
    refine Ok_bindE (nextM tx1 (by omega)) ?_
    dsimp only
    refine Ok_bindE (nx_in ht _) ?_
    dsimp only
    refine Ok_jn (fun q => q = st σ1 (nI (i + 9)) 0) (fun q hq => ?_) (fun k4 hk4 => ?_)
    · subst hq
      exact fin 9 σ1 (by omega) hd hc1 hs1
    · refine Ok_ite (fun _ => hk4 _ rfl) (fun _ => ?_)
      rw [if_pos (by decide)]
      exact hk4 _ rfl
/-- the row of words of one wooer -/
theorem rowM (h : TX σ X n) {J W N : Nat} (hJ : J < 950) (hW : W ≤ 8) (hN : N < 5) (h3 : σ 0 3 = nI W) (h4 : σ 0 4 = nI (N + 1)) : Ok (lp (fun (r19 : Int32 × St → Option (Unit × St)) (b19 : Int32 × St) => (if (b19.2 0 3) ≤ b19.1 then some ((), b19.2) else jn (fun (q21 : Int32 × St) => (if ¬ (q21.1 = 0 ∨ q21.1 = 1) then none else nm (w2 q21.2 0 11 q21.1) (fun σ30 => jn (fun (q31 : Int32 × St) => (f_X4_has b19.1 q31.1 q31.2).bind (fun q37 => nm (w2 q37.2 0 9 ((q37.2 0 9) + (1 : Int32))) (fun σ38 => nm (b19.1 + (1 : Int32)) (fun x39 => r19 (x39, σ38))))) (fun k31 => jn (fun (q32 : St) => k31 ((-1 : Int32), q32)) (fun k32 => (if ¬ (σ30 0 11) = 0 then k32 σ30 else (f_X4_next σ30).bind (fun q34 => (if ¬ q34.1 = (45 : Int32) then (f_X4_next q34.2).bind (fun q36 => k31 ((q36.1 - (48 : Int32)), q36.2)) else k32 q34.2)))))))) (fun k21 => jn (fun (q22 : St) => k21 ((1 : Int32), q22)) (fun k22 => (if ¬ (b19.2 0 11) = 0 then k22 b19.2 else (f_X4_next b19.2).bind (fun q24 => jn (fun (q25 : St) => k21 ((0 : Int32), q25)) (fun k25 => (if q24.1 = (45 : Int32) then k25 q24.2 else (f_X4_next q24.2).bind (fun q27 => (f_X4_in q27.1.toInt64 (48 : Int64) (57 : Int64) q27.2).bind (fun q28 => (if ¬ q28.1 = 0 then k25 q28.2 else k22 q28.2))))))))))) FU ((0 : Int32), st σ (nI J) 0)) (fun q => ∃ σ1, q.2 = st σ1 (nI (J + W)) (if rowB X n J W = true then 0 else 1) ∧ (∀ c, ¬ c = 3 → σ1 c = σ c) ∧ (∀ k, ¬ (1001 + 18 * N + 2 ≤ k ∧ k < 1001 + 18 * N + 2 + W) → σ1 3 k = σ 3 k) ∧ (rowB X n J W = true → ∀ x, x < W → σ1 3 (1001 + 18 * N + 2 + x) = wv (rowF X n J x))) := by
  have ht := h.2.2
  have a45 : (45 : Int32) = nI 45 := rfl
  have a48 : (48 : Int32) = nI 48 := rfl
  have a1001 : (1001 : Int32) = nI 1001 := rfl
  refine Ok_for (fun w y => ∃ σ1, y = (nI w, st σ1 (nI (J + w)) (if rowB X n J w = true then 0 else 1)) ∧ (∀ c, ¬ c = 3 → σ1 c = σ c) ∧ (∀ k, ¬ (1001 + 18 * N + 2 ≤ k ∧ k < 1001 + 18 * N + 2 + w) → σ1 3 k = σ 3 k) ∧ (rowB X n J w = true → ∀ x, x < w → σ1 3 (1001 + 18 * N + 2 + x) = wv (rowF X n J x))) 0 W _ ⟨σ, rfl, fun _ _ => rfl, fun _ _ => rfl, fun _ x hx => by omega⟩ (by omega) (by omega) (fun rec w y _ hw hy hr => ?_) (fun rec y hy => ?_)
  · obtain ⟨σ1, rfl, hc1, ho1, hv1⟩ := hy
    dsimp only
    have tx1 : TX σ1 X n := by
      unfold TX; rw [hc1 0 (by omega), hc1 4 (by omega)]; exact h
    simp only [st_o (show ¬ ((0 : Nat) = 0 ∧ ((3 : Nat) = 9 ∨ (3 : Nat) = 11)) by omega), hc1 0 (by omega), h3]
    rw [if_neg (by rw [nI_leI (by omega) (by omega)]; omega)]
    have hcl := chr_lt ht (J + w)
    have eB : rowB X n J (w + 1) = (rowB X n J w && (decide (chr X n (J + w) = 45) || (decide (48 ≤ chr X n (J + w)) && decide (chr X n (J + w) ≤ 57)))) := rfl
    have e45 := nx_eq (i := J + w) ht (c := 45) (by omega) (by omega)
    rw [← a45] at e45
    refine Ok_jn (fun q => q = ((if rowB X n J (w + 1) = true then (0 : Int32) else 1), st σ1 (nI (J + w)) (if rowB X n J w = true then 0 else 1))) (fun q hq => ?_) (fun k21 hk21 => ?_)
    · subst hq
      dsimp only
      rw [if_neg (by split <;> decide), st_w11]
      refine Ok_nm ?_
      refine Ok_jn (fun q => q.2 = st σ1 (nI (J + w)) (if rowB X n J (w + 1) = true then 0 else 1) ∧ (rowB X n J (w + 1) = true → q.1 = wv (rowF X n J w))) (fun q hq => ?_) (fun k31 hk31 => ?_)
      · obtain ⟨e1, e2⟩ := hq
        rw [e1]
        have eh : f_X4_has (nI w) q.1 (st σ1 (nI (J + w)) (if rowB X n J (w + 1) = true then 0 else 1)) = some ((), st (w2 σ1 3 (1001 + 18 * N + 2 + w) q.1) (nI (J + w)) (if rowB X n J (w + 1) = true then 0 else 1)) := by
          unfold f_X4_has
          simp only [nm]
          rw [st_o (by omega), hc1 0 (by omega), h4, z1, pk_sub (by omega), Nat.add_sub_cancel, a1001, mx0, if_neg (in_nI (by omega) (by decide)), nI_clamp (by omega), st_w (by omega)]
        refine Ok_bindE eh ?_
        dsimp only
        rw [st_9, st_w9]
        refine Ok_nm (Ok_nm (hr _ ⟨w2 σ1 3 (1001 + 18 * N + 2 + w) q.1, ?_, fun c hc => ?_, fun k hk => ?_, fun hB x hx => ?_⟩))
        · rw [z1, nI_add, nI_add]; rfl
        · funext k; rw [w2_ap, if_neg (fun z => hc z.1), hc1 c hc]
        · rw [w2_ap, if_neg (by omega), ho1 k (by omega)]
        · rw [w2_ap]
          by_cases hz : x = w
          · rw [if_pos ⟨rfl, by omega⟩, hz]; exact e2 hB
          · rw [if_neg (by omega)]
            refine hv1 ?_ x (by omega)
            rw [eB, Bool.and_eq_true] at hB
            exact hB.1
      · by_cases hB : rowB X n J (w + 1) = true
        · rw [if_pos hB]
          refine Ok_jn (fun q => q = st σ1 (nI (J + w)) 0 ∧ chr X n (J + w) = 45) (fun q hq => ?_) (fun k32 hk32 => ?_)
          · refine hk31 _ ⟨by rw [if_pos hB]; exact hq.1, fun _ => ?_⟩
            unfold rowF; rw [if_pos hq.2]; rfl
          · rw [st_11, if_neg (by decide)]
            refine Ok_bindE (nextM tx1 (by omega)) ?_
            dsimp only
            by_cases h45 : chr X n (J + w) = 45
            · rw [if_neg (fun z => z (e45.mpr h45))]
              exact hk32 _ ⟨rfl, h45⟩
            · rw [if_pos (fun z => h45 (e45.mp z))]
              refine Ok_bindE (nextM tx1 (by omega)) ?_
              refine hk31 _ ⟨by rw [if_pos hB], fun _ => ?_⟩
              rw [eB, Bool.and_eq_true, Bool.or_eq_true, Bool.and_eq_true, decide_eq_true_eq, decide_eq_true_eq, decide_eq_true_eq] at hB
              have hd := hB.2.resolve_left h45
              dsimp only
              rw [nx_val hd.1, a48, pk_sub (by omega)]
              unfold rowF
              rw [if_neg h45, wv_lt (by omega)]
        · rw [if_neg hB]
          refine Ok_jn (fun q => q = st σ1 (nI (J + w)) 1) (fun q hq => ?_) (fun k32 hk32 => ?_)
          · refine hk31 _ ⟨by rw [if_neg hB]; exact hq, fun z => absurd z hB⟩
          · rw [st_11, if_pos (by decide)]
            exact hk32 _ rfl
    · refine Ok_jn (fun q => q = st σ1 (nI (J + w)) (if rowB X n J w = true then 0 else 1) ∧ ¬ rowB X n J (w + 1) = true) (fun q hq => ?_) (fun k22 hk22 => ?_)
      · refine hk21 _ ?_
        rw [if_neg hq.2, hq.1]
      · by_cases hB : rowB X n J w = true
        · rw [if_pos hB] at hk22 hk21 ⊢
          rw [if_neg (by rw [st_11]; decide)]
          refine Ok_bindE (nextM tx1 (by omega)) ?_
          dsimp only
          refine Ok_jn (fun q => q = st σ1 (nI (J + w)) 0 ∧ rowB X n J (w + 1) = true) (fun q hq => ?_) (fun k25 hk25 => ?_)
          · refine hk21 _ ?_
            rw [if_pos hq.2, hq.1]
          · by_cases h45 : chr X n (J + w) = 45
            · rw [if_pos (e45.mpr h45)]
              exact hk25 _ ⟨rfl, by rw [eB, hB]; simp [h45]⟩
            · rw [if_neg (fun z => h45 (e45.mp z))]
              refine Ok_bindE (nextM tx1 (by omega)) ?_
              refine Ok_bindE (nx_in ht _) ?_
              dsimp only
              by_cases hd : 48 ≤ chr X n (J + w) ∧ chr X n (J + w) ≤ 57
              · rw [if_pos hd, if_pos (by decide)]
                exact hk25 _ ⟨rfl, by rw [eB, hB]; simp [hd.1, hd.2]⟩
              · rw [if_neg hd, if_neg (by decide)]
                refine hk22 _ ⟨rfl, fun z => ?_⟩
                rw [eB, Bool.and_eq_true, Bool.or_eq_true, Bool.and_eq_true, decide_eq_true_eq, decide_eq_true_eq, decide_eq_true_eq] at z
                rcases z.2 with z | z
                · exact h45 z
                · exact hd z
        · rw [if_neg hB] at hk22 ⊢
          rw [if_pos (by rw [st_11]; decide)]
          exact hk22 _ ⟨rfl, fun z => by rw [eB, Bool.and_eq_true] at z; exact hB z.1⟩
  · obtain ⟨σ1, rfl, hc1, ho1, hv1⟩ := hy
    simp only [st_o (show ¬ ((0 : Nat) = 0 ∧ ((3 : Nat) = 9 ∨ (3 : Nat) = 11)) by omega), hc1 0 (by omega), h3]
    rw [if_pos (by rw [nI_leI (by omega) (by omega)]; exact Nat.le_refl _)]
    exact Ok_some ⟨σ1, rfl, hc1, ho1, hv1⟩
end TI2
