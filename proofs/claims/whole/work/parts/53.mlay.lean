/-! the other program's reading: the whole text; fault, lay -/
section TL
variable {σ : St} {X : Nat → Nat} {n i : Nat} {D : Tb}
theorem MD_need {v : Nat} (hM : MD σ D) (h1 : 1 ≤ v) (h2 : v ≤ 8) : MD (w2 σ 0 5 (nI v)) (tu D 0 2 v) := by
  obtain ⟨m1, m2, m3, m4, m5, m6, m7⟩ := hM
  have t1 : tW (tu D 0 2 v) = tW D := by simp [tW, tu]
  have t2 : tN (tu D 0 2 v) = tN D := by simp [tN, tu]
  have t3 : tS (tu D 0 2 v) = v := by simp [tS, tu]
  have t4 : tD (tu D 0 2 v) = tD D := by simp [tD, tu]
  have e3 : w2 σ 0 5 (nI v) 3 = σ 3 := by funext k; rw [w2_ap, if_neg (by omega)]
  refine ⟨?_, ?_, ?_, fun w hw => ?_, ⟨?_, fun p hp => ?_⟩, fun p w hp hp5 hw => ?_, ?_⟩
  · rw [w2_ap, if_neg (by omega), t1]; exact m1
  · rw [w2_ap, if_neg (by omega), t2]; exact m2
  · rw [w2_ap, if_pos ⟨rfl, rfl⟩, t3]
  · rw [t1] at hw
    rw [w2_ap, if_neg (by omega), m4 w hw]; simp [snd, tu]
  · rw [e3, t4]; exact m5.1
  · rw [t2] at hp
    obtain ⟨d1, d2, d3⟩ := m5.2 p hp
    rw [e3]
    refine ⟨by rw [d1]; simp [knd, tu], by rw [d2]; simp [mmr, tu], fun x hx => ?_⟩
    rw [t1] at hx
    obtain ⟨e1, e2⟩ := d3 x hx
    exact ⟨by rw [e1]; simp [way, tu], fun hh => by rw [e2 (by simpa [way, tu] using hh)]; simp [age, tu]⟩
  · rw [t2] at hp
    rw [e3]; exact m6 p w hp hp5 hw
  · rw [t1, t2, t3, t4]; exact ⟨m7.1, m7.2.1, h1, h2, m7.2.2.2.2⟩
theorem itemM {past : Bool} (h : TX σ X n) (hi : i < n) (hM : MD σ D) (hN : past = false → tN D = 0) : Ok (f_X4_item (nx X n i) (if past = true then 0 else 1) (st σ (nI (i + 1)) 0)) (fun q => ∃ σ1 J, Fdm σ σ1 ∧ J < 1000 ∧ (q.2 = st σ1 (nI J) 1 ∧ pItem D X n i past = none ∨ q.2 = st σ1 (nI J) 0 ∧ i < J ∧ ∃ D' past', MD σ1 D' ∧ (past' = false → tN D' = 0) ∧ (q.1 = 1 ∧ past = false ∧ past' = false ∨ q.1 = 0 ∧ past' = true) ∧ pItem D X n i past = if chr X n J = 59 then some (J + 1, D', past') else none)) := by
  have ht := h.2.2
  have hn := ht.1
  have e116 := nx_eq (i := i) ht (c := 116) (by omega) (by omega)
  have e119 := nx_eq (i := i) ht (c := 119) (by omega) (by omega)
  have e115 := nx_eq (i := i) ht (c := 115) (by omega) (by omega)
  have y116 : (116 : Int32) = nI 116 := rfl
  have y119 : (119 : Int32) = nI 119 := rfl
  have y115 : (115 : Int32) = nI 115 := rfl
  unfold f_X4_item
  rw [← y116] at e116
  rw [← y119] at e119
  rw [← y115] at e115
  simp only [e116, e119, e115]
  by_cases h116 : chr X n i = 116
  · rw [if_neg (fun z => z h116)]
    cases past with
    | true =>
      refine Ok_jn (fun q => q = ((1 : Int32), st σ (nI (i + 1)) 0)) (fun q hq => ?_) (fun k hk => ?_)
      · subst hq
        dsimp only
        rw [if_neg (by decide), st_w11]
        refine Ok_nm ?_
        rw [if_pos (by rw [st_11]; decide)]
        refine Ok_some ⟨σ, i + 1, Fdm_rf, by omega, Or.inl ⟨rfl, ?_⟩⟩
        unfold pItem; rw [if_pos h116, if_pos rfl]
      · rw [if_neg (by decide)]
        exact hk _ rfl
    | false =>
      refine Ok_jn (fun q => q = ((0 : Int32), st σ (nI (i + 1)) 0)) (fun q hq => ?_) (fun k hk => ?_)
      · subst hq
        dsimp only
        rw [if_neg (by decide), st_w11]
        refine Ok_nm ?_
        rw [if_neg (by rw [st_11]; decide)]
        have d9 := dc_le X n (i + 1) 9
        have ep : pItem D X n i false = if 1 ≤ dc X n (i + 1) 9 ∧ dc X n (i + 1) 9 ≤ 8 then (if chr X n (i + 1 + dc X n (i + 1) 9) = 59 then some (i + 1 + dc X n (i + 1) 9 + 1, setTg D X n (i + 1) (dc X n (i + 1) 9), false) else none) else none := by
          unfold pItem
          rw [if_pos h116, if_neg (by decide)]
          unfold pTong
          by_cases h1 : 1 ≤ dc X n (i + 1) 9 ∧ dc X n (i + 1) 9 ≤ 8
          · by_cases h2 : chr X n (i + 1 + dc X n (i + 1) 9) = 59
            · rw [if_pos ⟨h1.1, h1.2, h2⟩, if_pos h1, if_pos h2]; rfl
            · rw [if_neg (fun z => h2 z.2.2), if_pos h1, if_neg h2]; rfl
          · rw [if_neg (fun z => h1 ⟨z.1, z.2.1⟩), if_neg h1]
            rfl
        refine Ok_bind (tongueM h (by omega) hM (hN rfl)) (fun q hq => ?_)
        obtain ⟨σ1, f1, alt⟩ := hq
        refine Ok_some ⟨σ1, i + 1 + dc X n (i + 1) 9, f1, by omega, ?_⟩
        rcases alt with ⟨a1, a2, a3, a4⟩ | ⟨a1, a3⟩
        · refine Or.inr ⟨a3, by omega, setTg D X n (i + 1) (dc X n (i + 1) 9), false, a4, fun _ => ?_, Or.inl ⟨rfl, rfl, rfl⟩, ?_⟩
          · have : tN (setTg D X n (i + 1) (dc X n (i + 1) 9)) = tN D := by simp [tN, setTg]
            rw [this]; exact hN rfl
          · rw [ep, if_pos ⟨a1, a2⟩]
        · refine Or.inl ⟨a3, ?_⟩
          rw [ep, if_neg a1]
      · rw [if_pos (by decide)]
        exact hk _ rfl
  · rw [if_pos h116]
    by_cases h119 : chr X n i = 119
    · rw [if_neg (fun z => z h119)]
      have ep : pItem D X n i past = (pWoo D X n (i + 1)).bind (fun a => some (a.1, a.2, true)) := by
        unfold pItem; rw [if_neg h116, if_pos h119]
      refine Ok_bind (wooerItemM h (by omega) hM) (fun q hq => ?_)
      obtain ⟨σ1, J, f1, hJ, alt⟩ := hq
      refine Ok_some ⟨σ1, J, f1, hJ, ?_⟩
      rcases alt with ⟨a1, a2⟩ | ⟨a1, aJ, D', a2, a3⟩
      · refine Or.inl ⟨a1, ?_⟩
        rw [ep, a2]; rfl
      · refine Or.inr ⟨a1, by omega, D', true, a2, fun z => (by cases z), Or.inr ⟨rfl, rfl⟩, ?_⟩
        rw [ep, a3]
        split <;> rfl
    · rw [if_pos h119]
      by_cases h115 : chr X n i = 115
      · rw [if_neg (fun z => z h115)]
        have ep : pItem D X n i past = (pNee X n (i + 1)).bind (fun a => some (a.1, tu D 0 2 a.2, true)) := by
          unfold pItem; rw [if_neg h116, if_neg h119, if_pos h115]
        have en := pNum_eq (X := X) (n := n) (i := i + 1) (e := 59) (by omega)
        have d3 := dc_le X n (i + 1) 3
        unfold pNee at ep
        rw [en] at ep
        refine Ok_bind (numberM (lo := 1) (hi2 := 8) h (by omega) (by omega) (by omega)) (fun q hq => ?_)
        rcases hq with ⟨g, rfl⟩ | ⟨g, rfl⟩
        · dsimp only
          refine Ok_jn (fun q => q = (nI (val X n (i + 1) (dc X n (i + 1) 3)), st σ (nI (i + 1 + dc X n (i + 1) 3)) 0)) (fun q hq => ?_) (fun k hk => ?_)
          · subst hq
            dsimp only
            rw [st_w (by omega)]
            refine Ok_nm (Ok_some ⟨w2 σ 0 5 (nI (val X n (i + 1) (dc X n (i + 1) 3))), i + 1 + dc X n (i + 1) 3, Fdm_w0 (by omega), by omega, Or.inr ⟨rfl, by omega, tu D 0 2 (val X n (i + 1) (dc X n (i + 1) 3)), true, MD_need hM g.2.2.1 g.2.2.2, fun z => (by cases z), Or.inr ⟨rfl, rfl⟩, ?_⟩⟩)
            rw [ep]
            by_cases h59 : chr X n (i + 1 + dc X n (i + 1) 3) = 59
            · rw [if_pos ⟨g.1, g.2.1, h59⟩, if_pos h59]
              simp only [Option.bind_some]
              rw [if_pos ⟨g.2.2.1, g.2.2.2⟩]; rfl
            · rw [if_neg (fun z => h59 z.2.2), if_neg h59]; rfl
          · rw [if_pos (by rw [st_11])]
            exact hk _ rfl
        · dsimp only
          refine Ok_jn (fun q => ∃ v, q = (v, st σ (nI (i + 1 + dc X n (i + 1) 3)) 1)) (fun q hq => ?_) (fun k hk => ?_)
          · obtain ⟨v, rfl⟩ := hq
            dsimp only
            rw [st_w (by omega)]
            refine Ok_nm (Ok_some ⟨w2 σ 0 5 v, i + 1 + dc X n (i + 1) 3, Fdm_w0 (by omega), by omega, Or.inl ⟨rfl, ?_⟩⟩)
            rw [ep]
            by_cases h1 : 1 ≤ dc X n (i + 1) 3 ∧ dc X n (i + 1) 3 ≤ 2 ∧ chr X n (i + 1 + dc X n (i + 1) 3) = 59
            · rw [if_pos h1]
              simp only [Option.bind_some]
              rw [if_neg (fun z => g ⟨h1.1, h1.2.1, z.1, z.2⟩)]; rfl
            · rw [if_neg h1]; rfl
          · rw [if_neg (by rw [st_11]; decide)]
            exact hk _ ⟨_, rfl⟩
      · rw [if_pos h115, st_w11]
        refine Ok_nm (Ok_some ⟨σ, i + 1, Fdm_rf, by omega, Or.inl ⟨rfl, ?_⟩⟩)
        unfold pItem; rw [if_neg h116, if_neg h119, if_neg h115]
/-- the same, the place of an item's beginning apart -/
def Fdw (σ σ' : St) : Prop := (∀ c, ¬ c = 0 → ¬ c = 2 → ¬ c = 3 → σ' c = σ c) ∧ (∀ k, (k < 1001 ∨ 1092 ≤ k) → σ' 3 k = σ 3 k) ∧ ∀ k, ¬ k = 3 → ¬ k = 4 → ¬ k = 5 → ¬ k = 9 → ¬ k = 10 → ¬ k = 11 → σ' 0 k = σ 0 k
theorem Fdw_tr {σ σ1 σ2 : St} (h1 : Fdw σ σ1) (h2 : Fdw σ1 σ2) : Fdw σ σ2 := ⟨fun c a b d => (h2.1 c a b d).trans (h1.1 c a b d), fun k hk => (h2.2.1 k hk).trans (h1.2.1 k hk), fun k a b c d e f => (h2.2.2 k a b c d e f).trans (h1.2.2 k a b c d e f)⟩
theorem Fdw_m {σ σ1 : St} (h : Fdm σ σ1) : Fdw σ σ1 := ⟨h.1, h.2.1, fun k a b c d _ f => h.2.2 k a b c d f⟩
theorem Fdw_w {σ : St} {v : Int32} : Fdw σ (w2 σ 0 10 v) := ⟨fun c a _ _ => by funext j; rw [w2_ap, if_neg (fun z => a z.1)], fun j _ => by rw [w2_ap, if_neg (by omega)], fun j _ _ _ _ _ _ => by rw [w2_ap, if_neg (by omega)]⟩
theorem TX_fw {σ σ' : St} {X : Nat → Nat} {n : Nat} (h : TX σ X n) (hf : Fdw σ σ') : TX σ' X n := by
  unfold TX
  rw [hf.2.2 8 (by omega) (by omega) (by omega) (by omega) (by omega) (by omega), hf.1 4 (by omega) (by omega) (by omega)]
  exact h
theorem clearsM : Ok (f_X4_clears σ) (fun q => Fdm σ q.2 ∧ MD q.2 T00) := by
  have a1001 : (1001 : Int32) = nI 1001 := rfl
  have z91' : (91 : Int32) = nI 91 := rfl
  have z90 : (90 : Int32) = nI 90 := rfl
  unfold f_X4_clears
  refine Ok_nm (Ok_nm (Ok_nm ?_))
  generalize hσ1 : w2 (w2 (w2 σ 0 3 (0 : Int32)) 0 4 (0 : Int32)) 0 5 (3 : Int32) = σ1
  have f1 : Fdm σ σ1 := by rw [← hσ1]; exact Fdm_tr (Fdm_tr (Fdm_w0 (by omega)) (Fdm_w0 (by omega))) (Fdm_w0 (by omega))
  have v3 : σ1 0 3 = 0 := by rw [← hσ1, w2_ap, if_neg (by omega), w2_ap, if_neg (by omega), w2_ap, if_pos ⟨rfl, rfl⟩]
  have v4 : σ1 0 4 = 0 := by rw [← hσ1, w2_ap, if_neg (by omega), w2_ap, if_pos ⟨rfl, rfl⟩]
  have v5 : σ1 0 5 = 3 := by rw [← hσ1, w2_ap, if_pos ⟨rfl, rfl⟩]
  refine Ok_for (fun k x => x.1 = nI k ∧ Fdm σ1 x.2 ∧ x.2 0 = σ1 0 ∧ ∀ j, j < k → x.2 3 (1001 + j) = if j < 90 ∧ 2 ≤ j % 18 ∧ j % 18 < 10 then -1 else 0) 0 91 _ ⟨rfl, Fdm_rf, rfl, fun j hj => by omega⟩ (by omega) (by omega) (fun rec k x _ hk hx hr => ?_) (fun rec x hx => ?_)
  · obtain ⟨e1, g1, g0, w1⟩ := hx
    rw [e1, z91', a1001, nI_add, if_neg (by rw [nI_leI (by omega) (by omega)]; omega)]
    refine Ok_jn (fun q => q = ((if k < 90 ∧ 2 ≤ k % 18 ∧ k % 18 < 10 then (-1 : Int32) else 0), x.2)) (fun q hq => ?_) (fun k6 hk6 => ?_)
    · subst hq
      dsimp only
      rw [if_neg (in_nI (by omega) (by decide)), nI_clamp (by omega)]
      refine Ok_nm (Ok_nm (hr _ ⟨?_, Fdm_tr g1 (Fdm_w3 (by omega) (by omega)), ?_, fun j hj => ?_⟩))
      · show nI k + 1 = nI (k + 1); rw [z1, nI_add]
      · dsimp only; funext y; rw [w2_ap, if_neg (by omega), g0]
      · dsimp only
        rw [w2_ap]
        by_cases hz : j = k
        · subst hz; rw [if_pos ⟨rfl, rfl⟩]
        · rw [if_neg (by omega)]; exact w1 j (by omega)
    · refine Ok_jn (fun q => q = x.2 ∧ ¬ (k < 90 ∧ 2 ≤ k % 18 ∧ k % 18 < 10)) (fun q hq => ?_) (fun k7 hk7 => ?_)
      · refine hk6 _ ?_
        rw [if_neg hq.2, hq.1]
      · have er : nI k - nI k / nI 18 * nI 18 = nI (k % 18) := rem_nI (by omega) (by omega) (by omega)
        rw [z18, er, z90, z2, z10]
        have hm : k % 18 < 18 := Nat.mod_lt _ (by omega)
        refine Ok_ite (fun hc => hk7 _ ⟨rfl, ?_⟩) (fun hc => Ok_ite (fun hd => hk7 _ ⟨rfl, ?_⟩) (fun hd => Ok_ite (fun he => hk7 _ ⟨rfl, ?_⟩) (fun he => hk6 _ ?_)))
        · rw [nI_leI (by omega) (by omega)] at hc; omega
        · rw [nI_ltI (by omega) (by omega)] at hd; omega
        · rw [nI_leI (by omega) (by omega)] at he; omega
        · rw [nI_leI (by omega) (by omega)] at hc
          rw [nI_ltI (by omega) (by omega)] at hd
          rw [nI_leI (by omega) (by omega)] at he
          rw [if_pos (by omega)]
  · obtain ⟨e1, g1, g0, w1⟩ := hx
    rw [e1, if_pos (by decide)]
    refine Ok_some ⟨Fdm_tr f1 g1, ?_, ?_, ?_, fun w hw => ?_, ⟨?_, fun p hp => ?_⟩, fun p w hp hp5 hw => ?_, by decide⟩
    · dsimp only; rw [g0, v3]; rfl
    · dsimp only; rw [g0, v4]; rfl
    · dsimp only; rw [g0, v5]; rfl
    · simp [tW, T00] at hw
    · dsimp only
      have := w1 90 (by omega)
      rw [if_neg (by omega)] at this
      exact this
    · simp [tN, T00] at hp
    · dsimp only
      have := w1 (18 * p + 10 + w) (by omega)
      rw [if_neg (by omega)] at this
      rw [show 1001 + 18 * p + 10 + w = 1001 + (18 * p + 10 + w) by omega]
      exact this
theorem readsM (h : TX σ X n) : Ok (f_X4_reads σ) (fun q => Fdw σ q.2 ∧ (∃ k, (pR X n 201 0 T00 false).1 = some k ∧ k < n ∧ q.1 = 0 ∧ q.2 0 10 = nI k ∨ (pR X n 201 0 T00 false).1 = none ∧ q.1 = 1 ∧ MD q.2 (pR X n 201 0 T00 false).2)) := by
  have ht := h.2.2
  have hn := ht.1
  unfold f_X4_reads
  refine Ok_bind clearsM (fun q1 hq1 => ?_)
  obtain ⟨f1, m1⟩ := hq1
  have e0 : w2 (w2 q1.2 0 9 (0 : Int32)) 0 11 (0 : Int32) = st q1.2 (nI 0) 0 := by
    have := st_self (σ := q1.2)
    rw [← this, st_w9, st_w11, this]; rfl
  refine Ok_nm (Ok_nm ?_)
  rw [e0]
  have fin : ∀ (σ1 : St) (J : Nat), J < 2000 → Fdw σ σ1 → (∀ k5 : St → Option (Int32 × St), ∀ (c1 : Prop) (_ : Decidable c1) (Z : Option (Int32 × St)) (R : Int32 × St → Prop), Ok (k5 (st σ1 (nI J) 1)) R → Ok (if c1 then k5 (st σ1 (nI J) 1) else (if ¬ (st σ1 (nI J) 1 0 11) = 0 then k5 (st σ1 (nI J) 1) else Z)) R) := by
    intro σ1 J hJ hf k5 c1 dc1 Z R hR
    refine Ok_ite (fun _ => hR) (fun _ => ?_)
    rw [if_pos (by rw [st_11]; decide)]
    exact hR
  refine Ok_lp (fun y => (∃ σ1 i D past f, y = ((if past = true then (0 : Int32) else 1), st σ1 (nI i) 0) ∧ Fdw σ σ1 ∧ MD σ1 D ∧ (past = false → tN D = 0) ∧ i ≤ n ∧ n - i < f ∧ pR X n f i D past = pR X n 201 0 T00 false) ∨ (∃ σ1 J k, y.2 = st σ1 (nI J) 1 ∧ J < 2000 ∧ Fdw σ σ1 ∧ (pR X n 201 0 T00 false).1 = some k ∧ k < n ∧ σ1 0 10 = nI k)) (fun y => if y.2 0 11 = 0 then 202 - (y.2 0 9).toNatClampNeg else 0) (fun rec y hy hr => ?_) FU _ (Or.inl ⟨q1.2, 0, T00, false, 201, rfl, Fdw_m f1, m1, fun _ => rfl, by omega, by omega, rfl⟩) (by unfold FU; split <;> omega)
  rcases hy with ⟨σ1, i, D, past, f, rfl, f2, m2, hN, hin, hf, hp⟩ | ⟨σ1, J, k, ey, hJ, f2, hp, hkn, hb⟩
  · obtain ⟨f, rfl⟩ : ∃ f', f = f' + 1 := ⟨f - 1, by omega⟩
    have tx1 : TX σ1 X n := TX_fw h f2
    dsimp only
    refine Ok_jn (fun q => q = st σ1 (nI i) 0 ∧ n ≤ i) (fun q hq => ?_) (fun k5 hk5 => ?_)
    · obtain ⟨rfl, hni⟩ := hq
      rw [if_neg (by rw [st_11]; decide)]
      have e : pR X n (f + 1) i D past = (none, D) := by unfold pR; rw [if_pos hni]
      rw [e] at hp
      refine Ok_some ⟨Fdw_tr f2 (Fdw_m Fdm_st), 0, Or.inr ⟨by rw [← hp], rfl, ?_⟩⟩
      rw [← hp]
      obtain ⟨a1, a2, a3, a4, a5, a6, a7⟩ := m2
      refine ⟨?_, ?_, ?_, fun w hw => ?_, ?_, ?_, a7⟩
      · dsimp only; rw [st_o (by omega)]; exact a1
      · dsimp only; rw [st_o (by omega)]; exact a2
      · dsimp only; rw [st_o (by omega)]; exact a3
      · dsimp only; rw [st_o (by omega)]; exact a4 w hw
      · dsimp only; rw [st_c (by omega)]; exact a5
      · dsimp only; rw [st_c (by omega)]; exact a6
    · simp only [st_9, st_o (show ¬ ((0 : Nat) = 0 ∧ ((8 : Nat) = 9 ∨ (8 : Nat) = 11)) by omega), tx1.1]
      by_cases hni : n ≤ i
      · rw [if_pos (by rw [nI_leI (by omega) (by omega)]; exact hni)]
        exact hk5 _ ⟨rfl, hni⟩
      · rw [if_neg (by rw [nI_leI (by omega) (by omega)]; exact hni), if_neg (by rw [st_11]; decide), st_w (by omega)]
        refine Ok_nm ?_
        generalize hσ2 : w2 σ1 0 10 (nI i) = σ2
        have f3 : Fdw σ σ2 := by rw [← hσ2]; exact Fdw_tr f2 Fdw_w
        have tx2 : TX σ2 X n := TX_fw h f3
        have hb2 : σ2 0 10 = nI i := by rw [← hσ2, w2_ap, if_pos ⟨rfl, rfl⟩]
        have m3 : MD σ2 D := by
          obtain ⟨a1, a2, a3, a4, a5, a6, a7⟩ := m2
          have g3 : σ2 3 = σ1 3 := by rw [← hσ2]; funext y; rw [w2_ap, if_neg (by omega)]
          refine ⟨?_, ?_, ?_, fun w hw => ?_, by rw [g3]; exact a5, by rw [g3]; exact a6, a7⟩
          · rw [← hσ2, w2_ap, if_neg (by omega)]; exact a1
          · rw [← hσ2, w2_ap, if_neg (by omega)]; exact a2
          · rw [← hσ2, w2_ap, if_neg (by omega)]; exact a3
          · rw [← hσ2, w2_ap, if_neg (by omega)]; exact a4 w hw
        refine Ok_bindE (nextM tx2 (by omega)) ?_
        dsimp only
        rw [st_9, st_w9, z1, nI_add]
        refine Ok_nm ?_
        rw [← z1]
        refine Ok_bind (itemM tx2 (by omega) m3 hN) (fun q hq => ?_)
        obtain ⟨σ3, J, f4, hJ, alt⟩ := hq
        have f5 := Fdw_tr f3 (Fdw_m f4)
        have hb3 : σ3 0 10 = nI i := (f4.2.2 10 (by omega) (by omega) (by omega) (by omega) (by omega)).trans hb2
        have tx3 : TX σ3 X n := TX_fw h f5
        have eN : pItem D X n i past = none → (pR X n 201 0 T00 false).1 = some i := fun pn => by
          have e : pR X n (f + 1) i D past = (some i, D) := by unfold pR; rw [if_neg hni, pn]
          rw [← hp, e]
        have eS : ∀ a, pItem D X n i past = some a → pR X n f a.1 a.2.1 a.2.2 = pR X n 201 0 T00 false := fun a pn => by
          have e : pR X n (f + 1) i D past = pR X n f a.1 a.2.1 a.2.2 := by
            show (if n ≤ i then _ else _) = _
            rw [if_neg hni, pn]
          rw [← e]; exact hp
        have mu0 : (if (st σ1 (nI i) 0) 0 11 = 0 then 202 - ((st σ1 (nI i) 0) 0 9).toNatClampNeg else 0) = 202 - i := by
          rw [if_pos (by rw [st_11]), st_9, nI_clamp (by omega)]
        rcases alt with ⟨a1, a2⟩ | ⟨a1, aJ, D', past', a2, a3, a4, a5⟩
        · refine Ok_jn (fun q => q.2 = st σ3 (nI J) 1) (fun q hq => ?_) (fun k12 hk12 => ?_)
          · rw [hq]
            refine Ok_jn (fun q => q = ((1 : Int32), st σ3 (nI J) 1)) (fun q2 hq2 => ?_) (fun k16 hk16 => ?_)
            · subst hq2
              dsimp only
              rw [if_neg (by decide), st_w11]
              refine Ok_nm ?_
              rw [st_9, st_w9]
              refine Ok_nm (hr _ (Or.inr ⟨σ3, J + 1, i, ?_, by omega, f5, eN a2, by omega, hb3⟩) ?_)
              · dsimp only; rw [z1, nI_add]
              · dsimp only
                rw [mu0, if_neg (by rw [st_11]; decide)]; omega
            · refine Ok_jn (fun q => q = st σ3 (nI J) 1) (fun q3 hq3 => ?_) (fun k17 hk17 => ?_)
              · subst hq3; exact hk16 _ rfl
              · rw [if_pos (by rw [st_11]; decide)]
                exact hk17 _ rfl
          · refine Ok_jn (fun q => q = st σ3 (nI J) 1) (fun q3 hq3 => ?_) (fun k13 hk13 => ?_)
            · subst hq3; exact hk12 _ rfl
            · rw [a1]
              refine Ok_ite (fun _ => hk13 _ rfl) (fun _ => Ok_ite (fun _ => hk13 _ rfl) (fun _ => hk12 _ rfl))
        · refine Ok_jn (fun q => q = ((if past' = true then (0 : Int32) else 1), st σ3 (nI J) 0)) (fun q hq => ?_) (fun k12 hk12 => ?_)
          · subst hq
            dsimp only
            refine Ok_jn (fun q => chr X n J = 59 ∧ q = ((0 : Int32), st σ3 (nI J) 0) ∨ ¬ chr X n J = 59 ∧ q = ((1 : Int32), st σ3 (nI J) 0)) (fun q2 hq2 => ?_) (fun k16 hk16 => ?_)
            · rcases hq2 with ⟨g, rfl⟩ | ⟨g, rfl⟩
              · dsimp only
                rw [if_neg (by decide), st_w11]
                refine Ok_nm ?_
                rw [st_9, st_w9]
                rw [if_pos g] at a5
                have hJn : J < n := chr_in (X := X) (i := J) (by omega)
                refine Ok_nm (hr _ (Or.inl ⟨σ3, J + 1, D', past', f, ?_, f5, a2, a3, by omega, by omega, eS _ a5⟩) ?_)
                · rw [z1, nI_add]
                · dsimp only
                  rw [mu0, if_pos (by rw [st_11]), st_9, z1, nI_add, nI_clamp (by omega)]; omega
              · dsimp only
                rw [if_neg (by decide), st_w11]
                refine Ok_nm ?_
                rw [st_9, st_w9]
                rw [if_neg g] at a5
                refine Ok_nm (hr _ (Or.inr ⟨σ3, J + 1, i, ?_, by omega, f5, eN a5, by omega, hb3⟩) ?_)
                · dsimp only; rw [z1, nI_add]
                · dsimp only
                  rw [mu0, if_neg (by rw [st_11]; decide)]; omega
            · refine Ok_jn (fun q => q = st σ3 (nI J) 0 ∧ ¬ chr X n J = 59) (fun q3 hq3 => ?_) (fun k17 hk17 => ?_)
              · exact hk16 _ (Or.inr ⟨hq3.2, by rw [hq3.1]⟩)
              · rw [if_neg (by rw [st_11]; decide)]
                refine Ok_bindE (nextM tx3 (by omega)) ?_
                dsimp only
                have e59 := nx_eq (i := J) ht (c := 59) (by omega) (by omega)
                refine Ok_ite (fun hc => hk16 _ (Or.inl ⟨e59.mp hc, rfl⟩)) (fun hc => hk17 _ ⟨rfl, fun z => hc (e59.mpr z)⟩)
          · rw [a1]
            rcases a4 with ⟨b1, b2, b3⟩ | ⟨b1, b3⟩
            · refine Ok_jn (fun _ => False) (fun q hq => hq.elim) (fun k13 _ => ?_)
              rw [b1, b2, if_neg (by decide), if_neg (by decide)]
              refine hk12 _ ?_
              rw [b3]; rfl
            · refine Ok_jn (fun q => q = st σ3 (nI J) 0) (fun q3 hq3 => ?_) (fun k13 hk13 => ?_)
              · subst hq3
                refine hk12 _ ?_
                rw [b3]; rfl
              · rw [if_pos b1]
                exact hk13 _ rfl
  · have ez : y = (y.1, st σ1 (nI J) 1) := by rw [← ey]
    rw [ez]
    dsimp only
    refine Ok_jn (fun q => q = st σ1 (nI J) 1) (fun q hq => ?_) (fun k5 hk5 => ?_)
    · subst hq
      rw [if_pos (by rw [st_11]; decide)]
      refine Ok_some ⟨Fdw_tr f2 (Fdw_m Fdm_st), k, Or.inl ⟨hp, hkn, rfl, ?_⟩⟩
      dsimp only; rw [st_o (by omega)]; exact hb
    · exact fin σ1 J hJ f2 k5 _ _ _ _ (hk5 _ rfl)
end TL
