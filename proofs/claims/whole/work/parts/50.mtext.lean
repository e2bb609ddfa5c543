/-! the other program's reading: letters, numbers -/
def st (σ : St) (a b : Int32) : St := fun c k => if c = 0 ∧ k = 9 then a else if c = 0 ∧ k = 11 then b else σ c k
def nx (X : Nat → Nat) (n i : Nat) : Int32 := if i < n then nI (X i) else -1
def val (X : Nat → Nat) (n i : Nat) : Nat → Nat
  | 0 => 0
  | k + 1 => 10 * val X n i k + (chr X n (i + k) - 48)
def nOk (X : Nat → Nat) (n i lo hi : Nat) : Prop := 1 ≤ dc X n i 3 ∧ dc X n i 3 ≤ 2 ∧ lo ≤ val X n i (dc X n i 3) ∧ val X n i (dc X n i 3) ≤ hi
section TM
variable {σ : St} {X : Nat → Nat} {n i : Nat} {a b : Int32}
theorem st_9 : st σ a b 0 9 = a := by unfold st; rw [if_pos ⟨rfl, rfl⟩]
theorem st_11 : st σ a b 0 11 = b := by unfold st; rw [if_neg (by omega), if_pos ⟨rfl, rfl⟩]
theorem st_o {c k : Nat} (h : ¬ (c = 0 ∧ (k = 9 ∨ k = 11))) : st σ a b c k = σ c k := by unfold st; rw [if_neg (by omega), if_neg (by omega)]
theorem st_c {c : Nat} (h : ¬ c = 0) : st σ a b c = σ c := by funext k; exact st_o (fun z => h z.1)
theorem st_w9 {v : Int32} : w2 (st σ a b) 0 9 v = st σ v b := by
  funext c k
  rw [w2_ap]
  unfold st
  by_cases h : c = 0 ∧ k = 9
  · rw [if_pos h, if_pos h]
  · rw [if_neg h, if_neg h, if_neg h]
theorem st_w11 {v : Int32} : w2 (st σ a b) 0 11 v = st σ a v := by
  funext c k
  rw [w2_ap]
  unfold st
  by_cases h : c = 0 ∧ k = 11
  · rw [if_pos h, if_neg (by omega), if_pos h]
  · rw [if_neg h, if_neg h]
    by_cases h9 : c = 0 ∧ k = 9
    · rw [if_pos h9, if_pos h9]
    · rw [if_neg h9, if_neg h9, if_neg h]
theorem st_w {c k : Nat} {v : Int32} (h : ¬ (c = 0 ∧ (k = 9 ∨ k = 11))) : w2 (st σ a b) c k v = st (w2 σ c k v) a b := by
  funext d j
  rw [w2_ap]
  unfold st
  rw [w2_ap]
  by_cases h1 : d = c ∧ j = k
  · rw [if_pos h1, if_neg (by omega), if_neg (by omega), if_pos h1]
  · rw [if_neg h1, if_neg h1]
theorem st_self : st σ (σ 0 9) (σ 0 11) = σ := by
  funext c k
  unfold st
  by_cases h : c = 0 ∧ k = 9
  · rw [if_pos h, h.1, h.2]
  · rw [if_neg h]
    by_cases h2 : c = 0 ∧ k = 11
    · rw [if_pos h2, h2.1, h2.2]
    · rw [if_neg h2]
/-- what reading goes by -/
def TX (σ : St) (X : Nat → Nat) (n : Nat) : Prop := σ 0 8 = nI n ∧ (∀ j, j < n → σ 4 j = nI (X j)) ∧ txtOk X n
theorem nextM (h : TX σ X n) (hi : i < 2147483648) : f_X4_next (st σ (nI i) b) = some (nx X n i, st σ (nI i) b) := by
  obtain ⟨h1, h2, h3⟩ := h
  have hn := h3.1
  unfold f_X4_next
  simp only [st_9]
  rw [st_o (c := 0) (k := 8) (by omega), h1]
  unfold nx
  by_cases hc : i < n
  · rw [if_neg (by rw [nI_leI (by omega) (by omega)]; omega), if_neg (in_nI (by omega) (by decide)), nI_clamp (by omega), st_o (by omega), h2 i hc, if_pos hc]
  · rw [if_pos (by rw [nI_leI (by omega) (by omega)]; omega), if_neg hc]
theorem nx_eq (ht : txtOk X n) {c : Nat} (h0 : 0 < c) (h1 : c < 200) : (nx X n i = nI c) ↔ chr X n i = c := by
  unfold nx chr
  by_cases hc : i < n
  · have := ht.2 i hc
    rw [if_pos hc, if_pos hc, nI_eq (by omega) (by omega)]
  · rw [if_neg hc, if_neg hc]
    constructor
    · intro e
      have h2 := nI_pos' (n := c) (by omega)
      rw [← e] at h2; exact absurd h2 (by decide)
    · intro e; omega
theorem nx_dig (ht : txtOk X n) : ((48 : Int32) ≤ nx X n i ∧ nx X n i ≤ 57) ↔ (48 ≤ chr X n i ∧ chr X n i ≤ 57) := by
  have a48 : (48 : Int32) = nI 48 := rfl
  have a57 : (57 : Int32) = nI 57 := rfl
  unfold nx chr
  by_cases hc : i < n
  · have := ht.2 i hc
    rw [if_pos hc, if_pos hc, a48, a57, nI_leI (by omega) (by omega), nI_leI (by omega) (by omega)]
  · rw [if_neg hc, if_neg hc]
    constructor
    · intro e; exact absurd e.1 (by decide)
    · intro e; omega
theorem nx_in (ht : txtOk X n) (s : St) : f_X4_in (nx X n i).toInt64 (48 : Int64) (57 : Int64) s = some (if 48 ≤ chr X n i ∧ chr X n i ≤ 57 then 1 else 0, s) := by
  have e := in_eq (nx X n i) 48 57 s
  have d := nx_dig (i := i) ht
  by_cases hc : 48 ≤ chr X n i ∧ chr X n i ≤ 57
  · rw [if_pos (d.mpr hc)] at e
    rw [if_pos hc]; exact e
  · rw [if_neg (fun z => hc (d.mp z))] at e
    rw [if_neg hc]; exact e
theorem nx_val (hc : 48 ≤ chr X n i) : nx X n i = nI (chr X n i) := by
  unfold nx
  unfold chr at hc ⊢
  by_cases h : i < n
  · rw [if_pos h, if_pos h]
  · rw [if_neg h] at hc; omega
theorem val_lt (k : Nat) (hk : ∀ j, j < k → chr X n (i + j) ≤ 57) : val X n i k < 10 ^ k := by
  induction k with
  | zero => simp [val]
  | succ k ih =>
    have h1 := ih (fun j hj => hk j (by omega))
    have h2 := hk k (by omega)
    simp only [val]
    rw [Nat.pow_succ]; omega
theorem numberM (h : TX σ X n) (hi : i < 1000) {lo hi2 : Nat} (hl : lo < 1000) (hh : hi2 < 1000) : Ok (f_X4_number (nI lo) (nI hi2) (st σ (nI i) 0)) (fun q => nOk X n i lo hi2 ∧ q = (nI (val X n i (dc X n i 3)), st σ (nI (i + dc X n i 3)) 0) ∨ ¬ nOk X n i lo hi2 ∧ q = (0, st σ (nI (i + dc X n i 3)) 1)) := by
  have ht := h.2.2
  unfold f_X4_number
  have fin : ∀ (k : Nat), k ≤ 3 → dc X n i 3 = k → (∀ j, j < k → 48 ≤ chr X n (i + j) ∧ chr X n (i + j) ≤ 57) → Ok (jn (fun (q11 : Int32 × St) => (if ¬ (q11.1 = 0 ∨ q11.1 = 1) then none else nm (w2 q11.2 0 11 q11.1) (fun σ18 => (if (σ18 0 11) = 0 then some (nI (val X n i k), σ18) else some ((0 : Int32), σ18))))) (fun k11 => jn (fun (q12 : St) => k11 ((1 : Int32), q12)) (fun k12 => (if ¬ (st σ (nI (i + k)) 0 0 11) = 0 then k12 (st σ (nI (i + k)) 0) else (if nI k = 0 then k12 (st σ (nI (i + k)) 0) else (if (2 : Int32) < nI k then k12 (st σ (nI (i + k)) 0) else (f_X4_in (nI (val X n i k)).toInt64 (nI lo).toInt64 (nI hi2).toInt64 (st σ (nI (i + k)) 0)).bind (fun q16 => (if ¬ q16.1 = 0 then k11 ((0 : Int32), q16.2) else k12 q16.2)))))))) (fun q => nOk X n i lo hi2 ∧ q = (nI (val X n i (dc X n i 3)), st σ (nI (i + dc X n i 3)) 0) ∨ ¬ nOk X n i lo hi2 ∧ q = (0, st σ (nI (i + dc X n i 3)) 1)) := by
    intro k hk hd hdig
    have hv := val_lt (X := X) (n := n) (i := i) k (fun j hj => (hdig j hj).2)
    have hv3 : val X n i k < 1000 := by
      have : 10 ^ k ≤ 10 ^ 3 := Nat.pow_le_pow_right (by decide) hk
      omega
    have hno : nOk X n i lo hi2 ↔ (1 ≤ k ∧ k ≤ 2 ∧ lo ≤ val X n i k ∧ val X n i k ≤ hi2) := by unfold nOk; rw [hd]
    refine Ok_jn (fun q => nOk X n i lo hi2 ∧ q = ((0 : Int32), st σ (nI (i + k)) 0) ∨ ¬ nOk X n i lo hi2 ∧ q = ((1 : Int32), st σ (nI (i + k)) 0)) (fun q hq => ?_) (fun k11 hk11 => ?_)
    · rcases hq with ⟨g, rfl⟩ | ⟨g, rfl⟩
      · dsimp only
        rw [if_neg (by decide), st_w11]
        refine Ok_nm ?_
        rw [st_11, if_pos rfl]
        exact Ok_some (Or.inl ⟨g, by rw [hd]⟩)
      · dsimp only
        rw [if_neg (by decide), st_w11]
        refine Ok_nm ?_
        rw [st_11, if_neg (by decide)]
        exact Ok_some (Or.inr ⟨g, by rw [hd]⟩)
    · refine Ok_jn (fun q => q = st σ (nI (i + k)) 0 ∧ ¬ nOk X n i lo hi2) (fun q hq => ?_) (fun k12 hk12 => ?_)
      · exact hk11 _ (Or.inr ⟨hq.2, by rw [hq.1]⟩)
      · rw [st_11, if_neg (by decide)]
        refine Ok_ite (fun hc => ?_) (fun hc => ?_)
        · rw [nI_eq0 (by omega)] at hc
          exact hk12 _ ⟨rfl, fun z => by have := hno.mp z; omega⟩
        · rw [nI_eq0 (by omega)] at hc
          refine Ok_ite (fun hc2 => ?_) (fun hc2 => ?_)
          · rw [z2, nI_ltI (by omega) (by omega)] at hc2
            exact hk12 _ ⟨rfl, fun z => by have := hno.mp z; omega⟩
          · rw [z2, nI_ltI (by omega) (by omega)] at hc2
            refine Ok_bindE (in_nn _ (by omega) (by omega) (by omega)) ?_
            dsimp only
            by_cases hr : lo ≤ val X n i k ∧ val X n i k ≤ hi2
            · rw [if_pos hr, if_pos (by decide)]
              exact hk11 _ (Or.inl ⟨hno.mpr ⟨by omega, by omega, hr⟩, rfl⟩)
            · rw [if_neg hr, if_neg (by decide)]
              exact hk12 _ ⟨rfl, fun z => hr (hno.mp z).2.2⟩
  refine Ok_for (fun k y => y = (nI (val X n i k), nI k, st σ (nI (i + k)) 0) ∧ ∀ j, j < k → 48 ≤ chr X n (i + j) ∧ chr X n (i + j) ≤ 57) 0 3 _ ⟨rfl, fun j hj => by omega⟩ (by omega) (by omega) (fun rec k y _ hk hy hr => ?_) (fun rec y hy => ?_)
  · obtain ⟨rfl, hdig⟩ := hy
    dsimp only
    refine Ok_bindE (nextM h (by omega)) ?_
    dsimp only
    refine Ok_bindE (nx_in ht _) ?_
    dsimp only
    by_cases hc : 48 ≤ chr X n (i + k) ∧ chr X n (i + k) ≤ 57
    · rw [if_pos hc]
      refine Ok_jn (fun _ => False) (fun q hq => hq.elim) (fun k4 _ => ?_)
      rw [if_neg (by decide), if_neg (by rw [z3, nI_leI (by omega) (by omega)]; omega)]
      refine Ok_bindE (nextM h (by omega)) ?_
      refine Ok_nm (Ok_nm ?_)
      dsimp only
      rw [st_9, st_w9]
      refine Ok_nm (hr _ ⟨?_, fun j hj => ?_⟩)
      · rw [nx_val hc.1, z10, pk_mul, nI_add, z1, nI_add, nI_add]
        have a48 : (48 : Int32) = nI 48 := rfl
        rw [a48, pk_sub (by omega)]
        have e : 10 * val X n i k + chr X n (i + k) - 48 = val X n i (k + 1) := by
          show _ = 10 * val X n i k + (chr X n (i + k) - 48)
          omega
        rw [e]; rfl
      · by_cases hz : j = k
        · rw [hz]; exact hc
        · exact hdig j (by omega)
    · rw [if_neg hc]
      have hd : dc X n i 3 = k := dc_uniq (by omega) hdig (fun _ => hc)
      refine Ok_jn (fun q => q = st σ (nI (i + k)) 0) (fun q hq => ?_) (fun k4 hk4 => ?_)
      · subst hq
        exact fin k (by omega) hd hdig
      · rw [if_pos rfl]
        exact hk4 _ rfl
  · obtain ⟨rfl, hdig⟩ := hy
    dsimp only
    have hd : dc X n i 3 = 3 := dc_uniq (by omega) hdig (fun z => by omega)
    refine Ok_bindE (nextM h (by omega)) ?_
    dsimp only
    refine Ok_bindE (nx_in ht _) ?_
    dsimp only
    refine Ok_jn (fun q => q = st σ (nI (i + 3)) 0) (fun q hq => ?_) (fun k4 hk4 => ?_)
    · subst hq
      exact fin 3 (by omega) hd hdig
    · refine Ok_ite (fun _ => hk4 _ rfl) (fun _ => ?_)
      rw [if_pos (by decide)]
      exact hk4 _ rfl
theorem moreM (h : TX σ X n) (hi : i < 999) {lo hi2 : Nat} (hl : lo < 1000) (hh : hi2 < 1000) : Ok (f_X4_more (nI lo) (nI hi2) (st σ (nI i) 0)) (fun q => (chr X n i = 44 ∧ nOk X n (i + 1) lo hi2) ∧ q = (nI (val X n (i + 1) (dc X n (i + 1) 3)), st σ (nI (i + 1 + dc X n (i + 1) 3)) 0) ∨ ¬ (chr X n i = 44 ∧ nOk X n (i + 1) lo hi2) ∧ ∃ j, j < i + 6 ∧ q = (0, st σ (nI j) 1)) := by
  have ht := h.2.2
  have a44 : (44 : Int32) = nI 44 := rfl
  unfold f_X4_more
  refine Ok_jn (fun q => chr X n i = 44 ∧ q = ((0 : Int32), st σ (nI i) 0) ∨ ¬ chr X n i = 44 ∧ q = ((1 : Int32), st σ (nI i) 0)) (fun q hq => ?_) (fun k1 hk1 => ?_)
  · rcases hq with ⟨g, rfl⟩ | ⟨g, rfl⟩
    · dsimp only
      rw [if_neg (by decide), st_w11]
      refine Ok_nm ?_
      rw [st_9, st_w9, z1, nI_add]
      refine Ok_nm ?_
      rw [st_11, if_pos rfl]
      refine Ok_bind (numberM h (by omega) hl hh) (fun q hq => ?_)
      refine Ok_some ?_
      rcases hq with ⟨g2, rfl⟩ | ⟨g2, rfl⟩
      · exact Or.inl ⟨⟨g, g2⟩, rfl⟩
      · have := dc_le X n (i + 1) 3
        exact Or.inr ⟨fun z => g2 z.2, i + 1 + dc X n (i + 1) 3, by omega, rfl⟩
    · dsimp only
      rw [if_neg (by decide), st_w11]
      refine Ok_nm ?_
      rw [st_9, st_w9]
      refine Ok_nm ?_
      rw [st_11, if_neg (by decide)]
      exact Ok_some (Or.inr ⟨fun z => g z.1, i + 1, by omega, by rw [z1, nI_add]⟩)
  · refine Ok_jn (fun q => q = st σ (nI i) 0 ∧ ¬ chr X n i = 44) (fun q hq => ?_) (fun k2 hk2 => ?_)
    · exact hk1 _ (Or.inr ⟨hq.2, by rw [hq.1]⟩)
    · rw [st_11, if_neg (by decide)]
      refine Ok_bindE (nextM h (by omega)) ?_
      dsimp only
      have e := nx_eq (i := i) ht (c := 44) (by omega) (by omega)
      refine Ok_ite (fun hc => hk1 _ (Or.inl ⟨e.mp hc, rfl⟩)) (fun hc => hk2 _ ⟨rfl, fun z => hc (e.mpr z)⟩)
theorem moreW (hi : i < 2000000000) {lo hi2 : Int32} : Ok (f_X4_more lo hi2 (st σ (nI i) 1)) (fun q => q = (0, st σ (nI (i + 1)) 1)) := by
  unfold f_X4_more
  refine Ok_jn (fun q => q = ((1 : Int32), st σ (nI i) 1)) (fun q hq => ?_) (fun k1 hk1 => ?_)
  · subst hq
    dsimp only
    rw [if_neg (by decide), st_w11]
    refine Ok_nm ?_
    rw [st_9, st_w9]
    refine Ok_nm ?_
    rw [st_11, if_neg (by decide), z1, nI_add]
    exact Ok_some rfl
  · refine Ok_jn (fun q => q = st σ (nI i) 1) (fun q hq => ?_) (fun k2 hk2 => ?_)
    · subst hq; exact hk1 _ rfl
    · rw [st_11, if_pos (by decide)]
      exact hk2 _ rfl
theorem pNum_eq {e : Nat} (he : ¬ (48 ≤ e ∧ e ≤ 57)) : pNum X n i e = if 1 ≤ dc X n i 3 ∧ dc X n i 3 ≤ 2 ∧ chr X n (i + dc X n i 3) = e then some (val X n i (dc X n i 3), i + dc X n i 3 + 1) else none := by
  unfold pNum
  by_cases h0 : 48 ≤ chr X n i ∧ chr X n i ≤ 57
  · rw [if_pos h0]
    by_cases h1 : 48 ≤ chr X n (i + 1) ∧ chr X n (i + 1) ≤ 57
    · rw [if_neg (fun z => he (by rw [← z]; exact h1)), if_pos h1]
      by_cases h2 : 48 ≤ chr X n (i + 2) ∧ chr X n (i + 2) ≤ 57
      · have d : dc X n i 3 = 3 := dc_uniq (by omega) (fun j hj => by
          rcases (show j = 0 ∨ j = 1 ∨ j = 2 by omega) with rfl | rfl | rfl
          · exact h0
          · exact h1
          · exact h2) (fun z => by omega)
        rw [if_neg (fun z => he (by rw [← z]; exact h2)), d, if_neg (by omega)]
      · have d : dc X n i 3 = 2 := dc_uniq (by omega) (fun j hj => by
          rcases (show j = 0 ∨ j = 1 by omega) with rfl | rfl
          · exact h0
          · exact h1) (fun _ => h2)
        rw [d]
        by_cases hc : chr X n (i + 2) = e
        · rw [if_pos hc, if_pos ⟨by omega, by omega, hc⟩]
          simp [val]
        · rw [if_neg hc, if_neg (fun z => hc z.2.2)]
    · have d : dc X n i 3 = 1 := dc_uniq (by omega) (fun j hj => by
        rw [show j = 0 by omega]; exact h0) (fun _ => h1)
      rw [d]
      by_cases hc : chr X n (i + 1) = e
      · rw [if_pos hc, if_pos ⟨by omega, by omega, hc⟩]
        simp [val]
      · rw [if_neg hc, if_neg h1, if_neg (fun z => hc z.2.2)]
  · have d : dc X n i 3 = 0 := dc_uniq (by omega) (fun j hj => by omega) (fun _ => h0)
    rw [if_neg h0, d, if_neg (by omega)]
end TM
