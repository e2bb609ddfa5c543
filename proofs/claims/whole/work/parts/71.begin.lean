/-! the two at their beginning, side by side -/
theorem clears_all {σ : St} : Ok (f_X4_clears σ) (fun q => Fdm σ q.2 ∧ q.2 0 4 = 0 ∧ ∀ j, j < 91 → q.2 3 (1001 + j) = if j < 90 ∧ 2 ≤ j % 18 ∧ j % 18 < 10 then -1 else 0) := by
  have a1001 : (1001 : Int32) = nI 1001 := rfl
  have z91' : (91 : Int32) = nI 91 := rfl
  have z90 : (90 : Int32) = nI 90 := rfl
  unfold f_X4_clears
  refine Ok_nm (Ok_nm (Ok_nm ?_))
  generalize hσ1 : w2 (w2 (w2 σ 0 3 (0 : Int32)) 0 4 (0 : Int32)) 0 5 (3 : Int32) = σ1
  have f1 : Fdm σ σ1 := by rw [← hσ1]; exact Fdm_tr (Fdm_tr (Fdm_w0 (by omega)) (Fdm_w0 (by omega))) (Fdm_w0 (by omega))
  have v3 : σ1 0 3 = 0 := by rw [← hσ1, w2_ap, if_neg (by omega), w2_ap, if_neg (by omega), w2_ap, if_pos ⟨rfl, rfl⟩]
  have v4 : σ1 0 4 = 0 := by rw [← hσ1, w2_ap, if_neg (by omega), w2_ap, if_pos ⟨rfl, rfl⟩]
  have v5 : σ1 0 5 = 3 := by rw [← hσ1, w2_ap, if_pos ⟨rfl, rfl⟩]
  refine Ok_for (fun k x => x.1 = nI k ∧ Fdm σ1 x.2 ∧ x.2 0 = σ1 0 ∧ ∀ j, j < k → x.2 3 (1001 + j) = if j < 90 ∧ 2 ≤ j % 18 ∧ j % 18 < 10 then -1 else 0) 0 91 _ ⟨rfl, Fdm_rf, rfl, fun j hj => by omega⟩ (by omega) (by omega) (fun rec k x _ hk hx hr => ?_) (fun rec x hx => ?_)
  · obtain ⟨e1, g1, g0, w1⟩ := hx
    rw [e1, z91', a1001, nI_add, if_neg (by rw [nI_leI (by omega) (by omega)]; omega)]
    refine Ok_jn (fun q => q = ((if k < 90 ∧ 2 ≤ k % 18 ∧ k % 18 < 10 then (-1 : Int32) else 0), x.2)) (fun q hq => ?_) (fun k6 hk6 => ?_)
    · subst hq
      dsimp only
      rw [if_neg (in_nI (by omega) (by decide)), nI_clamp (by omega)]
      refine Ok_nm (Ok_nm (hr _ ⟨?_, Fdm_tr g1 (Fdm_w3 (by omega) (by omega)), ?_, fun j hj => ?_⟩))
      · show nI k + 1 = nI (k + 1); rw [z1, nI_add]
      · dsimp only; funext y; rw [w2_ap, if_neg (by omega), g0]
      · dsimp only
        rw [w2_ap]
        by_cases hz : j = k
        · subst hz; rw [if_pos ⟨rfl, rfl⟩]
        · rw [if_neg (by omega)]; exact w1 j (by omega)
    · refine Ok_jn (fun q => q = x.2 ∧ ¬ (k < 90 ∧ 2 ≤ k % 18 ∧ k % 18 < 10)) (fun q hq => ?_) (fun k7 hk7 => ?_)
      · refine hk6 _ ?_
        rw [if_neg hq.2, hq.1]
      · have er : nI k - nI k / nI 18 * nI 18 = nI (k % 18) := rem_nI (by omega) (by omega) (by omega)
        rw [z18, er, z90, z2, z10]
        have hm : k % 18 < 18 := Nat.mod_lt _ (by omega)
        refine Ok_ite (fun hc => hk7 _ ⟨rfl, ?_⟩) (fun hc => Ok_ite (fun hd => hk7 _ ⟨rfl, ?_⟩) (fun hd => Ok_ite (fun he => hk7 _ ⟨rfl, ?_⟩) (fun he => hk6 _ ?_)))
        · rw [nI_leI (by omega) (by omega)] at hc; omega
        · rw [nI_ltI (by omega) (by omega)] at hd; omega
        · rw [nI_leI (by omega) (by omega)] at he; omega
        · rw [nI_leI (by omega) (by omega)] at hc
          rw [nI_ltI (by omega) (by omega)] at hd
          rw [nI_leI (by omega) (by omega)] at he
          rw [if_pos (by omega)]
  · obtain ⟨e1, g1, g0, w1⟩ := hx
    rw [e1, if_pos (by decide)]
    exact Ok_some ⟨Fdm_tr f1 g1, by dsimp only; rw [g0, v4], fun j hj => w1 j hj⟩
theorem sits_eq {σ : St} {N : Nat} {a b : Int32} (hN : N < 5) (h : σ 0 4 = nI N) : f_X4_sits a b σ = some ((), w2 (w2 (w2 σ 3 (1001 + 18 * N) a) 3 (1001 + 18 * N + 1) b) 0 4 (nI (N + 1))) := by
  have y1001 : (1001 : Int32) = nI 1001 := rfl
  unfold f_X4_sits
  have e1 : (1001 : Int32) + (18 : Int32) * σ 0 4 = nI (1001 + 18 * N) := by rw [h, y1001, z18, pk_mul, nI_add]
  rw [e1, if_neg (in_nI (by omega) (by decide)), nI_clamp (by omega)]
  simp only [nm]
  have e2 : w2 σ 3 (1001 + 18 * N) a 0 4 = nI N := by rw [w2_ap, if_neg (by omega)]; exact h
  have e3 : (1001 : Int32) + (18 : Int32) * w2 σ 3 (1001 + 18 * N) a 0 4 + (1 : Int32) = nI (1001 + 18 * N + 1) := by rw [e2, y1001, z18, z1, pk_mul, nI_add, nI_add]
  rw [e3, if_neg (in_nI (by omega) (by decide)), nI_clamp (by omega)]
  have e4 : w2 (w2 σ 3 (1001 + 18 * N) a) 3 (1001 + 18 * N + 1) b 0 4 + (1 : Int32) = nI (N + 1) := by rw [w2_ap, if_neg (by omega), e2, z1, nI_add]
  rw [e4]
theorem has_eq {σ : St} {N w : Nat} {b : Int32} (hN : N < 5) (hw : w < 8) (h : σ 0 4 = nI (N + 1)) : f_X4_has (nI w) b σ = some ((), w2 σ 3 (1001 + 18 * N + 2 + w) b) := by
  have y1001 : (1001 : Int32) = nI 1001 := rfl
  unfold f_X4_has
  have e0 : σ 0 4 - (1 : Int32) = nI N := by rw [h, z1, pk_sub (by omega), Nat.add_sub_cancel]
  have e1 : (1001 : Int32) + (18 : Int32) * (σ 0 4 - (1 : Int32)) + (2 : Int32) + nI w = nI (1001 + 18 * N + 2 + w) := by rw [e0, y1001, z18, z2, pk_mul, nI_add, nI_add, nI_add]
  rw [e1, if_neg (in_nI (by omega) (by decide)), nI_clamp (by omega)]
  rfl
def mS0 (σ : St) : St := (w2 (w2 (w2 (w2 (w2 (w2 (w2 (w2 (w2 σ 0 3 (8 : Int32)) 2 (0 : Int32).toNatClampNeg (3 : Int32)) 2 (1 : Int32).toNatClampNeg (7 : Int32)) 2 (2 : Int32).toNatClampNeg (1 : Int32)) 2 (3 : Int32).toNatClampNeg (0 : Int32)) 2 (4 : Int32).toNatClampNeg (4 : Int32)) 2 (5 : Int32).toNatClampNeg (9 : Int32)) 2 (6 : Int32).toNatClampNeg (2 : Int32)) 2 (7 : Int32).toNatClampNeg (5 : Int32))
def mS1 (σ : St) : St := (w2 (w2 (w2 (mS0 σ) 3 (1001 + 18 * 0) (0 : Int32)) 3 (1001 + 18 * 0 + 1) (5 : Int32)) 0 4 (nI (0 + 1)))
def mS2 (σ : St) : St := (w2 (mS1 σ) 3 (1001 + 18 * 0 + 2 + 0) (3 : Int32))
def mS3 (σ : St) : St := (w2 (mS2 σ) 3 (1001 + 18 * 0 + 2 + 4) (4 : Int32))
def mS4 (σ : St) : St := (w2 (w2 (w2 (mS3 σ) 3 (1001 + 18 * 1) (1 : Int32)) 3 (1001 + 18 * 1 + 1) (9 : Int32)) 0 4 (nI (1 + 1)))
def mS5 (σ : St) : St := (w2 (mS4 σ) 3 (1001 + 18 * 1 + 2 + 1) (7 : Int32))
def mS6 (σ : St) : St := (w2 (w2 (w2 (mS5 σ) 3 (1001 + 18 * 2) (2 : Int32)) 3 (1001 + 18 * 2 + 1) (3 : Int32)) 0 4 (nI (2 + 1)))
def mS7 (σ : St) : St := (w2 (mS6 σ) 3 (1001 + 18 * 2 + 2 + 3) (1 : Int32))
def mS8 (σ : St) : St := (w2 (mS7 σ) 3 (1001 + 18 * 2 + 2 + 5) (9 : Int32))
def mS9 (σ : St) : St := (w2 (w2 (w2 (mS8 σ) 3 (1001 + 18 * 3) (3 : Int32)) 3 (1001 + 18 * 3 + 1) (12 : Int32)) 0 4 (nI (3 + 1)))
def mS10 (σ : St) : St := (w2 (mS9 σ) 3 (1001 + 18 * 3 + 2 + 0) (3 : Int32))
def mS11 (σ : St) : St := (w2 (mS10 σ) 3 (1001 + 18 * 3 + 2 + 1) (7 : Int32))
def mS12 (σ : St) : St := (w2 (mS11 σ) 3 (1001 + 18 * 3 + 2 + 3) (6 : Int32))
def mS13 (σ : St) : St := (w2 (w2 (w2 (mS12 σ) 3 (1001 + 18 * 4) (0 : Int32)) 3 (1001 + 18 * 4 + 1) (8 : Int32)) 0 4 (nI (4 + 1)))
def mCh (σ : St) : St := w2 (mS13 σ) 0 5 (4 : Int32)
theorem mS0_4 {σ : St} (h : σ 0 4 = 0) : mS0 σ 0 4 = nI 0 := by
  unfold mS0
  have z : ∀ (r : St) (a b : Nat) (v : Int32), ¬ (a = 0 ∧ b = 4) → w2 r a b v 0 4 = r 0 4 := fun r a b v h => by rw [w2_ap, if_neg (by omega)]
  rw [z _ _ _ _ (by omega), z _ _ _ _ (by omega), z _ _ _ _ (by omega), z _ _ _ _ (by omega), z _ _ _ _ (by omega), z _ _ _ _ (by omega), z _ _ _ _ (by omega), z _ _ _ _ (by omega), z _ _ _ _ (by omega)]
  exact h
theorem mS1_4 {σ : St} : mS1 σ 0 4 = nI 1 := by unfold mS1; rw [w2_ap, if_pos ⟨rfl, rfl⟩]
theorem mS2_4 {σ : St} : mS2 σ 0 4 = nI 1 := by unfold mS2; rw [w2_ap, if_neg (by omega)]; exact mS1_4
theorem mS3_4 {σ : St} : mS3 σ 0 4 = nI 1 := by unfold mS3; rw [w2_ap, if_neg (by omega)]; exact mS2_4
theorem mS4_4 {σ : St} : mS4 σ 0 4 = nI 2 := by unfold mS4; rw [w2_ap, if_pos ⟨rfl, rfl⟩]
theorem mS5_4 {σ : St} : mS5 σ 0 4 = nI 2 := by unfold mS5; rw [w2_ap, if_neg (by omega)]; exact mS4_4
theorem mS6_4 {σ : St} : mS6 σ 0 4 = nI 3 := by unfold mS6; rw [w2_ap, if_pos ⟨rfl, rfl⟩]
theorem mS7_4 {σ : St} : mS7 σ 0 4 = nI 3 := by unfold mS7; rw [w2_ap, if_neg (by omega)]; exact mS6_4
theorem mS8_4 {σ : St} : mS8 σ 0 4 = nI 3 := by unfold mS8; rw [w2_ap, if_neg (by omega)]; exact mS7_4
theorem mS9_4 {σ : St} : mS9 σ 0 4 = nI 4 := by unfold mS9; rw [w2_ap, if_pos ⟨rfl, rfl⟩]
theorem mS10_4 {σ : St} : mS10 σ 0 4 = nI 4 := by unfold mS10; rw [w2_ap, if_neg (by omega)]; exact mS9_4
theorem mS11_4 {σ : St} : mS11 σ 0 4 = nI 4 := by unfold mS11; rw [w2_ap, if_neg (by omega)]; exact mS10_4
theorem mS12_4 {σ : St} : mS12 σ 0 4 = nI 4 := by unfold mS12; rw [w2_ap, if_neg (by omega)]; exact mS11_4
theorem mS13_4 {σ : St} : mS13 σ 0 4 = nI 5 := by unfold mS13; rw [w2_ap, if_pos ⟨rfl, rfl⟩]
theorem w2_cg {σ σ' : St} {r i c k : Nat} {v : Int32} (h : σ c k = σ' c k) : w2 σ r i v c k = w2 σ' r i v c k := by
  rw [w2_ap, w2_ap, h]
theorem mCh_cg {σ σ' : St} {c k : Nat} (h : σ c k = σ' c k) : mCh σ c k = mCh σ' c k := by
  unfold mCh mS13 mS12 mS11 mS10 mS9 mS8 mS7 mS6 mS5 mS4 mS3 mS2 mS1 mS0
  exact w2_cg (w2_cg (w2_cg (w2_cg (w2_cg (w2_cg (w2_cg (w2_cg (w2_cg (w2_cg (w2_cg (w2_cg (w2_cg (w2_cg (w2_cg (w2_cg (w2_cg (w2_cg (w2_cg (w2_cg (w2_cg (w2_cg (w2_cg (w2_cg (w2_cg (w2_cg (w2_cg (w2_cg (w2_cg (w2_cg (w2_cg (w2_cg (w2_cg (h)))))))))))))))))))))))))))))))))
theorem mCh_oth {σ : St} {c k : Nat} (h0 : ¬ (c = 0 ∧ (k = 3 ∨ k = 4 ∨ k = 5))) (h2 : ¬ c = 2) (h3 : ¬ c = 3) : mCh σ c k = σ c k := by
  unfold mCh mS13 mS12 mS11 mS10 mS9 mS8 mS7 mS6 mS5 mS4 mS3 mS2 mS1 mS0
  have z : ∀ (r : St) (a b : Nat) (v : Int32), (a = 0 ∧ (b = 3 ∨ b = 4 ∨ b = 5)) ∨ a = 2 ∨ a = 3 → w2 r a b v c k = r c k := fun r a b v h => by rw [w2_ap, if_neg (by omega)]
  rw [z _ _ _ _ (by omega), z _ _ _ _ (by omega), z _ _ _ _ (by omega), z _ _ _ _ (by omega), z _ _ _ _ (by omega), z _ _ _ _ (by omega), z _ _ _ _ (by omega), z _ _ _ _ (by omega), z _ _ _ _ (by omega), z _ _ _ _ (by omega), z _ _ _ _ (by omega), z _ _ _ _ (by omega), z _ _ _ _ (by omega), z _ _ _ _ (by omega), z _ _ _ _ (by omega), z _ _ _ _ (by omega), z _ _ _ _ (by omega), z _ _ _ _ (by omega), z _ _ _ _ (by omega), z _ _ _ _ (by omega), z _ _ _ _ (by omega), z _ _ _ _ (by omega), z _ _ _ _ (by omega), z _ _ _ _ (by omega), z _ _ _ _ (by omega), z _ _ _ _ (by omega), z _ _ _ _ (by omega), z _ _ _ _ (by omega), z _ _ _ _ (by omega), z _ _ _ _ (by omega), z _ _ _ _ (by omega), z _ _ _ _ (by omega), z _ _ _ _ (by omega)]
theorem bnd {α β : Type} {x : Option α} {a : α} {f : α → Option β} {r : Option β} (h : x = some a) (h2 : f a = r) : x.bind f = r := by rw [h]; exact h2
theorem mInit_eq {q : Unit × St} (hq : f_X4_clears (fun _ _ => 0) = some q) (h4 : q.2 0 4 = 0) : mInit = (f_X4_settles (mCh q.2)).bind (fun q15 => some q15.2) := by
  unfold mInit
  refine bnd hq ?_
  refine bnd (sits_eq (N := 0) (σ := mS0 q.2) (by omega) (mS0_4 h4)) ?_
  refine bnd (has_eq (N := 0) (w := 0) (σ := mS1 q.2) (by omega) (by omega) mS1_4) ?_
  refine bnd (has_eq (N := 0) (w := 4) (σ := mS2 q.2) (by omega) (by omega) mS2_4) ?_
  refine bnd (sits_eq (N := 1) (σ := mS3 q.2) (by omega) mS3_4) ?_
  refine bnd (has_eq (N := 1) (w := 1) (σ := mS4 q.2) (by omega) (by omega) mS4_4) ?_
  refine bnd (sits_eq (N := 2) (σ := mS5 q.2) (by omega) mS5_4) ?_
  refine bnd (has_eq (N := 2) (w := 3) (σ := mS6 q.2) (by omega) (by omega) mS6_4) ?_
  refine bnd (has_eq (N := 2) (w := 5) (σ := mS7 q.2) (by omega) (by omega) mS7_4) ?_
  refine bnd (sits_eq (N := 3) (σ := mS8 q.2) (by omega) mS8_4) ?_
  refine bnd (has_eq (N := 3) (w := 0) (σ := mS9 q.2) (by omega) (by omega) mS9_4) ?_
  refine bnd (has_eq (N := 3) (w := 1) (σ := mS10 q.2) (by omega) (by omega) mS10_4) ?_
  refine bnd (has_eq (N := 3) (w := 3) (σ := mS11 q.2) (by omega) (by omega) mS11_4) ?_
  refine bnd (sits_eq (N := 4) (σ := mS12 q.2) (by omega) mS12_4) ?_
  rfl
