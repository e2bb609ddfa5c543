/-! the other program: what its rows hold; ranges; bits -/
def wv (x : Nat) : Int32 := if x < 10 then nI x else -1
def MG (σ : St) (T : Tb) : Prop := σ 0 0 = nI (tW T) ∧ σ 0 1 = nI (tN T) ∧ σ 0 2 = nI (tS T) ∧ ∀ w, w < tW T → σ 1 w = nI (snd T w)
def MW (f : Nat → Int32) (b : Nat) (T : Tb) : Prop := f (b + 90) = nI (tD T) ∧ ∀ p, p < tN T → f (b + 18 * p) = nI (knd T p) ∧ f (b + 18 * p + 1) = nI (mmr T p) ∧ ∀ w, w < tW T → f (b + 18 * p + 2 + w) = wv (way T p w) ∧ (way T p w < 10 → f (b + 18 * p + 10 + w) = nI (age T p w))
def MB (σ : St) (b : Nat) (T : Tb) : Prop := MG σ T ∧ MW (σ 3) b T
/-- what work on a block leaves -/
def Mr (σ σ' : St) (b : Nat) : Prop := (∀ c, ¬ c = 3 → ¬ c = 8 → ¬ c = 9 → σ' c = σ c) ∧ ∀ k, (k < b ∨ b + 91 ≤ k) → σ' 3 k = σ 3 k
theorem Mr_rf {σ : St} {b : Nat} : Mr σ σ b := ⟨fun _ _ _ _ => rfl, fun _ _ => rfl⟩
theorem Mr_tr {σ σ1 σ2 : St} {b : Nat} (h1 : Mr σ σ1 b) (h2 : Mr σ1 σ2 b) : Mr σ σ2 b := ⟨fun c h3 h8 h9 => (h2.1 c h3 h8 h9).trans (h1.1 c h3 h8 h9), fun k hk => (h2.2 k hk).trans (h1.2 k hk)⟩
theorem Mr_w2 {σ : St} {b k : Nat} {v : Int32} (h1 : b ≤ k) (h2 : k < b + 91) : Mr σ (w2 σ 3 k v) b := ⟨fun c h3 _ _ => by funext j; rw [w2_ap, if_neg (fun z => h3 z.1)], fun j hj => by rw [w2_ap, if_neg (by omega)]⟩
theorem Mr_w8 {σ : St} {b k c : Nat} {v : Int32} (hc : c = 8 ∨ c = 9) : Mr σ (w2 σ c k v) b := ⟨fun d h3 h8 h9 => by funext j; rw [w2_ap, if_neg (by omega)], fun j hj => by rw [w2_ap, if_neg (by omega)]⟩
/-- the same, by work on the rows alone -/
def Ms (σ σ' : St) (b : Nat) : Prop := (∀ c, ¬ c = 3 → σ' c = σ c) ∧ ∀ k, (k < b ∨ b + 91 ≤ k) → σ' 3 k = σ 3 k
theorem Ms_rf {σ : St} {b : Nat} : Ms σ σ b := ⟨fun _ _ => rfl, fun _ _ => rfl⟩
theorem Ms_tr {σ σ1 σ2 : St} {b : Nat} (h1 : Ms σ σ1 b) (h2 : Ms σ1 σ2 b) : Ms σ σ2 b := ⟨fun c h3 => (h2.1 c h3).trans (h1.1 c h3), fun k hk => (h2.2 k hk).trans (h1.2 k hk)⟩
theorem Ms_w2 {σ : St} {b k : Nat} {v : Int32} (h1 : b ≤ k) (h2 : k < b + 91) : Ms σ (w2 σ 3 k v) b := ⟨fun c h3 => by funext j; rw [w2_ap, if_neg (fun z => h3 z.1)], fun j hj => by rw [w2_ap, if_neg (by omega)]⟩
theorem Mr_s {σ σ' : St} {b : Nat} (h : Ms σ σ' b) : Mr σ σ' b := ⟨fun c h3 _ _ => h.1 c h3, h.2⟩
theorem MG_fr {σ σ' : St} {T : Tb} (h : MG σ T) (h0 : σ' 0 = σ 0) (h1 : σ' 1 = σ 1) : MG σ' T := by
  unfold MG; rw [h0, h1]; exact h
theorem MG_mr {σ σ' : St} {b : Nat} {T : Tb} (h : MG σ T) (hr : Mr σ σ' b) : MG σ' T := MG_fr h (hr.1 0 (by omega) (by omega) (by omega)) (hr.1 1 (by omega) (by omega) (by omega))
theorem MG_st {σ : St} {T T' : Tb} (h : MG σ T) (h0 : tW T' = tW T) (h1 : tN T' = tN T) (h2 : tS T' = tS T) (h3 : ∀ w, w < tW T → snd T' w = snd T w) : MG σ T' := by
  refine ⟨by rw [h0]; exact h.1, by rw [h1]; exact h.2.1, by rw [h2]; exact h.2.2.1, fun w hw => ?_⟩
  rw [h0] at hw; rw [h3 w hw]; exact h.2.2.2 w hw
theorem MW_fr {f g : Nat → Int32} {b : Nat} {T : Tb} (h : MW f b T) (hN : tN T ≤ 5) (hT : tW T ≤ 8) (hf : ∀ k, b ≤ k → k < b + 91 → g k = f k) : MW g b T := by
  refine ⟨(hf _ (by omega) (by omega)).trans h.1, fun p hp => ?_⟩
  obtain ⟨d1, d2, d3⟩ := h.2 p hp
  refine ⟨(hf _ (by omega) (by omega)).trans d1, (hf _ (by omega) (by omega)).trans d2, fun w hw => ?_⟩
  obtain ⟨e1, e2⟩ := d3 w hw
  exact ⟨(hf _ (by omega) (by omega)).trans e1, fun hh => (hf _ (by omega) (by omega)).trans (e2 hh)⟩
theorem MW_to {f g : Nat → Int32} {b b' : Nat} {T : Tb} (h : MW f b T) (hN : tN T ≤ 5) (hT : tW T ≤ 8) (hf : ∀ k, k < 91 → g (b' + k) = f (b + k)) : MW g b' T := by
  have hf2 : ∀ k, k < 91 → ∀ x y, x = b' + k → y = b + k → g x = f y := fun k hk x y hx hy => by rw [hx, hy]; exact hf k hk
  refine ⟨(hf 90 (by omega)).trans h.1, fun p hp => ?_⟩
  obtain ⟨d1, d2, d3⟩ := h.2 p hp
  refine ⟨(hf2 (18 * p) (by omega) _ _ rfl rfl).trans d1, (hf2 (18 * p + 1) (by omega) _ _ (by omega) (by omega)).trans d2, fun w hw => ?_⟩
  obtain ⟨e1, e2⟩ := d3 w hw
  exact ⟨(hf2 (18 * p + 2 + w) (by omega) _ _ (by omega) (by omega)).trans e1, fun hh => (hf2 (18 * p + 10 + w) (by omega) _ _ (by omega) (by omega)).trans (e2 hh)⟩
theorem wv_neg {x : Nat} : (wv x < 0) ↔ ¬ x < 10 := by
  unfold wv
  by_cases h : x < 10
  · rw [if_pos h, nI_lt0 (by omega)]; simp [h]
  · rw [if_neg h]; simp only [h, not_false_eq_true, iff_true]; decide
theorem i0le (v : Int32) : ((0 : Int32) ≤ v) ↔ ¬ v < 0 := by
  rw [Int32.not_lt]
theorem wv_pos {x : Nat} : ((0 : Int32) ≤ wv x) ↔ x < 10 := by
  rw [i0le, wv_neg]; simp
theorem wv_lt {x : Nat} (h : x < 10) : wv x = nI x := by unfold wv; rw [if_pos h]
theorem wv_eq {x v : Nat} (hv : v < 10) (hx : x ≤ 10) : (wv x = nI v) ↔ x = v := by
  unfold wv
  by_cases h : x < 10
  · rw [if_pos h, nI_eq (by omega) (by omega)]
  · rw [if_neg h]
    constructor
    · intro e
      have h2 : ¬ nI v < 0 := nI_pos (by omega)
      rw [← e] at h2
      exact absurd (by decide) h2
    · intro e; omega
theorem wv_inj {x y : Nat} (hx : x ≤ 10) (hy : y ≤ 10) : (wv x = wv y) ↔ x = y := by
  by_cases h : y < 10
  · rw [wv_lt h, wv_eq h hx]
  · have e : y = 10 := by omega
    subst e
    have e2 : wv 10 = -1 := by decide
    rw [e2]
    unfold wv
    by_cases h2 : x < 10
    · rw [if_pos h2]
      constructor
      · intro e
        have h3 : ¬ nI x < 0 := nI_pos (by omega)
        rw [e] at h3
        exact absurd (by decide) h3
      · intro e; omega
    · rw [if_neg h2]
      exact ⟨fun _ => by omega, fun _ => rfl⟩
/-! ranges -/
theorem in_eq (a l h : Int32) (σ : St) : f_X4_in a.toInt64 l.toInt64 h.toInt64 σ = some (if l ≤ a ∧ a ≤ h then 1 else 0, σ) := by
  unfold f_X4_in
  simp only [jn]
  have e1 : (lg_cmp a.toInt64 l.toInt64 < 0) ↔ ¬ l ≤ a := by
    rw [lg_cmp_lt, Int64.lt_iff_toInt_lt, Int32.toInt_toInt64, Int32.toInt_toInt64, Int32.le_iff_toInt_le]; omega
  have e2 : (0 < lg_cmp a.toInt64 h.toInt64) ↔ ¬ a ≤ h := by
    rw [lg_cmp_gt, Int64.lt_iff_toInt_lt, Int32.toInt_toInt64, Int32.toInt_toInt64, Int32.le_iff_toInt_le]; omega
  by_cases h1 : l ≤ a
  · rw [if_neg (fun z => e1.mp z h1)]
    by_cases h2 : a ≤ h
    · rw [if_neg (fun z => e2.mp z h2), if_pos ⟨h1, h2⟩]
    · rw [if_pos (e2.mpr h2), if_neg (fun z => h2 z.2)]
  · rw [if_pos (e1.mpr h1), if_neg (fun z => h1 z.1)]
/-- a within l .. h, both numbers -/
theorem in_nn {a l h : Nat} (σ : St) (ha : a < 2147483648) (hl : l < 2147483648) (hh : h < 2147483648) : f_X4_in (nI a).toInt64 (nI l).toInt64 (nI h).toInt64 σ = some (if l ≤ a ∧ a ≤ h then 1 else 0, σ) := by
  rw [in_eq]
  simp (disch := omega) only [nI_leI]
theorem inR_le {a : Int32} {n : Nat} (hn : n < 2147483648) : ((0 : Int32) ≤ a ∧ a ≤ nI n) ↔ inR a (n + 1) := by
  constructor
  · rintro ⟨h1, h2⟩
    obtain ⟨j, hj, rfl⟩ := nI_of ((i0le a).mp h1)
    rw [nI_leI (by omega) (by omega)] at h2
    exact ⟨j, by omega, rfl⟩
  · rintro ⟨j, hj, rfl⟩
    rw [nI_0le (by omega), nI_leI (by omega) (by omega)]
    exact ⟨trivial, by omega⟩
theorem inR0 {a : Int32} {n : Nat} (hn : n < 2147483648) : ((0 : Int32) ≤ a ∧ a ≤ nI n - 1) ↔ inR a n := by
  by_cases h : 1 ≤ n
  · rw [z1, pk_sub h, inR_le (by omega)]
    rw [show n - 1 + 1 = n by omega]
  · have : n = 0 := by omega
    subst this
    constructor
    · rintro ⟨h1, h2⟩
      obtain ⟨j, hj, rfl⟩ := nI_of ((i0le a).mp h1)
      exfalso
      have e : nI 0 - 1 = -1 := by decide
      rw [e] at h2
      have h3 : ¬ nI j < 0 := nI_pos hj
      exact h3 (Int32.lt_of_le_of_lt h2 (by decide))
    · rintro ⟨j, hj, _⟩; omega
theorem isWordM {σ : St} {a : Int32} {W : Nat} (hW : W < 2147483648) (h : σ 0 0 = nI W) : (inR a W ∧ f_X4_isWord a σ = some (1, σ)) ∨ (¬ inR a W ∧ f_X4_isWord a σ = some (0, σ)) := by
  unfold f_X4_isWord
  have e : f_X4_in a.toInt64 (0 : Int64) ((σ 0 0) - (1 : Int32)).toInt64 σ = some (if (0 : Int32) ≤ a ∧ a ≤ nI W - 1 then 1 else 0, σ) := by
    rw [h]; exact in_eq a 0 (nI W - 1) σ
  rw [e]
  by_cases hc : (0 : Int32) ≤ a ∧ a ≤ nI W - 1
  · left; refine ⟨(inR0 hW).mp hc, ?_⟩; rw [if_pos hc]; rfl
  · right; refine ⟨fun z => hc ((inR0 hW).mpr z), ?_⟩; rw [if_neg hc]; rfl
theorem isOneM {σ : St} {a : Int32} {W : Nat} (hW : W < 2147483648) (h : σ 0 1 = nI W) : (inR a W ∧ f_X4_isOne a σ = some (1, σ)) ∨ (¬ inR a W ∧ f_X4_isOne a σ = some (0, σ)) := by
  unfold f_X4_isOne
  have e : f_X4_in a.toInt64 (0 : Int64) ((σ 0 1) - (1 : Int32)).toInt64 σ = some (if (0 : Int32) ≤ a ∧ a ≤ nI W - 1 then 1 else 0, σ) := by
    rw [h]; exact in_eq a 0 (nI W - 1) σ
  rw [e]
  by_cases hc : (0 : Int32) ≤ a ∧ a ≤ nI W - 1
  · left; refine ⟨(inR0 hW).mp hc, ?_⟩; rw [if_pos hc]; rfl
  · right; refine ⟨fun z => hc ((inR0 hW).mpr z), ?_⟩; rw [if_neg hc]; rfl
/-! bits -/
theorem bits_eq (σ : St) : ∀ x, x < 256 → f_X4_bits (nI x) σ = some (nI (pc x), σ) := by
  intro x hx
  refine Ok_eq ?_
  unfold f_X4_bits
  refine Ok_for (fun i b => b = (nI (cnt (fun j => x.testBit j) i), nI i, σ)) 0 8 _ rfl (by omega) (by omega) (fun rec i b _ hi hb hr => ?_) (fun rec b hb => ?_)
  · subst hb
    dsimp only
    rw [z8, if_neg (by rw [nI_leI (by omega) (by omega)]; omega), shrb x hx i hi]
    refine Ok_nm (Ok_nm (hr _ ?_))
    rw [z1, nI_add, nI_add]; rfl
  · subst hb
    dsimp only
    rw [z8, if_pos (by rw [nI_leI (by omega) (by omega)]; exact Nat.le_refl _)]
    exact Ok_some rfl
/-! indices -/
theorem z18 : (18 : Int32) = nI 18 := rfl
theorem mx (b p : Nat) : nI b + (18 : Int32) * nI p = nI (b + 18 * p) := by rw [z18, pk_mul, nI_add]
theorem mx0 (b p w : Nat) : ((nI b + (18 : Int32) * nI p) + (2 : Int32)) + nI w = nI (b + 18 * p + 2 + w) := by rw [mx, z2, nI_add, nI_add]
theorem mx1 (b p w : Nat) : ((nI b + (18 : Int32) * nI p) + (10 : Int32)) + nI w = nI (b + 18 * p + 10 + w) := by rw [mx, z10, nI_add, nI_add]
theorem mxd (b p : Nat) : (nI b + (18 : Int32) * nI p) + (1 : Int32) = nI (b + 18 * p + 1) := by rw [mx, z1, nI_add]
theorem hasIt_eq {σ : St} {b p w : Nat} (hb : b ≤ 1001) (hp : p < 5) (hw : w < 8) : f_X4_hasIt (nI b) (nI p) (nI w) σ = some (σ 3 (b + 18 * p + 2 + w), σ) := by
  unfold f_X4_hasIt
  rw [mx0, if_neg (in_nI (by omega) (by decide)), nI_clamp (by omega)]
theorem gets_eq {σ : St} {b p w : Nat} {v : Int32} (hb : b ≤ 1001) (hp : p < 5) (hw : w < 8) : f_X4_gets (nI b) (nI p) (nI w) v σ = some ((), w2 (w2 σ 3 (b + 18 * p + 2 + w) v) 3 (b + 18 * p + 10 + w) 0) := by
  unfold f_X4_gets
  simp only [nm]
  rw [mx0, mx1, if_neg (in_nI (by omega) (by decide)), if_neg (in_nI (by omega) (by decide)), nI_clamp (by omega), nI_clamp (by omega)]
theorem or_top {a i : Nat} (h : a < 2 ^ i) : a ||| 2 ^ i = a + 2 ^ i := by
  have e := Nat.two_pow_add_eq_or_of_lt h 1
  rw [Nat.mul_one] at e
  rw [Nat.or_comm, ← e, Nat.add_comm]
section MM
variable {σ : St} {b : Nat} {T : Tb} {p w v : Nat}
theorem MB_give (h : MB σ b T) (hw : wfT T) (hp : p < tN T) (hq : w < tW T) (hv : v < 10) : MB (w2 (w2 σ 3 (b + 18 * p + 2 + w) (nI v)) 3 (b + 18 * p + 10 + w) 0) b (give T p w v) := by
  obtain ⟨g, d0, d⟩ := h
  have hT := hw.1
  have hN := hw.2.1
  refine ⟨MG_st (MG_fr g (by funext k; rw [w2_ap, if_neg (by omega), w2_ap, if_neg (by omega)]) (by funext k; rw [w2_ap, if_neg (by omega), w2_ap, if_neg (by omega)])) tW_give tN_give tS_give (fun _ _ => snd_give), ?_, fun q hqn => ?_⟩
  · rw [w2_ap, if_neg (by omega), w2_ap, if_neg (by omega), tD_give]; exact d0
  · rw [tN_give] at hqn
    obtain ⟨d1, d2, d3⟩ := d q hqn
    refine ⟨?_, ?_, fun x hx => ?_⟩
    · rw [w2_ap, if_neg (by omega), w2_ap, if_neg (by omega), knd_give]; exact d1
    · rw [w2_ap, if_neg (by omega), w2_ap, if_neg (by omega), mmr_give]; exact d2
    · rw [tW_give] at hx
      obtain ⟨e1, e2⟩ := d3 x hx
      rw [way_give (by omega) (by omega), age_give (by omega) (by omega)]
      by_cases hc : q = p ∧ x = w
      · obtain ⟨rfl, rfl⟩ := hc
        rw [if_pos ⟨rfl, rfl⟩, if_pos ⟨rfl, rfl⟩, wv_lt hv]
        refine ⟨?_, fun _ => ?_⟩
        · rw [w2_ap, if_neg (by omega), w2_ap, if_pos ⟨rfl, rfl⟩]
        · rw [w2_ap, if_pos ⟨rfl, rfl⟩]; rfl
      · rw [if_neg hc, if_neg hc]
        refine ⟨?_, fun hh => ?_⟩
        · rw [w2_ap, if_neg (by omega), w2_ap, if_neg (by omega)]; exact e1
        · rw [w2_ap, if_neg (by omega), w2_ap, if_neg (by omega)]; exact e2 hh
theorem MB_drop (h : MB σ b T) (hT : tW T ≤ 8) (hN : tN T ≤ 5) (hp : p < tN T) (hq : w < tW T) : MB (w2 (w2 σ 3 (b + 18 * p + 2 + w) (-1)) 3 (b + 18 * p + 10 + w) 0) b (dropT T p w) := by
  obtain ⟨g, d0, d⟩ := h
  refine ⟨MG_st (MG_fr g (by funext k; rw [w2_ap, if_neg (by omega), w2_ap, if_neg (by omega)]) (by funext k; rw [w2_ap, if_neg (by omega), w2_ap, if_neg (by omega)])) tW_drop tN_drop tS_drop (fun _ _ => snd_drop), ?_, fun q hqn => ?_⟩
  · rw [w2_ap, if_neg (by omega), w2_ap, if_neg (by omega), tD_drop]; exact d0
  · rw [tN_drop] at hqn
    obtain ⟨d1, d2, d3⟩ := d q hqn
    refine ⟨?_, ?_, fun x hx => ?_⟩
    · rw [w2_ap, if_neg (by omega), w2_ap, if_neg (by omega), knd_drop]; exact d1
    · rw [w2_ap, if_neg (by omega), w2_ap, if_neg (by omega), mmr_drop]; exact d2
    · rw [tW_drop] at hx
      obtain ⟨e1, e2⟩ := d3 x hx
      rw [way_drop (by omega) (by omega), age_drop]
      by_cases hc : q = p ∧ x = w
      · obtain ⟨rfl, rfl⟩ := hc
        rw [if_pos ⟨rfl, rfl⟩]
        refine ⟨?_, fun z => by omega⟩
        rw [w2_ap, if_neg (by omega), w2_ap, if_pos ⟨rfl, rfl⟩]; rfl
      · rw [if_neg hc]
        refine ⟨?_, fun hh => ?_⟩
        · rw [w2_ap, if_neg (by omega), w2_ap, if_neg (by omega)]; exact e1
        · rw [w2_ap, if_neg (by omega), w2_ap, if_neg (by omega)]; exact e2 hh
theorem MB_setA (h : MB σ b T) (hT : tW T ≤ 8) (hN : tN T ≤ 5) (hp : p < tN T) (hq : w < tW T) : MB (w2 σ 3 (b + 18 * p + 10 + w) (nI v)) b (setA T p w v) := by
  obtain ⟨g, d0, d⟩ := h
  refine ⟨MG_st (MG_fr g (by funext k; rw [w2_ap, if_neg (by omega)]) (by funext k; rw [w2_ap, if_neg (by omega)])) tW_setA tN_setA tS_setA (fun _ _ => snd_setA), ?_, fun q hqn => ?_⟩
  · rw [w2_ap, if_neg (by omega), tD_setA]; exact d0
  · rw [tN_setA] at hqn
    obtain ⟨d1, d2, d3⟩ := d q hqn
    refine ⟨?_, ?_, fun x hx => ?_⟩
    · rw [w2_ap, if_neg (by omega), knd_setA]; exact d1
    · rw [w2_ap, if_neg (by omega), mmr_setA]; exact d2
    · rw [tW_setA] at hx
      obtain ⟨e1, e2⟩ := d3 x hx
      rw [way_setA, age_setA (by omega) (by omega)]
      refine ⟨?_, fun hh => ?_⟩
      · rw [w2_ap, if_neg (by omega)]; exact e1
      · by_cases hc : q = p ∧ x = w
        · obtain ⟨rfl, rfl⟩ := hc
          rw [if_pos ⟨rfl, rfl⟩, w2_ap, if_pos ⟨rfl, rfl⟩]
        · rw [if_neg hc, w2_ap, if_neg (by omega)]; exact e2 hh
theorem Ms_gets {σ : St} {v : Int32} (hp : p < 5) (hw : w < 8) : Ms σ (w2 (w2 σ 3 (b + 18 * p + 2 + w) v) 3 (b + 18 * p + 10 + w) 0) b := Ms_tr (Ms_w2 (by omega) (by omega)) (Ms_w2 (by omega) (by omega))
theorem getsM (h : MB σ b T) (hw : wfT T) (hb : b ≤ 1001) (hp : p < tN T) (hq : w < tW T) (hv : v < 10) : Ok (f_X4_gets (nI b) (nI p) (nI w) (nI v) σ) (fun q => MB q.2 b (give T p w v) ∧ Ms σ q.2 b) := by
  have hT := hw.1
  have hN := hw.2.1
  rw [gets_eq hb (by omega) (by omega)]
  exact Ok_some ⟨MB_give h hw hp hq hv, Ms_gets (by omega) (by omega)⟩
theorem hasM (h : MB σ b T) (hw : wfT T) (hb : b ≤ 1001) (hp : p < tN T) (hq : w < tW T) : f_X4_hasIt (nI b) (nI p) (nI w) σ = some (wv (way T p w), σ) := by
  have hT := hw.1
  have hN := hw.2.1
  rw [hasIt_eq hb (by omega) (by omega), ((h.2.2 p hp).2.2 w hq).1]
theorem way_le (hw : wfT T) (hp : p < tN T) (hq : w < tW T) : way T p w ≤ 10 := ((hw.2.2.2.2.2 p hp).2.2.2 w hq).1
theorem hadM (h : MB σ b T) (hw : wfT T) (hb : b ≤ 1001) (hp : p < tN T) : f_X4_had (nI b) (nI p) σ = some (nI (hasB T p), σ) := by
  have hT := hw.1
  refine Ok_eq ?_
  unfold f_X4_had
  refine Ok_for (fun i x => x = (nI (bs (fun w => decide (way T p w < 10)) i), nI i, σ)) 0 (tW T) _ rfl (by omega) (by omega) (fun rec i x _ hi hx hr => ?_) (fun rec x hx => ?_)
  · subst hx
    dsimp only
    simp (disch := omega) only [h.1.1, nI_leI]
    rw [if_neg (by omega)]
    refine Ok_bindE (hasM h hw hb hp hi) ?_
    have hl := bs_lt (fun w => decide (way T p w < 10)) i
    have eo : bs (fun w => decide (way T p w < 10)) i ||| (if way T p i < 10 then 2 ^ i else 0) = bs (fun w => decide (way T p w < 10)) (i + 1) := by
      show _ = bs _ i + _
      by_cases hh : way T p i < 10
      · rw [if_pos hh, if_pos (by simp [hh]), or_top hl]
      · rw [if_neg hh, if_neg (by simp [hh])]; simp
    refine Ok_jn (fun q => q = (nI (if way T p i < 10 then 2 ^ i else 0), σ)) (fun q hq => ?_) (fun k hk => ?_)
    · subst hq
      dsimp only
      refine Ok_nm (Ok_nm (hr _ ?_))
      rw [fa_or, eo, z1, nI_add]
    · simp only [wv_neg]
      refine Ok_ite (fun hc => ?_) (fun hc => ?_)
      · refine hk _ ?_
        rw [if_neg hc]; rfl
      · refine hk _ ?_
        have hc := Classical.not_not.mp hc
        rw [if_pos hc, shl1 i (by omega)]
  · subst hx
    dsimp only
    simp only [h.1.1]
    rw [if_pos (by rw [nI_leI (by omega) (by omega)]; exact Nat.le_refl _)]
    exact Ok_some rfl
theorem rightM (h : MB σ b T) (hw : wfT T) (hb : b ≤ 1001) (hp : p < tN T) : f_X4_right (nI b) (nI p) σ = some (nI (rgtB T p), σ) := by
  have hT := hw.1
  refine Ok_eq ?_
  unfold f_X4_right
  refine Ok_for (fun i x => x = (nI (bs (fun w => decide (way T p w = snd T w)) i), nI i, σ)) 0 (tW T) _ rfl (by omega) (by omega) (fun rec i x _ hi hx hr => ?_) (fun rec x hx => ?_)
  · subst hx
    dsimp only
    simp (disch := omega) only [h.1.1, nI_leI]
    rw [if_neg (by omega)]
    refine Ok_bindE (hasM h hw hb hp hi) ?_
    have hl := bs_lt (fun w => decide (way T p w = snd T w)) i
    have hs := hw.2.2.2.2.1 i hi
    have eo : bs (fun w => decide (way T p w = snd T w)) i ||| (if way T p i = snd T i then 2 ^ i else 0) = bs (fun w => decide (way T p w = snd T w)) (i + 1) := by
      show _ = bs _ i + _
      by_cases hh : way T p i = snd T i
      · rw [if_pos hh, if_pos (by simp [hh]), or_top hl]
      · rw [if_neg hh, if_neg (by simp [hh])]; simp
    rw [if_neg (in_nI (by omega) (by decide)), nI_clamp (by omega)]
    refine Ok_jn (fun q => q = (nI (if way T p i = snd T i then 2 ^ i else 0), σ)) (fun q hq => ?_) (fun k hk => ?_)
    · subst hq
      dsimp only
      refine Ok_nm (Ok_nm (hr _ ?_))
      rw [fa_or, eo, z1, nI_add]
    · dsimp only
      simp only [h.1.2.2.2 i hi, wv_eq (show snd T i < 10 by omega) (way_le hw hp hi)]
      refine Ok_ite (fun hc => ?_) (fun hc => ?_)
      · refine hk _ ?_
        rw [if_neg hc]; rfl
      · refine hk _ ?_
        have hc := Classical.not_not.mp hc
        rw [if_pos hc, shl1 i (by omega)]
  · subst hx
    dsimp only
    simp only [h.1.1]
    rw [if_pos (by rw [nI_leI (by omega) (by omega)]; exact Nat.le_refl _)]
    exact Ok_some rfl
theorem bitsR (hw : wfT T) : f_X4_bits (nI (rgtB T p)) σ = some (nI (rgtN T p), σ) := by
  have e : pc (rgtB T p) = rgtN T p := pc_bs _ hw.1
  rw [← e]
  exact bits_eq σ _ (bs256 _ hw.1)
theorem bitsH (hw : wfT T) : f_X4_bits (nI (hasB T p)) σ = some (nI (hasN T p), σ) := by
  have e : pc (hasB T p) = hasN T p := pc_bs _ hw.1
  rw [← e]
  exact bits_eq σ _ (bs256 _ hw.1)
theorem rgtN_le (hw : wfT T) : rgtN T p ≤ 8 := Nat.le_trans (cnt_le _ _) hw.1
theorem isSpeakerM (h : MB σ b T) (hw : wfT T) (hb : b ≤ 1001) (hp : p < tN T) : f_X4_isSpeaker (nI b) (nI p) σ = some (if tS T ≤ rgtN T p then 1 else 0, σ) := by
  have h1 : rgtN T p ≤ 8 := rgtN_le hw
  have h2 := hw.2.2.2.1
  refine Ok_eq ?_
  unfold f_X4_isSpeaker
  refine Ok_bindE (rightM h hw hb hp) ?_
  refine Ok_bindE (bitsR hw) ?_
  simp (disch := omega) only [h.1.2.2.1, nI_ltI]
  refine Ok_ite (fun hc => ?_) (fun hc => ?_)
  · rw [if_neg (by omega)]; exact Ok_some rfl
  · rw [if_pos (by omega)]; exact Ok_some rfl
end MM
