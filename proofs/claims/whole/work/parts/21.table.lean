/-! a tongue and its wooers as numbers, and the class's Table that holds them -/
abbrev Tb : Type := Nat → Nat → Nat
def tu (T : Tb) (c k v : Nat) : Tb := fun a b => if a = c ∧ b = k then v else T a b
def tW (T : Tb) : Nat := T 0 0
def tN (T : Tb) : Nat := T 0 1
def tS (T : Tb) : Nat := T 0 2
def tD (T : Tb) : Nat := T 0 3
def snd (T : Tb) (w : Nat) : Nat := T 1 w
def knd (T : Tb) (p : Nat) : Nat := T 2 p
def mmr (T : Tb) (p : Nat) : Nat := T 3 p
def way (T : Tb) (p w : Nat) : Nat := T 4 (8 * p + w)
def age (T : Tb) (p w : Nat) : Nat := T 5 (8 * p + w)
def wfT (T : Tb) : Prop := tW T ≤ 8 ∧ tN T ≤ 5 ∧ 1 ≤ tS T ∧ tS T ≤ 8 ∧ (∀ w, w < tW T → snd T w ≤ 9) ∧ ∀ p, p < tN T → knd T p ≤ 3 ∧ 1 ≤ mmr T p ∧ mmr T p ≤ 30 ∧ ∀ w, w < tW T → way T p w ≤ 10 ∧ (way T p w < 10 → age T p w < mmr T p)
def hasB (T : Tb) (p : Nat) : Nat := bs (fun w => decide (way T p w < 10)) (tW T)
def rgtB (T : Tb) (p : Nat) : Nat := bs (fun w => decide (way T p w = snd T w)) (tW T)
def CR (σ : St) (t : Nat) (T : Tb) : Prop := σ t 0 = nI (tW T) ∧ σ t 1 = nI (tN T) ∧ σ t 2 = nI (tS T) ∧ σ t 3 = nI (tD T) ∧ (∀ w, w < tW T → σ (t + 1) w = nI (snd T w)) ∧ ∀ p, p < tN T → σ (t + 2) p = nI (knd T p) ∧ σ (t + 3) p = nI (mmr T p) ∧ σ (t + 4) p = nI (hasB T p) ∧ σ (t + 5) p = nI (rgtB T p) ∧ ∀ w, w < tW T → way T p w < 10 → σ (t + 6) (8 * p + w) = nI (way T p w) ∧ σ (t + 7) (8 * p + w) = nI (age T p w)
def Fr (σ σ' : St) (lo hi : Nat) : Prop := ∀ c, (c < lo ∨ hi ≤ c) → σ' c = σ c
theorem Fr_rf {σ : St} {lo hi : Nat} : Fr σ σ lo hi := fun _ _ => rfl
theorem Fr_tr {σ σ1 σ2 : St} {lo hi : Nat} (h1 : Fr σ σ1 lo hi) (h2 : Fr σ1 σ2 lo hi) : Fr σ σ2 lo hi := fun c hc => (h2 c hc).trans (h1 c hc)
theorem Fr_wd {σ σ1 : St} {lo hi lo' hi' : Nat} (h1 : Fr σ σ1 lo hi) (h : lo' ≤ lo) (h' : hi ≤ hi') : Fr σ σ1 lo' hi' := fun c hc => h1 c (by omega)
theorem w2_ap (σ : St) (r i : Nat) (v : Int32) (c k : Nat) : w2 σ r i v c k = if c = r ∧ k = i then v else σ c k := by
  unfold w2 va_up upd
  by_cases hc : c = r
  · subst hc; simp
  · simp [hc]
theorem w2_fr {σ : St} {r i : Nat} {v : Int32} {lo hi : Nat} (h : lo ≤ r) (h' : r < hi) : Fr σ (w2 σ r i v) lo hi := fun c hc => by
  funext k
  rw [w2_ap, if_neg (by omega)]
theorem ix8 (p w : Nat) : (8 : Int32) * nI p + nI w = nI (8 * p + w) := by rw [z8, pk_mul, nI_add]
theorem at_eq {r L i : Nat} {σ : St} (h : i < L) (hL : L < 2147483648) : f_X3_at r L (nI i) σ = some (σ r i, σ) := by
  unfold f_X3_at
  simp only [jn]
  rw [if_neg (by rw [nI_lt0 (by omega)]; simp), if_neg (by rw [nI_leI (by omega) (by omega)]; omega), if_neg (in_nI h hL), nI_clamp (by omega)]
theorem put_eq {r L i : Nat} {v : Int32} {σ : St} (h : i < L) (hL : L < 2147483648) : f_X3_put r L (nI i) v σ = some ((), w2 σ r i v) := by
  unfold f_X3_put
  simp only [nm]
  rw [if_neg (by rw [nI_lt0 (by omega)]; simp), if_neg (by rw [nI_leI (by omega) (by omega)]; omega), if_neg (in_nI h hL), nI_clamp (by omega)]
theorem swap_eq {r L i j : Nat} {σ : St} (h : i < L) (h' : j < L) (hL : L < 2147483648) : f_X3_swap r L (nI i) (nI j) σ = some ((), w2 (w2 σ r i (σ r j)) r j (σ r i)) := by
  unfold f_X3_swap
  rw [at_eq h hL]
  show (f_X3_at r L (nI j) σ).bind _ = _
  rw [at_eq h' hL]
  show (f_X3_put r L (nI i) _ σ).bind _ = _
  rw [put_eq h hL]
  show (f_X3_put r L (nI j) _ _).bind _ = _
  rw [put_eq h' hL]
  rfl
/-- an int within 0 .. n - 1 -/
def inR (a : Int32) (n : Nat) : Prop := ∃ k, k < n ∧ a = nI k
theorem inR_nI {k n : Nat} (hk : k < 2147483648) (hn : n < 2147483648) : inR (nI k) n ↔ k < n := by
  constructor
  · rintro ⟨j, hj, e⟩
    have := (nI_eq (by omega) (by omega)).mp e
    omega
  · intro h; exact ⟨k, h, rfl⟩
theorem inR_iff {a : Int32} {n : Nat} (hn : n < 2147483648) : inR a n ↔ ¬ a < 0 ∧ ¬ nI n ≤ a := by
  constructor
  · rintro ⟨k, hk, rfl⟩
    rw [nI_lt0 (by omega), nI_leI (by omega) (by omega)]
    simp; omega
  · rintro ⟨h1, h2⟩
    obtain ⟨j, hj, rfl⟩ := nI_of h1
    rw [nI_leI (by omega) (by omega)] at h2
    exact ⟨j, by omega, rfl⟩
theorem isWord_eq {σ : St} {t : Nat} {a : Int32} {W : Nat} (hW : W < 2147483648) (h : σ t 0 = nI W) : (inR a W ∧ f_X1_isWord t a σ = some (1, σ)) ∨ (¬ inR a W ∧ f_X1_isWord t a σ = some (0, σ)) := by
  rw [inR_iff hW]
  unfold f_X1_isWord
  simp only [jn, h]
  by_cases h1 : a < 0
  · right; simp [h1]
  · by_cases h2 : nI W ≤ a
    · right; simp [h1, h2]
    · left; simp [h1, h2]
theorem isWooer_eq {σ : St} {t : Nat} {a : Int32} {W : Nat} (hW : W < 2147483648) (h : σ t 1 = nI W) : (inR a W ∧ f_X1_isWooer t a σ = some (1, σ)) ∨ (¬ inR a W ∧ f_X1_isWooer t a σ = some (0, σ)) := by
  rw [inR_iff hW]
  unfold f_X1_isWooer
  simp only [jn, h]
  by_cases h1 : a < 0
  · right; simp [h1]
  · by_cases h2 : nI W ≤ a
    · right; simp [h1, h2]
    · left; simp [h1, h2]
section CT
variable {σ : St} {t : Nat} {T : Tb} {p w : Nat}
theorem bit_eq {σ : St} {r L : Nat} {f : Nat → Bool} {p w n : Nat} (hp : p < L) (hL : L < 2147483648) (hn : n ≤ 8) (hw : w < n) (h : σ r p = nI (bs f n)) : (f_X3_at r L (nI p) σ).bind (fun q1 => (if ¬ ((q1.1 >>> (nI w &&& 31)) &&& (1 : Int32)) = (1 : Int32) then some ((0 : Int32), q1.2) else some ((1 : Int32), q1.2))) = some (if f w then 1 else 0, σ) := by
  rw [at_eq hp hL]
  show (if ¬ ((σ r p >>> (nI w &&& 31)) &&& (1 : Int32)) = (1 : Int32) then some ((0 : Int32), σ) else some ((1 : Int32), σ)) = _
  rw [h, shrb _ (bs256 f hn) w (by omega), bs_bit]
  have hw' : decide (w < n) = true := by simp [hw]
  rw [hw']
  cases f w
  · rw [if_pos (by decide)]; rfl
  · rw [if_neg (by decide)]; rfl
theorem holds_eq (h : CR σ t T) (hw : wfT T) (hp : p < tN T) (hq : w < tW T) : f_X1_holds t (nI p) (nI w) σ = some (if way T p w < 10 then 1 else 0, σ) := by
  unfold f_X1_holds
  rw [bit_eq (by have := hw.2.1; omega) (by decide) hw.1 hq (h.2.2.2.2.2 p hp).2.2.1]
  by_cases hc : way T p w < 10 <;> simp [hc]
theorem isRight_eq (h : CR σ t T) (hw : wfT T) (hp : p < tN T) (hq : w < tW T) : f_X1_isRight t (nI p) (nI w) σ = some (if way T p w = snd T w then 1 else 0, σ) := by
  unfold f_X1_isRight
  rw [bit_eq (by have := hw.2.1; omega) (by decide) hw.1 hq (h.2.2.2.2.2 p hp).2.2.2.1]
  by_cases hc : way T p w = snd T w <;> simp [hc]
theorem wayOf_eq (h : CR σ t T) (hw : wfT T) (hp : p < tN T) (hq : w < tW T) (hh : way T p w < 10) : f_X1_wayOf t (nI p) (nI w) σ = some (nI (way T p w), σ) := by
  unfold f_X1_wayOf
  have h1 := hw.1; have h2 := hw.2.1
  rw [ix8, at_eq (by omega) (by decide), ((h.2.2.2.2.2 p hp).2.2.2.2 w hq hh).1]
  rfl
theorem ageOf_eq (h : CR σ t T) (hw : wfT T) (hp : p < tN T) (hq : w < tW T) (hh : way T p w < 10) : f_X1_ageOf t (nI p) (nI w) σ = some (nI (age T p w), σ) := by
  unfold f_X1_ageOf
  have h1 := hw.1; have h2 := hw.2.1
  rw [ix8, at_eq (by omega) (by decide), ((h.2.2.2.2.2 p hp).2.2.2.2 w hq hh).2]
  rfl
def rgtN (T : Tb) (p : Nat) : Nat := cnt (fun w => decide (way T p w = snd T w)) (tW T)
def hasN (T : Tb) (p : Nat) : Nat := cnt (fun w => decide (way T p w < 10)) (tW T)
theorem rightOf_eq (h : CR σ t T) (hw : wfT T) (hp : p < tN T) : f_X1_rightOf t (nI p) σ = some (nI (rgtN T p), σ) := by
  unfold f_X1_rightOf
  rw [at_eq (by have := hw.2.1; omega) (by decide)]
  show (f_J6_bitCount_0f7a4 (σ (t + 5) p) σ).bind _ = _
  rw [(h.2.2.2.2.2 p hp).2.2.2.1]
  unfold rgtB
  rw [bc_eq σ _ (bs256 _ hw.1), pc_bs _ hw.1]
  rfl
theorem isSpeaker_eq (h : CR σ t T) (hw : wfT T) (hp : p < tN T) : f_X1_isSpeaker t (nI p) σ = some (if tS T ≤ rgtN T p then 1 else 0, σ) := by
  unfold f_X1_isSpeaker
  rw [rightOf_eq h hw hp]
  show (if nI (rgtN T p) < σ t 2 then some ((0 : Int32), σ) else some ((1 : Int32), σ)) = _
  have h1 : rgtN T p ≤ 8 := Nat.le_trans (cnt_le _ _) hw.1
  have h2 := hw.2.2.2.1
  rw [h.2.2.1]
  simp (disch := omega) only [nI_ltI]
  by_cases hc : tS T ≤ rgtN T p
  · rw [if_neg (by omega), if_pos hc]
  · rw [if_pos (by omega), if_neg hc]
theorem canRepair_eq (h : CR σ t T) (hw : wfT T) (hp : p < tN T) (hq : w < tW T) : f_X1_canRepair t (nI p) (nI w) σ = some (if way T p w < 10 ∧ way T p w ≠ snd T w then 1 else 0, σ) := by
  unfold f_X1_canRepair
  simp only [jn]
  rw [holds_eq h hw hp hq]
  by_cases hc : way T p w < 10
  · simp only [hc, if_true, Option.bind_some]
    rw [if_neg (by decide), isRight_eq h hw hp hq]
    by_cases hd : way T p w = snd T w
    · simp [hd]
    · simp [hd]
  · simp [hc]
theorem nextSeat_eq (h : CR σ t T) (hw : wfT T) (hp : p < tN T) : f_X1_nextSeat t (nI p) σ = some (nI (if p + 1 < tN T then p + 1 else 0), σ) := by
  unfold f_X1_nextSeat
  have h2 := hw.2.1
  rw [h.2.1, z1, nI_add]
  simp (disch := omega) only [nI_leI]
  by_cases hc : p + 1 < tN T
  · rw [if_neg (by omega), if_pos hc]
  · rw [if_pos (by omega), if_neg hc]; rfl
def hear (T : Tb) (p v : Nat) : Nat := if knd T p = 1 ∧ v % 2 = 1 then (v + 1) % 10 else v
theorem asHeardBy_eq (h : CR σ t T) (hw : wfT T) (hp : p < tN T) {v : Nat} (hv : v < 10) : f_X1_asHeardBy t (nI p) (nI v) σ = some (nI (hear T p v), σ) := by
  unfold f_X1_asHeardBy
  simp only [jn]
  have h2 := hw.2.1
  have h3 := (hw.2.2.2.2.2 p hp).1
  rw [at_eq (by omega) (by decide)]
  show (if ¬ σ (t + 2) p = 1 then some (nI v, σ) else (if ¬ (nI v - nI v / 2 * 2) = 1 then some (nI v, σ) else some (((nI v + 1) - (nI v + 1) / 10 * 10), σ))) = _
  rw [(h.2.2.2.2.2 p hp).1, z1, z2, z10, rem_nI (by omega) (by decide) (by decide), nI_add, rem_nI (by omega) (by decide) (by decide)]
  simp (disch := omega) only [nI_eq]
  unfold hear
  by_cases hc : knd T p = 1
  · by_cases hd : v % 2 = 1
    · simp [hc, hd]
    · simp [hc, hd]
  · simp [hc]
theorem hear_lt {v : Nat} (hv : v < 10) : hear T p v < 10 := by
  unfold hear; split <;> omega
end CT
