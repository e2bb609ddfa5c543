/-! plain facts: ints as numbers, bits, 'Ok' -/
def Ok {β : Type} (x : Option β) (P : β → Prop) : Prop := ∃ q, x = some q ∧ P q
theorem Ok_some {β : Type} {q : β} {P : β → Prop} (h : P q) : Ok (some q) P := ⟨q, rfl, h⟩
theorem Ok_bind {α β : Type} {x : Option α} {k : α → Option β} {P : α → Prop} {R : β → Prop} (h : Ok x P) (hk : ∀ q, P q → Ok (k q) R) : Ok (x.bind k) R := by
  obtain ⟨q, rfl, hq⟩ := h
  exact hk q hq
theorem Ok_bindE {α β : Type} {x : Option α} {q : α} {k : α → Option β} {R : β → Prop} (h : x = some q) (hk : Ok (k q) R) : Ok (x.bind k) R := by
  subst h
  exact hk
theorem Ok_ite {c : Prop} [Decidable c] {β : Type} {a b : Option β} {R : β → Prop} (h1 : c → Ok a R) (h2 : ¬ c → Ok b R) : Ok (if c then a else b) R := by
  by_cases hc : c
  · rw [if_pos hc]; exact h1 hc
  · rw [if_neg hc]; exact h2 hc
theorem Ok_mono {β : Type} {x : Option β} {P R : β → Prop} (h : Ok x P) (hk : ∀ q, P q → R q) : Ok x R := by
  obtain ⟨q, e, hq⟩ := h
  exact ⟨q, e, hk q hq⟩
/-- a loop: an invariant and a measure -/
theorem Ok_lp {β γ : Type} {body : (β → Option γ) → β → Option γ} {R : γ → Prop} (inv : β → Prop) (mu : β → Nat) (hs : ∀ (rec : β → Option γ) (b : β), inv b → (∀ b', inv b' → mu b' < mu b → Ok (rec b') R) → Ok (body rec b) R) : ∀ (n : Nat) (b : β), inv b → mu b < n → Ok (lp body n b) R := by
  intro n
  induction n with
  | zero => intro b _ h; omega
  | succ n ih => intro b hb hm; exact hs (lp body n) b hb (fun b' h1 h2 => ih b' h1 (by omega))
/-- a loop that counts i up to e: the invariant holds at i -/
theorem Ok_for {β γ : Type} {body : (β → Option γ) → β → Option γ} {R : γ → Prop} (inv : Nat → β → Prop) (i0 e : Nat) (b0 : β) (h0 : inv i0 b0) (hi : i0 ≤ e) (he : e - i0 < 9999)
    (hstep : ∀ (rec : β → Option γ) (i : Nat) (b : β), i0 ≤ i → i < e → inv i b → (∀ b', inv (i + 1) b' → Ok (rec b') R) → Ok (body rec b) R)
    (hexit : ∀ (rec : β → Option γ) (b : β), inv e b → Ok (body rec b) R) : Ok (lp body FU b0) R := by
  have key : ∀ (n i : Nat) (b : β), i0 ≤ i → i ≤ e → inv i b → e - i < n → Ok (lp body n b) R := by
    intro n
    induction n with
    | zero => intro i b _ _ _ h; omega
    | succ n ih =>
      intro i b hi0 hie hb hn
      by_cases hlt : i < e
      · exact hstep (lp body n) i b hi0 hlt hb (fun b' h' => ih (i + 1) b' (by omega) (by omega) h' (by omega))
      · have : i = e := by omega
        subst this
        exact hexit (lp body n) b hb
  exact key FU i0 b0 (Nat.le_refl _) hi h0 (by unfold FU; omega)
theorem fa_and (a b : Nat) : nI a &&& nI b = nI (a &&& b) := by
  apply Int32.toBitVec_inj.1
  show BitVec.ofNat 32 a &&& BitVec.ofNat 32 b = BitVec.ofNat 32 (a &&& b)
  apply BitVec.eq_of_getLsbD_eq
  intro i hi
  simp [hi]
theorem fa_or (a b : Nat) : nI a ||| nI b = nI (a ||| b) := by
  apply Int32.toBitVec_inj.1
  show BitVec.ofNat 32 a ||| BitVec.ofNat 32 b = BitVec.ofNat 32 (a ||| b)
  apply BitVec.eq_of_getLsbD_eq
  intro i hi
  simp [hi]
theorem nx_xor (a b : Nat) : nI a ^^^ nI b = nI (a ^^^ b) := by
  apply Int32.toBitVec_inj.1
  show BitVec.ofNat 32 a ^^^ BitVec.ofNat 32 b = BitVec.ofNat 32 (a ^^^ b)
  apply BitVec.eq_of_getLsbD_eq
  intro i hi
  simp [hi]
theorem z0 : (0 : Int32) = nI 0 := rfl
theorem z1 : (1 : Int32) = nI 1 := rfl
theorem z2 : (2 : Int32) = nI 2 := rfl
theorem z3 : (3 : Int32) = nI 3 := rfl
theorem z4 : (4 : Int32) = nI 4 := rfl
theorem z5 : (5 : Int32) = nI 5 := rfl
theorem z6 : (6 : Int32) = nI 6 := rfl
theorem z8 : (8 : Int32) = nI 8 := rfl
theorem z10 : (10 : Int32) = nI 10 := rfl
theorem nI_lt0 {a : Nat} (h : a < 2147483648) : (nI a < 0) ↔ False := by
  rw [z0, nI_ltI h (by decide)]; simp
theorem nI_0le {a : Nat} (h : a < 2147483648) : ((0 : Int32) ≤ nI a) ↔ True := by
  rw [z0, nI_leI (by decide) h]; simp
theorem nI_eq0 {a : Nat} (h : a < 2147483648) : (nI a = 0) ↔ a = 0 := by
  rw [z0, nI_eq h (by decide)]
theorem rem_nI {a d : Nat} (ha : a < 2147483648) (h0 : 0 < d) (hd : d < 2147483648) : nI a - nI a / nI d * nI d = nI (a % d) := pk_rem ha h0 hd
theorem in_nI {i L : Nat} (h : i < L) (hL : L < 2147483648) : ¬ (nI i < 0 ∨ L ≤ (nI i).toNatClampNeg) := by
  rw [nI_lt0 (by omega), nI_clamp (by omega)]; simp; omega
/-! bits -/
def bs (f : Nat → Bool) : Nat → Nat
  | 0 => 0
  | n + 1 => bs f n + (if f n then 2 ^ n else 0)
def cnt (f : Nat → Bool) : Nat → Nat
  | 0 => 0
  | n + 1 => cnt f n + (if f n then 1 else 0)
def lowF (f : Nat → Bool) : Nat → Nat
  | 0 => 0
  | n + 1 => if f 0 then 0 else lowF (fun i => f (i + 1)) n + 1
theorem bs_lt (f : Nat → Bool) (n : Nat) : bs f n < 2 ^ n := by
  induction n with
  | zero => simp [bs]
  | succ n ih => simp only [bs]; rw [Nat.pow_succ]; split <;> omega
theorem bs_bit (f : Nat → Bool) (n i : Nat) : (bs f n).testBit i = (decide (i < n) && f i) := by
  induction n with
  | zero => simp [bs]
  | succ n ih =>
    simp only [bs]
    have hl := bs_lt f n
    by_cases hf : f n = true
    · rw [if_pos hf, Nat.add_comm]
      by_cases hi : i = n
      · subst hi; rw [Nat.testBit_two_pow_add_eq, ih]; simp [hf]
      · by_cases h2 : i < n
        · have h3 : i < n + 1 := by omega
          rw [Nat.testBit_two_pow_add_gt h2, ih]; simp [h2, h3]
        · have h3 : ¬ i < n + 1 := by omega
          have h4 : 2 ^ (n + 1) ≤ 2 ^ i := Nat.pow_le_pow_right (by decide) (by omega)
          rw [Nat.testBit_lt_two_pow (by rw [Nat.pow_succ] at h4; omega)]; simp [h3]
    · rw [if_neg hf, Nat.add_zero, ih]
      by_cases hi : i = n
      · subst hi; simp [hf]
      · by_cases h2 : i < n
        · have : i < n + 1 := by omega
          simp [h2, this]
        · have : ¬ i < n + 1 := by omega
          simp [h2, this]
theorem bs_ext {f g : Nat → Bool} {n : Nat} (h : ∀ i, i < n → f i = g i) : bs f n = bs g n := by
  induction n with
  | zero => rfl
  | succ n ih => simp only [bs]; rw [ih (fun i hi => h i (by omega)), h n (by omega)]
theorem cnt_ext {f g : Nat → Bool} {n : Nat} (h : ∀ i, i < n → f i = g i) : cnt f n = cnt g n := by
  induction n with
  | zero => rfl
  | succ n ih => simp only [cnt]; rw [ih (fun i hi => h i (by omega)), h n (by omega)]
theorem cnt_le (f : Nat → Bool) (n : Nat) : cnt f n ≤ n := by
  induction n with
  | zero => simp [cnt]
  | succ n ih => simp only [cnt]; split <;> omega
theorem cnt_cut (f : Nat → Bool) (n k : Nat) : cnt (fun i => decide (i < n) && f i) (n + k) = cnt f n := by
  induction k with
  | zero => exact cnt_ext (fun i hi => by have : i < n := hi; simp [this])
  | succ k ih =>
    show cnt _ (n + k) + _ = _
    rw [ih]
    have : ¬ n + k < n := by omega
    simp [this]
def pc (x : Nat) : Nat := cnt (fun i => x.testBit i) 8
theorem pc_bs (f : Nat → Bool) {n : Nat} (hn : n ≤ 8) : pc (bs f n) = cnt f n := by
  have : pc (bs f n) = cnt (fun i => decide (i < n) && f i) (n + (8 - n)) := by
    rw [show n + (8 - n) = 8 by omega]
    exact cnt_ext (fun i _ => bs_bit f n i)
  rw [this, cnt_cut]
theorem bs256 (f : Nat → Bool) {n : Nat} (hn : n ≤ 8) : bs f n < 256 := Nat.lt_of_lt_of_le (bs_lt f n) (by
  have : 2 ^ n ≤ 2 ^ 8 := Nat.pow_le_pow_right (by decide) hn
  simpa using this)
/-- all but one bit -/
theorem nI_andn (a b : Nat) : nI a &&& (nI b ^^^ (-1)) = nI (a &&& (b ^^^ 4294967295)) := by
  have : (-1 : Int32) = nI 4294967295 := by decide +kernel
  rw [this, nx_xor, fa_and]
theorem tb_m1 : ∀ i, i < 32 → (4294967295 : Nat).testBit i = true := by decide +kernel
theorem bs_clear (f g : Nat → Bool) {n m : Nat} (hn : n ≤ 8) : bs f n &&& (bs g m ^^^ 4294967295) = bs (fun i => f i && !(decide (i < m) && g i)) n := by
  apply Nat.eq_of_testBit_eq
  intro i
  rw [Nat.testBit_and, Nat.testBit_xor, bs_bit, bs_bit, bs_bit]
  by_cases hi : i < n
  · rw [tb_m1 i (by omega)]; simp [hi]
  · simp [hi]
theorem bs_or (f g : Nat → Bool) {n : Nat} : bs f n ||| bs g n = bs (fun i => f i || g i) n := by
  apply Nat.eq_of_testBit_eq
  intro i
  rw [Nat.testBit_or, bs_bit, bs_bit, bs_bit]
  by_cases hi : i < n <;> simp [hi]
theorem bs_one {w n : Nat} (h : w < n) : 2 ^ w = bs (fun i => decide (i = w)) n := by
  apply Nat.eq_of_testBit_eq
  intro i
  rw [bs_bit, Nat.testBit_two_pow]
  by_cases hi : i = w
  · subst hi; simp [h]
  · have : ¬ w = i := fun q => hi q.symm
    simp [hi, this]
theorem shl1 : ∀ w, w < 16 → (1 : Int32) <<< (nI w &&& 31) = nI (2 ^ w) := by decide +kernel
theorem shrb : ∀ x, x < 256 → ∀ w, w < 8 → (nI x >>> (nI w &&& 31)) &&& (1 : Int32) = nI (if x.testBit w then 1 else 0) := by decide +kernel
theorem bc_eq (σ : St) : ∀ x, x < 256 → f_J6_bitCount_0f7a4 (nI x) σ = some (nI (pc x), σ) := by
  have key : ∀ x, x < 256 → (f_J6_bitCount_0f7a4 (nI x) (fun _ _ => 0)).map Prod.fst = some (nI (pc x)) := by decide +kernel
  intro x hx
  have h := key x hx
  have h2 : (f_J6_bitCount_0f7a4 (nI x) σ).map Prod.fst = (f_J6_bitCount_0f7a4 (nI x) (fun _ _ => 0)).map Prod.fst := rfl
  rw [← h2] at h
  have h3 : ∃ r, f_J6_bitCount_0f7a4 (nI x) σ = some (r, σ) := ⟨_, rfl⟩
  obtain ⟨r, hr⟩ := h3
  rw [hr] at h ⊢
  have h4 : r = nI (pc x) := Option.some.inj h
  rw [h4]
theorem low_eq (t : Nat) (σ : St) : ∀ x, x < 256 → f_X1_lowest t (nI x) σ = some (if x = 0 then -4 else nI (lowF (fun i => x.testBit i) 8), σ) := by
  have key : ∀ x, x < 256 → (f_X1_lowest 0 (nI x) (fun _ _ => 0)).map Prod.fst = some (if x = 0 then -4 else nI (lowF (fun i => x.testBit i) 8)) := by decide +kernel
  intro x hx
  have h := key x hx
  have h2 : (f_X1_lowest t (nI x) σ).map Prod.fst = (f_X1_lowest 0 (nI x) (fun _ _ => 0)).map Prod.fst := by
    unfold f_X1_lowest
    by_cases hc : ¬ nI x = 0
    · rw [if_pos hc, if_pos hc]; rfl
    · rw [if_neg hc, if_neg hc]; rfl
  rw [← h2] at h
  have h3 : ∃ r, f_X1_lowest t (nI x) σ = some (r, σ) := by
    unfold f_X1_lowest
    by_cases hc : ¬ nI x = 0
    · rw [if_pos hc]; exact ⟨_, rfl⟩
    · rw [if_neg hc]; exact ⟨_, rfl⟩
  obtain ⟨r, hr⟩ := h3
  rw [hr] at h ⊢
  have h4 := Option.some.inj h
  rw [← h4]
theorem lowF_le (f : Nat → Bool) (n : Nat) : lowF f n ≤ n := by
  induction n generalizing f with
  | zero => simp [lowF]
  | succ n ih => simp only [lowF]; split; omega; have := ih (fun i => f (i + 1)); omega
theorem lowF_spec (f : Nat → Bool) (n : Nat) : (lowF f n < n → f (lowF f n) = true) ∧ ∀ i, i < lowF f n → f i = false := by
  induction n generalizing f with
  | zero => simp [lowF]
  | succ n ih =>
    simp only [lowF]
    by_cases h : f 0 = true
    · rw [if_pos h]; exact ⟨fun _ => h, fun i hi => by omega⟩
    · rw [if_neg h]
      obtain ⟨h1, h2⟩ := ih (fun i => f (i + 1))
      refine ⟨fun hl => h1 (by omega), fun i hi => ?_⟩
      cases i with
      | zero => simpa using h
      | succ i => exact h2 i (by omega)
theorem lowF_uniq {f : Nat → Bool} {n k : Nat} (hk : k ≤ n) (h1 : k < n → f k = true) (h2 : ∀ i, i < k → f i = false) : lowF f n = k := by
  obtain ⟨g1, g2⟩ := lowF_spec f n
  have g3 := lowF_le f n
  rcases Nat.lt_trichotomy (lowF f n) k with h | h | h
  · have := h2 _ h; rw [g1 (by omega)] at this; cases this
  · exact h
  · have := g2 _ h; rw [h1 (by omega)] at this; cases this
theorem bs_zero {f : Nat → Bool} {n : Nat} : bs f n = 0 ↔ ∀ i, i < n → f i = false := by
  constructor
  · intro h i hi
    have := bs_bit f n i
    rw [h] at this
    simpa [hi] using this.symm
  · intro h
    apply Nat.eq_of_testBit_eq
    intro i
    rw [bs_bit]
    by_cases hi : i < n
    · simp [hi, h i hi]
    · simp [hi]
/-- the lowest bit of a set of n places, as told by 'lowest' -/
theorem low_bs (t : Nat) (σ : St) (f : Nat → Bool) {n : Nat} (hn : n ≤ 8) : f_X1_lowest t (nI (bs f n)) σ = some (if lowF f n < n then nI (lowF f n) else -4, σ) := by
  rw [low_eq t σ _ (bs256 f hn)]
  obtain ⟨g1, g2⟩ := lowF_spec f n
  have g3 := lowF_le f n
  by_cases h : lowF f n < n
  · have hz : ¬ bs f n = 0 := fun q => by have := bs_zero.mp q _ h; rw [g1 h] at this; cases this
    rw [if_neg hz, if_pos h]
    have : lowF (fun i => (bs f n).testBit i) 8 = lowF f n := by
      refine lowF_uniq (by omega) (fun _ => ?_) (fun i hi => ?_)
      · rw [bs_bit, g1 h]; simp [h]
      · rw [bs_bit, g2 i hi]; simp
    rw [this]
  · have hz : bs f n = 0 := bs_zero.mpr (fun i hi => g2 i (by omega))
    rw [if_pos hz, if_neg h]
