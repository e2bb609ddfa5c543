/-! the other program: rows of lessons, told by codes -/
def bT (p W : Nat) : Nat → Tb → Nat → Tb
  | 0, T, _ => T
  | m + 1, T, c => bT p W m (day (teach T p (c / W ^ m)) true) (c % W ^ m)
def oc (W : Nat) : Nat → Nat → Nat → Nat
  | 0, row, _ => row
  | m + 1, row, c => oc W m (8 * row + c / W ^ m) (c % W ^ m)
def rs (W m c : Nat) : Nat → Nat
  | 0 => c
  | q + 1 => rs W m c q % W ^ (m - q - 1)
def dgt (W m c q : Nat) : Nat := rs W m c q / W ^ (m - q - 1)
def ts (p W m c : Nat) (T : Tb) : Nat → Tb
  | 0 => T
  | q + 1 => day (teach (ts p W m c T q) p (dgt W m c q)) true
def rw8 (W m c : Nat) : Nat → Nat
  | 0 => 0
  | q + 1 => 8 * rw8 W m c q + dgt W m c q
theorem maxTo_ge {f : Nat → Nat} {n i : Nat} (hi : i < n) : f i ≤ maxTo f n := by
  induction n with
  | zero => omega
  | succ n ih =>
    simp only [maxTo]
    by_cases e : i = n
    · subst e; split <;> omega
    · have := ih (by omega)
      split <;> omega
theorem maxTo_ex {f : Nat → Nat} {n : Nat} (hn : 0 < n) : ∃ i, i < n ∧ maxTo f n = f i := by
  induction n with
  | zero => omega
  | succ n ih =>
    simp only [maxTo]
    by_cases hc : maxTo f n < f n
    · exact ⟨n, by omega, by rw [if_pos hc]⟩
    · rw [if_neg hc]
      by_cases h0 : 0 < n
      · obtain ⟨i, h1, h2⟩ := ih h0
        exact ⟨i, by omega, h2⟩
      · have e : n = 0 := by omega
        subst e
        refine ⟨0, by omega, ?_⟩
        simp only [maxTo] at hc ⊢
        omega
theorem maxTo_uniq {f : Nat → Nat} {n x : Nat} (h1 : ∀ i, i < n → f i ≤ x) (h2 : ∃ i, i < n ∧ f i = x) : maxTo f n = x := by
  obtain ⟨i, hi, e⟩ := h2
  have a := maxTo_ge (f := f) hi
  have b := maxTo_le (f := f) h1
  omega
theorem maxTo_ext {f g : Nat → Nat} {n : Nat} (h : ∀ i, i < n → f i = g i) : maxTo f n = maxTo g n := by
  induction n with
  | zero => rfl
  | succ n ih => simp only [maxTo]; rw [ih (fun i hi => h i (by omega)), h n (by omega)]
theorem maxTo_prod {f : Nat → Nat → Nat} {W N : Nat} (hW : 0 < W) (hN : 0 < N) : maxTo (fun c => f (c / N) (c % N)) (W * N) = maxTo (fun d => maxTo (f d) N) W := by
  refine maxTo_uniq (fun c hc => ?_) ?_
  · have h1 : c / N < W := Nat.div_lt_of_lt_mul (by rw [Nat.mul_comm]; exact hc)
    have h2 : c % N < N := Nat.mod_lt _ hN
    exact Nat.le_trans (maxTo_ge (f := f (c / N)) h2) (maxTo_ge (f := fun d => maxTo (f d) N) h1)
  · obtain ⟨d, hd, e⟩ := maxTo_ex (f := fun d => maxTo (f d) N) hW
    obtain ⟨r, hr, e2⟩ := maxTo_ex (f := f d) hN
    refine ⟨d * N + r, ?_, ?_⟩
    · have : (d + 1) * N ≤ W * N := Nat.mul_le_mul_right N hd
      rw [Nat.add_mul] at this; omega
    · have a : (d * N + r) / N = d := by rw [Nat.mul_comm, Nat.mul_add_div hN, Nat.div_eq_of_lt hr, Nat.add_zero]
      have b : (d * N + r) % N = r := by rw [Nat.mul_comm, Nat.mul_add_mod, Nat.mod_eq_of_lt hr]
      show f _ _ = _
      rw [a, b, e, ← e2]
theorem bE_codes {p : Nat} (m : Nat) : ∀ (T : Tb) (row : Nat), 0 < tW T → bE p m T row = maxTo (fun c => 512 * rgtN (bT p (tW T) m T c) p + 511 - oc (tW T) m row c) (tW T ^ m) := by
  induction m with
  | zero =>
    intro T row hW
    symm
    refine maxTo_uniq (fun i hi => ?_) ⟨0, by simp, rfl⟩
    exact Nat.le_refl _
  | succ m ih =>
    intro T row hW
    have hN : 0 < tW T ^ m := Nat.pow_pos hW
    rw [Nat.pow_succ, Nat.mul_comm]
    rw [show (fun c => 512 * rgtN (bT p (tW T) (m + 1) T c) p + 511 - oc (tW T) (m + 1) row c) = (fun c => (fun d r => 512 * rgtN (bT p (tW T) m (day (teach T p d) true) r) p + 511 - oc (tW T) m (8 * row + d) r) (c / tW T ^ m) (c % tW T ^ m)) from rfl, maxTo_prod (f := fun d r => 512 * rgtN (bT p (tW T) m (day (teach T p d) true) r) p + 511 - oc (tW T) m (8 * row + d) r) hW hN]
    show maxTo (fun w => bE p m (day (teach T p w) true) (8 * row + w)) (tW T) = _
    refine maxTo_ext (fun w hw => ?_)
    have s : tW (day (teach T p w) true) = tW T := (stat_day (T := teach T p w) (tl := true)).1.trans (stat_teach (T := T) (p := p) (w := w)).1
    rw [ih _ _ (by rw [s]; exact hW), s]
theorem oc_lo {W : Nat} (m : Nat) : ∀ row c, 8 ^ m * row ≤ oc W m row c := by
  induction m with
  | zero => intro row c; simp [oc]
  | succ m ih =>
    intro row c
    have := ih (8 * row + c / W ^ m) (c % W ^ m)
    rw [Nat.mul_add, ← Nat.mul_assoc] at this
    simp only [oc]
    rw [Nat.pow_succ]
    omega
theorem oc_hi {W : Nat} (h8 : W ≤ 8) (hW : 0 < W) (m : Nat) : ∀ row c, c < W ^ m → oc W m row c < 8 ^ m * (row + 1) := by
  induction m with
  | zero => intro row c _; simp [oc]
  | succ m ih =>
    intro row c hc
    have hN : 0 < W ^ m := Nat.pow_pos hW
    have h1 := ih (8 * row + c / W ^ m) (c % W ^ m) (Nat.mod_lt _ hN)
    have h2 : c / W ^ m < W := Nat.div_lt_of_lt_mul (by rw [Nat.pow_succ] at hc; exact hc)
    have h3 : 8 ^ m * (8 * row + c / W ^ m + 1) ≤ 8 ^ m * (8 * (row + 1)) := Nat.mul_le_mul_left _ (by omega)
    simp only [oc]
    rw [Nat.pow_succ, Nat.mul_assoc]
    omega
theorem oc_mono {W : Nat} (h8 : W ≤ 8) (hW : 0 < W) (m : Nat) : ∀ row c c', c ≤ c' → c' < W ^ m → oc W m row c ≤ oc W m row c' := by
  induction m with
  | zero => intro row c c' _ _; simp [oc]
  | succ m ih =>
    intro row c c' hcc hc
    have hN : 0 < W ^ m := Nat.pow_pos hW
    have hd : c / W ^ m ≤ c' / W ^ m := Nat.div_le_div_right hcc
    simp only [oc]
    by_cases e : c / W ^ m = c' / W ^ m
    · rw [← e]
      refine ih _ _ _ ?_ (Nat.mod_lt _ hN)
      have a := Nat.div_add_mod c (W ^ m)
      have b := Nat.div_add_mod c' (W ^ m)
      rw [← e] at b
      omega
    · have a := oc_hi h8 hW m (8 * row + c / W ^ m) (c % W ^ m) (Nat.mod_lt _ hN)
      have b := oc_lo (W := W) m (8 * row + c' / W ^ m) (c' % W ^ m)
      have c1 : 8 ^ m * (8 * row + c / W ^ m + 1) ≤ 8 ^ m * (8 * row + c' / W ^ m) := Nat.mul_le_mul_left _ (by omega)
      omega
theorem rs_lt {W m c : Nat} (hW : 0 < W) (hc : c < W ^ m) : ∀ q, q ≤ m → rs W m c q < W ^ (m - q) := by
  intro q
  induction q with
  | zero => intro _; exact hc
  | succ q ih =>
    intro hq
    show rs W m c q % W ^ (m - q - 1) < _
    rw [show m - (q + 1) = m - q - 1 by omega]
    exact Nat.mod_lt _ (Nat.pow_pos hW)
theorem dgt_lt {W m c q : Nat} (hW : 0 < W) (hc : c < W ^ m) (hq : q < m) : dgt W m c q < W := by
  have := rs_lt hW hc q (by omega)
  unfold dgt
  refine Nat.div_lt_of_lt_mul ?_
  have e : W ^ (m - q - 1) * W = W ^ (m - q) := by
    rw [← Nat.pow_succ]
    congr 1
    omega
  rw [e]
  exact this
theorem bT_ts {p W m c : Nat} {T : Tb} : ∀ q, q ≤ m → bT p W m T c = bT p W (m - q) (ts p W m c T q) (rs W m c q) := by
  intro q
  induction q with
  | zero => intro _; rfl
  | succ q ih =>
    intro hq
    rw [ih (by omega)]
    obtain ⟨r, hr⟩ : ∃ r, m - q = r + 1 := ⟨m - q - 1, by omega⟩
    have e : m - (q + 1) = r := by omega
    have e2 : m - q - 1 = r := by omega
    rw [e, hr]
    simp only [bT, ts, rs, dgt, e2]
theorem oc_rw {W m c : Nat} : ∀ q, q ≤ m → oc W m 0 c = oc W (m - q) (rw8 W m c q) (rs W m c q) := by
  intro q
  induction q with
  | zero => intro _; rfl
  | succ q ih =>
    intro hq
    rw [ih (by omega)]
    obtain ⟨r, hr⟩ : ∃ r, m - q = r + 1 := ⟨m - q - 1, by omega⟩
    have e : m - (q + 1) = r := by omega
    have e2 : m - q - 1 = r := by omega
    rw [e, hr]
    simp only [oc, rw8, rs, dgt, e2]
theorem oc_dgt {W m c j : Nat} (h8 : W ≤ 8) (hW : 0 < W) (hc : c < W ^ m) (hj : j < m) : oc W m 0 c / 8 ^ (m - 1 - j) % 8 = dgt W m c j := by
  rw [oc_rw (j + 1) (by omega)]
  have lo := oc_lo (W := W) (m - (j + 1)) (rw8 W m c (j + 1)) (rs W m c (j + 1))
  have hi := oc_hi h8 hW (m - (j + 1)) (rw8 W m c (j + 1)) (rs W m c (j + 1)) (rs_lt hW hc (j + 1) (by omega))
  have hd := dgt_lt hW hc hj
  rw [show m - 1 - j = m - (j + 1) by omega]
  have hp : 0 < 8 ^ (m - (j + 1)) := Nat.pow_pos (by decide)
  have e : oc W (m - (j + 1)) (rw8 W m c (j + 1)) (rs W m c (j + 1)) / 8 ^ (m - (j + 1)) = rw8 W m c (j + 1) := by
    refine Nat.div_eq_of_lt_le ?_ ?_
    · rw [Nat.mul_comm]; exact lo
    · rw [Nat.mul_comm]; exact hi
  rw [e]
  show (8 * rw8 W m c j + dgt W m c j) % 8 = _
  omega
theorem W512 {W m : Nat} (h8 : W ≤ 8) (h3 : m ≤ 3) : W ^ m ≤ 512 := by
  have a : W ^ m ≤ 8 ^ m := Nat.pow_le_pow_left h8 m
  have b : 8 ^ m ≤ 8 ^ 3 := Nat.pow_le_pow_right (by decide) h3
  omega
theorem pow_dv {W q : Nat} (hW : 0 < W) : W ^ (q + 1) / W = W ^ q := by
  rw [Nat.pow_succ, Nat.mul_div_cancel _ hW]
section MQ
variable {σ σ' : St} {X : Nat → Nat} {n : Nat} {T T' : Tb} {U : Nat → Tb} {u : Nat} {K : Nat → Tb} {k : Nat} {H : Nat → Nat × Nat × Nat} {h : Nat}
/-- the best code among those before i, the first of them, and what it is worth -/
def bst (f : Nat → Nat) (i c : Nat) (most : Int32) : Prop := (i = 0 ∧ c = 0 ∧ most = -1) ∨ (c < i ∧ most = nI (f c) ∧ (∀ j, j < i → f j ≤ f c) ∧ ∀ j, j < c → f j < f c)
theorem bst_step {f : Nat → Nat} {i c : Nat} {most : Int32} (hf : ∀ j, f j ≤ 8) (hb : bst f i c most) : (nI (f i) ≤ most → bst f (i + 1) c most ∧ f_X4_larger most (nI (f i)) σ = some (most, σ)) ∧ (¬ nI (f i) ≤ most → bst f (i + 1) i (nI (f i)) ∧ f_X4_larger most (nI (f i)) σ = some (nI (f i), σ)) := by
  have hfi := hf i
  unfold f_X4_larger
  rcases hb with ⟨h1, h2, h3⟩ | ⟨h1, h2, h3, h4⟩
  · refine ⟨fun z => ?_, fun z => ?_⟩
    · rw [h3] at z; exact absurd z (m1_lt _ (by omega))
    · rw [if_neg z]
      exact ⟨Or.inr ⟨by omega, rfl, fun j hj => by rw [show j = i by omega]; exact Nat.le_refl _, fun j hj => by omega⟩, rfl⟩
  · have hfc := hf c
    have e : (nI (f i) ≤ most) ↔ f i ≤ f c := by rw [h2, nI_leI (by omega) (by omega)]
    refine ⟨fun z => ?_, fun z => ?_⟩
    · rw [if_pos z]
      have z := e.mp z
      refine ⟨Or.inr ⟨by omega, h2, fun j hj => ?_, h4⟩, rfl⟩
      by_cases hz : j = i
      · rw [hz]; exact z
      · exact h3 j (by omega)
    · rw [if_neg z]
      have z : ¬ f i ≤ f c := fun y => z (e.mpr y)
      refine ⟨Or.inr ⟨by omega, rfl, fun j hj => ?_, fun j hj => ?_⟩, rfl⟩
      · by_cases hz : j = i
        · rw [hz]; exact Nat.le_refl _
        · have := h3 j (by omega); omega
      · have := h3 j (by omega); omega
theorem m_best (hR : RM σ X n T U u K k H h) (hg : gOk X n T U u K k H h) {p m : Nat} {b : Int32} (hp : p < tN T) (h1 : 1 ≤ m) (h3 : m ≤ 3) (hb : b = -1 ∨ ∃ j, j ≤ 2 ∧ b = nI j) : Ok (f_X4_best (nI p) (nI m) b σ) (fun q => q.1 = bestV p m T b ∧ RM q.2 X n T U u K k H h) := by
  have hwf := hg.2.1.1
  have h8 := hwf.1
  have hW := hg.2.1.2.1
  have hWm : 0 < tW T ^ m := Nat.pow_pos hW
  have h512 := W512 h8 h3
  unfold f_X4_best
  refine Ok_bindE (on_yes hR hg hp) ?_
  dsimp only
  rw [if_neg (by decide)]
  refine Ok_bindE (inN (l := 1) (m := 3) σ (by omega) (by omega) (by omega) h1 h3) ?_
  dsimp only
  rw [if_neg (by decide)]
  have ein : f_X4_in b.toInt64 (-1 : Int64) (2 : Int64) σ = some (1, σ) := by
    have e := in_eq b (-1) 2 σ
    rw [if_pos] at e
    · exact e
    · rcases hb with rfl | ⟨j, hj, rfl⟩
      · decide
      · have : ∀ j, j ≤ 2 → (-1 : Int32) ≤ nI j ∧ nI j ≤ 2 := by decide
        exact this j hj
  refine Ok_bindE ein ?_
  dsimp only
  rw [if_pos (by decide)]
  refine Ok_jn (fun q => q = (nI (tW T ^ m), σ)) (fun q hq => ?_) (fun k7 hk7 => ?_)
  · subst hq
    dsimp only
    have hf : ∀ c, rgtN (bT p (tW T) m T c) p ≤ 8 → True := fun _ _ => trivial
    have tsf : ∀ c, c < tW T ^ m → ∀ q, q ≤ m → wfT (ts p (tW T) m c T q) ∧ tW (ts p (tW T) m c T q) = tW T ∧ tN (ts p (tW T) m c T q) = tN T := by
      intro c hc q
      induction q with
      | zero => intro _; exact ⟨hwf, rfl, rfl⟩
      | succ q ih =>
        intro hq
        obtain ⟨w1, w2, w3⟩ := ih (by omega)
        have s1 := stat_teach (T := ts p (tW T) m c T q) (p := p) (w := dgt (tW T) m c q)
        have s2 := stat_day (T := teach (ts p (tW T) m c T q) p (dgt (tW T) m c q)) (tl := true)
        exact ⟨wf_day (wf_teach w1 (by rw [w3]; exact hp) (by rw [w2]; exact dgt_lt hW hc (by omega))), s2.1.trans (s1.1.trans w2), s2.2.1.trans (s1.2.1.trans w3)⟩
    have bTe : ∀ c, bT p (tW T) m T c = ts p (tW T) m c T m := fun c => by
      rw [bT_ts m (Nat.le_refl _), Nat.sub_self]; rfl
    generalize hfd : (fun c => if c < tW T ^ m then rgtN (bT p (tW T) m T c) p else 0) = f
    have fv : ∀ c, c < tW T ^ m → f c = rgtN (bT p (tW T) m T c) p := fun c hc => by rw [← hfd]; dsimp only; rw [if_pos hc]
    have f8 : ∀ c, f c ≤ 8 := fun c => by
      rw [← hfd]
      dsimp only
      by_cases hc : c < tW T ^ m
      · rw [if_pos hc, bTe]; exact rgtN_le (tsf c hc m (Nat.le_refl _)).1
      · rw [if_neg hc]; omega
    refine Ok_for (fun i x => ∃ c, x.1 = nI c ∧ bst f i c x.2.1 ∧ x.2.2.1 = nI i ∧ RM x.2.2.2 X n T U u K k H h) 0 (tW T ^ m) _ ⟨0, rfl, Or.inl ⟨rfl, rfl, rfl⟩, rfl, hR⟩ (Nat.zero_le _) (by omega) (fun rec i x _ hi hx hr => ?_) (fun rec x hx => ?_)
    · obtain ⟨c, e1, bc, e3, r1⟩ := hx
      rw [e1, e3, if_neg (by rw [nI_leI (by omega) (by omega)]; omega)]
      refine Ok_bind (trialR r1 hg) (fun q1 h1 => ?_)
      refine Ok_for (fun q y => y.1 = nI (tW T ^ (m - q)) ∧ y.2.1 = nI (rs (tW T) m i q) ∧ y.2.2.1 = nI q ∧ MB y.2.2.2 1001 (ts p (tW T) m i T q) ∧ RM y.2.2.2 X n T U u K k H h) 0 m _ ⟨rfl, rfl, rfl, h1.1, h1.2⟩ (Nat.zero_le _) (by omega) (fun rec2 q y _ hq hy hr2 => ?_) (fun rec2 y hy => ?_)
      · obtain ⟨e4, e5, e6, m4, r4⟩ := hy
        obtain ⟨w1, w2, w3⟩ := tsf i hi q (by omega)
        have hpw : tW T ^ (m - q) ≤ 512 := W512 h8 (by omega)
        have hpw2 : tW T ^ (m - q - 1) ≤ 512 := W512 h8 (by omega)
        have hpp : 0 < tW T ^ (m - q - 1) := Nat.pow_pos hW
        have hrs := rs_lt hW hi q (by omega)
        have hd := dgt_lt hW hi hq
        have s1 := stat_teach (T := ts p (tW T) m i T q) (p := p) (w := dgt (tW T) m i q)
        have ed : nI (tW T ^ (m - q)) / nI (tW T) = nI (tW T ^ (m - q - 1)) := by
          rw [div_nI (by omega) (by omega) (by omega)]
          congr 1
          have := pow_dv (q := m - q - 1) hW
          rw [show m - q - 1 + 1 = m - q by omega] at this
          exact this
        simp only [e4, e5, e6, m4.1.1, w2]
        rw [if_neg (by rw [nI_leI (by omega) (by omega)]; omega), if_neg (by rw [nI_eq0 (by omega)]; omega), ed]
        refine Ok_nm ?_
        have hnz : ¬ nI (tW T ^ (m - q - 1)) = 0 := by rw [nI_eq0 (by omega)]; omega
        rw [if_neg hnz, rem_nI (by omega) (by omega) (by omega), div_nI (by omega) (by omega) (by omega)]
        refine Ok_bind (learnsM (b := 1001) (w := dgt (tW T) m i q) m4 w1 (by omega) (by rw [w3]; exact hp) (by rw [w2]; exact hd)) (fun q2 h2 => ?_)
        rw [if_neg hnz]
        refine Ok_nm ?_
        have wt := wf_teach w1 (show p < tN (ts p (tW T) m i T q) by rw [w3]; exact hp) (show dgt (tW T) m i q < tW (ts p (tW T) m i T q) by rw [w2]; exact hd)
        refine Ok_bind (dayM (tl := true) (b := 1001) h2.1 wt (by omega)) (fun q3 h3 => ?_)
        refine Ok_nm (hr2 _ ⟨?_, rfl, ?_, h3.1, RM_scr (RM_scr r4 hg (Mr_s h2.2)) hg h3.2⟩)
        · dsimp only; rw [show m - (q + 1) = m - q - 1 by omega]
        · show nI q + 1 = nI (q + 1); rw [z1, nI_add]
      · obtain ⟨e4, e5, e6, m4, r4⟩ := hy
        obtain ⟨w1, w2, w3⟩ := tsf i hi m (Nat.le_refl _)
        rw [e6, if_pos (by rw [nI_leI (by omega) (by omega)]; exact Nat.le_refl _)]
        refine Ok_bindE (rightM (b := 1001) m4 w1 (by omega) (by rw [w3]; exact hp)) ?_
        refine Ok_bindE (bitsR w1) ?_
        have ev : rgtN (ts p (tW T) m i T m) p = f i := by rw [fv i hi, bTe]
        rw [ev]
        have st := bst_step (σ := y.2.2.2) f8 bc
        by_cases hc : nI (f i) ≤ x.2.1
        · refine Ok_jn (fun q => q = (nI c, y.2.2.2)) (fun q hq => ?_) (fun k30 hk30 => ?_)
          · subst hq
            refine Ok_bindE (st.1 hc).2 ?_
            refine Ok_nm (hr _ ⟨c, rfl, (st.1 hc).1, ?_, r4⟩)
            show nI i + 1 = nI (i + 1); rw [z1, nI_add]
          · rw [if_pos hc]
            exact hk30 _ rfl
        · refine Ok_jn (fun q => q = (nI i, y.2.2.2)) (fun q hq => ?_) (fun k30 hk30 => ?_)
          · subst hq
            refine Ok_bindE (st.2 hc).2 ?_
            refine Ok_nm (hr _ ⟨i, rfl, (st.2 hc).1, ?_, r4⟩)
            show nI i + 1 = nI (i + 1); rw [z1, nI_add]
          · rw [if_neg hc]
            exact hk30 _ rfl
    · obtain ⟨c, e1, bc, e3, r1⟩ := hx
      obtain ⟨hcl, emost, ball, bfst⟩ := bc.resolve_left (fun z => by omega)
      have hoc : oc (tW T) m 0 c < 8 ^ m * (0 + 1) := oc_hi h8 hW m 0 c hcl
      have h8m : 8 ^ m ≤ 512 := W512 (Nat.le_refl 8) h3
      have hbE : bE p m T 0 = 512 * f c + 511 - oc (tW T) m 0 c := by
        rw [bE_codes m T 0 hW]
        refine maxTo_uniq (fun i hi => ?_) ⟨c, hcl, ?_⟩
        · rw [← fv i hi]
          by_cases hz : f i = f c
          · have : c ≤ i := Nat.not_lt.mp (fun y => by have := bfst i y; omega)
            have := oc_mono h8 hW m 0 c i this hi
            omega
          · have := ball i hi
            omega
        · rw [fv c hcl]
      have hfc := f8 c
      have q1 : bE p m T 0 / 512 = f c := by omega
      have q2 : bestR p m T = oc (tW T) m 0 c := by unfold bestR; omega
      rw [e1, e3, if_pos (by rw [nI_leI (by omega) (by omega)]; exact Nat.le_refl _)]
      have key : ∀ (e : Nat), e ≤ m → ∀ (v : Int32), (∀ j, j ≤ 2 → b = nI j → (e = if j < m then j + 1 else m)) → (b = -1 → e = 0) → Ok (lp (fun (r12 : Int32 × Int32 × Int32 × Int32 × St → Option _) (b12 : Int32 × Int32 × Int32 × Int32 × St) => jn (fun (q13 : St) => (if 0 ≤ b then (if b < nI m then some (b12.2.2.1, q13) else some ((-4 : Int32), q13)) else some (x.2.1, q13))) (fun k13 => (if b < b12.2.2.2.1 then k13 b12.2.2.2.2 else (if nI m ≤ b12.2.2.2.1 then k13 b12.2.2.2.2 else (if (b12.2.2.2.2 0 0) = 0 then none else nm ((b12.1 / (b12.2.2.2.2 0 0))) (fun x17 => (if x17 = 0 then none else nm ((b12.2.1 / x17)) (fun x19 => (if x17 = 0 then none else nm ((b12.2.1 - b12.2.1 / x17 * x17)) (fun x21 => nm (b12.2.2.2.1 + (1 : Int32)) (fun x22 => r12 (x17, x21, x19, x22, b12.2.2.2.2)))))))))))) FU (nI (tW T ^ m), nI c, (-4 : Int32), (0 : Int32), x.2.2.2)) (fun q => q.1 = bestV p m T b ∧ RM q.2 X n T U u K k H h) := by
        intro e he v hej he0
        refine Ok_for (fun q y => y.1 = nI (tW T ^ (m - q)) ∧ y.2.1 = nI (rs (tW T) m c q) ∧ (0 < q → y.2.2.1 = nI (dgt (tW T) m c (q - 1))) ∧ y.2.2.2.1 = nI q ∧ y.2.2.2.2 = x.2.2.2) 0 e _ ⟨rfl, rfl, fun z => by omega, rfl, rfl⟩ (Nat.zero_le _) (by omega) (fun rec2 q y _ hq hy hr2 => ?_) (fun rec2 y hy => ?_)
        · obtain ⟨e4, e5, e6, e7, e8⟩ := hy
          have hpw : tW T ^ (m - q) ≤ 512 := W512 h8 (by omega)
          have hpw2 : tW T ^ (m - q - 1) ≤ 512 := W512 h8 (by omega)
          have hpp : 0 < tW T ^ (m - q - 1) := Nat.pow_pos hW
          have hrs := rs_lt hW hcl q (by omega)
          have ed : nI (tW T ^ (m - q)) / nI (tW T) = nI (tW T ^ (m - q - 1)) := by
            rw [div_nI (by omega) (by omega) (by omega)]
            congr 1
            have := pow_dv (q := m - q - 1) hW
            rw [show m - q - 1 + 1 = m - q by omega] at this
            exact this
          refine Ok_jn (fun _ => False) (fun q hq => hq.elim) (fun k13 _ => ?_)
          rcases hb with rfl | ⟨j, hj, rfl⟩
          · have := he0 rfl; omega
          · have hee := hej j hj rfl
            simp only [e4, e5, e7, e8, r1.2.1.1.1]
            rw [if_neg (by rw [nI_ltI (by omega) (by omega)]; split at hee <;> omega), if_neg (by rw [nI_leI (by omega) (by omega)]; omega), if_neg (by rw [nI_eq0 (by omega)]; omega), ed]
            refine Ok_nm ?_
            have hnz : ¬ nI (tW T ^ (m - q - 1)) = 0 := by rw [nI_eq0 (by omega)]; omega
            rw [if_neg hnz, rem_nI (by omega) (by omega) (by omega), div_nI (by omega) (by omega) (by omega)]
            refine Ok_nm ?_
            rw [if_neg hnz]
            refine Ok_nm (Ok_nm (hr2 _ ⟨?_, rfl, fun _ => ?_, ?_, rfl⟩))
            · dsimp only; rw [show m - (q + 1) = m - q - 1 by omega]
            · dsimp only; rw [Nat.add_sub_cancel]; rfl
            · show nI q + 1 = nI (q + 1); rw [z1, nI_add]
        · obtain ⟨e4, e5, e6, e7, e8⟩ := hy
          refine Ok_jn (fun q => q = x.2.2.2) (fun q hq => ?_) (fun k13 hk13 => ?_)
          · subst hq
            unfold bestV
            rcases hb with rfl | ⟨j, hj, rfl⟩
            · rw [if_neg (by decide), if_pos rfl, q1]
              exact Ok_some ⟨emost, r1⟩
            · have hne : ¬ nI j = -1 := fun e => by
                have h2 := nI_pos' (n := j) (by omega)
                rw [e] at h2; exact absurd h2 (by decide)
              have hee := hej j hj rfl
              rw [if_pos (by rw [nI_0le (by omega)]; trivial), if_neg hne, nI_clamp (by omega)]
              simp (disch := omega) only [nI_ltI]
              by_cases hjm : j < m
              · rw [if_pos hjm] at hee
                rw [if_pos hjm, if_pos hjm, q2, oc_dgt h8 hW hcl hjm, e6 (by omega)]
                refine Ok_some ⟨?_, r1⟩
                dsimp only
                rw [hee, Nat.add_sub_cancel]
              · rw [if_neg hjm, if_neg hjm]
                exact Ok_some ⟨rfl, r1⟩
          · rw [e7, e8]
            refine Ok_ite (fun _ => hk13 _ rfl) (fun hc1 => Ok_ite (fun _ => hk13 _ rfl) (fun hc2 => ?_))
            exfalso
            rw [nI_leI (by omega) (by omega)] at hc2
            rcases hb with rfl | ⟨j, hj, rfl⟩
            · have := he0 rfl
              subst this
              exact hc1 (by decide)
            · have hee := hej j hj rfl
              rw [nI_ltI (by omega) (by omega)] at hc1
              split at hee <;> omega
      rcases hb with rfl | ⟨j, hj, rfl⟩
      · refine key 0 (by omega) 0 (fun j hj e => ?_) (fun _ => rfl)
        exfalso
        have h2 := nI_pos' (n := j) (by omega)
        rw [← e] at h2; exact absurd h2 (by decide)
      · refine key (if j < m then j + 1 else m) (by split <;> omega) 0 (fun j2 hj2 e => ?_) (fun e => ?_)
        · rw [nI_eq (by omega) (by omega)] at e
          rw [e]
        · exfalso
          have h2 := nI_pos' (n := j) (by omega)
          rw [e] at h2; exact absurd h2 (by decide)
  · rw [hR.2.1.1.1, z1, z2]
    simp (disch := omega) only [nI_eq]
    have hm3 : m = 1 ∨ m = 2 ∨ m = 3 := by omega
    rcases hm3 with rfl | rfl | rfl
    · rw [if_neg (fun z => z rfl)]
      refine hk7 _ ?_
      rw [Nat.pow_one]
    · rw [if_pos (by decide), if_neg (fun z => z rfl), pk_mul]
      refine hk7 _ ?_
      rw [Nat.pow_two]
    · rw [if_pos (by decide), if_pos (by decide), pk_mul, pk_mul]
      refine hk7 _ ?_
      rw [Nat.pow_succ, Nat.pow_two]
theorem m_best_bad (hR : RM σ X n T U u K k H h) (hg : gOk X n T U u K k H h) {a b c : Int32} (ha : ¬ inR a (tN T) ∨ b < 1 ∨ 3 < b ∨ c < -1 ∨ ¬ c ≤ 2) : f_X4_best a b c σ = some (-1, σ) := by
  refine Ok_eq ?_
  unfold f_X4_best
  by_cases h0 : inR a (tN T)
  · obtain ⟨p, hp, rfl⟩ := h0
    refine Ok_bindE (on_yes hR hg hp) ?_
    dsimp only
    rw [if_neg (by decide)]
    refine Ok_bindE (in_eq b 1 3 σ) ?_
    dsimp only
    by_cases h1 : (1 : Int32) ≤ b ∧ b ≤ 3
    · rw [if_pos h1, if_neg (by decide)]
      refine Ok_bindE (in_bad (l := -1) (m := 2) σ ?_) ?_
      · rcases ha with z | z | z | z
        · exact absurd ⟨p, hp, rfl⟩ z
        · exact absurd z (Int32.not_lt.mpr h1.1)
        · exact absurd z (Int32.not_lt.mpr h1.2)
        · exact z
      · exact Ok_some rfl
    · rw [if_neg h1, if_pos rfl]; exact Ok_some rfl
  · refine Ok_bindE (on_no hR hg h0) ?_
    exact Ok_some rfl
end MQ
