/-! the other program: years, hail -/
section MY
variable {σ σ' : St} {X : Nat → Nat} {n : Nat} {T T' : Tb} {U : Nat → Tb} {u : Nat} {K : Nat → Tb} {k : Nat} {H : Nat → Nat × Nat × Nat} {h : Nat}
theorem doesM {b d : Nat} (hM : MB σ b T) (hw : wfT T) (hb : b ≤ 1001) (hW : 0 < tW T) (hN : 0 < tN T) (hd : d < 65521) : Ok (f_X4_does (nI b) (nI d) σ) (fun x => MB x.2 b (befall T d) ∧ Ms σ x.2 b) := by
  have hT8 := hw.1
  have hN5 := hw.2.1
  have a1 := Nat.mod_lt (d / 8) hN
  have a2 := Nat.mod_lt (d / 64) hN
  have a3 := Nat.mod_lt (d / 64) hW
  have hs := hw.2.2.2.2.1 _ a3
  have z64 : (64 : Int32) = nI 64 := rfl
  unfold f_X4_does
  simp only [hM.1.1, hM.1.2.1, z8, z64]
  have m8 : nI d - nI d / nI 8 * nI 8 = nI (d % 8) := rem_nI (by omega) (by omega) (by omega)
  have q8 : nI d / nI 8 = nI (d / 8) := div_nI (by omega) (by omega) (by omega)
  have q64 : nI d / nI 64 = nI (d / 64) := div_nI (by omega) (by omega) (by omega)
  have r1 : nI (d / 8) - nI (d / 8) / nI (tN T) * nI (tN T) = nI (d / 8 % tN T) := rem_nI (by omega) (by omega) (by omega)
  have r2 : nI (d / 64) - nI (d / 64) / nI (tN T) * nI (tN T) = nI (d / 64 % tN T) := rem_nI (by omega) (by omega) (by omega)
  have r3 : nI (d / 64) - nI (d / 64) / nI (tW T) * nI (tW T) = nI (d / 64 % tW T) := rem_nI (by omega) (by omega) (by omega)
  rw [m8, q8, q64, r1, r2, r3]
  have nz1 : ¬ nI (tN T) = 0 := by rw [nI_eq0 (by omega)]; omega
  have nz2 : ¬ nI (tW T) = 0 := by rw [nI_eq0 (by omega)]; omega
  refine Ok_nm ?_
  rw [if_neg nz1]
  refine Ok_nm ?_
  rw [if_neg nz2]
  refine Ok_nm ?_
  rw [if_neg nz1]
  refine Ok_nm ?_
  unfold befall
  refine Ok_ite (fun hc => ?_) (fun hc => ?_)
  · rw [z4, nI_leI (by omega) (by omega)] at hc
    rw [if_neg (by omega)]
    refine Ok_jn (fun x => x = σ ∧ ¬ (d % 8 = 4 ∧ way T (d / 8 % tN T) (d / 64 % tW T) < 10 ∧ way T (d / 8 % tN T) (d / 64 % tW T) ≠ snd T (d / 64 % tW T))) (fun x hx => ?_) (fun k hk => ?_)
    · obtain ⟨rfl, hx⟩ := hx
      rw [if_neg hx]
      refine Ok_ite (fun h5 => ?_) (fun h5 => ?_)
      · rw [z5, nI_eq (by omega) (by omega)] at h5
        rw [if_neg (fun z => h5 z.1)]
        exact Ok_some ⟨hM, Ms_rf⟩
      · rw [z5, nI_eq (by omega) (by omega)] at h5
        refine Ok_ite (fun h6 => ?_) (fun h6 => ?_)
        · rw [nI_eq (by omega) (by omega)] at h6
          rw [if_neg (fun z => z.2 h6)]
          exact Ok_some ⟨hM, Ms_rf⟩
        · rw [nI_eq (by omega) (by omega)] at h6
          rw [if_pos ⟨Classical.not_not.mp h5, h6⟩]
          refine Ok_bind (swapsM hM hw hb a1 a2) (fun x hx => Ok_some hx)
    · refine Ok_ite (fun h4 => ?_) (fun h4 => ?_)
      · rw [z4, nI_eq (by omega) (by omega)] at h4
        exact hk _ ⟨rfl, fun z => h4 z.1⟩
      · rw [z4, nI_eq (by omega) (by omega)] at h4
        refine Ok_bindE (canMendM hM hw hb a1 a3) ?_
        dsimp only
        by_cases h6 : way T (d / 8 % tN T) (d / 64 % tW T) < 10 ∧ way T (d / 8 % tN T) (d / 64 % tW T) ≠ snd T (d / 64 % tW T)
        · rw [if_pos h6, if_neg (by decide), if_neg (in_nI (by omega) (by decide)), nI_clamp (by omega), hM.1.2.2.2 _ a3, if_pos ⟨Classical.not_not.mp h4, h6⟩]
          refine Ok_bind (getsM hM hw hb a1 a3 (by omega)) (fun x hx => Ok_some hx)
        · rw [if_neg h6, if_pos rfl]
          exact hk _ ⟨rfl, fun z => h6 z.2⟩
  · rw [z4, nI_leI (by omega) (by omega)] at hc
    rw [if_pos (by omega)]
    refine Ok_bind (learnsM hM hw hb a1 a3) (fun x hx => Ok_some hx)
theorem drawM {z j : Nat} (hz : z ≤ 9999) (hj : j < 60) {R : Int64} (hR : R = (((7919 : Int64) * (nI z).toInt64) + ((6151 : Int64) * (nI j).toInt64)) + (1 : Int64)) : ((R * R) - (R * R) / (65521 : Int64) * (65521 : Int64)).toInt32 = nI (drw z j) := by
  have e := draw_eq (σ := fun _ _ => 0) hz hj
  unfold f_X3_draw at e
  simp only [nm] at e
  rw [← hR] at e
  have := Option.some.inj e
  exact congrArg Prod.fst this
theorem m_year (hR : RM σ X n T U u K k H h) (hg : gOk X n T U u K k H h) {z m : Nat} {b : Int32} (hz : z ≤ 9999) (h1 : 1 ≤ m) (h60 : m ≤ 60) (hb0 : ¬ b < 0) (hb1 : b ≤ 1) : Ok (f_X4_year (nI z) (nI m) b σ) (fun q => q.1 = yearV z m T b ∧ RM q.2 X n T U u K k H h) := by
  unfold f_X4_year
  refine Ok_bindE (inN (l := 0) (m := 9999) σ (by omega) (by omega) (by omega) (by omega) hz) ?_
  dsimp only
  rw [if_neg (by decide)]
  refine Ok_bindE (inN (l := 1) (m := 60) σ (by omega) (by omega) (by omega) h1 h60) ?_
  dsimp only
  rw [if_neg (by decide)]
  refine Ok_bindE (in01 σ hb0 hb1) ?_
  dsimp only
  rw [if_pos (by decide)]
  refine Ok_bind (trialR hR hg) (fun q1 h1 => ?_)
  refine Ok_for (fun i s => s.1 = nI i ∧ MB s.2 1001 (yr z T i) ∧ RM s.2 X n T U u K k H h) 0 m _ ⟨rfl, h1.1, h1.2⟩ (Nat.zero_le _) (by omega) (fun rec i s _ hi hs hr => ?_) (fun rec s hs => ?_)
  · obtain ⟨e1, c1, f1⟩ := hs
    obtain ⟨w1, a1, a2⟩ := yr_facts (z := z) hg.2.1.1 hg.2.1.2.1 hg.2.1.2.2 i
    rw [e1, if_neg (by rw [nI_leI (by omega) (by omega)]; omega)]
    refine Ok_nm ?_
    rw [drawM hz (show i < 60 by omega) rfl]
    have wb := wf_befall (d := drw z i) w1 (by rw [a1]; exact hg.2.1.2.1) (by rw [a2]; exact hg.2.1.2.2)
    refine Ok_bind (doesM (b := 1001) c1 w1 (by omega) (by rw [a1]; exact hg.2.1.2.1) (by rw [a2]; exact hg.2.1.2.2) (drw_lt _ _)) (fun q2 h2 => ?_)
    refine Ok_bind (dayM (tl := true) (b := 1001) h2.1 wb (by omega)) (fun q3 h3 => ?_)
    refine Ok_nm (hr _ ⟨?_, h3.1, RM_scr (RM_scr f1 hg (Mr_s h2.2)) hg h3.2⟩)
    show nI i + 1 = nI (i + 1); rw [z1, nI_add]
  · obtain ⟨e1, c1, f1⟩ := hs
    obtain ⟨w1, a1, a2⟩ := yr_facts (z := z) hg.2.1.1 hg.2.1.2.1 hg.2.1.2.2 m
    rw [e1, if_pos (by rw [nI_leI (by omega) (by omega)]; exact Nat.le_refl _)]
    unfold yearV
    refine Ok_ite (fun hc => ?_) (fun hc => ?_)
    · rw [if_neg hc]
      refine Ok_bindE (rightsM (b := 1001) c1 w1 (by omega)) ?_
      exact Ok_some ⟨rfl, f1⟩
    · rw [if_pos (Classical.not_not.mp hc)]
      refine Ok_bindE (speakersM (b := 1001) c1 w1 (by omega)) ?_
      exact Ok_some ⟨rfl, f1⟩
theorem m_year_bad {a b c : Int32} (ha : a < 0 ∨ 9999 < a ∨ b < 1 ∨ 60 < b ∨ c < 0 ∨ ¬ c ≤ 1) : f_X4_year a b c σ = some (-1, σ) := by
  refine Ok_eq ?_
  unfold f_X4_year
  refine Ok_bindE (in_eq a 0 9999 σ) ?_
  dsimp only
  by_cases h1 : (0 : Int32) ≤ a ∧ a ≤ 9999
  · rw [if_pos h1, if_neg (by decide)]
    refine Ok_bindE (in_eq b 1 60 σ) ?_
    dsimp only
    by_cases h2 : (1 : Int32) ≤ b ∧ b ≤ 60
    · rw [if_pos h2, if_neg (by decide)]
      refine Ok_bindE (in_bad01 ?_ σ) ?_
      · rcases ha with z | z | z | z | z | z
        · exact absurd z (Int32.not_lt.mpr h1.1)
        · exact absurd z (Int32.not_lt.mpr h1.2)
        · exact absurd z (Int32.not_lt.mpr h2.1)
        · exact absurd z (Int32.not_lt.mpr h2.2)
        · exact Or.inl z
        · exact Or.inr z
      · exact Ok_some rfl
    · rw [if_neg h2, if_pos rfl]; exact Ok_some rfl
  · rw [if_neg h1, if_pos rfl]; exact Ok_some rfl
/-! hail: the weights of all the sets of days, summed -/
def hT (T : Tb) (s : Nat) : Nat → Tb
  | 0 => T
  | j + 1 => day (hT T s j) (!s.testBit j)
def hW (x s : Nat) : Nat → Nat
  | 0 => 1
  | j + 1 => hW x s j * (if s.testBit j = true then x else 10 - x)
def hV (p : Nat) (T : Tb) : Nat := if tS T ≤ rgtN T p then 1 else 0
theorem hT_sh (T : Tb) (s j : Nat) : hT T s (j + 1) = hT (day T (!s.testBit 0)) (s / 2) j := by
  induction j with
  | zero => rfl
  | succ j ih =>
    show day (hT T s (j + 1)) (!s.testBit (j + 1)) = day (hT _ _ j) (!(s / 2).testBit j)
    rw [ih, Nat.testBit_succ]
theorem hW_sh (x s j : Nat) : hW x s (j + 1) = (if s.testBit 0 = true then x else 10 - x) * hW x (s / 2) j := by
  induction j with
  | zero => simp [hW]
  | succ j ih =>
    show hW x s (j + 1) * (if s.testBit (j + 1) = true then x else 10 - x) = _ * (hW x (s / 2) j * (if (s / 2).testBit j = true then x else 10 - x))
    rw [ih, Nat.testBit_succ, Nat.mul_assoc]
theorem wf_hT {s j : Nat} (hw : wfT T) : wfT (hT T s j) := by
  induction j with
  | zero => exact hw
  | succ j ih => exact wf_day ih
theorem stat_hT {s j : Nat} : stat T (hT T s j) := by
  induction j with
  | zero => exact stat_rf
  | succ j ih => exact stat_tr ih stat_day
theorem sumN_two (f : Nat → Nat) (N : Nat) : sumN f (2 * N) = sumN (fun s => f (2 * s) + f (2 * s + 1)) N := by
  induction N with
  | zero => rfl
  | succ N ih =>
    rw [show 2 * (N + 1) = 2 * N + 1 + 1 by omega]
    simp only [sumN]
    rw [ih]; omega
theorem sumN_add (f g : Nat → Nat) (N : Nat) : sumN (fun s => f s + g s) N = sumN f N + sumN g N := by
  induction N with
  | zero => rfl
  | succ N ih => simp only [sumN]; rw [ih]; omega
theorem sumN_mul (c : Nat) (g : Nat → Nat) (N : Nat) : sumN (fun s => c * g s) N = c * sumN g N := by
  induction N with
  | zero => rfl
  | succ N ih => simp only [sumN]; rw [ih, Nat.mul_add]
theorem sumN_mono (f : Nat → Nat) {i N : Nat} (hi : i ≤ N) : sumN f i ≤ sumN f N := by
  induction N with
  | zero => rw [show i = 0 by omega]; exact Nat.le_refl _
  | succ N ih =>
    by_cases e : i = N + 1
    · rw [e]; exact Nat.le_refl _
    · have := ih (by omega)
      simp only [sumN]; omega
theorem tb_e0 (s : Nat) : (2 * s).testBit 0 = false := by simp [Nat.testBit_zero]
theorem tb_o0 (s : Nat) : (2 * s + 1).testBit 0 = true := by simp [Nat.testBit_zero]
theorem hl_sum {p x : Nat} (m : Nat) : ∀ (T : Tb), sumN (fun s => hW x s m * hV p (hT T s m)) (2 ^ m) = hl p x m T := by
  induction m with
  | zero =>
    intro T
    show 0 + 1 * hV p T = hV p T
    rw [Nat.zero_add, Nat.one_mul]
  | succ m ih =>
    intro T
    rw [Nat.pow_succ, Nat.mul_comm, sumN_two]
    have e : ∀ s, hW x (2 * s) (m + 1) * hV p (hT T (2 * s) (m + 1)) + hW x (2 * s + 1) (m + 1) * hV p (hT T (2 * s + 1) (m + 1)) = (10 - x) * (hW x s m * hV p (hT (day T true) s m)) + x * (hW x s m * hV p (hT (day T false) s m)) := by
      intro s
      rw [hW_sh, hW_sh, hT_sh, hT_sh, tb_e0, tb_o0, show 2 * s / 2 = s by omega, show (2 * s + 1) / 2 = s by omega]
      simp [Nat.mul_assoc]
    rw [sumN_ext (fun s _ => e s), sumN_add, sumN_mul, sumN_mul, ih, ih]
    simp only [hl]; omega
theorem all_sum {x : Nat} (hx : x ≤ 10) (m : Nat) : sumN (fun s => hW x s m) (2 ^ m) = 10 ^ m := by
  induction m with
  | zero => simp [sumN, hW]
  | succ m ih =>
    rw [Nat.pow_succ, Nat.mul_comm, sumN_two]
    have e : ∀ s, hW x (2 * s) (m + 1) + hW x (2 * s + 1) (m + 1) = 10 * hW x s m := by
      intro s
      rw [hW_sh, hW_sh, tb_e0, tb_o0, show 2 * s / 2 = s by omega, show (2 * s + 1) / 2 = s by omega]
      simp only [if_true, Bool.false_eq_true, if_false]
      rw [← Nat.add_mul, show 10 - x + x = 10 by omega]
    rw [sumN_ext (fun s _ => e s), sumN_mul, ih, Nat.pow_succ, Nat.mul_comm]
theorem hW_le {x s : Nat} (hx : x ≤ 10) (m : Nat) : hW x s m ≤ 10 ^ m := by
  induction m with
  | zero => simp [hW]
  | succ m ih =>
    simp only [hW]
    rw [Nat.pow_succ]
    refine Nat.mul_le_mul ih ?_
    split <;> omega
theorem shrS : ∀ x, x < 256 → ∀ w, w < 8 → ((((nI x >>> (nI w &&& 31)) &&& (1 : Int32)) = 1) ↔ x.testBit w = true) := by
  intro x hx w hw
  rw [shrb x hx w hw]
  by_cases hb : x.testBit w = true
  · rw [if_pos hb]; exact ⟨fun _ => hb, fun _ => rfl⟩
  · rw [if_neg hb]; exact ⟨fun z => absurd z (by decide), fun z => absurd z hb⟩
theorem m_hail (hR : RM σ X n T U u K k H h) (hg : gOk X n T U u K k H h) {p m x : Nat} {b : Int32} (hp : p < tN T) (hm : m ≤ 8) (hx : x ≤ 10) (hb0 : ¬ b < 0) (hb1 : b ≤ 1) : Ok (f_X4_hail (nI p) (nI m) (nI x) b σ) (fun q => q.1 = hailV p m x T b ∧ RM q.2 X n T U u K k H h) := by
  have hwf := hg.2.1.1
  have hle := hl_le (p := p) hx m T
  have hp10 := p10 m (by omega)
  have hpos : 0 < 10 ^ m := Nat.pow_pos (by decide)
  have h2m : 2 ^ m ≤ 256 := by
    have : 2 ^ m ≤ 2 ^ 8 := Nat.pow_le_pow_right (by decide) hm
    simpa using this
  unfold f_X4_hail
  refine Ok_bindE (on_yes hR hg hp) ?_
  dsimp only
  rw [if_neg (by decide)]
  refine Ok_bindE (inN (l := 0) (m := 8) σ (by omega) (by omega) (by omega) (by omega) hm) ?_
  dsimp only
  rw [if_neg (by decide)]
  refine Ok_bindE (inN (l := 0) (m := 10) σ (by omega) (by omega) (by omega) (by omega) hx) ?_
  dsimp only
  rw [if_neg (by decide)]
  refine Ok_bindE (in01 σ hb0 hb1) ?_
  dsimp only
  rw [if_pos (by decide), shl1 m (by omega)]
  have all := all_sum hx m
  have lsum := hl_sum (p := p) (x := x) m T
  have aS : ∀ i, i ≤ 2 ^ m → sumN (fun s => hW x s m) i ≤ 10 ^ m := fun i hi => by
    rw [← all]; exact sumN_mono _ hi
  have lS : ∀ i, i ≤ 2 ^ m → sumN (fun s => hW x s m * hV p (hT T s m)) i ≤ 10 ^ m := fun i hi => by
    refine Nat.le_trans (sumN_mono _ hi) ?_
    rw [lsum]; exact hle
  refine Ok_for (fun s y => y.1 = nI (sumN (fun s => hW x s m * hV p (hT T s m)) s) ∧ y.2.1 = nI (sumN (fun s => hW x s m) s) ∧ y.2.2.1 = nI s ∧ RM y.2.2.2 X n T U u K k H h) 0 (2 ^ m) _ ⟨rfl, rfl, rfl, hR⟩ (Nat.zero_le _) (by omega) (fun rec s y _ hs hy hr => ?_) (fun rec y hy => ?_)
  · obtain ⟨e1, e2, e3, r1⟩ := hy
    rw [e1, e2, e3, if_neg (by rw [nI_leI (by omega) (by omega)]; omega)]
    refine Ok_bind (trialR r1 hg) (fun q1 h1 => ?_)
    refine Ok_for (fun j y => y.1 = nI (hW x s j) ∧ y.2.1 = nI j ∧ MB y.2.2 1001 (hT T s j) ∧ RM y.2.2 X n T U u K k H h) 0 m _ ⟨rfl, rfl, h1.1, h1.2⟩ (Nat.zero_le _) (by omega) (fun rec2 j y _ hj hy hr2 => ?_) (fun rec2 y hy => ?_)
    · obtain ⟨e4, e5, m4, r4⟩ := hy
      rw [e4, e5, if_neg (by rw [nI_leI (by omega) (by omega)]; omega)]
      refine Ok_jn (fun q => q = ((if s.testBit j = true then (1 : Int32) else 0), y.2.2)) (fun q hq => ?_) (fun k27 hk27 => ?_)
      · subst hq
        dsimp only
        refine Ok_jn (fun q => q = (nI (if s.testBit j = true then x else 10 - x), y.2.2)) (fun q hq => ?_) (fun k29 hk29 => ?_)
        · subst hq
          dsimp only
          rw [pk_mul]
          refine Ok_nm ?_
          have et : (if s.testBit j = true then (1 : Int32) else 0) = (if (!s.testBit j) = true then 0 else 1) := by cases s.testBit j <;> rfl
          rw [et]
          refine Ok_bind (dayM (b := 1001) (tl := !s.testBit j) m4 (wf_hT hwf) (by omega)) (fun q2 h2 => ?_)
          refine Ok_nm (hr2 _ ⟨rfl, ?_, h2.1, RM_scr r4 hg h2.2⟩)
          show nI j + 1 = nI (j + 1); rw [z1, nI_add]
        · by_cases hb : s.testBit j = true
          · rw [if_pos hb, if_neg (by decide)]
            refine hk29 _ ?_
            rw [if_pos hb]
          · rw [if_neg hb, if_pos rfl]
            refine hk29 _ ?_
            rw [if_neg hb, z10, pk_sub (by omega)]
      · simp only [shrS s (by omega) j (by omega)]
        by_cases hb : s.testBit j = true
        · rw [if_neg (fun z => z hb)]
          refine hk27 _ ?_
          rw [if_pos hb]
        · rw [if_pos hb]
          refine hk27 _ ?_
          rw [if_neg hb]
    · obtain ⟨e4, e5, m4, r4⟩ := hy
      rw [e4, e5, if_pos (by rw [nI_leI (by omega) (by omega)]; exact Nat.le_refl _), nI_add]
      refine Ok_nm ?_
      have st := stat_hT (T := T) (s := s) (j := m)
      refine Ok_bindE (isSpeakerM (b := 1001) m4 (wf_hT hwf) (by omega) (by rw [st.2.1]; exact hp)) ?_
      dsimp only
      refine Ok_jn (fun q => q = (nI (hW x s m * hV p (hT T s m)), y.2.2)) (fun q hq => ?_) (fun k23 hk23 => ?_)
      · subst hq
        dsimp only
        rw [nI_add]
        refine Ok_nm (Ok_nm (hr _ ⟨rfl, rfl, ?_, r4⟩))
        show nI s + 1 = nI (s + 1); rw [z1, nI_add]
      · unfold hV at hk23
        by_cases hc : tS (hT T s m) ≤ rgtN (hT T s m) p
        · rw [if_pos hc, if_neg (by decide)]
          refine hk23 _ ?_
          rw [if_pos hc, Nat.mul_one]
        · rw [if_neg hc, if_pos rfl]
          refine hk23 _ ?_
          rw [if_neg hc, Nat.mul_zero]; rfl
  · obtain ⟨e1, e2, e3, r1⟩ := hy
    rw [e1, e2, e3, if_pos (by rw [nI_leI (by omega) (by omega)]; exact Nat.le_refl _), all, lsum]
    unfold hailV
    have hgc : Nat.gcd (hl p x m T) (10 ^ m) = Nat.gcd (10 ^ m) (hl p x m T) := Nat.gcd_comm _ _
    generalize hl p x m T = up at hle hgc ⊢
    generalize 10 ^ m = al at hle hp10 hpos hgc ⊢
    have hab : al * up < 2 ^ 54 := by
      have h1 : al * up ≤ 100000000 * 100000000 := Nat.mul_le_mul hp10 (by omega)
      have h2 : 100000000 * 100000000 < 2 ^ 54 := by decide
      omega
    have hgp : 0 < Nat.gcd al up := Nat.gcd_pos_of_pos_left _ hpos
    have hgl : Nat.gcd al up ≤ al := Nat.le_of_dvd hpos (Nat.gcd_dvd_left _ _)
    have gne : ¬ nI (Nat.gcd al up) = 0 := by rw [nI_eq0 (by omega)]; omega
    have fin : ∀ z, z = Nat.gcd al up → Ok (if ¬ b = 0 then (if nI z = 0 then none else some (nI al / nI z, y.2.2.2)) else (if nI z = 0 then none else some (nI up / nI z, y.2.2.2))) (fun q => q.1 = (if b = 0 then nI (up / Nat.gcd al up) else nI (al / Nat.gcd al up)) ∧ RM q.2 X n T U u K k H h) := by
      intro z hz
      rw [hz]
      refine Ok_ite (fun hc => ?_) (fun hc => ?_)
      · rw [if_neg gne]
        refine Ok_some ⟨?_, r1⟩
        rw [if_neg hc]
        exact div_nI (by omega) (by omega) (by omega)
      · rw [if_neg gne]
        refine Ok_some ⟨?_, r1⟩
        rw [if_pos (Classical.not_not.mp hc)]
        exact div_nI (by omega) (by omega) (by omega)
    refine Ok_for (fun i s => ∃ v w, s = (nI v, nI w, y.2.2.2) ∧ v ≤ 100000000 ∧ w ≤ 100000000 ∧ Nat.gcd v w = Nat.gcd al up ∧ ((i = 0 ∧ v = up ∧ w = al) ∨ (1 ≤ i ∧ w ≤ v ∧ 0 < v ∧ v * w < 2 ^ (55 - i)))) 0 55 _ ⟨up, al, rfl, by omega, by omega, hgc, Or.inl ⟨rfl, rfl, rfl⟩⟩ (by omega) (by omega) (fun rec i s _ hi hs hr => ?_) (fun rec s hs => ?_)
    · obtain ⟨v, w, rfl, hv, hw, hgc2, alt⟩ := hs
      dsimp only
      have hdz : (nI w = 0) ↔ w = 0 := nI_eq0 (by omega)
      refine Ok_ite (fun hc => ?_) (fun hc => ?_)
      · have hc := hdz.mp hc
        refine fin v ?_
        rw [← hgc2, hc, Nat.gcd_zero_right]
      · rw [if_neg hc]
        have hc : ¬ w = 0 := fun z => hc (hdz.mpr z)
        have hm := Nat.mod_lt v (show 0 < w by omega)
        have hgn : Nat.gcd w (v % w) = Nat.gcd al up := by
          rw [← hgc2, Nat.gcd_comm v w]
          conv => rhs; rw [Nat.gcd_rec, Nat.gcd_comm]
        refine Ok_nm (hr _ ⟨w, v % w, ?_, by omega, by omega, hgn, Or.inr ⟨by omega, by omega, by omega, ?_⟩⟩)
        · rw [rem_nI (by omega) (by omega) (by omega)]
        · rcases alt with ⟨h0, hv2, hw2⟩ | ⟨h0, hwv, hv0, hp2⟩
          · subst h0 hv2 hw2
            have : w * (v % w) ≤ w * v := Nat.mul_le_mul_left w (Nat.mod_le _ _)
            show _ < 2 ^ 54
            omega
          · have h2 : 2 * (v % w) < v := by
              have := Nat.div_add_mod v w
              have h3 : 1 ≤ v / w := Nat.div_pos hwv (by omega)
              have h4 : w * 1 ≤ w * (v / w) := Nat.mul_le_mul_left w h3
              omega
            have h5 : w * (2 * (v % w)) < w * v := Nat.mul_lt_mul_of_pos_left h2 (by omega)
            have h6 : 2 ^ (55 - i) = 2 * 2 ^ (55 - (i + 1)) := by
              rw [show 55 - i = (55 - (i + 1)) + 1 by omega, Nat.pow_succ, Nat.mul_comm]
            have h7 : w * (2 * (v % w)) = 2 * (w * (v % w)) := by rw [Nat.mul_left_comm]
            have h8 : w * v = v * w := Nat.mul_comm _ _
            omega
    · obtain ⟨v, w, rfl, hv, hw, hgc2, alt⟩ := hs
      dsimp only
      have hw0 : w = 0 := by
        rcases alt with ⟨h0, _⟩ | ⟨h0, hwv, hv0, hp2⟩
        · omega
        · have h2 : v * w = 0 := by
            have : 2 ^ (55 - 55) = 1 := rfl
            omega
          rcases Nat.mul_eq_zero.mp h2 with z | z <;> omega
      rw [if_pos (by rw [nI_eq0 (by omega)]; exact hw0)]
      refine fin v ?_
      rw [← hgc2, hw0, Nat.gcd_zero_right]
theorem m_hail_bad (hR : RM σ X n T U u K k H h) (hg : gOk X n T U u K k H h) {a b c d : Int32} (ha : ¬ inR a (tN T) ∨ b < 0 ∨ 8 < b ∨ c < 0 ∨ 10 < c ∨ d < 0 ∨ ¬ d ≤ 1) : f_X4_hail a b c d σ = some (-1, σ) := by
  refine Ok_eq ?_
  unfold f_X4_hail
  by_cases h0 : inR a (tN T)
  · obtain ⟨p, hp, rfl⟩ := h0
    refine Ok_bindE (on_yes hR hg hp) ?_
    dsimp only
    rw [if_neg (by decide)]
    refine Ok_bindE (in_eq b 0 8 σ) ?_
    dsimp only
    by_cases h1 : (0 : Int32) ≤ b ∧ b ≤ 8
    · rw [if_pos h1, if_neg (by decide)]
      refine Ok_bindE (in_eq c 0 10 σ) ?_
      dsimp only
      by_cases h2 : (0 : Int32) ≤ c ∧ c ≤ 10
      · rw [if_pos h2, if_neg (by decide)]
        refine Ok_bindE (in_bad01 ?_ σ) ?_
        · rcases ha with z | z | z | z | z | z
          · exact absurd ⟨p, hp, rfl⟩ z
          · exact absurd z (Int32.not_lt.mpr h1.1)
          · exact absurd z (Int32.not_lt.mpr h1.2)
          · exact absurd z (Int32.not_lt.mpr h2.1)
          · exact absurd z (Int32.not_lt.mpr h2.2)
          · exact z
        · exact Ok_some rfl
      · rw [if_neg h2, if_pos rfl]; exact Ok_some rfl
    · rw [if_neg h1, if_pos rfl]; exact Ok_some rfl
  · refine Ok_bindE (on_no hR hg h0) ?_
    exact Ok_some rfl
end MY
