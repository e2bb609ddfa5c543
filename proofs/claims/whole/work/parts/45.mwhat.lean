/-! the other program: mends, two, tests, other -/
def fbM (s : FB) : Int32 := match s with
  | none => -1
  | some a => nI a.2
theorem m1_lt (v : Nat) (h : v < 2147483648) : ¬ nI v ≤ (-1 : Int32) := by
  intro z
  have h2 := nI_pos' h
  have : (0 : Int32) ≤ -1 := Int32.le_trans h2 z
  exact absurd this (by decide)
theorem fb_stepM {s : FB} {i v : Nat} (hs : fbOk s) (hv : v < 1000) : (nI v ≤ fbM s → fbS s (some (i, v)) = s) ∧ (¬ nI v ≤ fbM s → fbS s (some (i, v)) = some (i, v)) := by
  cases s with
  | none => exact ⟨fun z => absurd z (m1_lt v (by omega)), fun _ => rfl⟩
  | some a =>
    have ha := hs a rfl
    have e : (nI v ≤ fbM (some a)) ↔ v ≤ a.2 := by
      show nI v ≤ nI a.2 ↔ _
      rw [nI_leI (by omega) (by omega)]
    rw [e]
    unfold fbS
    exact ⟨fun z => by simp only; rw [if_neg (by omega)], fun z => by simp only; rw [if_pos (by omega)]⟩
theorem largerM {s : FB} {i v : Nat} {σ : St} (hs : fbOk s) (hv : v < 1000) : f_X4_larger (fbM s) (nI v) σ = some (fbM (fbS s (some (i, v))), σ) := by
  have e := fb_stepM (i := i) hs hv
  unfold f_X4_larger
  by_cases hc : nI v ≤ fbM s
  · rw [if_pos hc, e.1 hc]
  · rw [if_neg hc, e.2 hc]; rfl
theorem fbI_neg {s : FB} (hs : fbOk s) : (fbI s < 0 ↔ s = none) := by
  cases s with
  | none => exact ⟨fun _ => rfl, fun _ => by decide⟩
  | some a =>
    have ha := hs a rfl
    have e : ¬ nI a.1 < 0 := nI_pos (by omega)
    exact ⟨fun z => absurd z e, fun z => by cases z⟩
theorem fb_end {s : FB} {a : Int32} {σ : St} (hs : fbOk s) : jn (fun (q5 : St) => some (fbI s, q5)) (fun k5 => (if fbI s < 0 then k5 σ else (if ¬ a = 0 then some (fbM s, σ) else k5 σ))) = some (if a = 0 then fbI s else fbV s, σ) := by
  simp only [jn]
  by_cases h : fbI s < 0
  · rw [if_pos h]
    have e := (fbI_neg hs).mp h
    subst e
    by_cases ha : a = 0
    · rw [if_pos ha]
    · rw [if_neg ha]; rfl
  · rw [if_neg h]
    by_cases ha : a = 0
    · rw [if_neg (fun z => z ha), if_pos ha]
    · rw [if_pos ha, if_neg ha]
      cases s with
      | none => exact absurd (by decide) h
      | some b => rfl
section MX
variable {σ σ' : St} {X : Nat → Nat} {n : Nat} {T T' : Tb} {U : Nat → Tb} {u : Nat} {K : Nat → Tb} {k : Nat} {H : Nat → Nat × Nat × Nat} {h : Nat}
theorem in01 {a : Int32} (σ : St) (ha : ¬ a < 0) (hb : a ≤ 1) : f_X4_in a.toInt64 (0 : Int64) (1 : Int64) σ = some (1, σ) := by
  have e := in_eq a 0 1 σ
  rw [if_pos ⟨(i0le a).mpr ha, hb⟩] at e
  exact e
theorem m_mends (hR : RM σ X n T U u K k H h) (hg : gOk X n T U u K k H h) {a : Int32} (ha : ¬ a < 0) (hb : a ≤ 1) : Ok (f_X4_mends a σ) (fun q => q.1 = (if a = 0 then fbI (mendF T (tN T * tW T)) else fbV (mendF T (tN T * tW T))) ∧ RM q.2 X n T U u K k H h) := by
  have hwf := hg.2.1.1
  have hW := hg.2.1.2.1
  have h8 := hwf.1
  have h5 := hwf.2.1
  have h40 : tN T * tW T ≤ 5 * 8 := Nat.mul_le_mul h5 h8
  unfold f_X4_mends
  refine Ok_bindE (in01 σ ha hb) ?_
  dsimp only
  rw [if_pos (by decide)]
  refine Ok_for (fun i x => x.1 = fbI (mendF T i) ∧ x.2.1 = fbM (mendF T i) ∧ x.2.2.1 = nI i ∧ RM x.2.2.2 X n T U u K k H h) 0 (tN T * tW T) _ ⟨rfl, rfl, rfl, hR⟩ (by omega) (by omega) (fun rec i x _ hi hx hr => ?_) (fun rec x hx => ?_)
  · obtain ⟨e1, e2, e3, r1⟩ := hx
    have hp : i / tW T < tN T := Nat.div_lt_of_lt_mul (by rw [Nat.mul_comm]; exact hi)
    have hq : i % tW T < tW T := Nat.mod_lt _ hW
    have hs := hwf.2.2.2.2.1 _ hq
    have fo := mendF_ok hwf hW (Nat.le_of_lt hi)
    simp only [e1, e2, e3, r1.2.1.1.1, r1.2.1.1.2.1]
    rw [pk_mul, if_neg (by rw [nI_leI (by omega) (by omega)]; omega), if_neg (by rw [nI_eq0 (by omega)]; omega)]
    refine Ok_nm ?_
    rw [if_neg (by rw [nI_eq0 (by omega)]; omega), rem_nI (by omega) (by omega) (by omega)]
    refine Ok_nm ?_
    have ed : nI i / nI (tW T) = nI (i / tW T) := div_nI (by omega) (by omega) (by omega)
    rw [ed]
    refine Ok_bindE (canMendM (b := 0) r1.2.1 hwf (by omega) hp hq) ?_
    dsimp only
    refine Ok_jn (fun q => q.1 = fbI (mendF T (i + 1)) ∧ q.2.1 = fbM (mendF T (i + 1)) ∧ RM q.2.2 X n T U u K k H h) (fun q hq2 => ?_) (fun kk hkk => ?_)
    · refine Ok_nm (hr _ ⟨hq2.1, hq2.2.1, ?_, hq2.2.2⟩)
      show nI i + 1 = nI (i + 1); rw [z1, nI_add]
    · have em : mendF T (i + 1) = fbS (mendF T i) (mendC T (i / tW T) (i % tW T)) := rfl
      unfold mendC at em
      by_cases hc : way T (i / tW T) (i % tW T) < 10 ∧ way T (i / tW T) (i % tW T) ≠ snd T (i % tW T)
      · rw [if_pos hc] at em
        rw [if_pos hc, if_neg (by decide)]
        refine Ok_bind (trialR r1 hg) (fun q1 h1 => ?_)
        rw [if_neg (in_nI (by omega) (by decide)), nI_clamp (by omega), h1.1.1.2.2.2 _ hq]
        refine Ok_bind (getsM (b := 1001) h1.1 hwf (by omega) hp hq (by omega)) (fun q2 h2 => ?_)
        have wf := wf_give (v := snd T (i % tW T)) hwf hp hq (by omega)
        have y5 : (5 : Int32) = nI 5 := rfl
        rw [y5]
        refine Ok_bind (daysM (b := 1001) h2.1 wf (by omega) (by omega)) (fun q3 h3 => ?_)
        refine Ok_bindE (rightsM (b := 1001) h3.1 (wf_days wf) (by omega)) ?_
        have hv := allRN_le (wf_days (k := 5) wf)
        have st := fb_stepM (i := 10 * (i / tW T) + i % tW T) (v := allRN (days (give T (i / tW T) (i % tW T) (snd T (i % tW T))) 5)) fo (by omega)
        have R3 := RM_scr (RM_scr h1.2 hg (Mr_s h2.2)) hg h3.2
        refine Ok_jn (fun q => q.1 = fbI (mendF T (i + 1)) ∧ q.2 = q3.2) (fun q hq2 => ?_) (fun k2 hk2 => ?_)
        · rw [hq2.1, hq2.2]
          refine Ok_bindE (largerM (i := 10 * (i / tW T) + i % tW T) fo (by omega)) ?_
          refine hkk _ ⟨rfl, ?_, R3⟩
          rw [em]
        · dsimp only
          refine Ok_ite (fun hc2 => ?_) (fun hc2 => ?_)
          · refine hk2 _ ⟨?_, rfl⟩
            rw [em, st.1 hc2]
          · refine hk2 _ ⟨?_, rfl⟩
            rw [em, st.2 hc2, z10, pk_mul, nI_add]; rfl
      · rw [if_neg hc] at em
        rw [if_neg hc, if_pos rfl]
        refine hkk _ ⟨?_, ?_, r1⟩
        · rw [em]; rfl
        · rw [em]; rfl
  · obtain ⟨e1, e2, e3, r1⟩ := hx
    have fo := mendF_ok hwf hW (Nat.le_refl (tN T * tW T))
    simp only [e1, e2, e3, r1.2.1.1.1, r1.2.1.1.2.1]
    rw [pk_mul, if_pos (by rw [nI_leI (by omega) (by omega)]; exact Nat.le_refl _), fb_end fo]
    exact Ok_some ⟨rfl, r1⟩
theorem in_bad01 {a : Int32} (ha : a < 0 ∨ ¬ a ≤ 1) (σ : St) : f_X4_in a.toInt64 (0 : Int64) (1 : Int64) σ = some (0, σ) := in_bad (l := 0) (m := 1) σ ha
theorem m_mends_bad {a : Int32} (ha : a < 0 ∨ ¬ a ≤ 1) : f_X4_mends a σ = some (-1, σ) := by
  refine Ok_eq ?_
  unfold f_X4_mends
  refine Ok_bindE (in_bad01 ha σ) ?_
  exact Ok_some rfl
theorem m_two_bad {a : Int32} (ha : a < 0 ∨ ¬ a ≤ 1) : f_X4_two a σ = some (-1, σ) := by
  refine Ok_eq ?_
  unfold f_X4_two
  refine Ok_bindE (in_bad01 ha σ) ?_
  exact Ok_some rfl
theorem m_tests_bad {a : Int32} (ha : a < 0 ∨ ¬ a ≤ 1) : f_X4_tests a σ = some (-1, σ) := by
  refine Ok_eq ?_
  unfold f_X4_tests
  refine Ok_bindE (in_bad01 ha σ) ?_
  exact Ok_some rfl
theorem twoI_okM {p : Nat} {s : FB} (h5 : tN T ≤ 5) (hp : p < tN T) (hs : fbOk s) : ∀ j, p + 1 + j ≤ tN T → fbOk (twoI T p s j) := by
  intro j
  induction j with
  | zero => intro _; exact hs
  | succ j ih =>
    intro hj
    refine fbS_ok (ih (by omega)) (fun a ha => ?_)
    cases ha
    have := pc_le (rgtB T p ||| rgtB T (p + 1 + j))
    dsimp only
    omega
theorem twoO_okM (h5 : tN T ≤ 5) : ∀ p, p ≤ tN T → fbOk (twoO T p) := by
  intro p
  induction p with
  | zero => intro _ a ha; cases ha
  | succ p ih => intro hp; exact twoI_okM h5 (by omega) (ih (by omega)) _ (by omega)
theorem m_two (hR : RM σ X n T U u K k H h) (hg : gOk X n T U u K k H h) {a : Int32} (ha : ¬ a < 0) (hb : a ≤ 1) : f_X4_two a σ = some (if a = 0 then fbI (twoO T (tN T)) else fbV (twoO T (tN T)), σ) := by
  have hwf := hg.2.1.1
  have h8 := hwf.1
  have h5 := hwf.2.1
  refine Ok_eq ?_
  unfold f_X4_two
  refine Ok_bindE (in01 σ ha hb) ?_
  dsimp only
  rw [if_pos (by decide)]
  refine Ok_for (fun i x => x = (fbI (twoO T i), fbM (twoO T i), nI i, σ)) 0 (tN T) _ rfl (by omega) (by omega) (fun rec i x _ hi hx hr => ?_) (fun rec x hx => ?_)
  · subst hx
    simp only [hR.2.1.1.2.1]
    rw [if_neg (by rw [nI_leI (by omega) (by omega)]; omega), z1, nI_add]
    refine Ok_nm ?_
    refine Ok_for (fun j x => x = (fbI (twoI T i (twoO T i) j), fbM (twoI T i (twoO T i) j), nI (i + 1 + j), σ)) 0 (tN T - (i + 1)) _ rfl (by omega) (by omega) (fun rec2 j x _ hj hx hr2 => ?_) (fun rec2 x hx => ?_)
    · subst hx
      simp only [hR.2.1.1.2.1]
      rw [if_neg (by rw [nI_leI (by omega) (by omega)]; omega)]
      refine Ok_bindE (rightM (b := 0) hR.2.1 hwf (by omega) hi) ?_
      refine Ok_bindE (rightM (b := 0) hR.2.1 hwf (by omega) (by omega)) ?_
      dsimp only
      rw [fa_or]
      have hlt : rgtB T i ||| rgtB T (i + 1 + j) < 256 := by
        have a1 : rgtB T i < 2 ^ 8 := bs256 _ h8
        have a2 : rgtB T (i + 1 + j) < 2 ^ 8 := bs256 _ h8
        exact Nat.or_lt_two_pow a1 a2
      refine Ok_bindE (bits_eq σ _ hlt) ?_
      have fo := twoI_okM h5 hi (twoO_okM (T := T) h5 i (by omega)) j (by omega)
      have hv := pc_le (rgtB T i ||| rgtB T (i + 1 + j))
      have st := fb_stepM (i := 10 * i + (i + 1 + j)) (v := pc (rgtB T i ||| rgtB T (i + 1 + j))) fo (by omega)
      have em : twoI T i (twoO T i) (j + 1) = fbS (twoI T i (twoO T i) j) (some (10 * i + (i + 1 + j), pc (rgtB T i ||| rgtB T (i + 1 + j)))) := rfl
      refine Ok_jn (fun q => q = (fbI (twoI T i (twoO T i) (j + 1)), σ)) (fun q hq2 => ?_) (fun k2 hk2 => ?_)
      · subst hq2
        refine Ok_bindE (largerM (i := 10 * i + (i + 1 + j)) fo (by omega)) ?_
        refine Ok_nm (hr2 _ ?_)
        dsimp only
        rw [em, nI_add]; rfl
      · dsimp only
        refine Ok_ite (fun hc2 => ?_) (fun hc2 => ?_)
        · refine hk2 _ ?_
          rw [em, st.1 hc2]
        · refine hk2 _ ?_
          rw [em, st.2 hc2, z10, pk_mul, nI_add]; rfl
    · subst hx
      simp only [hR.2.1.1.2.1]
      rw [if_pos (by rw [nI_leI (by omega) (by omega)]; omega)]
      exact Ok_nm (hr _ rfl)
  · subst hx
    simp only [hR.2.1.1.2.1]
    rw [if_pos (by rw [nI_leI (by omega) (by omega)]; exact Nat.le_refl _), fb_end (twoO_okM h5 _ (Nat.le_refl _))]
    exact Ok_some rfl
def b2 (b : Bool) : Int32 := if b = true then 1 else 0
theorem b2_01 (b : Bool) : (b2 b = 0 ∨ b2 b = 1) := by cases b; exact Or.inl rfl; exact Or.inr rfl
theorem b2_0 (b : Bool) : (b2 b = 0 ↔ b = false) := by cases b <;> decide
def exB (f : Nat → Bool) : Nat → Bool
  | 0 => false
  | n + 1 => exB f n || f n
theorem exB_iff {f : Nat → Bool} {n : Nat} : exB f n = true ↔ ∃ i, i < n ∧ f i = true := by
  induction n with
  | zero => simp [exB]
  | succ n ih =>
    simp only [exB, Bool.or_eq_true, ih]
    constructor
    · rintro (⟨i, h1, h2⟩ | h2)
      · exact ⟨i, by omega, h2⟩
      · exact ⟨n, by omega, h2⟩
    · rintro ⟨i, h1, h2⟩
      by_cases e : i = n
      · subst e; exact Or.inr h2
      · exact Or.inl ⟨i, by omega, h2⟩
theorem diff_ex {p q s : Nat} (h8 : tW T ≤ 8) : (!decide (diffB T q p &&& s = 0)) = exB (fun w => s.testBit w && !decide (way T p w = way T q w)) (tW T) := by
  rw [Bool.eq_iff_iff, exB_iff]
  simp only [Bool.not_eq_true', decide_eq_false_iff_not, Bool.and_eq_true]
  constructor
  · intro hne
    apply Classical.byContradiction
    intro hno
    apply hne
    apply Nat.eq_of_testBit_eq
    intro i
    unfold diffB
    rw [Nat.testBit_and, bs_bit, Nat.zero_testBit]
    by_cases hi : i < tW T
    · by_cases hs : s.testBit i = true
      · by_cases hw : way T p i = way T q i
        · simp [hw]
        · exact absurd ⟨i, hi, hs, hw⟩ hno
      · simp [hs]
    · simp [hi]
  · rintro ⟨w, hw, hs, hd⟩ he
    have := Nat.testBit_and (diffB T q p) s w
    rw [he, Nat.zero_testBit] at this
    unfold diffB at this
    rw [bs_bit] at this
    have hd2 : ¬ way T q w = way T p w := fun z => hd z.symm
    simp [hw, hs, hd2] at this
theorem isApartM (hR : RM σ X n T U u K k H h) (hg : gOk X n T U u K k H h) {s : Nat} (hs : s < 256) : f_X4_isApart (nI s) σ = some (b2 (apB T s), σ) := by
  have hwf := hg.2.1.1
  have h8 := hwf.1
  have h5 := hwf.2.1
  refine Ok_eq ?_
  unfold f_X4_isApart
  refine Ok_for (fun i x => x = (b2 (allB (fun q => allB (fun p => !decide (diffB T p q &&& s = 0)) q) i), nI i, σ)) 0 (tN T) _ rfl (by omega) (by omega) (fun rec i x _ hi hx hr => ?_) (fun rec x hx => ?_)
  · subst hx
    simp only [hR.2.1.1.2.1]
    rw [if_neg (by rw [nI_leI (by omega) (by omega)]; omega)]
    refine Ok_for (fun j x => x = (b2 (allB (fun q => allB (fun p => !decide (diffB T p q &&& s = 0)) q) i && allB (fun p => !decide (diffB T p i &&& s = 0)) j), nI j, σ)) 0 i _ (by simp [allB]; rfl) (by omega) (by omega) (fun rec2 j x _ hj hx hr2 => ?_) (fun rec2 x hx => ?_)
    · subst hx
      dsimp only
      rw [if_neg (by rw [nI_leI (by omega) (by omega)]; omega)]
      refine Ok_for (fun w x => x = (b2 (exB (fun w => s.testBit w && !decide (way T i w = way T j w)) w), nI w, σ)) 0 (tW T) _ rfl (by omega) (by omega) (fun rec3 w x _ hw hx hr3 => ?_) (fun rec3 x hx => ?_)
      · subst hx
        simp only [hR.2.1.1.1]
        rw [if_neg (by rw [nI_leI (by omega) (by omega)]; omega)]
        refine Ok_jn (fun q => q = (b2 (exB (fun w => s.testBit w && !decide (way T i w = way T j w)) (w + 1)), σ)) (fun q hq => ?_) (fun k14 hk14 => ?_)
        · subst hq
          refine Ok_nm (hr3 _ ?_)
          dsimp only
          rw [z1, nI_add]
        · have es : exB (fun w => s.testBit w && !decide (way T i w = way T j w)) (w + 1) = (exB (fun w => s.testBit w && !decide (way T i w = way T j w)) w || (s.testBit w && !decide (way T i w = way T j w))) := rfl
          refine Ok_jn (fun q => q = σ ∧ exB (fun w => s.testBit w && !decide (way T i w = way T j w)) (w + 1) = true) (fun q hq => ?_) (fun k15 hk15 => ?_)
          · obtain ⟨rfl, e⟩ := hq
            refine hk14 _ ?_
            rw [e]; rfl
          · simp only [b2_0]
            refine Ok_ite (fun hc => hk15 _ ⟨rfl, ?_⟩) (fun hc => ?_)
            · rw [es]
              cases hx2 : exB (fun w => s.testBit w && !decide (way T i w = way T j w)) w
              · exact absurd hx2 hc
              · rfl
            · have hc := Classical.not_not.mp hc
              rw [hc, Bool.false_or] at es
              refine Ok_jn (fun q => q = σ ∧ exB (fun w => s.testBit w && !decide (way T i w = way T j w)) (w + 1) = false) (fun q hq => ?_) (fun k17 hk17 => ?_)
              · obtain ⟨rfl, e⟩ := hq
                refine hk14 _ ?_
                rw [e]; rfl
              · rw [shrb s hs w (by omega)]
                by_cases hb : s.testBit w = true
                · rw [if_pos hb, if_neg (by decide)]
                  refine Ok_bindE (hasM (b := 0) hR.2.1 hwf (by omega) hi (by omega)) ?_
                  refine Ok_bindE (hasM (b := 0) hR.2.1 hwf (by omega) (by omega) (by omega)) ?_
                  simp only [wv_inj (way_le hwf hi (show w < tW T by omega)) (way_le hwf (show j < tN T by omega) (show w < tW T by omega))]
                  refine Ok_ite (fun hd => hk17 _ ⟨rfl, ?_⟩) (fun hd => hk15 _ ⟨rfl, ?_⟩)
                  · rw [es]; simp [hd]
                  · rw [es]; simp [hd, hb]
                · rw [if_neg hb, if_pos (by decide)]
                  refine hk17 _ ⟨rfl, ?_⟩
                  rw [es]; simp [hb]
      · subst hx
        simp only [hR.2.1.1.1]
        rw [if_pos (by rw [nI_leI (by omega) (by omega)]; exact Nat.le_refl _)]
        rw [← diff_ex h8]
        have en : allB (fun p => !decide (diffB T p i &&& s = 0)) (j + 1) = (allB (fun p => !decide (diffB T p i &&& s = 0)) j && !decide (diffB T j i &&& s = 0)) := rfl
        refine Ok_jn (fun q => q = (b2 (allB (fun q => allB (fun p => !decide (diffB T p q &&& s = 0)) q) i && allB (fun p => !decide (diffB T p i &&& s = 0)) (j + 1)), σ)) (fun q hq => ?_) (fun k9 hk9 => ?_)
        · subst hq
          refine Ok_nm (hr2 _ ?_)
          dsimp only
          rw [z1, nI_add]
        · refine Ok_jn (fun q => q = σ ∧ (allB (fun q => allB (fun p => !decide (diffB T p q &&& s = 0)) q) i && allB (fun p => !decide (diffB T p i &&& s = 0)) (j + 1)) = false) (fun q hq => ?_) (fun k10 hk10 => ?_)
          · obtain ⟨rfl, e⟩ := hq
            refine hk9 _ ?_
            rw [e]; rfl
          · simp only [b2_0]
            refine Ok_ite (fun hc => hk10 _ ⟨rfl, ?_⟩) (fun hc => Ok_ite (fun hd => hk10 _ ⟨rfl, ?_⟩) (fun hd => hk9 _ ?_))
            · rw [en, ← Bool.and_assoc, hc, Bool.false_and]
            · rw [en, hd, Bool.and_false, Bool.and_false]
            · have hc := (Bool.not_eq_false _).mp hc
              have hd := (Bool.not_eq_false _).mp hd
              rw [en, ← Bool.and_assoc, hc, hd]; rfl
    · subst hx
      dsimp only
      rw [if_pos (by rw [nI_leI (by omega) (by omega)]; exact Nat.le_refl _)]
      refine Ok_nm (hr _ ?_)
      rw [z1, nI_add]; rfl
  · subst hx
    simp only [hR.2.1.1.2.1]
    rw [if_pos (by rw [nI_leI (by omega) (by omega)]; exact Nat.le_refl _), if_neg (fun z => z (b2_01 _))]
    exact Ok_some rfl
end MX
