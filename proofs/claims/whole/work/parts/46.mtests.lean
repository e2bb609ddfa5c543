/-! the other program: tests, other -/
section MT
variable {σ σ' : St} {X : Nat → Nat} {n : Nat} {T T' : Tb} {U : Nat → Tb} {u : Nat} {K : Nat → Tb} {k : Nat} {H : Nat → Nat × Nat × Nat} {h : Nat}
theorem a01 {a : Int32} (ha : ¬ a < 0) (hb : a ≤ 1) : a = 0 ∨ a = 1 := by
  obtain ⟨j, hj, rfl⟩ := (inR_le (n := 1) (by omega)).mp ⟨(i0le a).mpr ha, hb⟩
  rcases (show j = 0 ∨ j = 1 by omega) with rfl | rfl
  · exact Or.inl rfl
  · exact Or.inr rfl
theorem m_tests (hR : RM σ X n T U u K k H h) (hg : gOk X n T U u K k H h) {a : Int32} (ha : ¬ a < 0) (hb : a ≤ 1) : f_X4_tests a σ = some (if a = 0 then tsV (tsF T (2 ^ tW T)) pc else tsV (tsF T (2 ^ tW T)) id, σ) := by
  have h8 := hg.2.1.1.1
  have hp8 : 2 ^ tW T ≤ 256 := by
    have : 2 ^ tW T ≤ 2 ^ 8 := Nat.pow_le_pow_right (by decide) h8
    simpa using this
  refine Ok_eq ?_
  unfold f_X4_tests
  refine Ok_bindE (in01 σ ha hb) ?_
  dsimp only
  rw [if_pos (by decide)]
  refine Ok_for (fun s b => b = (tsV (tsF T s) id, nI s, σ)) 0 (2 ^ tW T) _ rfl (Nat.zero_le _) (by omega) (fun rec s b _ hs hb hr => ?_) (fun rec b hb2 => ?_)
  · subst hb
    dsimp only
    simp only [hR.2.1.1.1, shl1 (tW T) (by omega)]
    rw [if_neg (by rw [nI_leI (by omega) (by omega)]; omega)]
    have hpc := pc_le s
    refine Ok_jn (fun q => q = (tsV (tsF T (s + 1)) id, σ)) (fun q hq => ?_) (fun k9 hk9 => ?_)
    · subst hq
      refine Ok_nm (hr _ ?_)
      dsimp only
      rw [z1, nI_add]
    · refine Ok_jn (fun q => q = σ ∧ (tsF T s = none ∨ ∃ a, tsF T s = some a ∧ pc s < pc a)) (fun q hq => ?_) (fun k10 hk10 => ?_)
      · obtain ⟨rfl, hq⟩ := hq
        refine Ok_bindE (isApartM hR hg (show s < 256 by omega)) ?_
        simp only [b2_0]
        by_cases hc : apB T s = true
        · rw [if_neg (by rw [hc]; decide)]
          refine hk9 _ ?_
          have : tsF T (s + 1) = some s := by
            show (if _ then _ else _) = _
            rw [if_pos ⟨hq, hc⟩]
          rw [this]; rfl
        · rw [if_pos (by simpa using hc)]
          refine hk9 _ ?_
          have : tsF T (s + 1) = tsF T s := by
            show (if _ then _ else _) = _
            rw [if_neg (fun z => hc z.2)]
          rw [this]
      · have skip : (¬ (tsF T s = none ∨ ∃ a, tsF T s = some a ∧ pc s < pc a)) → tsF T (s + 1) = tsF T s := fun hz => by
          show (if _ then _ else _) = _
          rw [if_neg (fun z => hz z.1)]
        cases hts : tsF T s with
        | none =>
          show Ok (if (-4 : Int32) < 0 then _ else _) _
          rw [if_pos (by decide)]
          exact hk10 _ ⟨rfl, Or.inl hts⟩
        | some b =>
          have hbs := tsF_lt hts
          have hpb := pc_le b
          show Ok (if nI b < 0 then _ else (f_X4_bits (nI s) σ).bind (fun q12 => (f_X4_bits (nI b) q12.2).bind (fun q13 => (if q13.1 ≤ q12.1 then k9 (nI b, q13.2) else k10 q13.2)))) _
          rw [if_neg (nI_pos (by omega))]
          refine Ok_bindE (bits_eq σ s (by omega)) ?_
          refine Ok_bindE (bits_eq σ b (by omega)) ?_
          refine Ok_ite (fun hc => ?_) (fun hc => ?_)
          · rw [nI_leI (by omega) (by omega)] at hc
            refine hk9 _ ?_
            rw [skip (fun z => by
              rcases z with z | ⟨c, z, z2⟩
              · rw [hts] at z; cases z
              · rw [hts] at z; cases z; omega), hts]
            rfl
          · rw [nI_leI (by omega) (by omega)] at hc
            exact hk10 _ ⟨rfl, Or.inr ⟨b, hts, by omega⟩⟩
  · subst hb2
    dsimp only
    simp only [hR.2.1.1.1, shl1 (tW T) (by omega)]
    rw [if_pos (by rw [nI_leI (by omega) (by omega)]; exact Nat.le_refl _)]
    cases hts : tsF T (2 ^ tW T) with
    | none =>
      simp only [jn]
      show Ok (if (-4 : Int32) < 0 then _ else _) _
      rw [if_pos (by decide)]
      refine Ok_some ?_
      show ((-4 : Int32), σ) = (if a = 0 then (-4 : Int32) else -4, σ)
      split <;> rfl
    | some b =>
      have hbs := tsF_lt hts
      simp only [jn]
      show Ok (if nI b < 0 then _ else _) _
      rw [if_neg (nI_pos (by omega))]
      rcases a01 ha hb with rfl | rfl
      · rw [if_pos (by decide)]
        refine Ok_bindE (bits_eq σ b (by omega)) ?_
        exact Ok_some rfl
      · rw [if_neg (by decide)]
        exact Ok_some rfl
theorem manyHaveM (hR : RM σ X n T U u K k H h) (hg : gOk X n T U u K k H h) {w v : Nat} (hw : w < tW T) (hv : v < 10) : f_X4_manyHave (nI w) (nI v) σ = some (nI (hldN T w v), σ) := by
  have hwf := hg.2.1.1
  have h5 := hwf.2.1
  refine Ok_eq ?_
  unfold f_X4_manyHave
  refine Ok_for (fun i x => x = (nI (cnt (fun p => decide (way T p w = v)) i), nI i, σ)) 0 (tN T) _ rfl (by omega) (by omega) (fun rec i x _ hi hx hr => ?_) (fun rec x hx => ?_)
  · subst hx
    simp only [hR.2.1.1.2.1]
    rw [if_neg (by rw [nI_leI (by omega) (by omega)]; omega)]
    refine Ok_bindE (hasM (b := 0) hR.2.1 hwf (by omega) hi hw) ?_
    simp only [jn, nm, wv_eq hv (way_le hwf hi hw)]
    by_cases hc : way T i w = v
    · rw [if_neg (fun z => z hc)]
      refine hr _ ?_
      simp only [cnt, hc]
      rw [z1, nI_add, nI_add]; rfl
    · rw [if_pos hc]
      refine hr _ ?_
      simp only [cnt, hc]
      rw [z0, z1, nI_add, nI_add]; rfl
  · subst hx
    simp only [hR.2.1.1.2.1]
    rw [if_pos (by rw [nI_leI (by omega) (by omega)]; exact Nat.le_refl _)]
    exact Ok_some rfl
theorem cnt_pos {f : Nat → Bool} {n : Nat} (hz : 0 < cnt f n) : ∃ i, i < n ∧ f i = true := by
  induction n with
  | zero => simp [cnt] at hz
  | succ n ih =>
    by_cases hf : f n = true
    · exact ⟨n, by omega, hf⟩
    · simp only [cnt] at hz
      rw [if_neg hf] at hz
      obtain ⟨i, h1, h2⟩ := ih (by omega)
      exact ⟨i, by omega, h2⟩
theorem or_bit {a i : Nat} {c : Bool} (hz : a < 2 ^ i) : a ||| (if c = true then 2 ^ i else 0) = a + (if c = true then 2 ^ i else 0) := by
  cases c
  · simp
  · simp only [if_true]; exact or_top hz
theorem m_other (hR : RM σ X n T U u K k H h) (hg : gOk X n T U u K k H h) : f_X4_other σ = some (nI (bs (anB T) (tW T)), σ) := by
  have hwf := hg.2.1.1
  have h8 := hwf.1
  have h5 := hwf.2.1
  refine Ok_eq ?_
  unfold f_X4_other
  refine Ok_for (fun i x => x = (nI (bs (anB T) i), nI i, σ)) 0 (tW T) _ rfl (by omega) (by omega) (fun rec i x _ hi hx hr => ?_) (fun rec x hx => ?_)
  · subst hx
    simp only [hR.2.1.1.1]
    rw [if_neg (by rw [nI_leI (by omega) (by omega)]; omega)]
    have hs := hwf.2.2.2.2.1 i hi
    have hlt := bs_lt (anB T) i
    have hcl : ∀ v, hldN T i v ≤ 5 := fun v => Nat.le_trans (cnt_le _ _) h5
    refine Ok_for (fun v x => x = (nI (bs (anB T) i ||| (if exB (fun v => decide (v ≠ snd T i ∧ hldN T i (snd T i) < hldN T i v)) v = true then 2 ^ i else 0)), nI v, σ)) 0 10 _ (by simp [exB]; rfl) (by omega) (by omega) (fun rec2 v x _ hv hx hr2 => ?_) (fun rec2 x hx => ?_)
    · subst hx
      dsimp only
      rw [z10, if_neg (by rw [nI_leI (by omega) (by omega)]; omega), if_neg (in_nI (by omega) (by decide)), nI_clamp (by omega), shl1 i (by omega)]
      have hin2 : ¬ (nI i < 0 ∨ 8 ≤ i) := by rw [nI_lt0 (by omega)]; simp; omega
      refine Ok_jn (fun q => q = (nI (if v ≠ snd T i ∧ hldN T i (snd T i) < hldN T i v then 2 ^ i else 0), σ)) (fun q hq => ?_) (fun k7 hk7 => ?_)
      · subst hq
        refine Ok_nm (Ok_nm (hr2 _ ?_))
        dsimp only
        rw [z1, nI_add, fa_or, Nat.or_assoc]
        have : ((if exB (fun v => decide (v ≠ snd T i ∧ hldN T i (snd T i) < hldN T i v)) v = true then 2 ^ i else 0) ||| (if v ≠ snd T i ∧ hldN T i (snd T i) < hldN T i v then 2 ^ i else 0)) = (if exB (fun v => decide (v ≠ snd T i ∧ hldN T i (snd T i) < hldN T i v)) (v + 1) = true then 2 ^ i else 0) := by
          simp only [exB, Bool.or_eq_true, decide_eq_true_eq]
          by_cases c1 : exB (fun v => decide (v ≠ snd T i ∧ hldN T i (snd T i) < hldN T i v)) v = true
          · by_cases c2 : v ≠ snd T i ∧ hldN T i (snd T i) < hldN T i v
            · rw [if_pos c1, if_pos c2, if_pos (Or.inl c1), Nat.or_self]
            · rw [if_pos c1, if_neg c2, if_pos (Or.inl c1), Nat.or_zero]
          · by_cases c2 : v ≠ snd T i ∧ hldN T i (snd T i) < hldN T i v
            · rw [if_neg c1, if_pos c2, if_pos (Or.inr c2), Nat.zero_or]
            · rw [if_neg c1, if_neg c2, if_neg (by rintro (z | z); exact c1 z; exact c2 z), Nat.or_zero]
        rw [this]
      · refine Ok_jn (fun q => q = σ ∧ ¬ (v ≠ snd T i ∧ hldN T i (snd T i) < hldN T i v)) (fun q hq => ?_) (fun k8 hk8 => ?_)
        · obtain ⟨rfl, hq⟩ := hq
          refine hk7 _ ?_
          rw [if_neg hq]; rfl
        · simp (disch := omega) only [hR.2.1.1.2.2.2 i hi, nI_eq]
          refine Ok_ite (fun hc => hk8 _ ⟨rfl, fun z => z.1 hc⟩) (fun hc => ?_)
          refine Ok_bindE (manyHaveM hR hg hi hv) ?_
          dsimp only
          rw [if_neg hin2, hR.2.1.1.2.2.2 i hi]
          refine Ok_bindE (manyHaveM hR hg hi (by omega)) ?_
          dsimp only
          have c1 := hcl v
          have c2 := hcl (snd T i)
          refine Ok_ite (fun hd => ?_) (fun hd => ?_)
          · rw [nI_leI (by omega) (by omega)] at hd
            exact hk8 _ ⟨rfl, fun z => by omega⟩
          · rw [nI_leI (by omega) (by omega)] at hd
            refine hk7 _ ?_
            rw [if_pos ⟨hc, by omega⟩]
    · subst hx
      dsimp only
      rw [if_pos (by decide)]
      refine Ok_nm (hr _ ?_)
      rw [z1, nI_add]
      have : bs (anB T) i ||| (if exB (fun v => decide (v ≠ snd T i ∧ hldN T i (snd T i) < hldN T i v)) 10 = true then 2 ^ i else 0) = bs (anB T) (i + 1) := by
        rw [or_bit hlt]
        show _ = bs (anB T) i + (if anB T i = true then 2 ^ i else 0)
        have e : exB (fun v => decide (v ≠ snd T i ∧ hldN T i (snd T i) < hldN T i v)) 10 = anB T i := by
          rw [Bool.eq_iff_iff, exB_iff, anB_iff]
          simp only [decide_eq_true_eq]
          constructor
          · rintro ⟨v, hv, h1, h2⟩
            obtain ⟨p, hp, hpw⟩ := cnt_pos (f := fun p => decide (way T p i = v)) (n := tN T) (by
              have : hldN T i v = cnt (fun p => decide (way T p i = v)) (tN T) := rfl
              omega)
            have hpw : way T p i = v := by simpa using hpw
            exact ⟨p, hp, by omega, by rw [hpw]; exact h1, by rw [hpw]; exact h2⟩
          · rintro ⟨p, hp, h1, h2, h3⟩
            exact ⟨way T p i, h1, h2, h3⟩
        rw [e]
      rw [this]
  · subst hx
    simp only [hR.2.1.1.1]
    rw [if_pos (by rw [nI_leI (by omega) (by omega)]; exact Nat.le_refl _)]
    exact Ok_some rfl
end MT
