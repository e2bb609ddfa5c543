/-! the other program: acts undone, kept, heard; what comes -/
section MK
variable {σ σ' : St} {X : Nat → Nat} {n : Nat} {T T' : Tb} {U : Nat → Tb} {u : Nat} {K : Nat → Tb} {k : Nat} {H : Nat → Nat × Nat × Nat} {h : Nat}
theorem kW (hg : gOk X n T U u K k H h) : ∀ i, i < k → tN (K i) ≤ 5 ∧ tW (K i) ≤ 8 := fun i hi => ⟨(hg.2.2.2.2.2.2.2.1 i hi).1.2.1, (hg.2.2.2.2.2.2.2.1 i hi).1.1⟩
theorem uW (hg : gOk X n T U u K k H h) : ∀ i, i < u → tN (U i) ≤ 5 ∧ tW (U i) ≤ 8 := fun i hi => ⟨(hg.2.2.2.2.2.2.1 i hi).1.2.1, (hg.2.2.2.2.2.2.1 i hi).1.1⟩
theorem MG_ok (h : MG σ T) (ho : okT T T') : MG σ T' := MG_st h ho.2.1 ho.2.2.1 ho.2.2.2.1 ho.2.2.2.2.1
theorem z91 : (91 : Int32) = nI 91 := rfl
theorem m_undo (hR : RM σ X n T U u K k H h) (hg : gOk X n T U u K k H h) : Ok (f_X4_undo σ) (fun q => u = 0 ∧ q.1 = -2 ∧ RM q.2 X n T U u K k H h ∨ 0 < u ∧ q.1 = nI (u - 1) ∧ RM q.2 X n (U 0) (fun i => U (i + 1)) (u - 1) K k H h) := by
  have hR0 := hR
  obtain ⟨a, b, c, d, e⟩ := hR
  have hu := hg.2.2.2.1
  have hk := hg.2.2.2.2.1
  have kw := kW hg
  have uw := uW hg
  unfold f_X4_undo
  rw [c.1]
  simp (disch := omega) only [nI_eq0]
  by_cases h0 : u = 0
  · rw [if_neg (fun z => z h0)]
    exact Ok_some (Or.inl ⟨h0, rfl, hR0⟩)
  · rw [if_pos h0, z91, pk_mul]
    refine Ok_bind (copiesM (a := u * 91) (c := 0) (by omega) (by omega) (by omega)) (fun x hx => ?_)
    obtain ⟨v1, g1⟩ := hx
    have x0 := g1.1 0 (by omega)
    rw [x0, c.1, z1, pk_sub (by omega)]
    have ec : ∀ j, ¬ j = 0 → w2 x.2 0 6 (nI (u - 1)) j = x.2 j := fun j h0 => by funext i; rw [w2_ap, if_neg (fun z => h0 z.1)]
    have eo : ∀ j, ¬ j = 6 → w2 x.2 0 6 (nI (u - 1)) 0 j = σ 0 j := fun j h6 => by rw [w2_ap, if_neg (fun z => h6 z.2), x0]
    have e6 : w2 x.2 0 6 (nI (u - 1)) 0 6 = nI (u - 1) := by rw [w2_ap, if_pos ⟨rfl, rfl⟩]
    refine Ok_nm (Ok_some (Or.inr ⟨by omega, e6, ?_⟩))
    generalize w2 x.2 0 6 (nI (u - 1)) = σ2 at ec eo e6 ⊢
    refine ⟨?_, ⟨?_, ?_⟩, ⟨e6, fun i hi => ?_⟩, ⟨?_, fun i hi => ?_⟩, ?_⟩
    · unfold RMx; dsimp only; rw [eo 8 (by omega), ec 4 (by omega), g1.1 4 (by omega)]; exact a
    · refine MG_ok (T := T) ?_ (hg.2.2.2.2.2.2.1 0 (by omega))
      unfold MG; dsimp only; rw [eo 0 (by omega), eo 1 (by omega), eo 2 (by omega), ec 1 (by omega), g1.1 1 (by omega)]; exact b.1
    · dsimp only
      rw [ec 3 (by omega)]
      have := c.2 0 (by omega)
      exact MW_to (b := 91 * (u - 0)) this (uw 0 (by omega)).1 (uw 0 (by omega)).2 (fun j hj => by rw [v1 j hj]; congr 1; omega)
    · dsimp only
      rw [ec 3 (by omega)]
      have := c.2 (i + 1) (by omega)
      have e1 : 91 * (u - 1 - i) = 91 * (u - (i + 1)) := by omega
      rw [e1]
      exact MW_fr this (uw (i + 1) (by omega)).1 (uw (i + 1) (by omega)).2 (fun j h1 h2 => g1.2 j (by omega))
    · dsimp only; rw [eo 7 (by omega)]; exact d.1
    · dsimp only
      rw [ec 3 (by omega)]
      exact MW_fr (d.2 i hi) (kw i hi).1 (kw i hi).2 (fun j h1 h2 => g1.2 j (by omega))
    · unfold RMh; dsimp only; rw [eo 12 (by omega), ec 5 (by omega), ec 6 (by omega), ec 7 (by omega), g1.1 5 (by omega), g1.1 6 (by omega), g1.1 7 (by omega)]; exact e
theorem m_keep (hR : RM σ X n T U u K k H h) (hg : gOk X n T U u K k H h) : Ok (f_X4_keep σ) (fun q => k = 2 ∧ q.1 = -3 ∧ RM q.2 X n T U u K k H h ∨ k < 2 ∧ q.1 = nI (k + 1) ∧ RM q.2 X n T U u (fun i => if i = k then T else K i) (k + 1) H h) := by
  have hR0 := hR
  obtain ⟨a, b, c, d, e⟩ := hR
  have hu := hg.2.2.2.1
  have hk := hg.2.2.2.2.1
  have kw := kW hg
  have uw := uW hg
  have hw := hg.2.1.1
  have z9 : (9 : Int32) = nI 9 := rfl
  unfold f_X4_keep
  rw [d.1, z2]
  simp (disch := omega) only [nI_eq]
  by_cases h0 : k = 2
  · rw [if_neg (fun z => z h0)]
    exact Ok_some (Or.inl ⟨h0, rfl, hR0⟩)
  · rw [if_pos h0, z91, z9, nI_add, pk_mul]
    refine Ok_bind (copiesM (a := 0) (c := (9 + k) * 91) (by omega) (by omega) (by omega)) (fun x hx => ?_)
    obtain ⟨v1, g1⟩ := hx
    have x0 := g1.1 0 (by omega)
    rw [x0, d.1, z1, nI_add]
    have ec : ∀ j, ¬ j = 0 → w2 x.2 0 7 (nI (k + 1)) j = x.2 j := fun j h0 => by funext i; rw [w2_ap, if_neg (fun z => h0 z.1)]
    have eo : ∀ j, ¬ j = 7 → w2 x.2 0 7 (nI (k + 1)) 0 j = σ 0 j := fun j h6 => by rw [w2_ap, if_neg (fun z => h6 z.2), x0]
    have e7 : w2 x.2 0 7 (nI (k + 1)) 0 7 = nI (k + 1) := by rw [w2_ap, if_pos ⟨rfl, rfl⟩]
    refine Ok_nm (Ok_some (Or.inr ⟨by omega, e7, ?_⟩))
    generalize w2 x.2 0 7 (nI (k + 1)) = σ2 at ec eo e7 ⊢
    refine ⟨?_, ⟨?_, ?_⟩, ⟨?_, fun i hi => ?_⟩, ⟨e7, fun i hi => ?_⟩, ?_⟩
    · unfold RMx; dsimp only; rw [eo 8 (by omega), ec 4 (by omega), g1.1 4 (by omega)]; exact a
    · unfold MG; dsimp only; rw [eo 0 (by omega), eo 1 (by omega), eo 2 (by omega), ec 1 (by omega), g1.1 1 (by omega)]; exact b.1
    · dsimp only
      rw [ec 3 (by omega)]
      exact MW_fr b.2 hw.2.1 hw.1 (fun j h1 h2 => g1.2 j (by omega))
    · dsimp only; rw [eo 6 (by omega)]; exact c.1
    · dsimp only
      rw [ec 3 (by omega)]
      exact MW_fr (c.2 i hi) (uw i hi).1 (uw i hi).2 (fun j h1 h2 => g1.2 j (by omega))
    · dsimp only
      rw [ec 3 (by omega)]
      by_cases hz : i = k
      · rw [if_pos hz]
        have e1 : 91 * (9 + i) = (9 + k) * 91 := by omega
        rw [e1]
        exact MW_to b.2 hw.2.1 hw.1 (fun j hj => v1 j hj)
      · rw [if_neg hz]
        exact MW_fr (d.2 i (by omega)) (kw i (by omega)).1 (kw i (by omega)).2 (fun j h1 h2 => g1.2 j (by omega))
    · unfold RMh; dsimp only; rw [eo 12 (by omega), ec 5 (by omega), ec 6 (by omega), ec 7 (by omega), g1.1 5 (by omega), g1.1 6 (by omega), g1.1 7 (by omega)]; exact e
theorem m_back (hR : RM σ X n T U u K k H h) (hg : gOk X n T U u K k H h) : Ok (f_X4_back σ) (fun q => k = 0 ∧ q.1 = -2 ∧ RM q.2 X n T U u K k H h ∨ 0 < k ∧ q.1 = nI (k - 1) ∧ RM q.2 X n (K (k - 1)) U 0 K (k - 1) H h) := by
  have hR0 := hR
  obtain ⟨a, b, c, d, e⟩ := hR
  have hu := hg.2.2.2.1
  have hk := hg.2.2.2.2.1
  have kw := kW hg
  have z9 : (9 : Int32) = nI 9 := rfl
  unfold f_X4_back
  rw [d.1]
  simp (disch := omega) only [nI_eq0]
  by_cases h0 : k = 0
  · rw [if_neg (fun z => z h0)]
    exact Ok_some (Or.inl ⟨h0, rfl, hR0⟩)
  · rw [if_pos h0, z1, pk_sub (by omega)]
    refine Ok_nm ?_
    have ec : ∀ j, ¬ j = 0 → w2 σ 0 7 (nI (k - 1)) j = σ j := fun j h0 => by funext i; rw [w2_ap, if_neg (fun z => h0 z.1)]
    have eo : ∀ j, ¬ j = 7 → w2 σ 0 7 (nI (k - 1)) 0 j = σ 0 j := fun j h6 => by rw [w2_ap, if_neg (fun z => h6 z.2)]
    have e7 : w2 σ 0 7 (nI (k - 1)) 0 7 = nI (k - 1) := by rw [w2_ap, if_pos ⟨rfl, rfl⟩]
    generalize w2 σ 0 7 (nI (k - 1)) = σ1 at ec eo e7 ⊢
    rw [e7, z9, nI_add, z91, pk_mul]
    refine Ok_bind (copiesM (a := (9 + (k - 1)) * 91) (c := 0) (by omega) (by omega) (by omega)) (fun x hx => ?_)
    obtain ⟨v1, g1⟩ := hx
    have x0 := g1.1 0 (by omega)
    have ec2 : ∀ j, ¬ j = 0 → w2 x.2 0 6 (0 : Int32) j = x.2 j := fun j h0 => by funext i; rw [w2_ap, if_neg (fun z => h0 z.1)]
    have eo2 : ∀ j, ¬ j = 6 → w2 x.2 0 6 (0 : Int32) 0 j = σ1 0 j := fun j h6 => by rw [w2_ap, if_neg (fun z => h6 z.2), x0]
    have e6 : w2 x.2 0 6 (0 : Int32) 0 6 = 0 := by rw [w2_ap, if_pos ⟨rfl, rfl⟩]
    refine Ok_nm (Ok_some (Or.inr ⟨by omega, ?_, ?_⟩))
    · dsimp only; rw [eo2 7 (by omega)]; exact e7
    · dsimp only
      generalize w2 x.2 0 6 (0 : Int32) = σ2 at ec2 eo2 e6 ⊢
      refine ⟨?_, ⟨?_, ?_⟩, ⟨e6, fun i hi => by omega⟩, ⟨?_, fun i hi => ?_⟩, ?_⟩
      · unfold RMx; rw [eo2 8 (by omega), ec2 4 (by omega), g1.1 4 (by omega), eo 8 (by omega), ec 4 (by omega)]; exact a
      · refine MG_ok (T := T) ?_ (hg.2.2.2.2.2.2.2.1 (k - 1) (by omega))
        unfold MG; rw [eo2 0 (by omega), eo2 1 (by omega), eo2 2 (by omega), ec2 1 (by omega), g1.1 1 (by omega), eo 0 (by omega), eo 1 (by omega), eo 2 (by omega), ec 1 (by omega)]; exact b.1
      · rw [ec2 3 (by omega)]
        have := d.2 (k - 1) (by omega)
        exact MW_to this (kw (k - 1) (by omega)).1 (kw (k - 1) (by omega)).2 (fun j hj => by rw [v1 j hj, ec 3 (by omega)]; congr 1; omega)
      · rw [eo2 7 (by omega)]; exact e7
      · rw [ec2 3 (by omega)]
        exact MW_fr (d.2 i (by omega)) (kw i (by omega)).1 (kw i (by omega)).2 (fun j h1 h2 => by rw [g1.2 j (by omega), ec 3 (by omega)])
      · unfold RMh; rw [eo2 12 (by omega), ec2 5 (by omega), ec2 6 (by omega), ec2 7 (by omega), g1.1 5 (by omega), g1.1 6 (by omega), g1.1 7 (by omega), eo 12 (by omega), ec 5 (by omega), ec 6 (by omega), ec 7 (by omega)]; exact e
theorem m_count (hR : RM σ X n T U u K k H h) (hg : gOk X n T U u K k H h) (a : Int32) : f_X4_count a σ = some (countV n T u k h a, σ) := by
  have hwf := hg.2.1.1
  have d0 := hR.2.1.2.1
  rw [Nat.zero_add] at d0
  have z90 : (90 : Int32) = nI 90 := rfl
  refine Ok_eq ?_
  unfold f_X4_count countV
  by_cases h0 : a = 0
  · rw [if_neg (fun z => z h0), if_pos h0, hR.2.1.1.1]; exact Ok_some rfl
  rw [if_pos h0, if_neg h0]
  by_cases h0 : a = 1
  · rw [if_neg (fun z => z h0), if_pos h0, hR.2.1.1.2.1]; exact Ok_some rfl
  rw [if_pos h0, if_neg h0]
  by_cases h0 : a = 2
  · rw [if_neg (fun z => z h0), if_pos h0, hR.2.1.1.2.2.1]; exact Ok_some rfl
  rw [if_pos h0, if_neg h0]
  by_cases h0 : a = 3
  · rw [if_neg (fun z => z h0), if_pos h0, z90, if_neg (in_nI (by omega) (by decide)), nI_clamp (by omega), d0]; exact Ok_some rfl
  rw [if_pos h0, if_neg h0]
  by_cases h0 : a = 4
  · rw [if_neg (fun z => z h0), if_pos h0]
    refine Ok_bindE (speakersM (b := 0) hR.2.1 hwf (by omega)) ?_
    exact Ok_some rfl
  rw [if_pos h0, if_neg h0]
  by_cases h0 : a = 5
  · rw [if_neg (fun z => z h0), if_pos h0]
    refine Ok_bindE (rightsM (b := 0) hR.2.1 hwf (by omega)) ?_
    exact Ok_some rfl
  rw [if_pos h0, if_neg h0]
  by_cases h0 : a = 6
  · rw [if_neg (fun z => z h0), if_pos h0]
    refine Ok_bindE (allHadM hR.2.1 hwf) ?_
    exact Ok_some rfl
  rw [if_pos h0, if_neg h0]
  by_cases h0 : a = 7
  · rw [if_neg (fun z => z h0), if_pos h0, hR.2.2.2.2.1]; exact Ok_some rfl
  rw [if_pos h0, if_neg h0]
  by_cases h0 : a = 8
  · rw [if_neg (fun z => z h0), if_pos h0, hR.2.2.1.1]; exact Ok_some rfl
  rw [if_pos h0, if_neg h0]
  by_cases h0 : a = 9
  · rw [if_neg (fun z => z h0), if_pos h0, hR.2.2.2.1.1]; exact Ok_some rfl
  rw [if_pos h0, if_neg h0]
  by_cases h0 : a = 10
  · rw [if_neg (fun z => z h0), if_pos h0, hR.1.1]; exact Ok_some rfl
  rw [if_pos h0, if_neg h0]
  exact Ok_some rfl
theorem m_hear (hR : RM σ X n T U u K k H h) (hg : gOk X n T U u K k H h) {w v d : Nat} (hw : w < tW T) (hv : v ≤ 10) (hd : d ≤ 20) : Ok (f_X4_hear (nI w) (nI v) (nI d) σ) (fun q => h = 6 ∧ q.1 = -3 ∧ RM q.2 X n T U u K k H h ∨ h < 6 ∧ q.1 = nI (h + 1) ∧ RM q.2 X n T U u K k (fun i => if i = h then (w, v, d) else H i) (h + 1)) := by
  have hR0 := hR
  obtain ⟨ra, rb, rc, rd, re⟩ := hR
  have hh := hg.2.2.2.2.2.1
  unfold f_X4_hear
  refine Ok_bindE (wd_yes hR0 hg hw) ?_
  dsimp only
  rw [if_neg (by decide)]
  refine Ok_bindE (inN (l := 0) (m := 10) σ (by omega) (by omega) (by omega) (by omega) hv) ?_
  dsimp only
  rw [if_neg (by decide)]
  refine Ok_bindE (inN (l := 0) (m := 20) σ (by omega) (by omega) (by omega) (by omega) hd) ?_
  dsimp only
  rw [if_pos (by decide)]
  simp (disch := omega) only [re.1, z6, nI_eq]
  by_cases h6 : h = 6
  · rw [if_neg (fun z => z h6)]
    exact Ok_some (Or.inl ⟨h6, rfl, hR0⟩)
  · have hin : ¬ (nI h < 0 ∨ 6 ≤ (nI h).toNatClampNeg) := in_nI (by omega) (by decide)
    rw [if_pos h6, if_neg hin, nI_clamp (by omega)]
    refine Ok_nm ?_
    have e12 : ∀ c i v, ¬ c = 0 → w2 σ c i v 0 12 = nI h := fun c i v hc => by rw [w2_ap, if_neg (fun z => hc z.1.symm)]; exact re.1
    refine Ok_jn (fun q => q = (wv v, w2 σ 5 h (nI w))) (fun q hq => ?_) (fun kk hkk => ?_)
    · subst hq
      dsimp only
      have e12b : w2 (w2 σ 5 h (nI w)) 6 h (wv v) 0 12 = nI h := by rw [w2_ap, if_neg (by omega)]; exact e12 5 h _ (by omega)
      have e12c : w2 (w2 (w2 σ 5 h (nI w)) 6 h (wv v)) 7 h (nI d) 0 12 = nI h := by rw [w2_ap, if_neg (by omega)]; exact e12b
      simp only [e12 5 h (nI w) (by omega)]
      rw [if_neg hin, nI_clamp (by omega)]
      refine Ok_nm ?_
      simp only [e12b]
      rw [if_neg hin, nI_clamp (by omega)]
      refine Ok_nm ?_
      simp only [e12c]
      rw [z1, nI_add]
      refine Ok_nm (Ok_some (Or.inr ⟨by omega, ?_, ?_⟩))
      · dsimp only; rw [w2_ap, if_pos ⟨rfl, rfl⟩]
      · dsimp only
        have ec : ∀ j, ¬ j = 0 → ¬ j = 5 → ¬ j = 6 → ¬ j = 7 → w2 (w2 (w2 (w2 σ 5 h (nI w)) 6 h (wv v)) 7 h (nI d)) 0 12 (nI (h + 1)) j = σ j := fun j h0 h5 h6 h7 => by funext i; rw [w2_ap, if_neg (fun z => h0 z.1), w2_ap, if_neg (fun z => h7 z.1), w2_ap, if_neg (fun z => h6 z.1), w2_ap, if_neg (fun z => h5 z.1)]
        have eo : ∀ j, ¬ j = 12 → w2 (w2 (w2 (w2 σ 5 h (nI w)) 6 h (wv v)) 7 h (nI d)) 0 12 (nI (h + 1)) 0 j = σ 0 j := fun j h6 => by rw [w2_ap, if_neg (fun z => h6 z.2), w2_ap, if_neg (by omega), w2_ap, if_neg (by omega), w2_ap, if_neg (by omega)]
        refine ⟨?_, ⟨?_, ?_⟩, ?_, ?_, ⟨?_, fun i hi => ⟨?_, ?_, ?_⟩⟩⟩
        · unfold RMx; rw [eo 8 (by omega), ec 4 (by omega) (by omega) (by omega) (by omega)]; exact ra
        · unfold MG; rw [eo 0 (by omega), eo 1 (by omega), eo 2 (by omega), ec 1 (by omega) (by omega) (by omega) (by omega)]; exact rb.1
        · rw [ec 3 (by omega) (by omega) (by omega) (by omega)]; exact rb.2
        · unfold RMu; rw [eo 6 (by omega), ec 3 (by omega) (by omega) (by omega) (by omega)]; exact rc
        · unfold RMk; rw [eo 7 (by omega), ec 3 (by omega) (by omega) (by omega) (by omega)]; exact rd
        · rw [w2_ap, if_pos ⟨rfl, rfl⟩]
        · dsimp only
          rw [w2_ap, if_neg (by omega), w2_ap, if_neg (by omega), w2_ap, if_neg (by omega), w2_ap]
          by_cases hz : i = h
          · rw [if_pos ⟨rfl, hz⟩, if_pos hz]
          · rw [if_neg (fun z => hz z.2), if_neg hz]; exact (re.2 i (by omega)).1
        · dsimp only
          rw [w2_ap, if_neg (by omega), w2_ap, if_neg (by omega), w2_ap]
          by_cases hz : i = h
          · rw [if_pos ⟨rfl, hz⟩, if_pos hz]
          · rw [if_neg (fun z => hz z.2), if_neg hz, w2_ap, if_neg (by omega)]; exact (re.2 i (by omega)).2.1
        · dsimp only
          rw [w2_ap, if_neg (by omega), w2_ap]
          by_cases hz : i = h
          · rw [if_pos ⟨rfl, hz⟩, if_pos hz]
          · rw [if_neg (fun z => hz z.2), if_neg hz, w2_ap, if_neg (by omega), w2_ap, if_neg (by omega)]; exact (re.2 i (by omega)).2.2
    · rw [z10]
      simp (disch := omega) only [nI_eq]
      refine Ok_ite (fun hc => hkk _ ?_) (fun hc => hkk _ ?_)
      · rw [wv_lt (by omega)]
      · have := Classical.not_not.mp hc
        subst this; rfl
theorem m_hear_bad (hR : RM σ X n T U u K k H h) (hg : gOk X n T U u K k H h) {a b c : Int32} (ha : ¬ inR a (tW T) ∨ b < 0 ∨ 10 < b ∨ c < 0 ∨ ¬ c ≤ 20) : f_X4_hear a b c σ = some (-1, σ) := by
  refine Ok_eq ?_
  unfold f_X4_hear
  by_cases h1 : inR a (tW T)
  · obtain ⟨w, hw, rfl⟩ := h1
    refine Ok_bindE (wd_yes hR hg hw) ?_
    dsimp only
    rw [if_neg (by decide)]
    refine Ok_bindE (in_eq b 0 10 σ) ?_
    dsimp only
    by_cases hb : (0 : Int32) ≤ b ∧ b ≤ 10
    · rw [if_pos hb, if_neg (by decide)]
      refine Ok_bindE (in_bad (l := 0) (m := 20) σ ?_) ?_
      · rcases ha with z | z | z | z | z
        · exact absurd ⟨w, hw, rfl⟩ z
        · exact absurd z ((i0le b).mp hb.1)
        · exact absurd z (Int32.not_lt.mpr hb.2)
        · exact Or.inl z
        · exact Or.inr z
      · exact Ok_some rfl
    · rw [if_neg hb, if_pos rfl]; exact Ok_some rfl
  · refine Ok_bindE (wd_no hR hg h1) ?_
    exact Ok_some rfl
theorem m_forget (hR : RM σ X n T U u K k H h) (hg : gOk X n T U u K k H h) : Ok (f_X4_forget σ) (fun q => q.1 = nI h ∧ RM q.2 X n T U u K k H 0) := by
  obtain ⟨ra, rb, rc, rd, re⟩ := hR
  unfold f_X4_forget
  refine Ok_nm (Ok_nm (Ok_some ⟨re.1, ?_⟩))
  dsimp only
  have ec : ∀ j, ¬ j = 0 → w2 σ 0 12 (0 : Int32) j = σ j := fun j h0 => by funext i; rw [w2_ap, if_neg (fun z => h0 z.1)]
  have eo : ∀ j, ¬ j = 12 → w2 σ 0 12 (0 : Int32) 0 j = σ 0 j := fun j h8 => by rw [w2_ap, if_neg (fun z => h8 z.2)]
  refine ⟨?_, ⟨?_, ?_⟩, ?_, ?_, ⟨?_, fun i hi => by omega⟩⟩
  · unfold RMx; rw [eo 8 (by omega), ec 4 (by omega)]; exact ra
  · unfold MG; rw [eo 0 (by omega), eo 1 (by omega), eo 2 (by omega), ec 1 (by omega)]; exact rb.1
  · rw [ec 3 (by omega)]; exact rb.2
  · unfold RMu; rw [eo 6 (by omega), ec 3 (by omega)]; exact rc
  · unfold RMk; rw [eo 7 (by omega), ec 3 (by omega)]; exact rd
  · rw [w2_ap, if_pos ⟨rfl, rfl⟩]; rfl
theorem trialR (hR : RM σ X n T U u K k H h) (hg : gOk X n T U u K k H h) : Ok (f_X4_copies (0 : Int32) (1001 : Int32) σ) (fun x => MB x.2 1001 T ∧ RM x.2 X n T U u K k H h) := Ok_mono (trialM hR.2.1 hg.2.1.1) (fun x hx => ⟨hx.1, RM_scr hR hg (Mr_s hx.2)⟩)
theorem m_behind (hR : RM σ X n T U u K k H h) (hg : gOk X n T U u K k H h) {m p : Nat} {b : Int32} (hm : m ≤ 40) (hp : p < tN T) (hb : b = -1 ∨ ∃ w, w < tW T ∧ b = nI w) : Ok (f_X4_behind (nI m) (nI p) b σ) (fun q => q.1 = behV T m p b ∧ RM q.2 X n T U u K k H h) := by
  have s := stat_days' (T := T) (m := m)
  have hwf := hg.2.1.1
  have wf := wf_days (k := m) hg.2.1.1
  have h8 := hg.2.1.1.1
  have hW := hg.2.1.2.1
  unfold f_X4_behind
  refine Ok_bindE (inN (l := 0) (m := 40) σ (by omega) (by omega) (by omega) (by omega) hm) ?_
  dsimp only
  rw [if_neg (by decide)]
  refine Ok_bindE (on_yes hR hg hp) ?_
  dsimp only
  rw [if_neg (by decide)]
  have e5 : f_X4_in b.toInt64 (-1 : Int64) ((σ 0 0) - (1 : Int32)).toInt64 σ = some (1, σ) := by
    have e := in_eq b (-1) ((σ 0 0) - (1 : Int32)) σ
    rw [if_pos] at e
    · exact e
    · rw [hR.2.1.1.1, z1, pk_sub (by omega)]
      rcases hb with rfl | ⟨w, hw, rfl⟩
      · refine ⟨by decide, ?_⟩
        have : ∀ j, j < 8 → (-1 : Int32) ≤ nI j := by decide
        exact this _ (by omega)
      · refine ⟨?_, by rw [nI_leI (by omega) (by omega)]; omega⟩
        have : ∀ j, j < 8 → (-1 : Int32) ≤ nI j := by decide
        exact this _ (by omega)
  refine Ok_bindE e5 ?_
  dsimp only
  rw [if_pos (by decide)]
  refine Ok_bind (trialR hR hg) (fun q1 h1 => ?_)
  refine Ok_bind (daysM (b := 1001) h1.1 hwf (by omega) (by omega)) (fun q2 h2 => ?_)
  have R2 := RM_scr h1.2 hg h2.2
  rcases hb with rfl | ⟨w, hw, rfl⟩
  · rw [if_neg (by decide)]
    refine Ok_bindE (rightM (b := 1001) h2.1 wf (by omega) (by rw [s.2.1]; exact hp)) ?_
    refine Ok_bindE (bitsR wf) ?_
    refine Ok_some ⟨?_, R2⟩
    unfold behV
    rw [if_pos (by decide)]
  · rw [if_pos (by rw [nI_0le (by omega)]; trivial)]
    refine Ok_bindE (hasM (b := 1001) h2.1 wf (by omega) (by rw [s.2.1]; exact hp) (by rw [s.1]; exact hw)) ?_
    simp only [wv_pos]
    unfold behV
    rw [if_neg (c := nI w < 0) (by rw [nI_lt0 (by omega)]; simp), nI_clamp (by omega)]
    by_cases hh : way (days T m) p w < 10
    · rw [if_pos hh, if_pos hh]
      refine Ok_bindE (hasM (b := 1001) h2.1 wf (by omega) (by rw [s.2.1]; exact hp) (by rw [s.1]; exact hw)) ?_
      exact Ok_some ⟨wv_lt hh, R2⟩
    · rw [if_neg hh, if_neg hh]
      exact Ok_some ⟨rfl, R2⟩
theorem m_behind_bad (hR : RM σ X n T U u K k H h) (hg : gOk X n T U u K k H h) {a p b : Int32} (ha : a < 0 ∨ 40 < a ∨ ¬ inR p (tN T) ∨ ¬ (b = -1 ∨ inR b (tW T))) : f_X4_behind a p b σ = some (-1, σ) := by
  have h8 := hg.2.1.1.1
  have hW := hg.2.1.2.1
  refine Ok_eq ?_
  unfold f_X4_behind
  refine Ok_bindE (in_eq a 0 40 σ) ?_
  dsimp only
  by_cases h0 : (0 : Int32) ≤ a ∧ a ≤ 40
  · rw [if_pos h0, if_neg (by decide)]
    by_cases h1 : inR p (tN T)
    · obtain ⟨p, hp, rfl⟩ := h1
      refine Ok_bindE (on_yes hR hg hp) ?_
      dsimp only
      rw [if_neg (by decide)]
      have hb : ¬ (b = -1 ∨ inR b (tW T)) := by
        rcases ha with z | z | z | z
        · exact absurd z ((i0le a).mp h0.1)
        · exact absurd z (Int32.not_lt.mpr h0.2)
        · exact absurd ⟨p, hp, rfl⟩ z
        · exact z
      have e5 : f_X4_in b.toInt64 (-1 : Int64) ((σ 0 0) - (1 : Int32)).toInt64 σ = some (0, σ) := by
        have e := in_eq b (-1) ((σ 0 0) - (1 : Int32)) σ
        rw [if_neg] at e
        · exact e
        · rw [hR.2.1.1.1]
          rintro ⟨z1, z2⟩
          apply hb
          by_cases hneg : b < 0
          · left
            have a1 : (-1 : Int) ≤ b.toInt := by rw [Int32.le_iff_toInt_le] at z1; exact z1
            have a2 : b.toInt < 0 := by rw [Int32.lt_iff_toInt_lt] at hneg; exact hneg
            apply Int32.toInt_inj.mp
            have : b.toInt = -1 := by omega
            rw [this]; rfl
          · right
            exact (inR0 (by omega)).mp ⟨(i0le b).mpr hneg, z2⟩
      refine Ok_bindE e5 ?_
      exact Ok_some rfl
    · refine Ok_bindE (on_no hR hg h1) ?_
      exact Ok_some rfl
  · rw [if_neg h0, if_pos rfl]; exact Ok_some rfl
theorem m_made (hR : RM σ X n T U u K k H h) (hg : gOk X n T U u K k H h) {p : Nat} (hp : p < tN T) : Ok (f_X4_made (nI p) σ) (fun q => q.1 = madeF T p 61 0 ∧ RM q.2 X n T U u K k H h) := by
  have hwf := hg.2.1.1
  have z60 : (60 : Int32) = nI 60 := rfl
  unfold f_X4_made
  refine Ok_bindE (on_yes hR hg hp) ?_
  dsimp only
  rw [if_pos (by decide)]
  refine Ok_bind (trialR hR hg) (fun q1 h1 => ?_)
  refine Ok_for (fun i x => x.1 = nI i ∧ MB x.2 1001 (days T i) ∧ RM x.2 X n T U u K k H h ∧ madeF T p 61 0 = madeF T p (61 - i) i) 0 61 _ ⟨rfl, h1.1, h1.2, rfl⟩ (by omega) (by omega) (fun rec i x _ hi hx hr => ?_) (fun rec x hx => ?_)
  · obtain ⟨e1, m1, r1, f1⟩ := hx
    have s := stat_days' (T := T) (m := i)
    have wf := wf_days (k := i) hwf
    rw [e1, z60]
    simp (disch := omega) only [nI_ltI]
    rw [if_neg (by omega)]
    refine Ok_bindE (isSpeakerM (b := 1001) m1 wf (by omega) (by rw [s.2.1]; exact hp)) ?_
    dsimp only
    obtain ⟨g, hgg⟩ : ∃ g, 61 - i = g + 1 := ⟨60 - i, by omega⟩
    rw [hgg] at f1
    unfold madeF at f1
    rw [s.2.2]
    by_cases hc : tS T ≤ rgtN (days T i) p
    · rw [if_pos hc] at f1 ⊢
      rw [if_neg (by decide)]
      refine Ok_some ⟨?_, r1⟩
      rw [← f1]
      unfold madeF; rfl
    · rw [if_neg hc] at f1 ⊢
      rw [if_pos rfl]
      refine Ok_bind (dayM (tl := true) (b := 1001) m1 wf (by omega)) (fun q2 h2 => ?_)
      refine Ok_nm (hr _ ⟨?_, h2.1, RM_scr r1 hg h2.2, ?_⟩)
      · show nI i + 1 = nI (i + 1); rw [z1, nI_add]
      · have : 61 - (i + 1) = g := by omega
        rw [this, ← f1]
        rfl
  · obtain ⟨e1, m1, r1, f1⟩ := hx
    rw [e1, if_pos (by decide)]
    exact Ok_some ⟨f1.symm, r1⟩
theorem m_made_bad (hR : RM σ X n T U u K k H h) (hg : gOk X n T U u K k H h) {a : Int32} (ha : ¬ inR a (tN T)) : f_X4_made a σ = some (-1, σ) := by
  refine Ok_eq ?_
  unfold f_X4_made
  refine Ok_bindE (on_no hR hg ha) ?_
  exact Ok_some rfl
end MK
