/-! the class's Text: need, items, the whole text; append -/
theorem CR_need {σ : St} {t v : Nat} {D : Tb} (h : CR σ t D) : CR (w2 σ t 2 (nI v)) t (tu D 0 2 v) := by
  obtain ⟨c0, c1, c2, c3, c4, c5⟩ := h
  refine ⟨?_, ?_, ?_, ?_, fun x hx => ?_, fun q hqn => ?_⟩
  · simp only [w2_ap]; simpa [tW, tu] using c0
  · simp only [w2_ap]; simpa [tN, tu] using c1
  · simp only [w2_ap]; simp [tS, tu]
  · simp only [w2_ap]; simpa [tD, tu] using c3
  · simp only [w2_ap]; simpa [snd, tu] using c4 x (by simpa [tW, tu] using hx)
  · have d := c5 q (by simpa [tN, tu] using hqn)
    have f : ∀ c k, ¬ c = t → w2 σ t 2 (nI v) c k = σ c k := fun c k hc => by rw [w2_ap, if_neg (fun z => hc z.1)]
    refine ⟨(f _ _ (by omega)).trans d.1, (f _ _ (by omega)).trans d.2.1, (f _ _ (by omega)).trans d.2.2.1, (f _ _ (by omega)).trans d.2.2.2.1, fun x hx hh => ?_⟩
    have g := d.2.2.2.2 x hx hh
    exact ⟨(f _ _ (by omega)).trans g.1, (f _ _ (by omega)).trans g.2⟩
theorem wf_need {D : Tb} {v : Nat} (h : wfT D) (h1 : 1 ≤ v) (h8 : v ≤ 8) : wfT (tu D 0 2 v) := by
  obtain ⟨a1, a2, a3, a4, a5, a6⟩ := h
  exact ⟨by simpa [tW, tu] using a1, by simpa [tN, tu] using a2, by simpa [tS, tu] using h1, by simpa [tS, tu] using h8, by simpa [tW, snd, tu] using a5, by simpa [tN, tW, knd, mmr, way, age, tu] using a6⟩
theorem wf_setTg {D : Tb} {X : Nat → Nat} {n i m : Nat} (h : wfT D) (hN : tN D = 0) (hm : m ≤ 8) (hf : ∀ j, j < m → chr X n (i + j) ≤ 57) : wfT (setTg D X n i m) := by
  obtain ⟨a1, a2, a3, a4, a5, a6⟩ := h
  have hN' : tN (setTg D X n i m) = 0 := by unfold tN setTg; simp; exact hN
  refine ⟨by simpa [tW, setTg] using hm, by rw [hN']; omega, by simpa [tS, setTg] using a3, by simpa [tS, setTg] using a4, fun w hw => ?_, fun p hp => by rw [hN'] at hp; omega⟩
  have hw2 : w < m := by simpa [tW, setTg] using hw
  have := hf w hw2
  have e : snd (setTg D X n i m) w = chr X n (i + w) - 48 := by simp [snd, setTg, hw2]
  omega
section TI
variable {σ : St} {X : Nat → Nat} {n i t : Nat} {past : Bool} {D : Tb}
theorem readNeed_ok (ht : txtOk X n) (h : RT σ X n i past) (hi : i ≤ n) (hD : CR σ t D) (hw : wfT D) (h2 : 2 ≤ t) : Ok (f_X2_readNeed t σ) (fun q => Fri σ q.2 t ∧ ∃ j, j ≤ n ∧ RT q.2 X n j true ∧ (pNee X n i = none ∧ q.1 = 0 ∨ ∃ v, pNee X n i = some (j, v) ∧ i < j ∧ q.1 = 1 ∧ CR q.2 t (tu D 0 2 v) ∧ wfT (tu D 0 2 v))) := by
  have hn := ht.1
  unfold f_X2_readNeed
  refine Ok_nm ?_
  have e1 : w2 σ 0 2 (1 : Int32) = w2 σ 0 2 (nI (if true then 1 else 0)) := rfl
  rw [e1]
  obtain ⟨r1, g1⟩ := RT_past (b := true) h
  generalize w2 σ 0 2 (nI (if true then 1 else 0)) = σ1 at r1 g1 ⊢
  have z59 : (59 : Int32) = nI 59 := rfl
  -- the terminator is no figure
  have num : Ok (f_X2_number (nI 59) σ1) (fun q => Frt σ1 q.2 ∧ ∃ j, j ≤ n ∧ RT q.2 X n j true ∧ (pNum X n i 59 = none ∧ q.1 = -1 ∨ ∃ v, pNum X n i 59 = some (v, j) ∧ i < j ∧ v < 100 ∧ q.1 = nI v)) := number_ok ht r1 hi (by omega) (by omega)
  rw [z59]
  refine Ok_bind num (fun q1 hq1 => ?_)
  obtain ⟨g2, j1, hj1, r2, alt⟩ := hq1
  have ga : Frt σ q1.2 := Frt_tr g1 g2
  rcases alt with ⟨pn, qv⟩ | ⟨v, pn, hlt, hv, qv⟩
  · rw [qv, if_pos (by decide)]
    exact Ok_some ⟨Fri_t ga, j1, hj1, r2, Or.inl ⟨by unfold pNee; rw [pn]; rfl, rfl⟩⟩
  · rw [qv]
    have up : pNee X n i = if 1 ≤ v ∧ v ≤ 8 then some (j1, v) else none := by unfold pNee; rw [pn]; rfl
    refine Ok_ite (fun hc => ?_) (fun hc => ?_)
    · rw [z1, nI_ltI (by omega) (by omega)] at hc
      exact Ok_some ⟨Fri_t ga, j1, hj1, r2, Or.inl ⟨by rw [up, if_neg (by omega)], rfl⟩⟩
    · rw [z1, nI_ltI (by omega) (by omega)] at hc
      refine Ok_ite (fun h8 => ?_) (fun h8 => ?_)
      · rw [z8, nI_leI (by omega) (by omega)] at h8
        have cr : CR q1.2 t D := CR_fr hD (fun c hc _ => ga c (by omega))
        refine Ok_nm (Ok_some ⟨Fri_tr (Fri_t ga) (Fri_f (w2_fr (by omega) (by omega))), j1, hj1, RT_f r2 h2 (w2_fr (by omega) (by omega)), Or.inr ⟨v, by rw [up, if_pos (by omega)], hlt, rfl, CR_need cr, wf_need hw (by omega) h8⟩⟩)
      · rw [z8, nI_leI (by omega) (by omega)] at h8
        exact Ok_some ⟨Fri_t ga, j1, hj1, r2, Or.inl ⟨by rw [up, if_neg (by omega)], rfl⟩⟩
theorem readItem_ok (ht : txtOk X n) (h : RT σ X n i past) (hi : i < n) (hD : CR σ t D) (hw : wfT D) (hN : past = false → tN D = 0) (h2 : 2 ≤ t) : Ok (f_X2_readItem t σ) (fun q => Fri σ q.2 t ∧ ((pItem D X n i past = none ∧ q.1 = 0 ∧ ∃ j b, j ≤ n ∧ RT q.2 X n j b) ∨ ∃ a, pItem D X n i past = some a ∧ i < a.1 ∧ a.1 ≤ n ∧ q.1 = 1 ∧ RT q.2 X n a.1 a.2.2 ∧ CR q.2 t a.2.1 ∧ wfT a.2.1 ∧ (a.2.2 = false → tN a.2.1 = 0))) := by
  have hn := ht.1
  have c0 := chr_lt ht i
  unfold f_X2_readItem
  refine Ok_bind (next_ok ht h (by omega)) (fun q1 hq1 => ?_)
  obtain ⟨e1, r1, g1⟩ := hq1
  rw [if_pos hi] at r1
  have cr1 : CR q1.2 t D := CR_fr hD (fun c hc _ => g1 c (by omega))
  rw [e1]
  have y115 : (115 : Int32) = nI 115 := rfl
  have y116 : (116 : Int32) = nI 116 := rfl
  have y117 : (117 : Int32) = nI 117 := rfl
  have y118 : (118 : Int32) = nI 118 := rfl
  have y119 : (119 : Int32) = nI 119 := rfl
  have bad : ¬ chr X n i = 116 → ¬ chr X n i = 119 → ¬ chr X n i = 115 → Ok (some ((0 : Int32), q1.2)) (fun q => Fri σ q.2 t ∧ ((pItem D X n i past = none ∧ q.1 = 0 ∧ ∃ j b, j ≤ n ∧ RT q.2 X n j b) ∨ ∃ a, pItem D X n i past = some a ∧ i < a.1 ∧ a.1 ≤ n ∧ q.1 = 1 ∧ RT q.2 X n a.1 a.2.2 ∧ CR q.2 t a.2.1 ∧ wfT a.2.1 ∧ (a.2.2 = false → tN a.2.1 = 0))) := fun b1 b2 b3 =>
    Ok_some ⟨Fri_t g1, Or.inl ⟨by unfold pItem; rw [if_neg b1, if_neg b2, if_neg b3], rfl, i + 1, past, by omega, r1⟩⟩
  refine Ok_ite (fun h5 => ?_) (fun h5 => ?_)
  · rw [y115, nI_eq (by omega) (by omega)] at h5
    refine Ok_bind (readNeed_ok ht r1 (by omega) cr1 hw h2) (fun q2 hq2 => ?_)
    obtain ⟨g2, j, hj, r2, alt⟩ := hq2
    have up : pItem D X n i past = (pNee X n (i + 1)).bind (fun a => some (a.1, tu D 0 2 a.2, true)) := by unfold pItem; rw [if_neg (by omega), if_neg (by omega), if_pos h5]
    rcases alt with ⟨pn, qv⟩ | ⟨v, pn, hlt, qv, cr, wf⟩
    · rw [qv, if_neg (by decide)]
      exact Ok_some ⟨Fri_tr (Fri_t g1) g2, Or.inl ⟨by rw [up, pn]; rfl, rfl, j, true, hj, r2⟩⟩
    · rw [qv, if_neg (by decide)]
      exact Ok_some ⟨Fri_tr (Fri_t g1) g2, Or.inr ⟨_, by rw [up, pn]; rfl, by show i < j; omega, hj, rfl, r2, cr, wf, fun z => by cases z⟩⟩
  · rw [y115, nI_eq (by omega) (by omega)] at h5
    refine Ok_ite (fun h6 => ?_) (fun h6 => ?_)
    · rw [y116, nI_eq (by omega) (by omega)] at h6
      refine Ok_bind (readTongue_ok ht r1 (by omega) cr1 hN h2) (fun q2 hq2 => ?_)
      obtain ⟨g2, g3, j, hj, r2, alt⟩ := hq2
      have gi : Fri σ q2.2 t := fun c hc hc2 => by
        rcases hc2 with hc2 | hc2
        · rw [g3 c hc hc2]; exact g1 c hc
        · rw [g2 c (by omega)]; exact g1 c hc
      have up : pItem D X n i past = if past = true then none else (pTong D X n (i + 1)).bind (fun a => some (a.1, a.2, false)) := by unfold pItem; rw [if_pos h6]
      rcases alt with ⟨pn, qv⟩ | ⟨pf, D', pn, hlt, qv, cr⟩
      · rw [qv, if_neg (by decide)]
        refine Ok_some ⟨gi, Or.inl ⟨?_, rfl, j, past, hj, r2⟩⟩
        rw [up]
        rcases pn with pn | pn
        · rw [if_pos pn]
        · rw [pn]; split <;> rfl
      · rw [qv, if_neg (by decide)]
        subst pf
        refine Ok_some ⟨gi, Or.inr ⟨(j, D', false), by rw [up, if_neg (by decide), pn]; rfl, by show i < j; omega, hj, rfl, r2, cr, ?_⟩⟩
        unfold pTong at pn
        split at pn
        · rename_i hm
          cases pn
          refine ⟨wf_setTg hw (hN rfl) hm.2.1 (fun y hy => (dc_fig hy).2), fun _ => ?_⟩
          unfold tN setTg; simp; exact hN rfl
        · cases pn
    · rw [y116, nI_eq (by omega) (by omega)] at h6
      refine Ok_ite (fun h7 => ?_) (fun h7 => ?_)
      · rw [y117, nI_eq (by omega) (by omega)] at h7
        exact bad (by omega) (by omega) (by omega)
      · refine Ok_ite (fun h8 => ?_) (fun h8 => ?_)
        · rw [y118, nI_eq (by omega) (by omega)] at h8
          exact bad (by omega) (by omega) (by omega)
        · refine Ok_ite (fun h9 => ?_) (fun h9 => ?_)
          · rw [y119, nI_eq (by omega) (by omega)] at h9
            refine Ok_bind (readWooer_ok ht r1 (by omega) cr1 hw h2) (fun q2 hq2 => ?_)
            obtain ⟨g2, j, hj, r2, alt⟩ := hq2
            have up : pItem D X n i past = (pWoo D X n (i + 1)).bind (fun a => some (a.1, a.2, true)) := by unfold pItem; rw [if_neg h6, if_pos h9]
            rcases alt with ⟨pn, qv⟩ | ⟨D', pn, hlt, qv, cr, wf⟩
            · rw [qv, if_neg (by decide)]
              exact Ok_some ⟨Fri_tr (Fri_t g1) g2, Or.inl ⟨by rw [up, pn]; rfl, rfl, j, true, hj, r2⟩⟩
            · rw [qv, if_neg (by decide)]
              exact Ok_some ⟨Fri_tr (Fri_t g1) g2, Or.inr ⟨_, by rw [up, pn]; rfl, by show i < j; omega, hj, rfl, r2, cr, wf, fun z => by cases z⟩⟩
          · rw [y119, nI_eq (by omega) (by omega)] at h9
            exact bad h6 h9 h5
theorem wf_T00 : wfT T00 := ⟨by decide, by decide, by decide, by decide, fun w hw => by simp [tW, T00] at hw, fun p hp => by simp [tN, T00] at hp⟩
theorem readInto_ok (ht : txtOk X n) (h : RT σ X n i past) (h2 : 2 ≤ t) : Ok (f_X2_readInto t σ) (fun q => Fri σ q.2 t ∧ (∃ j b, j ≤ n ∧ RT q.2 X n j b) ∧ (∃ k, (pR X n 201 0 T00 false).1 = some k ∧ k < n ∧ q.1 = nI k ∨ (pR X n 201 0 T00 false).1 = none ∧ q.1 = -4 ∧ CR q.2 t (pR X n 201 0 T00 false).2 ∧ wfT (pR X n 201 0 T00 false).2)) := by
  have hn := ht.1
  unfold f_X2_readInto
  refine Ok_bind clear_ok (fun q1 hq1 => ?_)
  obtain ⟨cr1, f1⟩ := hq1
  have g1 : Fri σ q1.2 t := fun c hc hc2 => f1 c (by omega)
  have r1 : RT q1.2 X n i past := by
    unfold RT; rw [f1 0 (by omega), f1 1 (by omega)]; exact h
  refine Ok_nm (Ok_nm ?_)
  have r2 : RT (w2 (w2 q1.2 0 1 (0 : Int32)) 0 2 (0 : Int32)) X n 0 false := by
    refine ⟨?_, ?_, ?_, fun j hj => ?_⟩
    · rw [w2_ap, if_neg (by omega), w2_ap, if_neg (by omega)]; exact r1.1
    · rw [w2_ap, if_neg (by omega), w2_ap, if_pos ⟨rfl, rfl⟩]; rfl
    · rw [w2_ap, if_pos ⟨rfl, rfl⟩]; rfl
    · rw [w2_ap, if_neg (by omega), w2_ap, if_neg (by omega)]; exact r1.2.2.2 j hj
  have gf : Frt q1.2 (w2 (w2 q1.2 0 1 (0 : Int32)) 0 2 (0 : Int32)) := fun c hc => by
    funext k; rw [w2_ap, if_neg (fun z => hc z.1), w2_ap, if_neg (fun z => hc z.1)]
  generalize w2 (w2 q1.2 0 1 (0 : Int32)) 0 2 (0 : Int32) = σ2 at r2 gf ⊢
  have g2 : Fri σ σ2 t := Fri_tr g1 (Fri_t gf)
  have cr2 : CR σ2 t T00 := CR_fr cr1 (fun c hc _ => gf c (by omega))
  refine Ok_lp (fun b => ∃ item i D past f, b.1 = nI item ∧ RT b.2 X n i past ∧ CR b.2 t D ∧ wfT D ∧ (past = false → tN D = 0) ∧ item ≤ i ∧ i ≤ n ∧ n - i < f ∧ pR X n f i D past = pR X n 201 0 T00 false ∧ Fri σ b.2 t) (fun b => 201 - (b.2 0 1).toNatClampNeg) (fun rec b hb hr => ?_) FU _ ⟨0, 0, T00, false, 201, rfl, r2, cr2, wf_T00, fun _ => rfl, Nat.le_refl _, Nat.zero_le _, by omega, rfl, g2⟩ (by unfold FU; omega)
  obtain ⟨item, i, D, past, f, e1, r3, cr3, wf3, hN3, hit, hin, hf, hp, g3⟩ := hb
  obtain ⟨f, rfl⟩ : ∃ f', f = f' + 1 := ⟨f - 1, by omega⟩
  have y200 : (200 : Int32) = nI 200 := rfl
  rw [e1, y200]
  have fin : n ≤ i → Ok (some ((-4 : Int32), b.2)) (fun q => Fri σ q.2 t ∧ (∃ j b, j ≤ n ∧ RT q.2 X n j b) ∧ (∃ k, (pR X n 201 0 T00 false).1 = some k ∧ k < n ∧ q.1 = nI k ∨ (pR X n 201 0 T00 false).1 = none ∧ q.1 = -4 ∧ CR q.2 t (pR X n 201 0 T00 false).2 ∧ wfT (pR X n 201 0 T00 false).2)) := fun hni => by
    have e : pR X n (f + 1) i D past = (none, D) := by unfold pR; rw [if_pos hni]
    rw [e] at hp
    rw [← hp]
    exact Ok_some ⟨g3, ⟨i, past, hin, r3⟩, 0, Or.inr ⟨rfl, rfl, cr3, wf3⟩⟩
  refine Ok_ite (fun hc => ?_) (fun hc => ?_)
  · rw [nI_leI (by omega) (by omega)] at hc
    exact fin (by omega)
  · rw [nI_leI (by omega) (by omega)] at hc
    refine Ok_ite (fun hc2 => ?_) (fun hc2 => ?_)
    · rw [r3.1, r3.2.1, nI_leI (by omega) (by omega)] at hc2
      exact fin hc2
    · rw [r3.1, r3.2.1, nI_leI (by omega) (by omega)] at hc2
      refine Ok_nm ?_
      refine Ok_bind (readItem_ok ht r3 (by omega) cr3 wf3 hN3 h2) (fun q2 hq2 => ?_)
      obtain ⟨g4, alt⟩ := hq2
      have g5 : Fri σ q2.2 t := Fri_tr g3 g4
      rcases alt with ⟨pn, qv, j, bb, hj, r4⟩ | ⟨a, pn, hlt, hle, qv, r4, cr4, wf4, hN4⟩
      · rw [qv, if_neg (by decide)]
        have e : pR X n (f + 1) i D past = (some i, D) := by unfold pR; rw [if_neg (by omega), pn]
        rw [e] at hp
        rw [← hp]
        exact Ok_some ⟨g5, ⟨j, bb, hj, r4⟩, i, Or.inl ⟨rfl, by omega, r3.2.1⟩⟩
      · rw [qv, if_pos (by decide)]
        have e : pR X n (f + 1) i D past = pR X n f a.1 a.2.1 a.2.2 := by
          show (if n ≤ i then _ else _) = _
          rw [if_neg (by omega), pn]
        refine Ok_nm (hr _ ⟨item + 1, a.1, a.2.1, a.2.2, f, ?_, r4, cr4, wf4, hN4, by omega, hle, by omega, by rw [← e]; exact hp, g5⟩ ?_)
        · show nI item + 1 = nI (item + 1); rw [z1, nI_add]
        · dsimp only
          rw [r4.2.1, r3.2.1, nI_clamp (by omega), nI_clamp (by omega)]
          omega
end TI
