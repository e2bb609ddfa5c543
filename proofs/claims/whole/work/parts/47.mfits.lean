/-! the other program: what was heard -/
section MF
variable {σ σ' : St} {X : Nat → Nat} {n : Nat} {T T' : Tb} {U : Nat → Tb} {u : Nat} {K : Nat → Tb} {k : Nat} {H : Nat → Nat × Nat × Nat} {h : Nat}
theorem and_m1 : ∀ a, a < 32 → nI a &&& (-1 : Int32) = nI a := by decide +kernel
theorem bs32 (f : Nat → Bool) {N : Nat} (hN : N ≤ 5) : bs f N < 32 := Nat.lt_of_lt_of_le (bs_lt f N) (by
  have : 2 ^ N ≤ 2 ^ 5 := Nat.pow_le_pow_right (by decide) hN
  simpa using this)
/-- among the wooers before p what is heard at i is reckoned with too -/
noncomputable def fitM (T : Tb) (H : Nat → Nat × Nat × Nat) (h d i p : Nat) (q : Nat) : Bool := if q < p then fitC T H h d (i + 1) q else fitC T H h d i q
theorem fitC_step {d i q : Nat} (hd : (H i).2.2 = d) : fitC T H h d (i + 1) q = (fitC T H h d i q && decide (way (days T d) q (H i).1 = (H i).2.1)) := by
  refine bool_iff ?_
  rw [Bool.and_eq_true, fitC_iff, fitC_iff, decide_eq_true_eq]
  constructor
  · rintro ⟨a1, a2⟩
    refine ⟨⟨a1, fun j hj ej => a2 j (by omega) ej⟩, ?_⟩
    have := a2 i (by omega) hd
    rw [hd] at this; exact this
  · rintro ⟨⟨a1, a2⟩, a3⟩
    refine ⟨a1, fun j hj ej => ?_⟩
    by_cases hji : j = i
    · subst hji; rw [ej]; exact a3
    · exact a2 j (by omega) ej
theorem fitC_skip {d i q : Nat} (hd : ¬ (H i).2.2 = d) : fitC T H h d (i + 1) q = fitC T H h d i q := by
  refine bool_iff ?_
  rw [fitC_iff, fitC_iff]
  constructor
  · rintro ⟨a1, a2⟩
    exact ⟨a1, fun j hj ej => a2 j (by omega) ej⟩
  · rintro ⟨a1, a2⟩
    refine ⟨a1, fun j hj ej => ?_⟩
    by_cases hji : j = i
    · subst hji; exact absurd ej hd
    · exact a2 j (by omega) ej
theorem fitM_step {d i p N : Nat} (hd : (H i).2.2 = d) (hp : p < N) (hN : N ≤ 5) : nI (bs (fitM T H h d i p) N) &&& (if way (days T d) p (H i).1 = (H i).2.1 then (-1 : Int32) else nI (2 ^ p) ^^^ (-1)) = nI (bs (fitM T H h d i (p + 1)) N) := by
  by_cases hc : way (days T d) p (H i).1 = (H i).2.1
  · rw [if_pos hc, and_m1 _ (bs32 _ hN)]
    congr 1
    refine bs_ext (fun q hq => ?_)
    unfold fitM
    by_cases h1 : q < p
    · rw [if_pos h1, if_pos (by omega)]
    · rw [if_neg h1]
      by_cases h2 : q = p
      · subst h2
        rw [if_pos (by omega), fitC_step hd]; simp [hc]
      · rw [if_neg (by omega)]
  · rw [if_neg hc, nI_andn, bs_one hp, bs_clear _ _ (by omega)]
    congr 1
    refine bs_ext (fun q hq => ?_)
    unfold fitM
    by_cases h2 : q = p
    · subst h2
      rw [if_neg (by omega), if_pos (by omega), fitC_step hd]; simp [hc, hp]
    · by_cases h1 : q < p
      · rw [if_pos h1, if_pos (by omega)]; simp [h2]
      · rw [if_neg h1, if_neg (by omega)]; simp [h2]
theorem fitsM (hM : MB σ 1001 T) (hw : wfT T) (hH : RMh σ H h) (h6 : h ≤ 6) (hd : ∀ i, i < h → (H i).1 < tW T ∧ (H i).2.1 ≤ 10 ∧ (H i).2.2 ≤ 20) : Ok (f_X4_fits σ) (fun q => q.1 = nI (bs (fitB T H h) (tN T)) ∧ Mr σ q.2 1001) := by
  have h5 := hw.2.1
  have h8 := hw.1
  have hpw : 1 ≤ 2 ^ tN T := Nat.pow_pos (by decide)
  have z20 : (20 : Int32) = nI 20 := rfl
  unfold f_X4_fits
  refine Ok_nm ?_
  have e0 : ((1 : Int32) <<< (nI (tN T) &&& 31)) - (1 : Int32) = nI (bs (fun _ => true) (tN T)) := by rw [shl1 _ (by omega), z1, pk_sub hpw, bs_all _ (by omega)]
  rw [hM.1.2.1, e0]
  refine Ok_for (fun d b => b.1 = nI (bs (fitC T H h d 0) (tN T)) ∧ b.2.1 = nI d ∧ MB b.2.2 1001 (days T d) ∧ Mr σ b.2.2 1001) 0 21 _ ⟨?_, rfl, hM, Mr_rf⟩ (Nat.zero_le _) (by omega) (fun rec d b _ hd1 hb hr => ?_) (fun rec b hb => ?_)
  · show nI _ = nI _
    congr 1
    refine bs_ext (fun p hp => ?_)
    have : fitC T H h 0 0 p = true := fitC_iff.mpr ⟨fun j _ hj => by omega, fun j hj => by omega⟩
    rw [this]
  · obtain ⟨g1, g2, c1, f1⟩ := hb
    rw [g1, g2, z20, if_neg (by rw [nI_ltI (by omega) (by omega)]; omega)]
    have s := stat_days' (T := T) (m := d)
    have wd := wf_days (k := d) hw
    have hH2 : RMh b.2.2 H h := by
      unfold RMh
      rw [f1.1 0 (by omega) (by omega) (by omega), f1.1 5 (by omega) (by omega) (by omega), f1.1 6 (by omega) (by omega) (by omega), f1.1 7 (by omega) (by omega) (by omega)]
      exact hH
    refine Ok_for (fun i x => x = (nI (bs (fitC T H h d i) (tN T)), nI i, b.2.2)) 0 h _ rfl (Nat.zero_le _) (by omega) (fun rec2 i x _ hi hx hr2 => ?_) (fun rec2 x hx => ?_)
    · subst hx
      obtain ⟨d1, d2, d3⟩ := hd i hi
      have hin : ¬ (nI i < 0 ∨ 6 ≤ (nI i).toNatClampNeg) := in_nI (by omega) (by decide)
      simp only [hH2.1]
      rw [if_neg (by rw [nI_leI (by omega) (by omega)]; omega)]
      by_cases hc : (H i).2.2 = d
      · refine Ok_for (fun p y => y = (nI (bs (fitM T H h d i p) (tN T)), nI p, b.2.2)) 0 (tN T) _ ?_ (Nat.zero_le _) (by omega) (fun rec3 p y _ hp hy hr3 => ?_) (fun rec3 y hy => ?_)
        · have e : bs (fitM T H h d i 0) (tN T) = bs (fitC T H h d i) (tN T) := bs_ext (fun q hq => by unfold fitM; rw [if_neg (by omega)])
          rw [e]; rfl
        · subst hy
          dsimp only
          refine Ok_jn (fun _ => False) (fun q hq => hq.elim) (fun k9 _ => ?_)
          simp only [c1.1.2.1, s.2.1]
          rw [if_neg (by rw [nI_leI (by omega) (by omega)]; omega), if_neg hin, nI_clamp (by omega)]
          have hin2 : ¬ (nI i < 0 ∨ 6 ≤ i) := by rw [nI_lt0 (by omega)]; simp; omega
          simp only [(hH2.2 i hi).2.2]
          rw [if_neg (fun z => z (by rw [hc])), if_neg hin2, (hH2.2 i hi).1]
          refine Ok_bindE (hasM (b := 1001) c1 wd (by omega) (by rw [s.2.1]; exact hp) (by rw [s.1]; exact d1)) ?_
          dsimp only
          rw [if_neg hin2]
          simp only [(hH2.2 i hi).2.1, wv_inj (way_le wd (by rw [s.2.1]; exact hp) (by rw [s.1]; exact d1)) d2]
          refine Ok_jn (fun q => q = ((if way (days T d) p (H i).1 = (H i).2.1 then (-1 : Int32) else nI (2 ^ p) ^^^ (-1)), b.2.2)) (fun q hq => ?_) (fun kk hkk => ?_)
          · subst hq
            refine Ok_nm (Ok_nm (hr3 _ ?_))
            dsimp only
            rw [fitM_step hc hp h5, z1, nI_add]
          · refine Ok_ite (fun hz => hkk _ ?_) (fun hz => hkk _ ?_)
            · rw [if_neg hz, shl1 p (by omega)]
            · rw [if_pos (Classical.not_not.mp hz)]
        · subst hy
          dsimp only
          refine Ok_jn (fun q => q = b.2.2) (fun q hq => ?_) (fun k9 hk9 => ?_)
          · subst hq
            refine Ok_nm (hr2 _ ?_)
            have e : bs (fitM T H h d i (tN T)) (tN T) = bs (fitC T H h d (i + 1)) (tN T) := bs_ext (fun q hq => by unfold fitM; rw [if_pos hq])
            rw [e, z1, nI_add]
          · simp only [c1.1.2.1, s.2.1]
            rw [if_pos (by rw [nI_leI (by omega) (by omega)]; exact Nat.le_refl _)]
            exact hk9 _ rfl
      · refine Ok_for (fun p y => y = (nI (bs (fitC T H h d i) (tN T)), nI 0, b.2.2)) 0 0 _ rfl (Nat.zero_le _) (by omega) (fun rec3 p y _ hp hy hr3 => by omega) (fun rec3 y hy => ?_)
        subst hy
        dsimp only
        refine Ok_jn (fun q => q = b.2.2) (fun q hq => ?_) (fun k9 hk9 => ?_)
        · subst hq
          refine Ok_nm (hr2 _ ?_)
          have e : bs (fitC T H h d i) (tN T) = bs (fitC T H h d (i + 1)) (tN T) := bs_ext (fun q hq => (fitC_skip hc).symm)
          rw [e, z1, nI_add]
        · refine Ok_ite (fun _ => hk9 _ rfl) (fun _ => ?_)
          rw [if_neg hin, nI_clamp (by omega)]
          simp only [(hH2.2 i hi).2.2]
          rw [if_pos (by rw [nI_eq (by omega) (by omega)]; exact hc)]
          exact hk9 _ rfl
    · subst hx
      simp only [hH2.1]
      rw [if_pos (by rw [nI_leI (by omega) (by omega)]; exact Nat.le_refl _)]
      refine Ok_bind (dayM (tl := true) (b := 1001) c1 wd (by omega)) (fun q2 hq2 => ?_)
      refine Ok_nm (hr _ ⟨?_, ?_, hq2.1, Mr_tr f1 hq2.2⟩)
      · show nI _ = nI _
        congr 1
        refine bs_ext (fun p hp => bool_iff ?_)
        rw [fitC_iff, fitC_iff]
        constructor
        · rintro ⟨a1, a2⟩
          refine ⟨fun j hj ej => ?_, fun j hj => by omega⟩
          by_cases hjd : (H j).2.2 = d
          · exact a2 j hj hjd
          · exact a1 j hj (by omega)
        · rintro ⟨a1, _⟩
          exact ⟨fun j hj ej => a1 j hj (by omega), fun j hj ej => a1 j hj (by omega)⟩
      · show nI d + 1 = nI (d + 1); rw [z1, nI_add]
  · obtain ⟨g1, g2, c1, f1⟩ := hb
    rw [g1, g2, z20, if_pos (by rw [nI_ltI (by omega) (by omega)]; omega)]
    refine Ok_some ⟨?_, f1⟩
    show nI _ = nI _
    congr 1
    refine bs_ext (fun p hp => bool_iff ?_)
    rw [fitC_iff, fitB_iff]
    constructor
    · rintro ⟨a1, _⟩ i hi
      exact a1 i hi (by have := (hd i hi).2.2; omega)
    · intro a1
      exact ⟨fun j hj _ => a1 j hj, fun j hj => by omega⟩
theorem m_which (hR : RM σ X n T U u K k H h) (hg : gOk X n T U u K k H h) : Ok (f_X4_which σ) (fun q => q.1 = nI (whichV T H h) ∧ RM q.2 X n T U u K k H h) := by
  unfold f_X4_which
  refine Ok_bind (trialR hR hg) (fun q1 h1 => ?_)
  refine Ok_bind (fitsM h1.1 hg.2.1.1 h1.2.2.2.2.2 hg.2.2.2.2.2.1 hg.2.2.2.2.2.2.2.2) (fun q2 h2 => ?_)
  exact Ok_some ⟨h2.1, RM_scr h1.2 hg h2.2⟩
theorem MB_kind {b p kd : Nat} (hM : MB σ b T) (hw : wfT T) (hp : p < tN T) : MB (w2 σ 3 (b + 18 * p) (nI kd)) b (tu T 2 p kd) := by
  obtain ⟨g, d0, d⟩ := hM
  have hT := hw.1
  have hN := hw.2.1
  refine ⟨?_, ?_, fun q hq => ?_⟩
  · refine MG_st (MG_fr g (by funext k; rw [w2_ap, if_neg (by omega)]) (by funext k; rw [w2_ap, if_neg (by omega)])) ?_ ?_ ?_ (fun w _ => ?_) <;> simp [tW, tN, tS, snd, tu]
  · rw [w2_ap, if_neg (by omega), d0]; simp [tD, tu]
  · have hq2 : q < tN T := by simpa [tN, tu] using hq
    obtain ⟨d1, d2, d3⟩ := d q hq2
    refine ⟨?_, ?_, fun x hx => ?_⟩
    · rw [w2_ap]
      by_cases hz : q = p
      · subst hz; rw [if_pos ⟨rfl, rfl⟩]; simp [knd, tu]
      · rw [if_neg (by omega), d1]; simp [knd, tu, hz]
    · rw [w2_ap, if_neg (by omega), d2]; simp [mmr, tu]
    · have hx2 : x < tW T := by simpa [tW, tu] using hx
      obtain ⟨e1, e2⟩ := d3 x hx2
      refine ⟨?_, fun hh => ?_⟩
      · rw [w2_ap, if_neg (by omega), e1]; simp [way, tu]
      · rw [w2_ap, if_neg (by omega), e2 (by simpa [way, tu] using hh)]; simp [age, tu]
theorem m_kinds (hR : RM σ X n T U u K k H h) (hg : gOk X n T U u K k H h) {p : Nat} (hp : p < tN T) : Ok (f_X4_kinds (nI p) σ) (fun q => q.1 = nI (kindsV T H h p) ∧ RM q.2 X n T U u K k H h) := by
  have h5 := hg.2.1.1.2.1
  have hwf := hg.2.1.1
  have z1001 : (1001 : Int32) = nI 1001 := rfl
  unfold f_X4_kinds
  refine Ok_bindE (on_yes hR hg hp) ?_
  dsimp only
  rw [if_pos (by decide)]
  refine Ok_for (fun kd x => x.1 = nI (bs (fun y => fitB (tu T 2 p y) H h p) kd) ∧ x.2.1 = nI kd ∧ RM x.2.2 X n T U u K k H h) 0 4 _ ⟨rfl, rfl, hR⟩ (by omega) (by omega) (fun rec kd x _ hkd hx hr => ?_) (fun rec x hx => ?_)
  · obtain ⟨e1, e2, r1⟩ := hx
    rw [e2, z4, if_neg (by rw [nI_leI (by omega) (by omega)]; omega)]
    refine Ok_bind (trialR r1 hg) (fun q1 h1 => ?_)
    rw [z1001, mx, if_neg (in_nI (by omega) (by decide)), nI_clamp (by omega)]
    refine Ok_nm ?_
    have m2 := MB_kind (kd := kd) h1.1 hwf hp
    have R2 := RM_scr h1.2 hg (Mr_s (Ms_w2 (σ := q1.2) (b := 1001) (k := 1001 + 18 * p) (v := nI kd) (by omega) (by omega)))
    have tn : tN (tu T 2 p kd) = tN T := by simp [tN, tu]
    have tw : tW (tu T 2 p kd) = tW T := by simp [tW, tu]
    refine Ok_bind (fitsM m2 (wf_kind hwf (by omega)) R2.2.2.2.2 hg.2.2.2.2.2.1 (by rw [tw]; exact hg.2.2.2.2.2.2.2.2)) (fun q2 h2 => ?_)
    obtain ⟨e3, f3⟩ := h2
    rw [tn] at e3
    rw [e3, shrb _ (bs256 _ (by omega)) p (by omega), bs_bit]
    simp only [hp, decide_true, Bool.true_and]
    have R3 := RM_scr R2 hg f3
    have hlt := bs_lt (fun y => fitB (tu T 2 p y) H h p) kd
    refine Ok_jn (fun y => y = (nI (if fitB (tu T 2 p kd) H h p = true then 2 ^ kd else 0), q2.2)) (fun y hy => ?_) (fun k8 hk8 => ?_)
    · subst hy
      refine Ok_nm (Ok_nm (hr _ ⟨?_, ?_, R3⟩))
      · dsimp only
        rw [e1, fa_or, or_bit hlt]; rfl
      · show nI kd + 1 = nI (kd + 1); rw [z1, nI_add]
    · by_cases hz : fitB (tu T 2 p kd) H h p = true
      · rw [if_pos hz, if_neg (by decide)]
        refine hk8 _ ?_
        rw [if_pos hz, shl1 kd (by omega)]
      · rw [if_neg hz, if_pos (by decide)]
        refine hk8 _ ?_
        rw [if_neg hz]; rfl
  · obtain ⟨e1, e2, r1⟩ := hx
    rw [e2, if_pos (by decide)]
    exact Ok_some ⟨e1, r1⟩
theorem m_kinds_bad (hR : RM σ X n T U u K k H h) (hg : gOk X n T U u K k H h) {a : Int32} (ha : ¬ inR a (tN T)) : f_X4_kinds a σ = some (-1, σ) := by
  refine Ok_eq ?_
  unfold f_X4_kinds
  refine Ok_bindE (on_no hR hg ha) ?_
  exact Ok_some rfl
end MF
