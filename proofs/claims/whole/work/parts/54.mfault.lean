/-! the other program: fault, lay -/
section ML2
variable {σ σ' : St} {X : Nat → Nat} {n : Nat} {T T' : Tb} {U : Nat → Tb} {u : Nat} {K : Nat → Tb} {k : Nat} {H : Nat → Nat × Nat × Nat} {h : Nat}
theorem RM_fw (hR : RM σ X n T U u K k H h) (hg : gOk X n T U u K k H h) (hf : Fdw σ σ') : RM σ' X n T U u K k H h := by
  obtain ⟨a, b, c, d, e⟩ := hR
  obtain ⟨f1, f2, f3⟩ := hf
  have z : ∀ j, ¬ j = 3 → ¬ j = 4 → ¬ j = 5 → ¬ j = 9 → ¬ j = 10 → ¬ j = 11 → σ' 0 j = σ 0 j := f3
  have hw := hg.2.1.1
  have hu := hg.2.2.2.1
  have hk := hg.2.2.2.2.1
  have uw := uW hg
  have kw := kW hg
  refine ⟨?_, ⟨?_, ?_⟩, ⟨?_, fun i hi => ?_⟩, ⟨?_, fun i hi => ?_⟩, ?_⟩
  · unfold RMx; rw [z 8 (by omega) (by omega) (by omega) (by omega) (by omega) (by omega), f1 4 (by omega) (by omega) (by omega)]; exact a
  · unfold MG; rw [z 0 (by omega) (by omega) (by omega) (by omega) (by omega) (by omega), z 1 (by omega) (by omega) (by omega) (by omega) (by omega) (by omega), z 2 (by omega) (by omega) (by omega) (by omega) (by omega) (by omega), f1 1 (by omega) (by omega) (by omega)]; exact b.1
  · exact MW_fr b.2 hw.2.1 hw.1 (fun j h1 h2 => f2 j (by omega))
  · rw [z 6 (by omega) (by omega) (by omega) (by omega) (by omega) (by omega)]; exact c.1
  · exact MW_fr (c.2 i hi) (uw i hi).1 (uw i hi).2 (fun j h1 h2 => f2 j (by omega))
  · rw [z 7 (by omega) (by omega) (by omega) (by omega) (by omega) (by omega)]; exact d.1
  · exact MW_fr (d.2 i hi) (kw i hi).1 (kw i hi).2 (fun j h1 h2 => f2 j (by omega))
  · unfold RMh; rw [z 12 (by omega) (by omega) (by omega) (by omega) (by omega) (by omega), f1 5 (by omega) (by omega) (by omega), f1 6 (by omega) (by omega) (by omega), f1 7 (by omega) (by omega) (by omega)]; exact e
theorem RM_TX (hR : RM σ X n T U u K k H h) (hg : gOk X n T U u K k H h) : TX σ X n := ⟨hR.1.1, hR.1.2, hg.1⟩
theorem m_fault (hR : RM σ X n T U u K k H h) (hg : gOk X n T U u K k H h) : Ok (f_X4_fault σ) (fun q => (q.1 = match (pR X n 201 0 T00 false).1 with | some i => nI i | none => -4) ∧ RM q.2 X n T U u K k H h) := by
  unfold f_X4_fault
  refine Ok_bind (readsM (RM_TX hR hg)) (fun q1 h1 => ?_)
  obtain ⟨f1, kk, alt⟩ := h1
  have R1 := RM_fw hR hg f1
  rcases alt with ⟨e1, e2, e3, e4⟩ | ⟨e1, e3, e4⟩
  · rw [if_pos e3, e1]
    exact Ok_some ⟨e4, R1⟩
  · rw [if_neg (by rw [e3]; decide), e1]
    exact Ok_some ⟨rfl, R1⟩
theorem settlesM (hM : MD σ T) : Ok (f_X4_settles σ) (fun q => MB q.2 0 T ∧ (∀ c, ¬ c = 0 → ¬ c = 1 → ¬ c = 3 → q.2 c = σ c) ∧ (∀ j, ¬ j = 0 → ¬ j = 1 → ¬ j = 2 → q.2 0 j = σ 0 j) ∧ ∀ j, 91 ≤ j → q.2 3 j = σ 3 j) := by
  obtain ⟨m1, m2, m3, m4, m5, m6, m7⟩ := hM
  unfold f_X4_settles
  generalize hσ1 : w2 σ 0 0 (σ 0 3) = σ1
  refine Ok_nm ?_
  have a1 : ∀ c j, ¬ (c = 0 ∧ j = 0) → σ1 c j = σ c j := fun c j hc => by rw [← hσ1, w2_ap, if_neg hc]
  have a2 : σ1 0 0 = nI (tW T) := by rw [← hσ1, w2_ap, if_pos ⟨rfl, rfl⟩]; exact m1
  have v4 : σ1 0 4 = nI (tN T) := by rw [a1 0 4 (by omega)]; exact m2
  rw [v4]
  refine Ok_nm ?_
  generalize hσ2 : w2 σ1 0 1 (nI (tN T)) = σ2
  have b1 : ∀ c j, ¬ (c = 0 ∧ j = 1) → σ2 c j = σ1 c j := fun c j hc => by rw [← hσ2, w2_ap, if_neg hc]
  have b2 : σ2 0 1 = nI (tN T) := by rw [← hσ2, w2_ap, if_pos ⟨rfl, rfl⟩]
  have v5 : σ2 0 5 = nI (tS T) := by rw [b1 0 5 (by omega), a1 0 5 (by omega)]; exact m3
  rw [v5]
  refine Ok_nm ?_
  generalize hσ3 : w2 σ2 0 2 (nI (tS T)) = σ3
  have c1 : ∀ c j, ¬ (c = 0 ∧ j = 2) → σ3 c j = σ2 c j := fun c j hc => by rw [← hσ3, w2_ap, if_neg hc]
  have c2 : σ3 0 2 = nI (tS T) := by rw [← hσ3, w2_ap, if_pos ⟨rfl, rfl⟩]
  have c3 : ∀ c j, ¬ (c = 0 ∧ (j = 0 ∨ j = 1 ∨ j = 2)) → σ3 c j = σ c j := fun c j hc => by rw [c1 c j (by omega), b1 c j (by omega), a1 c j (by omega)]
  refine Ok_for (fun w x => x.1 = nI w ∧ (∀ c, ¬ c = 1 → x.2 c = σ3 c) ∧ ∀ j, j < w → x.2 1 j = σ 2 j) 0 8 _ ⟨rfl, fun _ _ => rfl, fun j hj => by omega⟩ (by omega) (by omega) (fun rec w x _ hw hx hr => ?_) (fun rec x hx => ?_)
  · obtain ⟨e1, o1, v1⟩ := hx
    rw [e1, z8, if_neg (by rw [nI_leI (by omega) (by omega)]; omega), if_neg (in_nI hw (by decide)), if_neg (in_nI hw (by decide)), nI_clamp (by omega)]
    refine Ok_nm (Ok_nm (hr _ ⟨?_, fun c hc => ?_, fun j hj => ?_⟩))
    · show nI w + 1 = nI (w + 1); rw [z1, nI_add]
    · dsimp only; funext y; rw [w2_ap, if_neg (fun z => hc z.1), o1 c hc]
    · dsimp only
      rw [w2_ap]
      by_cases hz : j = w
      · rw [if_pos ⟨rfl, hz⟩, o1 2 (by omega), c3 2 w (by omega), hz]
      · rw [if_neg (fun z => hz z.2)]; exact v1 j (by omega)
  · obtain ⟨e1, o1, v1⟩ := hx
    rw [e1, if_pos (by decide)]
    refine Ok_bind (copiesM (a := 1001) (c := 0) (by omega) (by omega) (by omega)) (fun q hq => ?_)
    obtain ⟨w1, g1⟩ := hq
    have q0 : q.2 0 = σ3 0 := by rw [g1.1 0 (by omega), o1 0 (by omega)]
    refine Ok_some ⟨⟨⟨?_, ?_, ?_, fun w hw => ?_⟩, ?_⟩, fun c h0 h1 h3 => ?_, fun j h0 h1 h2 => ?_, fun j hj => ?_⟩
    · dsimp only; rw [q0, c1 0 0 (by omega), b1 0 0 (by omega)]; exact a2
    · dsimp only; rw [q0, c1 0 1 (by omega)]; exact b2
    · dsimp only; rw [q0]; exact c2
    · dsimp only; rw [g1.1 1 (by omega), v1 w (by omega)]; exact m4 w hw
    · dsimp only
      exact MW_to m5 m7.2.1 m7.1 (fun j hj => by
        rw [w1 j hj, o1 3 (by omega), c3 3 _ (by omega)])
    · dsimp only
      funext y
      rw [g1.1 c h3, o1 c h1, c3 c y (by omega)]
    · dsimp only; rw [q0, c3 0 j (by omega)]
    · dsimp only; rw [g1.2 j (by omega), o1 3 (by omega), c3 3 j (by omega)]
theorem m_lay (hR : RM σ X n T U u K k H h) (hg : gOk X n T U u K k H h) : Ok (f_X4_lay σ) (fun q => if (pR X n 201 0 T00 false).1 = none ∧ ¬ tW (pR X n 201 0 T00 false).2 = 0 ∧ ¬ tN (pR X n 201 0 T00 false).2 = 0 then q.1 = nI (tN (pR X n 201 0 T00 false).2) ∧ RM q.2 X n (pR X n 201 0 T00 false).2 U 0 K 0 H 0 ∧ tD (pR X n 201 0 T00 false).2 = 0 else q.1 = -2 ∧ RM q.2 X n T U u K k H h) := by
  unfold f_X4_lay
  refine Ok_bind (readsM (RM_TX hR hg)) (fun q1 h1 => ?_)
  obtain ⟨f1, kk, alt⟩ := h1
  have R1 := RM_fw hR hg f1
  rcases alt with ⟨e1, e2, e3, e4⟩ | ⟨e1, e3, e4⟩
  · rw [if_pos e3]
    refine Ok_some ?_
    rw [if_neg (fun z => by rw [e1] at z; cases z.1)]
    exact ⟨rfl, R1⟩
  · rw [if_neg (by rw [e3]; decide)]
    generalize (pR X n 201 0 T00 false).2 = D at e4 ⊢
    have e4' := e4
    obtain ⟨m1, m2, m3, m4, m5, m6, m7⟩ := e4
    simp only [m1, m2, nI_eq0 (show tW D < 2147483648 by omega), nI_eq0 (show tN D < 2147483648 by omega)]
    by_cases h1 : tW D = 0
    · rw [if_pos h1]
      refine Ok_some ?_
      rw [if_neg (fun z => z.2.1 h1)]
      exact ⟨rfl, R1⟩
    · rw [if_neg h1]
      by_cases h2 : tN D = 0
      · rw [if_neg (fun z => z h2)]
        refine Ok_some ?_
        rw [if_neg (fun z => z.2.2 h2)]
        exact ⟨rfl, R1⟩
      · rw [if_pos h2]
        refine Ok_bind (settlesM e4') (fun q2 h2' => ?_)
        obtain ⟨b1, b2, b3, b4⟩ := h2'
        refine Ok_nm (Ok_nm (Ok_nm (Ok_some ?_)))
        rw [if_pos ⟨e1, h1, h2⟩]
        generalize hσ3 : w2 (w2 (w2 q2.2 0 6 (0 : Int32)) 0 7 (0 : Int32)) 0 12 (0 : Int32) = σ3
        have c1 : ∀ c, ¬ c = 0 → σ3 c = q2.2 c := fun c hc => by rw [← hσ3]; funext y; rw [w2_ap, if_neg (fun z => hc z.1), w2_ap, if_neg (fun z => hc z.1), w2_ap, if_neg (fun z => hc z.1)]
        have c2 : ∀ j, ¬ j = 6 → ¬ j = 7 → ¬ j = 12 → σ3 0 j = q2.2 0 j := fun j a b c => by rw [← hσ3, w2_ap, if_neg (fun z => c z.2), w2_ap, if_neg (fun z => b z.2), w2_ap, if_neg (fun z => a z.2)]
        have c6 : σ3 0 6 = 0 := by rw [← hσ3, w2_ap, if_neg (by omega), w2_ap, if_neg (by omega), w2_ap, if_pos ⟨rfl, rfl⟩]
        have c7 : σ3 0 7 = 0 := by rw [← hσ3, w2_ap, if_neg (by omega), w2_ap, if_pos ⟨rfl, rfl⟩]
        have c12 : σ3 0 12 = 0 := by rw [← hσ3, w2_ap, if_pos ⟨rfl, rfl⟩]
        refine ⟨?_, ⟨?_, ⟨?_, ?_⟩, ⟨c6, fun i hi => by omega⟩, ⟨c7, fun i hi => by omega⟩, ⟨c12, fun i hi => by omega⟩⟩, m7.2.2.2.2⟩
        · dsimp only; rw [c2 1 (by omega) (by omega) (by omega)]; exact b1.1.2.1
        · unfold RMx; dsimp only
          rw [c2 8 (by omega) (by omega) (by omega), b3 8 (by omega) (by omega) (by omega), c1 4 (by omega), b2 4 (by omega) (by omega) (by omega)]
          exact R1.1
        · unfold MG; dsimp only
          rw [c2 0 (by omega) (by omega) (by omega), c2 1 (by omega) (by omega) (by omega), c2 2 (by omega) (by omega) (by omega), c1 1 (by omega)]
          exact b1.1
        · dsimp only; rw [c1 3 (by omega)]; exact b1.2
end ML2
