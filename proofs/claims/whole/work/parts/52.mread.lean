/-! the other program's reading: wooers, items, the whole text -/
section TI3
variable {σ : St} {X : Nat → Nat} {n i : Nat} {D : Tb}
theorem MD_seat {σ1 : St} {k m J : Nat} (hM : MD σ D) (hN : tN D < 5) (h0 : σ1 0 3 = nI (tW D)) (h1 : σ1 0 4 = nI (tN D + 1)) (h2 : σ1 0 5 = nI (tS D)) (h3 : σ1 2 = σ 2) (hk : σ1 3 (1001 + 18 * tN D) = nI k) (hm : σ1 3 (1001 + 18 * tN D + 1) = nI m) (hv : ∀ x, x < tW D → σ1 3 (1001 + 18 * tN D + 2 + x) = wv (rowF X n J x)) (ho : ∀ j, (j < 1001 + 18 * tN D ∨ 1001 + 18 * tN D + 10 ≤ j) → σ1 3 j = σ 3 j) : MD σ1 (seatK D k m (rowF X n J) (tW D)) := by
  obtain ⟨m1, m2, m3, m4, m5, m6, m7⟩ := hM
  refine ⟨by rw [tW_sk]; exact h0, by rw [tN_sk]; exact h1, by rw [tS_sk]; exact h2, fun w hw => by rw [tW_sk] at hw; rw [snd_sk, h3]; exact m4 w hw, ⟨?_, fun p hp => ?_⟩, fun p w hp hp5 hw => ?_, ?_⟩
  · rw [tD_sk, ho _ (by omega)]; exact m5.1
  · rw [tN_sk] at hp
    rw [knd_sk, mmr_sk]
    by_cases hz : p = tN D
    · subst hz
      rw [if_pos rfl, if_pos rfl]
      refine ⟨hk, hm, fun x hx => ?_⟩
      rw [tW_sk] at hx
      rw [way_sk (by omega), age_sk (by omega), if_pos rfl, if_pos rfl, if_pos hx]
      refine ⟨hv x hx, fun _ => ?_⟩
      rw [ho _ (by omega), m6 (tN D) x (Nat.le_refl _) hN (by omega)]; rfl
    · rw [if_neg hz, if_neg hz]
      obtain ⟨d1, d2, d3⟩ := m5.2 p (by omega)
      refine ⟨by rw [ho _ (by omega)]; exact d1, by rw [ho _ (by omega)]; exact d2, fun x hx => ?_⟩
      rw [tW_sk] at hx
      rw [way_sk (by omega), age_sk (by omega), if_neg hz, if_neg hz]
      obtain ⟨e1, e2⟩ := d3 x hx
      exact ⟨by rw [ho _ (by omega)]; exact e1, fun hh => by rw [ho _ (by omega)]; exact e2 hh⟩
  · rw [tN_sk] at hp
    rw [ho _ (by omega)]
    exact m6 p w (by omega) hp5 hw
  · rw [tW_sk, tN_sk, tS_sk, tD_sk]
    exact ⟨m7.1, by omega, m7.2.2⟩
theorem wooerItemM (h : TX σ X n) (hi : i < 900) (hM : MD σ D) : Ok (f_X4_wooerItem (st σ (nI i) 0)) (fun q => ∃ σ1 J, Fdm σ σ1 ∧ J < 1000 ∧ (q.2 = st σ1 (nI J) 1 ∧ pWoo D X n i = none ∨ q.2 = st σ1 (nI J) 0 ∧ i ≤ J ∧ ∃ D', MD σ1 D' ∧ pWoo D X n i = if chr X n J = 59 then some (J + 1, D') else none)) := by
  have ht := h.2.2
  have hM0 := hM
  obtain ⟨m1, m2, m3, m4, m5, m6, m7⟩ := hM
  have a1001 : (1001 : Int32) = nI 1001 := rfl
  unfold f_X4_wooerItem
  -- what comes once it is wrong, before the row
  have bad : ∀ (j : Nat), j < 990 → pWoo D X n i = none → ∀ (rest : St → Option (Unit × St)), Ok (jn (fun (q10 : Int32 × St) => (if ¬ (q10.1 = 0 ∨ q10.1 = 1) then none else nm (w2 q10.2 0 11 q10.1) (fun σ15 => nm (w2 σ15 0 9 ((σ15 0 9) + (1 : Int32))) (fun σ16 => (if ¬ (σ16 0 11) = 0 then some ((), σ16) else rest σ16))))) (fun k10 => jn (fun (q11 : St) => k10 ((1 : Int32), q11)) (fun k11 => (if ¬ ((st σ (nI j) 1) 0 11) = 0 then k11 (st σ (nI j) 1) else (f_X4_next (st σ (nI j) 1)).bind (fun q13 => (if q13.1 = (44 : Int32) then k10 ((0 : Int32), q13.2) else k11 q13.2)))))) (fun q => ∃ σ1 J, Fdm σ σ1 ∧ J < 1000 ∧ (q.2 = st σ1 (nI J) 1 ∧ pWoo D X n i = none ∨ q.2 = st σ1 (nI J) 0 ∧ i ≤ J ∧ ∃ D', MD σ1 D' ∧ pWoo D X n i = if chr X n J = 59 then some (J + 1, D') else none)) := by
    intro j hj hp rest
    refine Ok_jn (fun q => q = ((1 : Int32), st σ (nI j) 1)) (fun q hq => ?_) (fun k10 hk10 => ?_)
    · subst hq
      dsimp only
      rw [if_neg (by decide), st_w11]
      refine Ok_nm ?_
      rw [st_9, st_w9]
      refine Ok_nm ?_
      rw [if_pos (by rw [st_11]; decide), z1, nI_add]
      exact Ok_some ⟨σ, j + 1, Fdm_rf, by omega, Or.inl ⟨rfl, hp⟩⟩
    · refine Ok_jn (fun q => q = st σ (nI j) 1) (fun q hq => ?_) (fun k11 hk11 => ?_)
      · subst hq; exact hk10 _ rfl
      · rw [if_pos (by rw [st_11]; decide)]
        exact hk11 _ rfl
  refine Ok_jn (fun q => ¬ (tW D = 0 ∨ 5 ≤ tN D) ∧ q = ((0 : Int32), st σ (nI i) 0) ∨ (tW D = 0 ∨ 5 ≤ tN D) ∧ q = ((1 : Int32), st σ (nI i) 0)) (fun q hq => ?_) (fun k1 hk1 => ?_)
  · rcases hq with ⟨g, rfl⟩ | ⟨g, rfl⟩
    · dsimp only
      rw [if_neg (by decide), st_w11]
      refine Ok_nm ?_
      have epw : pWoo D X n i = (pNum X n i 44).bind (fun a => if 3 < a.1 then none else (pNum X n a.2 44).bind (fun b => if b.1 < 1 ∨ 30 < b.1 then none else if rowB X n b.2 (tW D) = true ∧ chr X n (b.2 + tW D) = 59 then some (b.2 + tW D + 1, seatK D a.1 b.1 (rowF X n b.2) (tW D)) else none)) := by
        unfold pWoo; rw [if_neg g]
      have en := pNum_eq (X := X) (n := n) (i := i) (e := 44) (by omega)
      have d3 := dc_le X n i 3
      refine Ok_jn (fun q => nOk X n i 0 3 ∧ q = (nI (val X n i (dc X n i 3)), st σ (nI (i + dc X n i 3)) 0) ∨ ¬ nOk X n i 0 3 ∧ q = (0, st σ (nI (i + dc X n i 3)) 1)) (fun q hq => ?_) (fun k6 hk6 => ?_)
      · rcases hq with ⟨g1, rfl⟩ | ⟨g1, rfl⟩
        · dsimp only
          have hlo : (1 : Int32) = nI 1 := rfl
          have hhi : (30 : Int32) = nI 30 := rfl
          refine Ok_bind (moreM (lo := 1) (hi2 := 30) h (by omega) (by omega) (by omega)) (fun q2 hq2 => ?_)
          rcases hq2 with ⟨⟨g2, g3⟩, rfl⟩ | ⟨g2, j, hj, rfl⟩
          · dsimp only
            have d4 := dc_le X n (i + dc X n i 3 + 1) 3
            have en2 := pNum_eq (X := X) (n := n) (i := i + dc X n i 3 + 1) (e := 44) (by omega)
            rw [if_pos ⟨g1.1, g1.2.1, g2⟩] at en
            rw [en] at epw
            simp only [Option.bind_some] at epw
            rw [if_neg (by have := g1.2.2.2; omega)] at epw
            generalize hJ : i + dc X n i 3 + 1 + dc X n (i + dc X n i 3 + 1) 3 = J at en2 ⊢
            refine Ok_jn (fun q => chr X n J = 44 ∧ q = ((0 : Int32), st σ (nI J) 0) ∨ ¬ chr X n J = 44 ∧ q = ((1 : Int32), st σ (nI J) 0)) (fun q hq => ?_) (fun k10 hk10 => ?_)
            · rcases hq with ⟨g4, rfl⟩ | ⟨g4, rfl⟩
              · dsimp only
                rw [if_neg (by decide), st_w11]
                refine Ok_nm ?_
                rw [st_9, st_w9, z1, nI_add]
                refine Ok_nm ?_
                rw [if_neg (by rw [st_11]; decide)]
                rw [if_pos ⟨g3.1, g3.2.1, g4⟩] at en2
                rw [en2] at epw
                simp only [Option.bind_some] at epw
                rw [if_neg (by have := g3.2.2; omega)] at epw
                have N5 : tN D < 5 := by omega
                have es : f_X4_sits (nI (val X n i (dc X n i 3))) (nI (val X n (i + dc X n i 3 + 1) (dc X n (i + dc X n i 3 + 1) 3))) (st σ (nI (J + 1)) 0) = some ((), st (w2 (w2 (w2 σ 3 (1001 + 18 * tN D) (nI (val X n i (dc X n i 3)))) 3 (1001 + 18 * tN D + 1) (nI (val X n (i + dc X n i 3 + 1) (dc X n (i + dc X n i 3 + 1) 3)))) 0 4 (nI (tN D + 1))) (nI (J + 1)) 0) := by
                  unfold f_X4_sits
                  simp only [nm]
                  have q1 : st σ (nI (J + 1)) 0 0 4 = nI (tN D) := by rw [st_o (by omega), m2]
                  have q2 : ∀ v, st (w2 σ 3 (1001 + 18 * tN D) v) (nI (J + 1)) 0 0 4 = nI (tN D) := fun v => by rw [st_o (by omega), w2_ap, if_neg (by omega), m2]
                  have q3 : ∀ v v2, st (w2 (w2 σ 3 (1001 + 18 * tN D) v) 3 (1001 + 18 * tN D + 1) v2) (nI (J + 1)) 0 0 4 = nI (tN D) := fun v v2 => by rw [st_o (by omega), w2_ap, if_neg (by omega), w2_ap, if_neg (by omega), m2]
                  rw [q1, a1001, mx, if_neg (in_nI (by omega) (by decide)), nI_clamp (by omega), st_w (by omega), q2, mxd, if_neg (in_nI (by omega) (by decide)), nI_clamp (by omega), st_w (by omega), q3, z1, nI_add, st_w (by omega)]
                rw [← z1]
                refine Ok_bindE es ?_
                dsimp only
                generalize hσ2 : w2 (w2 (w2 σ 3 (1001 + 18 * tN D) (nI (val X n i (dc X n i 3)))) 3 (1001 + 18 * tN D + 1) (nI (val X n (i + dc X n i 3 + 1) (dc X n (i + dc X n i 3 + 1) 3)))) 0 4 (nI (tN D + 1)) = σ2
                have f2 : Fdm σ σ2 := by rw [← hσ2]; exact Fdm_tr (Fdm_tr (Fdm_w3 (by omega) (by omega)) (Fdm_w3 (by omega) (by omega))) (Fdm_w0 (by omega))
                have s04 : σ2 0 4 = nI (tN D + 1) := by rw [← hσ2, w2_ap, if_pos ⟨rfl, rfl⟩]
                have s0o : ∀ k, ¬ k = 4 → σ2 0 k = σ 0 k := fun k hk => by rw [← hσ2, w2_ap, if_neg (fun z => hk z.2), w2_ap, if_neg (by omega), w2_ap, if_neg (by omega)]
                have s2 : σ2 2 = σ 2 := by rw [← hσ2]; funext k; rw [w2_ap, if_neg (by omega), w2_ap, if_neg (by omega), w2_ap, if_neg (by omega)]
                have sk : σ2 3 (1001 + 18 * tN D) = nI (val X n i (dc X n i 3)) := by rw [← hσ2, w2_ap, if_neg (by omega), w2_ap, if_neg (by omega), w2_ap, if_pos ⟨rfl, rfl⟩]
                have sm : σ2 3 (1001 + 18 * tN D + 1) = nI (val X n (i + dc X n i 3 + 1) (dc X n (i + dc X n i 3 + 1) 3)) := by rw [← hσ2, w2_ap, if_neg (by omega), w2_ap, if_pos ⟨rfl, rfl⟩]
                have so : ∀ j, (j < 1001 + 18 * tN D ∨ 1001 + 18 * tN D + 2 ≤ j) → σ2 3 j = σ 3 j := fun j hj => by rw [← hσ2, w2_ap, if_neg (by omega), w2_ap, if_neg (by omega), w2_ap, if_neg (by omega)]
                refine Ok_mono (rowM (J := J + 1) (W := tW D) (N := tN D) (TX_fd h f2) (by omega) m7.1 N5 (by rw [s0o 3 (by omega)]; exact m1) s04) (fun q hq => ?_)
                obtain ⟨σ3, e3, c3, o3, v3⟩ := hq
                have f3 : Fdm σ2 σ3 := ⟨fun c _ _ d => c3 c d, fun k hk => o3 k (by omega), fun k _ _ _ _ _ => by rw [c3 0 (by omega)]⟩
                by_cases hB : rowB X n (J + 1) (tW D) = true
                · rw [if_pos hB] at e3
                  refine ⟨σ3, J + 1 + tW D, Fdm_tr f2 f3, by omega, Or.inr ⟨e3, by omega, seatK D (val X n i (dc X n i 3)) (val X n (i + dc X n i 3 + 1) (dc X n (i + dc X n i 3 + 1) 3)) (rowF X n (J + 1)) (tW D), ?_, ?_⟩⟩
                  · refine MD_seat hM0 N5 ?_ ?_ ?_ ?_ ?_ ?_ (v3 hB) (fun j hj => ?_)
                    · rw [c3 0 (by omega), s0o 3 (by omega)]; exact m1
                    · rw [c3 0 (by omega)]; exact s04
                    · rw [c3 0 (by omega), s0o 5 (by omega)]; exact m3
                    · rw [c3 2 (by omega)]; exact s2
                    · rw [o3 _ (by omega)]; exact sk
                    · rw [o3 _ (by omega)]; exact sm
                    · rw [o3 _ (by omega)]; exact so j (by omega)
                  · rw [epw]
                    by_cases h59 : chr X n (J + 1 + tW D) = 59
                    · rw [if_pos ⟨hB, h59⟩, if_pos h59]
                    · rw [if_neg (fun z => h59 z.2), if_neg h59]
                · rw [if_neg hB] at e3
                  refine ⟨σ3, J + 1 + tW D, Fdm_tr f2 f3, by omega, Or.inl ⟨e3, ?_⟩⟩
                  rw [epw, if_neg (fun z => hB z.1)]
              · dsimp only
                rw [if_neg (by decide), st_w11]
                refine Ok_nm ?_
                rw [st_9, st_w9]
                refine Ok_nm ?_
                rw [if_pos (by rw [st_11]; decide), z1, nI_add]
                refine Ok_some ⟨σ, J + 1, Fdm_rf, by omega, Or.inl ⟨rfl, ?_⟩⟩
                rw [epw, en2, if_neg (fun z => g4 z.2.2)]; rfl
            · refine Ok_jn (fun q => q = st σ (nI J) 0 ∧ ¬ chr X n J = 44) (fun q hq => ?_) (fun k11 hk11 => ?_)
              · exact hk10 _ (Or.inr ⟨hq.2, by rw [hq.1]⟩)
              · rw [if_neg (by rw [st_11]; decide)]
                refine Ok_bindE (nextM h (by omega)) ?_
                dsimp only
                have e44 := nx_eq (i := J) ht (c := 44) (by omega) (by omega)
                refine Ok_ite (fun hc => hk10 _ (Or.inl ⟨e44.mp hc, rfl⟩)) (fun hc => hk11 _ ⟨rfl, fun z => hc (e44.mpr z)⟩)
          · dsimp only
            refine bad j (by omega) ?_ _
            rw [epw, en]
            by_cases hc : chr X n (i + dc X n i 3) = 44
            · rw [if_pos ⟨g1.1, g1.2.1, hc⟩]
              simp only [Option.bind_some]
              rw [if_neg (by have := g1.2.2.2; omega)]
              have en2 := pNum_eq (X := X) (n := n) (i := i + dc X n i 3 + 1) (e := 44) (by omega)
              rw [en2]
              have g3 : ¬ nOk X n (i + dc X n i 3 + 1) 1 30 := fun z => g2 ⟨hc, z⟩
              by_cases h1 : 1 ≤ dc X n (i + dc X n i 3 + 1) 3 ∧ dc X n (i + dc X n i 3 + 1) 3 ≤ 2 ∧ chr X n (i + dc X n i 3 + 1 + dc X n (i + dc X n i 3 + 1) 3) = 44
              · rw [if_pos h1]
                simp only [Option.bind_some]
                rw [if_pos]
                apply Classical.byContradiction
                intro z
                exact g3 ⟨h1.1, h1.2.1, by omega, by omega⟩
              · rw [if_neg h1]; rfl
            · rw [if_neg (fun z => hc z.2.2)]; rfl
        · dsimp only
          refine Ok_bind (moreW (by omega)) (fun q2 hq2 => ?_)
          subst hq2
          refine bad _ (by omega) ?_ _
          rw [epw, en]
          by_cases hc : 1 ≤ dc X n i 3 ∧ dc X n i 3 ≤ 2 ∧ chr X n (i + dc X n i 3) = 44
          · rw [if_pos hc]
            simp only [Option.bind_some]
            rw [if_pos]
            apply Classical.byContradiction
            intro z
            exact g1 ⟨hc.1, hc.2.1, by omega, by omega⟩
          · rw [if_neg hc]; rfl
      · rw [if_pos (by rw [st_11])]
        refine Ok_bind (numberM (lo := 0) (hi2 := 3) h (by omega) (by omega) (by omega)) (fun q hq => ?_)
        exact hk6 _ hq
    · dsimp only
      rw [if_neg (by decide), st_w11]
      refine Ok_nm ?_
      refine Ok_jn (fun q => q = ((0 : Int32), st σ (nI i) 1)) (fun q hq => ?_) (fun k6 hk6 => ?_)
      · subst hq
        dsimp only
        refine Ok_bind (moreW (by omega)) (fun q2 hq2 => ?_)
        subst hq2
        refine bad _ (by omega) ?_ _
        unfold pWoo
        rw [if_pos g]
      · rw [if_neg (by rw [st_11]; decide)]
        exact hk6 _ rfl
  · refine Ok_jn (fun q => q = st σ (nI i) 0 ∧ (tW D = 0 ∨ 5 ≤ tN D)) (fun q hq => ?_) (fun k2 hk2 => ?_)
    · exact hk1 _ (Or.inr ⟨hq.2, by rw [hq.1]⟩)
    · simp only [st_o (show ¬ ((0 : Nat) = 0 ∧ ((4 : Nat) = 9 ∨ (4 : Nat) = 11)) by omega), st_o (show ¬ ((0 : Nat) = 0 ∧ ((3 : Nat) = 9 ∨ (3 : Nat) = 11)) by omega), m1, m2]
      refine Ok_ite (fun hc => ?_) (fun hc => ?_)
      · rw [z5, nI_eq (by omega) (by omega)] at hc
        exact hk2 _ ⟨rfl, Or.inr (by omega)⟩
      · rw [z5, nI_eq (by omega) (by omega)] at hc
        refine Ok_ite (fun hc2 => ?_) (fun hc2 => ?_)
        · rw [nI_eq0 (by omega)] at hc2
          exact hk1 _ (Or.inl ⟨by omega, rfl⟩)
        · rw [nI_eq0 (by omega)] at hc2
          exact hk2 _ ⟨rfl, Or.inl (by omega)⟩
end TI3
