/-! what changes a Table -/
def give (T : Tb) (p w v : Nat) : Tb := tu (tu T 4 (8 * p + w) v) 5 (8 * p + w) 0
def dropT (T : Tb) (p w : Nat) : Tb := tu T 4 (8 * p + w) 10
def setA (T : Tb) (p w a : Nat) : Tb := tu T 5 (8 * p + w) a
theorem ix_inj {p w q x : Nat} (hw : w < 8) (hx : x < 8) : 8 * q + x = 8 * p + w ↔ q = p ∧ x = w := by omega
section G
variable {T : Tb} {p w v q x : Nat}
theorem tW_give : tW (give T p w v) = tW T := by simp [tW, give, tu]
theorem tN_give : tN (give T p w v) = tN T := by simp [tN, give, tu]
theorem tS_give : tS (give T p w v) = tS T := by simp [tS, give, tu]
theorem tD_give : tD (give T p w v) = tD T := by simp [tD, give, tu]
theorem snd_give : snd (give T p w v) x = snd T x := by simp [snd, give, tu]
theorem knd_give : knd (give T p w v) x = knd T x := by simp [knd, give, tu]
theorem mmr_give : mmr (give T p w v) x = mmr T x := by simp [mmr, give, tu]
theorem way_give (hw : w < 8) (hx : x < 8) : way (give T p w v) q x = if q = p ∧ x = w then v else way T q x := by simp [way, give, tu, ix_inj hw hx]
theorem age_give (hw : w < 8) (hx : x < 8) : age (give T p w v) q x = if q = p ∧ x = w then 0 else age T q x := by simp [age, give, tu, ix_inj hw hx]
theorem tW_drop : tW (dropT T p w) = tW T := by simp [tW, dropT, tu]
theorem tN_drop : tN (dropT T p w) = tN T := by simp [tN, dropT, tu]
theorem tS_drop : tS (dropT T p w) = tS T := by simp [tS, dropT, tu]
theorem tD_drop : tD (dropT T p w) = tD T := by simp [tD, dropT, tu]
theorem snd_drop : snd (dropT T p w) x = snd T x := by simp [snd, dropT, tu]
theorem knd_drop : knd (dropT T p w) x = knd T x := by simp [knd, dropT, tu]
theorem mmr_drop : mmr (dropT T p w) x = mmr T x := by simp [mmr, dropT, tu]
theorem way_drop (hw : w < 8) (hx : x < 8) : way (dropT T p w) q x = if q = p ∧ x = w then 10 else way T q x := by simp [way, dropT, tu, ix_inj hw hx]
theorem age_drop : age (dropT T p w) q x = age T q x := by simp [age, dropT, tu]
theorem tW_setA : tW (setA T p w v) = tW T := by simp [tW, setA, tu]
theorem tN_setA : tN (setA T p w v) = tN T := by simp [tN, setA, tu]
theorem tS_setA : tS (setA T p w v) = tS T := by simp [tS, setA, tu]
theorem tD_setA : tD (setA T p w v) = tD T := by simp [tD, setA, tu]
theorem snd_setA : snd (setA T p w v) x = snd T x := by simp [snd, setA, tu]
theorem knd_setA : knd (setA T p w v) x = knd T x := by simp [knd, setA, tu]
theorem mmr_setA : mmr (setA T p w v) x = mmr T x := by simp [mmr, setA, tu]
theorem way_setA : way (setA T p w v) q x = way T q x := by simp [way, setA, tu]
theorem age_setA (hw : w < 8) (hx : x < 8) : age (setA T p w v) q x = if q = p ∧ x = w then v else age T q x := by simp [age, setA, tu, ix_inj hw hx]
theorem hasB_give (hT : tW T ≤ 8) (hw : w < tW T) (hv : v < 10) : hasB (give T p w v) q = if q = p then hasB T p ||| 2 ^ w else hasB T q := by
  unfold hasB
  rw [tW_give]
  by_cases hq : q = p
  · subst hq
    rw [if_pos rfl, bs_one hw, bs_or]
    refine bs_ext (fun i hi => ?_)
    rw [way_give (by omega) (by omega)]
    by_cases h : i = w <;> simp [h, hv]
  · rw [if_neg hq]
    refine bs_ext (fun i hi => ?_)
    rw [way_give (by omega) (by omega), if_neg (by simp [hq])]
theorem rgtB_give (hT : tW T ≤ 8) (hw : w < tW T) : rgtB (give T p w v) q = if q = p then (if v = snd T w then rgtB T p ||| 2 ^ w else rgtB T p &&& (2 ^ w ^^^ 4294967295)) else rgtB T q := by
  unfold rgtB
  rw [tW_give]
  by_cases hq : q = p
  · subst hq
    rw [if_pos rfl]
    by_cases hs : v = snd T w
    · rw [if_pos hs, bs_one hw, bs_or]
      refine bs_ext (fun i hi => ?_)
      rw [way_give (by omega) (by omega), snd_give]
      by_cases h : i = w
      · subst h; simp [hs]
      · simp [h]
    · rw [if_neg hs, bs_one hw, bs_clear _ _ hT]
      refine bs_ext (fun i hi => ?_)
      rw [way_give (by omega) (by omega), snd_give]
      by_cases h : i = w
      · subst h; simp [hs, hi]
      · simp [h]
  · rw [if_neg hq]
    refine bs_ext (fun i hi => ?_)
    rw [way_give (by omega) (by omega), if_neg (by simp [hq]), snd_give]
theorem hasB_drop (hT : tW T ≤ 8) (hw : w < tW T) : hasB (dropT T p w) q = if q = p then hasB T p &&& (2 ^ w ^^^ 4294967295) else hasB T q := by
  unfold hasB
  rw [tW_drop]
  by_cases hq : q = p
  · subst hq
    rw [if_pos rfl, bs_one hw, bs_clear _ _ hT]
    refine bs_ext (fun i hi => ?_)
    rw [way_drop (by omega) (by omega)]
    by_cases h : i = w
    · subst h; simp [hi]
    · simp [h]
  · rw [if_neg hq]
    refine bs_ext (fun i hi => ?_)
    rw [way_drop (by omega) (by omega), if_neg (by simp [hq])]
theorem rgtB_drop (hT : tW T ≤ 8) (hw : w < tW T) (hs : snd T w ≤ 9) : rgtB (dropT T p w) q = if q = p then rgtB T p &&& (2 ^ w ^^^ 4294967295) else rgtB T q := by
  unfold rgtB
  rw [tW_drop]
  by_cases hq : q = p
  · subst hq
    rw [if_pos rfl, bs_one hw, bs_clear _ _ hT]
    refine bs_ext (fun i hi => ?_)
    rw [way_drop (by omega) (by omega), snd_drop]
    by_cases h : i = w
    · subst h
      have : ¬ 10 = snd T i := by omega
      simp [hi, this]
    · simp [h]
  · rw [if_neg hq]
    refine bs_ext (fun i hi => ?_)
    rw [way_drop (by omega) (by omega), if_neg (by simp [hq]), snd_drop]
theorem hasB_setA : hasB (setA T p w v) q = hasB T q := by
  unfold hasB; rw [tW_setA]; exact bs_ext (fun i _ => by rw [way_setA])
theorem rgtB_setA : rgtB (setA T p w v) q = rgtB T q := by
  unfold rgtB; rw [tW_setA]; exact bs_ext (fun i _ => by rw [way_setA, snd_setA])
theorem wf_give (h : wfT T) (hp : p < tN T) (hw : w < tW T) (hv : v < 10) : wfT (give T p w v) := by
  obtain ⟨h1, h2, h3, h4, h5, h6⟩ := h
  refine ⟨by rw [tW_give]; exact h1, by rw [tN_give]; exact h2, by rw [tS_give]; exact h3, by rw [tS_give]; exact h4, fun x hx => by rw [snd_give]; rw [tW_give] at hx; exact h5 x hx, fun q hq => ?_⟩
  rw [tN_give] at hq
  obtain ⟨g1, g2, g3, g4⟩ := h6 q hq
  rw [knd_give, mmr_give]
  refine ⟨g1, g2, g3, fun x hx => ?_⟩
  rw [tW_give] at hx
  rw [way_give (by omega) (by omega), age_give (by omega) (by omega)]
  obtain ⟨g5, g6⟩ := g4 x hx
  by_cases hc : q = p ∧ x = w
  · rw [if_pos hc, if_pos hc]; exact ⟨by omega, fun _ => by omega⟩
  · rw [if_neg hc, if_neg hc]; exact ⟨g5, g6⟩
end G
section C
variable {σ : St} {t : Nat} {T : Tb} {p w v : Nat}
theorem CR_give (h : CR σ t T) (hw : wfT T) (hp : p < tN T) (hq : w < tW T) (hv : v < 10) : CR (w2 (w2 (w2 (w2 σ (t + 4) p (nI (hasB (give T p w v) p))) (t + 5) p (nI (rgtB (give T p w v) p))) (t + 6) (8 * p + w) (nI v)) (t + 7) (8 * p + w) 0) t (give T p w v) := by
  obtain ⟨c0, c1, c2, c3, c4, c5⟩ := h
  have hT := hw.1
  refine ⟨?_, ?_, ?_, ?_, fun x hx => ?_, fun q hqn => ?_⟩
  · simp only [w2_ap]; simp [tW_give, c0]
  · simp only [w2_ap]; simp [tN_give, c1]
  · simp only [w2_ap]; simp [tS_give, c2]
  · simp only [w2_ap]; simp [tD_give, c3]
  · rw [tW_give] at hx
    simp only [w2_ap]; simp [snd_give, c4 x hx]
  · rw [tN_give] at hqn
    obtain ⟨d1, d2, d3, d4, d5⟩ := c5 q hqn
    refine ⟨?_, ?_, ?_, ?_, fun x hx hh => ?_⟩
    · simp only [w2_ap]; simp [knd_give, d1]
    · simp only [w2_ap]; simp [mmr_give, d2]
    · simp only [w2_ap]
      by_cases hc : q = p
      · subst hc; simp
      · have e := hasB_give (p := p) (q := q) hT hq hv
        rw [if_neg hc] at e; rw [e]; simp [hc, d3]
    · simp only [w2_ap]
      by_cases hc : q = p
      · subst hc; simp
      · have e := rgtB_give (p := p) (q := q) (v := v) hT hq
        rw [if_neg hc] at e; rw [e]; simp [hc, d4]
    · rw [tW_give] at hx
      rw [way_give (by omega) (by omega)] at hh ⊢
      rw [age_give (by omega) (by omega)]
      simp only [w2_ap]
      by_cases hc : q = p ∧ x = w
      · obtain ⟨rfl, rfl⟩ := hc; simp [z0]
      · rw [if_neg hc] at hh
        have hi : ¬ 8 * q + x = 8 * p + w := fun e => hc ((ix_inj (by omega) (by omega)).mp e)
        simp [hc, hi, d5 x hx hh]
theorem CR_drop (h : CR σ t T) (hT : tW T ≤ 8) (hs : snd T w ≤ 9) (hp : p < tN T) (hq : w < tW T) : CR (w2 (w2 σ (t + 4) p (nI (hasB (dropT T p w) p))) (t + 5) p (nI (rgtB (dropT T p w) p))) t (dropT T p w) := by
  obtain ⟨c0, c1, c2, c3, c4, c5⟩ := h
  refine ⟨?_, ?_, ?_, ?_, fun x hx => ?_, fun q hqn => ?_⟩
  · simp only [w2_ap]; simp [tW_drop, c0]
  · simp only [w2_ap]; simp [tN_drop, c1]
  · simp only [w2_ap]; simp [tS_drop, c2]
  · simp only [w2_ap]; simp [tD_drop, c3]
  · rw [tW_drop] at hx
    simp only [w2_ap]; simp [snd_drop, c4 x hx]
  · rw [tN_drop] at hqn
    obtain ⟨d1, d2, d3, d4, d5⟩ := c5 q hqn
    refine ⟨?_, ?_, ?_, ?_, fun x hx hh => ?_⟩
    · simp only [w2_ap]; simp [knd_drop, d1]
    · simp only [w2_ap]; simp [mmr_drop, d2]
    · simp only [w2_ap]
      by_cases hc : q = p
      · subst hc; simp
      · have e := hasB_drop (p := p) (q := q) hT hq
        rw [if_neg hc] at e; rw [e]; simp [hc, d3]
    · simp only [w2_ap]
      by_cases hc : q = p
      · subst hc; simp
      · have e := rgtB_drop (p := p) (q := q) hT hq hs
        rw [if_neg hc] at e; rw [e]; simp [hc, d4]
    · rw [tW_drop] at hx
      rw [way_drop (by omega) (by omega)] at hh ⊢
      rw [age_drop]
      simp only [w2_ap]
      by_cases hc : q = p ∧ x = w
      · rw [if_pos hc] at hh; omega
      · rw [if_neg hc] at hh
        simp [hc, d5 x hx hh]
theorem CR_setA (h : CR σ t T) (hT : tW T ≤ 8) (hp : p < tN T) (hq : w < tW T) : CR (w2 σ (t + 7) (8 * p + w) (nI v)) t (setA T p w v) := by
  obtain ⟨c0, c1, c2, c3, c4, c5⟩ := h
  refine ⟨?_, ?_, ?_, ?_, fun x hx => ?_, fun q hqn => ?_⟩
  · simp only [w2_ap]; simp [tW_setA, c0]
  · simp only [w2_ap]; simp [tN_setA, c1]
  · simp only [w2_ap]; simp [tS_setA, c2]
  · simp only [w2_ap]; simp [tD_setA, c3]
  · rw [tW_setA] at hx
    simp only [w2_ap]; simp [snd_setA, c4 x hx]
  · rw [tN_setA] at hqn
    obtain ⟨d1, d2, d3, d4, d5⟩ := c5 q hqn
    refine ⟨?_, ?_, ?_, ?_, fun x hx hh => ?_⟩
    · simp only [w2_ap]; simp [knd_setA, d1]
    · simp only [w2_ap]; simp [mmr_setA, d2]
    · simp only [w2_ap]; rw [hasB_setA]; simp [d3]
    · simp only [w2_ap]; rw [rgtB_setA]; simp [d4]
    · rw [tW_setA] at hx
      rw [way_setA] at hh ⊢
      rw [age_setA (by omega) (by omega)]
      simp only [w2_ap]
      by_cases hc : q = p ∧ x = w
      · obtain ⟨rfl, rfl⟩ := hc; simp [d5 x hx hh]
      · have hi : ¬ 8 * q + x = 8 * p + w := fun e => hc ((ix_inj (by omega) (by omega)).mp e)
        simp [hc, hi, d5 x hx hh]
theorem give_ok (h : CR σ t T) (hw : wfT T) (hp : p < tN T) (hq : w < tW T) (hv : v < 10) : Ok (f_X1_give t (nI p) (nI w) (nI v) σ) (fun q => CR q.2 t (give T p w v) ∧ Fr σ q.2 t (t + 8)) := by
  have hT := hw.1
  have hN := hw.2.1
  have d := h.2.2.2.2.2 p hp
  unfold f_X1_give
  simp only [nm, jn]
  rw [shl1 w (by omega)]
  refine Ok_bindE (at_eq (by omega) (by decide)) ?_
  dsimp only
  rw [d.2.2.1, fa_or]
  refine Ok_bindE (put_eq (by omega) (by decide)) ?_
  dsimp only
  refine Ok_bindE (at_eq (by omega) (by decide)) ?_
  dsimp only
  have e1 : w2 σ (t + 4) p (nI (hasB T p ||| 2 ^ w)) (t + 1) w = nI (snd T w) := by
    simp only [w2_ap]; simp [h.2.2.2.2.1 w hq]
  have hs := hw.2.2.2.2.1 w hq
  have hA : hasB T p ||| 2 ^ w = hasB (give T p w v) p := by rw [hasB_give hT hq hv, if_pos rfl]
  have e2 : w2 σ (t + 4) p (nI (hasB T p ||| 2 ^ w)) (t + 5) p = nI (rgtB T p) := by
    simp only [w2_ap]; simp [d.2.2.2.1]
  have fin : ∀ B, nI B = nI (rgtB (give T p w v) p) → Ok ((f_X3_put (t + 5) 5 (nI p) (nI B) (w2 σ (t + 4) p (nI (hasB T p ||| 2 ^ w)))).bind (fun q9 => (f_X3_put (t + 6) 40 (((8 : Int32) * nI p) + nI w) (nI v) q9.2).bind (fun q10 => (f_X3_put (t + 7) 40 (((8 : Int32) * nI p) + nI w) (0 : Int32) q10.2).bind (fun q11 => some ((), q11.2))))) (fun q => CR q.2 t (give T p w v) ∧ Fr σ q.2 t (t + 8)) := by
    intro B hB
    rw [hB]
    refine Ok_bindE (put_eq (by omega) (by decide)) ?_
    dsimp only
    rw [ix8]
    refine Ok_bindE (put_eq (by omega) (by decide)) ?_
    dsimp only
    refine Ok_bindE (put_eq (by omega) (by decide)) ?_
    refine Ok_some ⟨?_, ?_⟩
    · dsimp only; rw [hA]; exact CR_give h hw hp hq hv
    · exact Fr_tr (Fr_tr (Fr_tr (w2_fr (by omega) (by omega)) (w2_fr (by omega) (by omega))) (w2_fr (by omega) (by omega))) (w2_fr (by omega) (by omega))
  rw [e1]
  refine Ok_ite (fun hc => ?_) (fun hc => ?_)
  · have hne : ¬ v = snd T w := fun q => hc (by rw [q])
    refine Ok_bindE (at_eq (by omega) (by decide)) ?_
    dsimp only
    rw [e2, nI_andn]
    exact fin _ (by rw [rgtB_give hT hq, if_pos rfl, if_neg hne])
  · have hne : v = snd T w := (nI_eq (by omega) (by omega)).mp (Classical.not_not.mp hc)
    refine Ok_bindE (at_eq (by omega) (by decide)) ?_
    dsimp only
    rw [e2, fa_or]
    exact fin _ (by rw [rgtB_give hT hq, if_pos rfl, if_pos hne])
theorem drop_ok (h : CR σ t T) (hT : tW T ≤ 8) (hN : tN T ≤ 5) (hs : snd T w ≤ 9) (hp : p < tN T) (hq : w < tW T) : Ok (f_X1_drop t (nI p) (nI w) σ) (fun q => CR q.2 t (dropT T p w) ∧ Fr σ q.2 t (t + 8)) := by
  have d := h.2.2.2.2.2 p hp
  unfold f_X1_drop
  simp only [nm, jn]
  rw [shl1 w (by omega)]
  refine Ok_bindE (at_eq (by omega) (by decide)) ?_
  dsimp only
  rw [d.2.2.1, nI_andn]
  refine Ok_bindE (put_eq (by omega) (by decide)) ?_
  dsimp only
  refine Ok_bindE (at_eq (by omega) (by decide)) ?_
  dsimp only
  have e2 : w2 σ (t + 4) p (nI (hasB T p &&& (2 ^ w ^^^ 4294967295))) (t + 5) p = nI (rgtB T p) := by
    simp only [w2_ap]; simp [d.2.2.2.1]
  rw [e2, nI_andn]
  refine Ok_bindE (put_eq (by omega) (by decide)) ?_
  refine Ok_some ⟨?_, Fr_tr (w2_fr (by omega) (by omega)) (w2_fr (by omega) (by omega))⟩
  have hA : hasB T p &&& (2 ^ w ^^^ 4294967295) = hasB (dropT T p w) p := by rw [hasB_drop hT hq, if_pos rfl]
  have hB : rgtB T p &&& (2 ^ w ^^^ 4294967295) = rgtB (dropT T p w) p := by rw [rgtB_drop hT hq hs, if_pos rfl]
  dsimp only
  rw [hA, hB]
  exact CR_drop h hT hs hp hq
end C
