/-! the class's lessons and days -/
theorem Ok_jn {β γ : Type} {rest : β → Option γ} {main : (β → Option γ) → Option γ} {R : γ → Prop} (P : β → Prop) (hr : ∀ q, P q → Ok (rest q) R) (hm : ∀ k, (∀ q, P q → Ok (k q) R) → Ok (main k) R) : Ok (jn rest main) R := hm rest hr
theorem Ok_nm {α β : Type} {x : α} {f : α → Option β} {R : β → Prop} (h : Ok (f x) R) : Ok (nm x f) R := h
theorem CR_fr {σ σ' : St} {t : Nat} {T : Tb} (h : CR σ t T) (hf : ∀ c, t ≤ c → c < t + 8 → σ' c = σ c) : CR σ' t T := by
  obtain ⟨c0, c1, c2, c3, c4, c5⟩ := h
  have f0 := hf t (by omega) (by omega)
  have f1 := hf (t + 1) (by omega) (by omega)
  have f2 := hf (t + 2) (by omega) (by omega)
  have f3 := hf (t + 3) (by omega) (by omega)
  have f4 := hf (t + 4) (by omega) (by omega)
  have f5 := hf (t + 5) (by omega) (by omega)
  have f6 := hf (t + 6) (by omega) (by omega)
  have f7 := hf (t + 7) (by omega) (by omega)
  unfold CR
  rw [f0, f1, f2, f3, f4, f5, f6, f7]
  exact ⟨c0, c1, c2, c3, c4, c5⟩
section D
variable {σ : St} {t : Nat} {T : Tb} {p w : Nat}
theorem nxw_eq (h : CR σ t T) (hw : wfT T) (hq : w < tW T) : (if (σ t 0) ≤ (nI w + (1 : Int32)) then (0 : Int32) else nI w + (1 : Int32)) = nI (nxw T w) := by
  have hT := hw.1
  rw [h.1, z1, nI_add]
  simp (disch := omega) only [nI_leI]
  unfold nxw
  by_cases hc : w + 1 < tW T
  · rw [if_neg (by omega), if_pos hc]
  · rw [if_pos (by omega), if_neg hc]; rfl
theorem teach_ok (h : CR σ t T) (hw : wfT T) (hp : p < tN T) (hq : w < tW T) : Ok (f_X1_teach t (nI p) (nI w) σ) (fun q => CR q.2 t (teach T p w) ∧ Fr σ q.2 t (t + 8)) := by
  have hT := hw.1
  have hN := hw.2.1
  have d := h.2.2.2.2.2 p hp
  have hk := (hw.2.2.2.2.2 p hp).1
  have hs := hw.2.2.2.2.1 w hq
  unfold f_X1_teach
  refine Ok_bindE (at_eq (by omega) (by decide)) ?_
  dsimp only
  rw [d.1]
  refine Ok_jn (fun q => q = σ ∧ ¬ (knd T p = 3 ∧ way T p w < 10)) (fun q hc => ?_) (fun k hk2 => ?_)
  · obtain ⟨rfl, hc⟩ := hc
    refine Ok_bindE (at_eq (by omega) (by decide)) ?_
    dsimp only
    rw [h.2.2.2.2.1 w hq]
    refine Ok_bindE (asHeardBy_eq h hw hp (by omega)) ?_
    dsimp only
    refine Ok_bind (give_ok h hw hp hq (hear_lt (by omega))) (fun q1 h1 => ?_)
    obtain ⟨h1, g1⟩ := h1
    have w1 : wfT (give T p w (hear T p (snd T w))) := wf_give hw hp hq (hear_lt (by omega))
    have hn := nxw_lt hq
    refine Ok_jn (fun q => q.1 = nI (nxw T w) ∧ q.2 = q1.2) (fun q hc2 => ?_) (fun k hk2 => ?_)
    · obtain ⟨e1, e2⟩ := hc2
      rw [e1, e2]
      refine Ok_bindE (at_eq (by omega) (by decide)) ?_
      dsimp only
      rw [(h1.2.2.2.2.2 p (by rw [tN_give]; exact hp)).1, knd_give]
      unfold teach
      rw [if_neg hc]
      refine Ok_ite (fun hk3 => ?_) (fun hk3 => ?_)
      · rw [z2] at hk3
        simp (disch := omega) only [nI_eq] at hk3
        rw [if_neg (fun z => hk3 z.1)]
        exact Ok_some ⟨h1, g1⟩
      · rw [z2] at hk3
        simp (disch := omega) only [nI_eq] at hk3
        have hk3 := Classical.not_not.mp hk3
        refine Ok_bindE (holds_eq h1 w1 (by rw [tN_give]; exact hp) (by rw [tW_give]; exact hn)) ?_
        dsimp only
        refine Ok_ite (fun hh => ?_) (fun hh => ?_)
        · have hh2 : way (give T p w (hear T p (snd T w))) p (nxw T w) < 10 := by
            by_cases z : way (give T p w (hear T p (snd T w))) p (nxw T w) < 10
            · exact z
            · rw [if_neg z] at hh; exact absurd rfl hh
          rw [if_neg (fun z => z.2 hh2)]
          exact Ok_some ⟨h1, g1⟩
        · have hh2 : ¬ way (give T p w (hear T p (snd T w))) p (nxw T w) < 10 := fun z => by
            rw [if_pos z] at hh; exact hh (by decide)
          rw [if_pos ⟨hk3, hh2⟩]
          refine Ok_bindE (at_eq (by omega) (by decide)) ?_
          dsimp only
          rw [h1.2.2.2.2.1 _ (by rw [tW_give]; exact hn), snd_give]
          have hs2 := hw.2.2.2.2.1 _ hn
          refine Ok_bind (give_ok h1 w1 (by rw [tN_give]; exact hp) (by rw [tW_give]; exact hn) (by omega)) (fun q2 h2 => ?_)
          exact Ok_some ⟨h2.1, Fr_tr g1 h2.2⟩
    · have e := nxw_eq h1 w1 (w := w) (by rw [tW_give]; exact hq)
      have e2 : nxw (give T p w (hear T p (snd T w))) w = nxw T w := by unfold nxw; rw [tW_give]
      rw [e2] at e
      refine Ok_ite (fun hc3 => ?_) (fun hc3 => ?_)
      · rw [if_pos hc3] at e
        exact hk2 _ ⟨e, rfl⟩
      · rw [if_neg hc3] at e
        exact hk2 _ ⟨e, rfl⟩
  · refine Ok_ite (fun hc => ?_) (fun hc => ?_)
    · rw [z3] at hc
      simp (disch := omega) only [nI_eq] at hc
      exact hk2 _ ⟨rfl, fun z => hc z.1⟩
    · rw [z3] at hc
      simp (disch := omega) only [nI_eq] at hc
      have hc := Classical.not_not.mp hc
      refine Ok_bindE (holds_eq h hw hp hq) ?_
      dsimp only
      refine Ok_ite (fun hh => ?_) (fun hh => ?_)
      · refine hk2 _ ⟨rfl, fun z => ?_⟩
        rw [if_pos z.2] at hh; exact absurd hh (by decide)
      · have hh2 : way T p w < 10 := by
          by_cases z : way T p w < 10
          · exact z
          · rw [if_neg z] at hh; exact absurd rfl hh
        refine Ok_bindE (wayOf_eq h hw hp hq hh2) ?_
        dsimp only
        refine Ok_bind (give_ok h hw hp hq hh2) (fun q2 h2 => ?_)
        unfold teach
        rw [if_pos ⟨hc, hh2⟩]
        exact Ok_some h2
theorem repair_ok (h : CR σ t T) (hw : wfT T) (hp : p < tN T) (hq : w < tW T) : Ok (f_X1_repair t (nI p) (nI w) σ) (fun q => CR q.2 t (give T p w (snd T w)) ∧ Fr σ q.2 t (t + 8)) := by
  have hT := hw.1
  have hs := hw.2.2.2.2.1 w hq
  unfold f_X1_repair
  refine Ok_bindE (at_eq (by omega) (by decide)) ?_
  dsimp only
  rw [h.2.2.2.2.1 w hq]
  refine Ok_bind (give_ok h hw hp hq (by omega)) (fun q2 h2 => ?_)
  exact Ok_some h2
/-- the told word as the class writes it: -4 for none -/
def tv (x W : Nat) : Int32 := if x < W then nI x else -4
theorem tv_eq {k x W : Nat} (hk : k < W) (hW : W ≤ 8) : (nI k = tv x W) ↔ k = x := by
  unfold tv
  by_cases hx : x < W
  · rw [if_pos hx, nI_eq (by omega) (by omega)]
  · rw [if_neg hx]
    constructor
    · intro e
      have : (-4 : Int32) = nI 4294967292 := by decide +kernel
      have h2 : ¬ nI k < 0 := nI_pos (by omega)
      rw [e] at h2
      exact absurd (by decide) h2
    · intro e; omega
theorem growOlder_ok {tw : Nat} (h : CR σ t T) (hw : wfT T) (hp : p < tN T) : Ok (f_X1_growOlder t (nI p) (tv tw (tW T)) σ) (fun q => CR q.2 t (grow T p tw (tW T)) ∧ Fr σ q.2 t (t + 8)) := by
  have hT := hw.1
  have hN := hw.2.1
  have d := h.2.2.2.2.2 p hp
  have hm := (hw.2.2.2.2.2 p hp).2
  unfold f_X1_growOlder
  refine Ok_bindE (at_eq (by omega) (by decide)) ?_
  dsimp only
  rw [d.2.1]
  refine Ok_for (fun i b => b.1 = nI i ∧ CR b.2 t (grow T p tw i) ∧ Fr σ b.2 t (t + 8)) 0 (tW T) _ ⟨rfl, h, Fr_rf⟩ (Nat.zero_le _) (by omega) (fun rec i b _ hi hb hr => ?_) (fun rec b hb => ?_)
  · obtain ⟨e1, h1, g1⟩ := hb
    have s := stat_grow (T := T) (p := p) (tw := tw) (k := i)
    have w1 : wfT (grow T p tw i) := wf_grow hw hp (by omega)
    have m1 := (w1.2.2.2.2.2 p (by rw [s.2.1]; exact hp)).2
    rw [h1.1, e1, s.1]
    simp (disch := omega) only [nI_leI]
    rw [if_neg (by omega)]
    refine Ok_bindE (holds_eq h1 w1 (by rw [s.2.1]; exact hp) (by rw [s.1]; exact hi)) ?_
    dsimp only
    refine Ok_jn (fun q => CR q t (grow T p tw (i + 1)) ∧ Fr σ q t (t + 8)) (fun q hq => ?_) (fun k hk => ?_)
    · refine Ok_nm (hr _ ⟨?_, hq⟩)
      show nI i + 1 = nI (i + 1)
      rw [z1, nI_add]
    · by_cases hh : way (grow T p tw i) p i < 10
      · rw [if_pos hh, if_neg (by decide)]
        have ha := (m1.2.2 i (by rw [s.1]; exact hi)).2 hh
        have hA : ∀ v : Nat, CR b.2 t (grow T p tw i) → Ok ((f_X3_put (t + 7) 40 (((8 : Int32) * nI p) + nI i) (nI v) b.2)) (fun q => CR q.2 t (setA (grow T p tw i) p i v) ∧ Fr σ q.2 t (t + 8)) := by
          intro v hv
          rw [ix8, put_eq (by omega) (by decide)]
          exact Ok_some ⟨CR_setA hv (by rw [s.1]; omega) (by rw [s.2.1]; exact hp) (by rw [s.1]; exact hi), Fr_tr g1 (w2_fr (by omega) (by omega))⟩
        refine Ok_jn (fun q => q.2 = b.2 ∧ q.1 = nI (if i = tw then 0 else age (grow T p tw i) p i + 1)) (fun q hq => ?_) (fun k2 hk2 => ?_)
        · obtain ⟨e2, e3⟩ := hq
          rw [e2, e3]
          refine Ok_bind (hA _ h1) (fun q1 h2 => ?_)
          have sA : tW (setA (grow T p tw i) p i (if i = tw then 0 else age (grow T p tw i) p i + 1)) = tW T := by rw [tW_setA, s.1]
          have sN : tN (setA (grow T p tw i) p i (if i = tw then 0 else age (grow T p tw i) p i + 1)) = tN T := by rw [tN_setA, s.2.1]
          have mm : mmr (grow T p tw i) p = mmr T p := s.2.2.2.2.2 p
          have hlim : (if i = tw then 0 else age (grow T p tw i) p i + 1) ≤ 31 := by split <;> omega
          simp (disch := omega) only [nI_ltI]
          show Ok _ _
          refine Ok_ite (fun hc => ?_) (fun hc => ?_)
          · refine hk _ ⟨?_, h2.2⟩
            have : grow T p tw (i + 1) = setA (grow T p tw i) p i (if i = tw then 0 else age (grow T p tw i) p i + 1) := by
              show grow1 _ _ _ _ = _
              unfold grow1
              rw [if_pos hh]
              by_cases hz : i = tw
              · rw [if_pos hz, if_pos hz]
              · rw [if_neg hz, if_neg hz]
                rw [if_neg hz] at hc
                rw [if_neg (by rw [mm]; omega)]
            rw [this]; exact h2.1
          · have hz : ¬ i = tw := fun z => by rw [if_pos z] at hc; omega
            refine Ok_bind (drop_ok h2.1 (by rw [sA]; exact hT) (by rw [sN]; exact hN) (by rw [snd_setA, s.2.2.2.1]; exact hw.2.2.2.2.1 i hi) (by rw [sN]; exact hp) (by rw [sA]; exact hi)) (fun q3 h3 => ?_)
            refine hk _ ⟨?_, Fr_tr h2.2 h3.2⟩
            have : grow T p tw (i + 1) = dropT (setA (grow T p tw i) p i (if i = tw then 0 else age (grow T p tw i) p i + 1)) p i := by
              show grow1 _ _ _ _ = _
              unfold grow1
              rw [if_pos hh, if_neg hz]
              rw [if_neg hz] at hc ⊢
              rw [if_pos (by rw [mm]; omega)]
            rw [this]; exact h3.1
        · have te := tv_eq (k := i) (x := tw) (W := tW T) hi hT
          refine Ok_ite (fun hc => ?_) (fun hc => ?_)
          · refine Ok_bindE (ageOf_eq h1 w1 (by rw [s.2.1]; exact hp) (by rw [s.1]; exact hi) hh) ?_
            refine hk2 _ ⟨rfl, ?_⟩
            rw [if_neg (fun z => hc (te.mpr z))]
            show nI (age (grow T p tw i) p i) + 1 = _
            rw [z1, nI_add]
          · have := te.mp (Classical.not_not.mp hc)
            refine hk2 _ ⟨rfl, ?_⟩
            rw [if_pos this]; rfl
      · rw [if_neg hh, if_pos rfl]
        refine hk _ ⟨?_, g1⟩
        have : grow T p tw (i + 1) = grow T p tw i := by
          show grow1 _ _ _ _ = _
          unfold grow1
          rw [if_neg hh]
        rw [this]; exact h1
  · obtain ⟨e1, h1, g1⟩ := hb
    have s := stat_grow (T := T) (p := p) (tw := tw) (k := tW T)
    rw [h1.1, e1, s.1]
    rw [if_pos (by rw [nI_leI (by omega) (by omega)]; exact Nat.le_refl _)]
    exact Ok_some ⟨h1, g1⟩
end D
