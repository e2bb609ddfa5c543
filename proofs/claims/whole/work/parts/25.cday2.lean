/-! the class: telling, days, sums, changes of seats, copies -/
theorem Ok_eq {β : Type} {x : Option β} {r : β} (h : Ok x (fun q => q = r)) : x = some r := by
  obtain ⟨q, e, rfl⟩ := h; exact e
theorem tv_lt {x W : Nat} (hW : W ≤ 8) : (tv x W < 0) ↔ ¬ x < W := by
  unfold tv
  by_cases hx : x < W
  · rw [if_pos hx]; simp [hx, nI_lt0 (show x < 2147483648 by omega)]
  · rw [if_neg hx]; simp only [hx, not_false_eq_true, iff_true]; decide
def sumN (f : Nat → Nat) : Nat → Nat
  | 0 => 0
  | n + 1 => sumN f n + f n
theorem sumN_ext {f g : Nat → Nat} {n : Nat} (h : ∀ i, i < n → f i = g i) : sumN f n = sumN g n := by
  induction n with
  | zero => rfl
  | succ n ih => simp only [sumN]; rw [ih (fun i hi => h i (by omega)), h n (by omega)]
theorem sumN_le {f : Nat → Nat} {n k : Nat} (h : ∀ i, i < n → f i ≤ k) : sumN f n ≤ n * k := by
  induction n with
  | zero => simp [sumN]
  | succ n ih =>
    simp only [sumN]
    have h1 := ih (fun i hi => h i (by omega))
    have h2 := h n (by omega)
    rw [Nat.add_mul]; omega
def spkN (T : Tb) : Nat := cnt (fun p => decide (tS T ≤ rgtN T p)) (tN T)
def allRN (T : Tb) : Nat := sumN (rgtN T) (tN T)
def allHN (T : Tb) : Nat := sumN (hasN T) (tN T)
section D2
variable {σ : St} {t : Nat} {T : Tb} {p w : Nat}
theorem speakers_eq (h : CR σ t T) (hw : wfT T) : f_X1_speakers t σ = some (nI (spkN T), σ) := by
  have hN := hw.2.1
  refine Ok_eq ?_
  unfold f_X1_speakers
  refine Ok_for (fun i b => b = (nI (cnt (fun p => decide (tS T ≤ rgtN T p)) i), nI i, σ)) 0 (tN T) _ rfl (Nat.zero_le _) (by omega) (fun rec i b _ hi hb hr => ?_) (fun rec b hb => ?_)
  · subst hb
    dsimp only
    simp (disch := omega) only [h.2.1, nI_leI]
    rw [if_neg (by omega)]
    refine Ok_bindE (isSpeaker_eq h hw hi) ?_
    dsimp only
    simp only [jn, nm]
    refine Ok_ite (fun hc => ?_) (fun hc => ?_)
    · refine hr _ ?_
      have : ¬ tS T ≤ rgtN T i := fun z => by rw [if_pos z] at hc; exact absurd hc (by decide)
      simp only [cnt, this]
      rw [z1, nI_add]; rfl
    · refine hr _ ?_
      have : tS T ≤ rgtN T i := by
        by_cases z : tS T ≤ rgtN T i
        · exact z
        · rw [if_neg z] at hc; exact absurd rfl hc
      simp only [cnt, this]
      rw [z1, nI_add, nI_add]; rfl
  · subst hb
    dsimp only
    simp only [h.2.1]
    rw [if_pos (by rw [nI_leI (by omega) (by omega)]; exact Nat.le_refl _)]
    exact Ok_some rfl
theorem allRight_eq (h : CR σ t T) (hw : wfT T) : f_X1_allRight t σ = some (nI (allRN T), σ) := by
  have hN := hw.2.1
  refine Ok_eq ?_
  unfold f_X1_allRight
  refine Ok_for (fun i b => b = (nI (sumN (rgtN T) i), nI i, σ)) 0 (tN T) _ rfl (Nat.zero_le _) (by omega) (fun rec i b _ hi hb hr => ?_) (fun rec b hb => ?_)
  · subst hb
    dsimp only
    simp (disch := omega) only [h.2.1, nI_leI]
    rw [if_neg (by omega)]
    refine Ok_bindE (rightOf_eq h hw hi) ?_
    simp only [nm]
    refine hr _ ?_
    simp only [sumN]
    rw [z1, nI_add, nI_add]
  · subst hb
    dsimp only
    simp only [h.2.1]
    rw [if_pos (by rw [nI_leI (by omega) (by omega)]; exact Nat.le_refl _)]
    exact Ok_some rfl
theorem allHad_eq (h : CR σ t T) (hw : wfT T) : f_X1_allHad t σ = some (nI (allHN T), σ) := by
  have hN := hw.2.1
  have hT := hw.1
  refine Ok_eq ?_
  unfold f_X1_allHad
  refine Ok_for (fun i b => b = (nI (sumN (hasN T) i), nI i, σ)) 0 (tN T) _ rfl (Nat.zero_le _) (by omega) (fun rec i b _ hi hb hr => ?_) (fun rec b hb => ?_)
  · subst hb
    dsimp only
    simp (disch := omega) only [h.2.1, nI_leI]
    rw [if_neg (by omega)]
    refine Ok_bindE (at_eq (by omega) (by decide)) ?_
    dsimp only
    rw [(h.2.2.2.2.2 i hi).2.2.1]
    unfold hasB
    refine Ok_bindE (bc_eq σ _ (bs256 _ hT)) ?_
    rw [pc_bs _ hT]
    simp only [nm]
    refine hr _ ?_
    simp only [sumN]
    rw [z1, nI_add, nI_add]; rfl
  · subst hb
    dsimp only
    simp only [h.2.1]
    rw [if_pos (by rw [nI_leI (by omega) (by omega)]; exact Nat.le_refl _)]
    exact Ok_some rfl
/-- what a word told is stays as it was till it is told -/
theorem grow1_other {q tw k x : Nat} (hx : x < 8) (hk : k < 8) (hq : ¬ (q = p ∧ x = k)) : way (grow1 T p tw k) q x = way T q x := by
  unfold grow1
  split
  · split
    · rw [way_setA]
    · split
      · rw [way_drop hk hx, if_neg hq, way_setA]
      · rw [way_setA]
  · rfl
theorem grow_told {tw k : Nat} (hT : k ≤ 8) (hx : tw < 8) : way (grow T p tw k) p tw = way T p tw := by
  induction k with
  | zero => rfl
  | succ k ih =>
    show way (grow1 _ _ _ _) _ _ = _
    by_cases hk : tw = k
    · subst hk
      unfold grow1
      split
      · rw [if_pos rfl, way_setA, ih (by omega)]
      · exact ih (by omega)
    · rw [grow1_other hx (by omega) (fun z => hk z.2), ih (by omega)]
theorem grow_other {q tw k x : Nat} (hT : k ≤ 8) (hx : x < 8) (hq : ¬ q = p) : way (grow T p tw k) q x = way T q x := by
  induction k with
  | zero => rfl
  | succ k ih =>
    show way (grow1 _ _ _ _) _ _ = _
    rw [grow1_other hx (by omega) (fun z => hq z.1), ih (by omega)]
theorem growA_told {tl : Bool} {k q : Nat} (hw : wfT T) (hq : told T tl q < tW T) : way (growA T tl k) q (told T tl q) = way T q (told T tl q) := by
  have hT := hw.1
  induction k with
  | zero => rfl
  | succ k ih =>
    show way (grow (growA T tl k) k (told T tl k) (tW T)) _ _ = _
    by_cases hk : q = k
    · subst hk; rw [grow_told hT (by omega), ih]
    · rw [grow_other hT (by omega) hk, ih]
theorem tellA_told {tl : Bool} {k q : Nat} (hw : wfT T) (hq : told T tl q < tW T) (hqn : q < tN T) (hk : k ≤ tN T) : way (tellA T tl k) q (told T tl q) = way T q (told T tl q) := by
  have hT := hw.1
  induction k with
  | zero => exact growA_told hw hq
  | succ k ih =>
    unfold tellA
    split
    · rename_i hlt
      rw [way_give (by omega) (by omega), if_neg, ih (by omega)]
      rintro ⟨e1, e2⟩
      have h1 := (told_way hq).1
      have h2 := (told_way hlt).2
      rw [← e1, ← e2] at h2
      exact h2 h1
    · exact ih (by omega)
theorem CR_day {σ : St} {T : Tb} (h : CR σ t T) {v : Nat} : CR (w2 σ t 3 (nI v)) t (tu T 0 3 v) := by
  obtain ⟨c0, c1, c2, c3, c4, c5⟩ := h
  refine ⟨?_, ?_, ?_, ?_, fun x hx => ?_, fun q hqn => ?_⟩
  · simp only [w2_ap]; simpa [tW, tu] using c0
  · simp only [w2_ap]; simpa [tN, tu] using c1
  · simp only [w2_ap]; simpa [tS, tu] using c2
  · simp only [w2_ap]; simp [tD, tu]
  · simp only [w2_ap]; simpa [snd, tu] using c4 x (by simpa [tW, tu] using hx)
  · have d := c5 q (by simpa [tN, tu] using hqn)
    have f : ∀ c k, ¬ c = t → w2 σ t 3 (nI v) c k = σ c k := fun c k hc => by rw [w2_ap, if_neg (fun z => hc z.1)]
    refine ⟨(f _ _ (by omega)).trans d.1, (f _ _ (by omega)).trans d.2.1, (f _ _ (by omega)).trans d.2.2.1, (f _ _ (by omega)).trans d.2.2.2.1, fun x hx hh => ?_⟩
    have g := d.2.2.2.2 x hx hh
    exact ⟨(f _ _ (by omega)).trans g.1, (f _ _ (by omega)).trans g.2⟩
theorem tellNext_ok {σ : St} {T : Tb} {k x : Nat} (h : CR σ t T) (hw : wfT T) (hk : k < tN T) (hx : x < tW T → way T k x < 10) : Ok (f_X1_tellNext t (nI k) (tv x (tW T)) σ) (fun q => CR q.2 t (if x < tW T then give T (nxt T k) x (hear T (nxt T k) (way T k x)) else T) ∧ Fr σ q.2 t (t + 8)) := by
  have hT := hw.1
  unfold f_X1_tellNext
  refine Ok_ite (fun hc => ?_) (fun hc => ?_)
  · rw [tv_lt hT] at hc
    rw [if_neg hc]
    exact Ok_some ⟨h, Fr_rf⟩
  · rw [tv_lt hT] at hc
    have hc := Classical.not_not.mp hc
    have e : tv x (tW T) = nI x := by unfold tv; rw [if_pos hc]
    rw [if_pos hc, e]
    refine Ok_bindE (nextSeat_eq h hw hk) ?_
    dsimp only
    refine Ok_bindE (wayOf_eq h hw hk hc (hx hc)) ?_
    dsimp only
    have hn := nxt_lt hk
    show Ok ((f_X1_asHeardBy t (nI (nxt T k)) _ _).bind _) _
    refine Ok_bindE (asHeardBy_eq h hw hn (hx hc)) ?_
    dsimp only
    refine Ok_bind (give_ok h hw hn hc (hear_lt (hx hc))) (fun q2 h2 => ?_)
    exact Ok_some h2
theorem spendDay_ok {tl : Bool} (h : CR σ t T) (hw : wfT T) : Ok (f_X1_spendDay t (if tl = true then 1 else 0) σ) (fun q => CR q.2 t (day T tl) ∧ Fr σ q.2 t (t + 9)) := by
  have hT := hw.1
  have hN := hw.2.1
  unfold f_X1_spendDay
  refine Ok_for (fun i b => b.1 = nI i ∧ CR b.2 t T ∧ Fr σ b.2 t (t + 9) ∧ ∀ q, q < i → b.2 (t + 8) q = tv (told T tl q) (tW T)) 0 (tN T) _ ⟨rfl, h, Fr_rf, fun q hq => by omega⟩ (Nat.zero_le _) (by omega) (fun rec i b _ hi hb hr => ?_) (fun rec b hb => ?_)
  · obtain ⟨e1, h1, g1, t1⟩ := hb
    rw [h1.2.1, e1]
    simp (disch := omega) only [nI_leI]
    rw [if_neg (by omega)]
    refine Ok_jn (fun q => q.1 = tv (told T tl i) (tW T) ∧ q.2 = b.2) (fun q hq => ?_) (fun k hk => ?_)
    · rw [hq.1, hq.2]
      refine Ok_bindE (put_eq (by omega) (by decide)) ?_
      refine Ok_nm (hr _ ⟨?_, ?_, ?_, fun q hq => ?_⟩)
      · show nI i + 1 = nI (i + 1); rw [z1, nI_add]
      · exact CR_fr h1 (fun c h2 h3 => by dsimp only; funext k; rw [w2_ap, if_neg (by omega)])
      · exact Fr_tr g1 (w2_fr (by omega) (by omega))
      · dsimp only
        rw [w2_ap]
        by_cases hz : q = i
        · subst hz; simp
        · rw [if_neg (by omega)]; exact t1 q (by omega)
    · refine Ok_ite (fun hc => ?_) (fun hc => ?_)
      · have : tl = false := by
          cases tl
          · rfl
          · exact absurd hc (by decide)
        subst this
        refine hk _ ⟨?_, rfl⟩
        unfold tv told
        simp
      · have : tl = true := by
          cases tl
          · exact absurd rfl hc
          · rfl
        subst this
        refine Ok_bindE (at_eq (by omega) (by decide)) ?_
        dsimp only
        refine Ok_bindE (nextSeat_eq h1 hw hi) ?_
        dsimp only
        have hn := nxt_lt hi
        show Ok ((f_X3_at (t + 4) 5 (nI (nxt T i)) _).bind _) _
        refine Ok_bindE (at_eq (by omega) (by decide)) ?_
        dsimp only
        rw [(h1.2.2.2.2.2 i hi).2.2.1, (h1.2.2.2.2.2 _ hn).2.2.1]
        unfold hasB
        rw [nI_andn, bs_clear _ _ hT]
        refine Ok_bindE (low_bs t _ _ hT) ?_
        refine hk _ ⟨?_, rfl⟩
        have e : lowF (fun w => decide (way T i w < 10) && !(decide (w < tW T) && decide (way T (nxt T i) w < 10))) (tW T) = told T true i := by
          unfold told
          rw [if_pos rfl]
          obtain ⟨g2, g3⟩ := lowF_spec (fun w => decide (way T i w < 10) && !decide (way T (nxt T i) w < 10)) (tW T)
          have g4 := lowF_le (fun w => decide (way T i w < 10) && !decide (way T (nxt T i) w < 10)) (tW T)
          refine lowF_uniq g4 (fun hl => ?_) (fun j hj => ?_)
          · have := g2 hl
            simp only [hl, decide_true, Bool.true_and]
            exact this
          · have := g3 j hj
            have hl : j < tW T := by omega
            simp only [hl, decide_true, Bool.true_and]
            exact this
        rw [e]; rfl
  · obtain ⟨e1, h1, g1, t1⟩ := hb
    rw [h1.2.1, e1, if_pos (by rw [nI_leI (by omega) (by omega)]; exact Nat.le_refl _)]
    refine Ok_for (fun i b => b.1 = nI i ∧ CR b.2 t (growA T tl i) ∧ Fr σ b.2 t (t + 9) ∧ ∀ q, q < tN T → b.2 (t + 8) q = tv (told T tl q) (tW T)) 0 (tN T) _ ⟨rfl, h1, g1, t1⟩ (Nat.zero_le _) (by omega) (fun rec2 i b _ hi hb hr => ?_) (fun rec2 b hb => ?_)
    · obtain ⟨e1, h1, g1, t1⟩ := hb
      have s := stat_growA (T := T) (tl := tl) (k := i)
      rw [h1.2.1, e1, s.2.1]
      simp (disch := omega) only [nI_leI]
      rw [if_neg (by omega)]
      refine Ok_bindE (at_eq (by omega) (by decide)) ?_
      dsimp only
      rw [t1 i hi, ← s.1]
      refine Ok_bind (growOlder_ok h1 (wf_growA hw (by omega)) (by rw [s.2.1]; exact hi)) (fun q hq => ?_)
      rw [s.1] at hq
      refine Ok_nm (hr _ ⟨?_, hq.1, Fr_tr g1 (Fr_wd hq.2 (Nat.le_refl _) (by omega)), fun x hx => ?_⟩)
      · show nI i + 1 = nI (i + 1); rw [z1, nI_add]
      · dsimp only; rw [hq.2 (t + 8) (by omega)]; exact t1 x hx
    · obtain ⟨e1, h1, g1, t1⟩ := hb
      have s0 := stat_growA (T := T) (tl := tl) (k := tN T)
      rw [h1.2.1, e1, s0.2.1, if_pos (by rw [nI_leI (by omega) (by omega)]; exact Nat.le_refl _)]
      refine Ok_for (fun i b => b.1 = nI i ∧ CR b.2 t (tellA T tl i) ∧ Fr σ b.2 t (t + 9) ∧ ∀ q, q < tN T → b.2 (t + 8) q = tv (told T tl q) (tW T)) 0 (tN T) _ ⟨rfl, h1, g1, t1⟩ (Nat.zero_le _) (by omega) (fun rec3 i b _ hi hb hr => ?_) (fun rec3 b hb => ?_)
      · obtain ⟨e1, h1, g1, t1⟩ := hb
        have s := stat_tellA (T := T) (tl := tl) (k := i)
        rw [h1.2.1, e1, s.2.1]
        simp (disch := omega) only [nI_leI]
        rw [if_neg (by omega)]
        refine Ok_bindE (at_eq (by omega) (by decide)) ?_
        dsimp only
        rw [t1 i hi, ← s.1]
        refine Ok_bind (tellNext_ok h1 (wf_tellA hw (by omega)) (by rw [s.2.1]; exact hi) (fun hx => ?_)) (fun q hq => ?_)
        · rw [s.1] at hx
          rw [tellA_told hw hx hi (by omega)]
          exact (told_way hx).1
        · have en : nxt (tellA T tl i) i = nxt T i := by unfold nxt; rw [s.2.1]
          rw [s.1, en, hear_stat s] at hq
          have e2 : tellA T tl (i + 1) = if told T tl i < tW T then give (tellA T tl i) (nxt T i) (told T tl i) (hear T (nxt T i) (way (tellA T tl i) i (told T tl i))) else tellA T tl i := by
            show (if _ then _ else _) = _
            by_cases hx : told T tl i < tW T
            · rw [if_pos hx, if_pos hx, tellA_told hw hx hi (by omega)]
            · rw [if_neg hx, if_neg hx]
          refine Ok_nm (hr _ ⟨?_, by rw [e2]; exact hq.1, Fr_tr g1 (Fr_wd hq.2 (Nat.le_refl _) (by omega)), fun x hx => ?_⟩)
          · show nI i + 1 = nI (i + 1); rw [z1, nI_add]
          · dsimp only; rw [hq.2 (t + 8) (by omega)]; exact t1 x hx
      · obtain ⟨e1, h1, g1, t1⟩ := hb
        have s := stat_tellA (T := T) (tl := tl) (k := tN T)
        rw [h1.2.1, e1, s.2.1, if_pos (by rw [nI_leI (by omega) (by omega)]; exact Nat.le_refl _)]
        refine Ok_nm (Ok_some ⟨?_, Fr_tr g1 (w2_fr (by omega) (by omega))⟩)
        dsimp only
        rw [h1.2.2.2.1, z1, nI_add, tD_tellA]
        exact CR_day h1
def days (T : Tb) : Nat → Tb
  | 0 => T
  | k + 1 => day (days T k) true
theorem stat_days {T : Tb} {k : Nat} : stat T (days T k) := by
  induction k with
  | zero => exact stat_rf
  | succ k ih => exact stat_tr ih stat_day
theorem wf_days {T : Tb} {k : Nat} (h : wfT T) : wfT (days T k) := by
  induction k with
  | zero => exact h
  | succ k ih => exact wf_day ih
theorem tD_days {T : Tb} {k : Nat} : tD (days T k) = tD T + k := by
  induction k with
  | zero => rfl
  | succ k ih => show tD (day _ _) = _; rw [tD_day, ih]; omega
theorem spend_ok {k : Nat} (h : CR σ t T) (hw : wfT T) (hk : k < 1000) : Ok (f_X1_spend t (nI k) σ) (fun q => CR q.2 t (days T k) ∧ Fr σ q.2 t (t + 9)) := by
  unfold f_X1_spend
  refine Ok_for (fun i b => b.1 = nI i ∧ CR b.2 t (days T i) ∧ Fr σ b.2 t (t + 9)) 0 k _ ⟨rfl, h, Fr_rf⟩ (Nat.zero_le _) (by omega) (fun rec i b _ hi hb hr => ?_) (fun rec b hb => ?_)
  · obtain ⟨e1, h1, g1⟩ := hb
    rw [e1]
    simp (disch := omega) only [nI_leI]
    rw [if_neg (by omega)]
    refine Ok_bind (spendDay_ok (tl := true) h1 (wf_days hw)) (fun q hq => ?_)
    refine Ok_nm (hr _ ⟨?_, hq.1, Fr_tr g1 hq.2⟩)
    show nI i + 1 = nI (i + 1); rw [z1, nI_add]
  · obtain ⟨e1, h1, g1⟩ := hb
    rw [e1, if_pos (by rw [nI_leI (by omega) (by omega)]; exact Nat.le_refl _)]
    exact Ok_some ⟨h1, g1⟩
end D2
