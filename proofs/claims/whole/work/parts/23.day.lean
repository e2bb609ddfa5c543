/-! lessons, a day at the inn -/
def nxt (T : Tb) (p : Nat) : Nat := if p + 1 < tN T then p + 1 else 0
def nxw (T : Tb) (w : Nat) : Nat := if w + 1 < tW T then w + 1 else 0
theorem nxw_lt {T : Tb} {w : Nat} (h : w < tW T) : nxw T w < tW T := by unfold nxw; split <;> omega
def teach (T : Tb) (p w : Nat) : Tb :=
  if knd T p = 3 ∧ way T p w < 10 then give T p w (way T p w)
  else if knd T p = 2 ∧ ¬ way (give T p w (hear T p (snd T w))) p (nxw T w) < 10 then give (give T p w (hear T p (snd T w))) p (nxw T w) (snd T (nxw T w))
  else give T p w (hear T p (snd T w))
def canR (T : Tb) (p w : Nat) : Prop := way T p w < 10 ∧ way T p w ≠ snd T w
def grow1 (T : Tb) (p tw k : Nat) : Tb := if way T p k < 10 then (if k = tw then setA T p k 0 else if mmr T p ≤ age T p k + 1 then dropT (setA T p k (age T p k + 1)) p k else setA T p k (age T p k + 1)) else T
def grow (T : Tb) (p tw : Nat) : Nat → Tb
  | 0 => T
  | k + 1 => grow1 (grow T p tw k) p tw k
def told (T : Tb) (tl : Bool) (p : Nat) : Nat := if tl = true then lowF (fun w => decide (way T p w < 10) && !decide (way T (nxt T p) w < 10)) (tW T) else tW T
def growA (T : Tb) (tl : Bool) : Nat → Tb
  | 0 => T
  | k + 1 => grow (growA T tl k) k (told T tl k) (tW T)
def tellA (T : Tb) (tl : Bool) : Nat → Tb
  | 0 => growA T tl (tN T)
  | k + 1 => if told T tl k < tW T then give (tellA T tl k) (nxt T k) (told T tl k) (hear T (nxt T k) (way T k (told T tl k))) else tellA T tl k
def day (T : Tb) (tl : Bool) : Tb := tu (tellA T tl (tN T)) 0 3 (tD T + 1)
/-- the parts of a table that a day leaves -/
def stat (T T' : Tb) : Prop := tW T' = tW T ∧ tN T' = tN T ∧ tS T' = tS T ∧ (∀ w, snd T' w = snd T w) ∧ (∀ p, knd T' p = knd T p) ∧ (∀ p, mmr T' p = mmr T p)
theorem stat_rf {T : Tb} : stat T T := ⟨rfl, rfl, rfl, fun _ => rfl, fun _ => rfl, fun _ => rfl⟩
theorem stat_tr {T T1 T2 : Tb} (h1 : stat T T1) (h2 : stat T1 T2) : stat T T2 := ⟨h2.1.trans h1.1, h2.2.1.trans h1.2.1, h2.2.2.1.trans h1.2.2.1, fun w => (h2.2.2.2.1 w).trans (h1.2.2.2.1 w), fun w => (h2.2.2.2.2.1 w).trans (h1.2.2.2.2.1 w), fun w => (h2.2.2.2.2.2 w).trans (h1.2.2.2.2.2 w)⟩
theorem stat_give {T : Tb} {p w v : Nat} : stat T (give T p w v) := ⟨tW_give, tN_give, tS_give, fun _ => snd_give, fun _ => knd_give, fun _ => mmr_give⟩
theorem stat_grow1 {T : Tb} {p tw k : Nat} : stat T (grow1 T p tw k) := by
  unfold grow1
  split
  · split
    · exact ⟨tW_setA, tN_setA, tS_setA, fun _ => snd_setA, fun _ => knd_setA, fun _ => mmr_setA⟩
    · split
      · exact ⟨by rw [tW_drop, tW_setA], by rw [tN_drop, tN_setA], by rw [tS_drop, tS_setA], fun _ => by rw [snd_drop, snd_setA], fun _ => by rw [knd_drop, knd_setA], fun _ => by rw [mmr_drop, mmr_setA]⟩
      · exact ⟨tW_setA, tN_setA, tS_setA, fun _ => snd_setA, fun _ => knd_setA, fun _ => mmr_setA⟩
  · exact stat_rf
theorem stat_grow {T : Tb} {p tw k : Nat} : stat T (grow T p tw k) := by
  induction k with
  | zero => exact stat_rf
  | succ k ih => exact stat_tr ih stat_grow1
theorem stat_growA {T : Tb} {tl : Bool} {k : Nat} : stat T (growA T tl k) := by
  induction k with
  | zero => exact stat_rf
  | succ k ih => exact stat_tr ih stat_grow
theorem stat_tellA {T : Tb} {tl : Bool} {k : Nat} : stat T (tellA T tl k) := by
  induction k with
  | zero => exact stat_growA
  | succ k ih => unfold tellA; split; exact stat_tr ih stat_give; exact ih
theorem stat_day {T : Tb} {tl : Bool} : stat T (day T tl) := by
  have h := stat_tellA (T := T) (tl := tl) (k := tN T)
  refine ⟨?_, ?_, ?_, fun w => ?_, fun p => ?_, fun p => ?_⟩
  · rw [← h.1]; simp [day, tW, tu]
  · rw [← h.2.1]; simp [day, tN, tu]
  · rw [← h.2.2.1]; simp [day, tS, tu]
  · rw [← h.2.2.2.1]; simp [day, snd, tu]
  · rw [← h.2.2.2.2.1]; simp [day, knd, tu]
  · rw [← h.2.2.2.2.2]; simp [day, mmr, tu]
theorem stat_teach {T : Tb} {p w : Nat} : stat T (teach T p w) := by
  unfold teach
  split
  · exact stat_give
  · split
    · exact stat_tr stat_give stat_give
    · exact stat_give
theorem tD_grow1 {T : Tb} {p tw k : Nat} : tD (grow1 T p tw k) = tD T := by
  unfold grow1
  split
  · split
    · exact tD_setA
    · split
      · rw [tD_drop, tD_setA]
      · exact tD_setA
  · rfl
theorem tD_grow {T : Tb} {p tw k : Nat} : tD (grow T p tw k) = tD T := by
  induction k with
  | zero => rfl
  | succ k ih => exact tD_grow1.trans ih
theorem tD_growA {T : Tb} {tl : Bool} {k : Nat} : tD (growA T tl k) = tD T := by
  induction k with
  | zero => rfl
  | succ k ih => exact tD_grow.trans ih
theorem tD_tellA {T : Tb} {tl : Bool} {k : Nat} : tD (tellA T tl k) = tD T := by
  induction k with
  | zero => exact tD_growA
  | succ k ih => unfold tellA; split; exact tD_give.trans ih; exact ih
theorem tD_day {T : Tb} {tl : Bool} : tD (day T tl) = tD T + 1 := by simp [day, tD, tu]
theorem hear_stat {T T' : Tb} (h : stat T T') (p v : Nat) : hear T' p v = hear T p v := by unfold hear; rw [h.2.2.2.2.1]
theorem nxt_lt {T : Tb} {p : Nat} (hp : p < tN T) : nxt T p < tN T := by unfold nxt; split <;> omega
theorem nxt_inj {T : Tb} {p q : Nat} (hp : p < tN T) (hq : q < tN T) (h : nxt T p = nxt T q) : p = q := by
  unfold nxt at h
  split at h <;> split at h <;> omega
theorem wf_setA {T : Tb} {p w v : Nat} (h : wfT T) (hw : w < tW T) (hv : v < mmr T p) : wfT (setA T p w v) := by
  obtain ⟨h1, h2, h3, h4, h5, h6⟩ := h
  refine ⟨by rw [tW_setA]; exact h1, by rw [tN_setA]; exact h2, by rw [tS_setA]; exact h3, by rw [tS_setA]; exact h4, fun x hx => by rw [snd_setA]; rw [tW_setA] at hx; exact h5 x hx, fun q hq => ?_⟩
  rw [tN_setA] at hq
  obtain ⟨g1, g2, g3, g4⟩ := h6 q hq
  rw [knd_setA, mmr_setA]
  refine ⟨g1, g2, g3, fun x hx => ?_⟩
  rw [tW_setA] at hx
  rw [way_setA, age_setA (by omega) (by omega)]
  obtain ⟨g5, g6⟩ := g4 x hx
  by_cases hc : q = p ∧ x = w
  · obtain ⟨rfl, rfl⟩ := hc; rw [if_pos ⟨rfl, rfl⟩]; exact ⟨g5, fun _ => hv⟩
  · rw [if_neg hc]; exact ⟨g5, g6⟩
theorem wf_setDrop {T : Tb} {p w v : Nat} (h : wfT T) (hw : w < tW T) : wfT (dropT (setA T p w v) p w) := by
  obtain ⟨h1, h2, h3, h4, h5, h6⟩ := h
  refine ⟨by rw [tW_drop, tW_setA]; exact h1, by rw [tN_drop, tN_setA]; exact h2, by rw [tS_drop, tS_setA]; exact h3, by rw [tS_drop, tS_setA]; exact h4, fun x hx => by rw [snd_drop, snd_setA]; rw [tW_drop, tW_setA] at hx; exact h5 x hx, fun q hq => ?_⟩
  rw [tN_drop, tN_setA] at hq
  obtain ⟨g1, g2, g3, g4⟩ := h6 q hq
  rw [knd_drop, mmr_drop, knd_setA, mmr_setA]
  refine ⟨g1, g2, g3, fun x hx => ?_⟩
  rw [tW_drop, tW_setA] at hx
  rw [way_drop (by omega) (by omega), age_drop, way_setA, age_setA (by omega) (by omega)]
  obtain ⟨g5, g6⟩ := g4 x hx
  by_cases hc : q = p ∧ x = w
  · rw [if_pos hc]; exact ⟨by omega, fun _ => by omega⟩
  · rw [if_neg hc, if_neg hc]; exact ⟨g5, g6⟩
theorem wf_grow1 {T : Tb} {p tw k : Nat} (h : wfT T) (hp : p < tN T) (hk : k < tW T) : wfT (grow1 T p tw k) := by
  unfold grow1
  have g := (h.2.2.2.2.2 p hp)
  split
  · split
    · exact wf_setA h hk (by omega)
    · split
      · exact wf_setDrop h hk
      · exact wf_setA h hk (by omega)
  · exact h
theorem wf_grow {T : Tb} {p tw k : Nat} (h : wfT T) (hp : p < tN T) (hk : k ≤ tW T) : wfT (grow T p tw k) := by
  induction k with
  | zero => exact h
  | succ k ih =>
    have s := stat_grow (T := T) (p := p) (tw := tw) (k := k)
    exact wf_grow1 (ih (by omega)) (by rw [s.2.1]; exact hp) (by rw [s.1]; omega)
theorem wf_growA {T : Tb} {tl : Bool} {k : Nat} (h : wfT T) (hk : k ≤ tN T) : wfT (growA T tl k) := by
  induction k with
  | zero => exact h
  | succ k ih =>
    have s := stat_growA (T := T) (tl := tl) (k := k)
    exact wf_grow (ih (by omega)) (by rw [s.2.1]; omega) (by rw [s.1]; exact Nat.le_refl _)
theorem wf_tellA {T : Tb} {tl : Bool} {k : Nat} (h : wfT T) (hk : k ≤ tN T) : wfT (tellA T tl k) := by
  induction k with
  | zero => exact wf_growA h (Nat.le_refl _)
  | succ k ih =>
    unfold tellA
    split
    · rename_i hlt
      have s := stat_tellA (T := T) (tl := tl) (k := k)
      have hway : way T k (told T tl k) < 10 := by
        unfold told at hlt ⊢
        split at hlt
        · rename_i ht
          rw [if_pos ht]
          have := (lowF_spec _ _).1 hlt
          simp only [Bool.and_eq_true, decide_eq_true_eq] at this
          exact this.1
        · omega
      exact wf_give (ih (by omega)) (by rw [s.2.1]; exact nxt_lt (by omega)) (by rw [s.1]; exact hlt) (hear_lt hway)
    · exact ih (by omega)
theorem wf_day {T : Tb} {tl : Bool} (h : wfT T) : wfT (day T tl) := by
  obtain ⟨h1, h2, h3, h4, h5, h6⟩ := wf_tellA (tl := tl) h (Nat.le_refl _)
  exact ⟨by simpa [day, tW, tu] using h1, by simpa [day, tN, tu] using h2, by simpa [day, tS, tu] using h3, by simpa [day, tS, tu] using h4, by simpa [day, tW, snd, tu] using h5, by simpa [day, tN, tW, knd, mmr, way, age, tu] using h6⟩
theorem told_way {T : Tb} {tl : Bool} {k : Nat} (h : told T tl k < tW T) : way T k (told T tl k) < 10 ∧ ¬ way T (nxt T k) (told T tl k) < 10 := by
  unfold told at h ⊢
  split at h
  · rename_i ht
    rw [if_pos ht]
    have := (lowF_spec _ _).1 h
    simp only [Bool.and_eq_true, decide_eq_true_eq, Bool.not_eq_true', decide_eq_false_iff_not] at this
    exact this
  · omega
theorem wf_teach {T : Tb} {p w : Nat} (h : wfT T) (hp : p < tN T) (hw : w < tW T) : wfT (teach T p w) := by
  have hs := h.2.2.2.2.1 w hw
  unfold teach
  split
  · rename_i hc; exact wf_give h hp hw hc.2
  · have h1 : wfT (give T p w (hear T p (snd T w))) := wf_give h hp hw (hear_lt (by omega))
    split
    · have hx := nxw_lt hw
      have := h.2.2.2.2.1 _ hx
      exact wf_give h1 (by rw [tN_give]; exact hp) (by rw [tW_give]; exact hx) (by omega)
    · exact h1
