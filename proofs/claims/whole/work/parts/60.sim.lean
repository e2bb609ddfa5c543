/-! the two side by side: each call answers the same, and what they hold stays alike -/
def Sim (σ1 σ2 : St) : Prop := ∃ X n T U u K k H h, gOk X n T U u K k H h ∧ RC σ1 X n T U u K k H h ∧ RM σ2 X n T U u K k H h
def Bth (a b : Option (Int32 × St)) : Prop := ∃ r σ1 σ2, a = some (r, σ1) ∧ b = some (r, σ2) ∧ Sim σ1 σ2
section SM
variable {σ1 σ2 : St} {X : Nat → Nat} {n : Nat} {T T' : Tb} {U : Nat → Tb} {u : Nat} {K : Nat → Tb} {k : Nat} {H : Nat → Nat × Nat × Nat} {h : Nat}
theorem Bth_of {a b : Option (Int32 × St)} {r : Int32} {X : Nat → Nat} {n : Nat} {T : Tb} {U : Nat → Tb} {u : Nat} {K : Nat → Tb} {k : Nat} {H : Nat → Nat × Nat × Nat} {h : Nat} (ha : Ok a (fun q => q.1 = r ∧ RC q.2 X n T U u K k H h)) (hb : Ok b (fun q => q.1 = r ∧ RM q.2 X n T U u K k H h)) (hg : gOk X n T U u K k H h) : Bth a b := by
  obtain ⟨⟨r1, s1⟩, e1, h1, c1⟩ := ha
  obtain ⟨⟨r2, s2⟩, e2, h2, c2⟩ := hb
  have h1 : r1 = r := h1
  have h2 : r2 = r := h2
  exact ⟨r, s1, s2, by rw [e1, h1], by rw [e2, h2], X, n, T, U, u, K, k, H, h, hg, c1, c2⟩
theorem Bth_eq {a b : Option (Int32 × St)} {r : Int32} (ha : a = some (r, σ1)) (hb : b = some (r, σ2)) (hs : Sim σ1 σ2) : Bth a b := ⟨r, σ1, σ2, ha, hb, hs⟩
theorem Ok_e {a : Option (Int32 × St)} {r : Int32} {σ : St} {P : St → Prop} (ha : a = some (r, σ)) (hp : P σ) : Ok a (fun q => q.1 = r ∧ P q.2) := ⟨_, ha, rfl, hp⟩
theorem okT_self (hg : gOk X n T U u K k H h) : okT T T := ⟨hg.2.1.1, rfl, rfl, rfl, fun _ _ => rfl, hg.2.2.1⟩
theorem okT_back {T1 T2 : Tb} (h1 : okT T T1) (h2 : okT T T2) : okT T1 T2 := by
  obtain ⟨o1, o2, o3, o4, o5, o6⟩ := h1
  obtain ⟨a1, a2, a3, a4, a5, a6⟩ := h2
  exact ⟨a1, a2.trans o2.symm, a3.trans o3.symm, a4.trans o4.symm, fun w hw => by rw [o2] at hw; rw [a5 w hw, o5 w hw], a6⟩
theorem s_write (hs : Sim σ1 σ2) (a : Int32) : Bth (f_X3_write a σ1) (f_X4_write a σ2) := by
  have hs0 := hs
  obtain ⟨X, n, T, U, u, K, k, H, h, hg, hC, hM⟩ := hs
  by_cases hb : a < 32 ∨ ¬ a ≤ 126
  · exact Bth_eq (c_write_bad hb) (m_write_bad hb) hs0
  · have h1 : (32 : Int32) ≤ a := by
      rw [← Int32.not_lt]; exact fun z => hb (Or.inl z)
    have h2 : a ≤ 126 := Classical.not_not.mp (fun z => hb (Or.inr z))
    obtain ⟨j, hj, rfl⟩ := (inR_le (n := 126) (by omega)).mp ⟨Int32.le_trans (by decide) h1, h2⟩
    have y32 : (32 : Int32) = nI 32 := rfl
    rw [y32, nI_leI (by omega) (by omega)] at h1
    obtain ⟨q1, e1, c1⟩ := c_write_ok hC hg h1 (by omega)
    obtain ⟨q2, e2, c2⟩ := m_write_ok hM hg h1 (by omega)
    by_cases hn : n = 200
    · obtain ⟨_, c3, c4⟩ := c1.resolve_right (fun z => by omega)
      obtain ⟨_, d3, d4⟩ := c2.resolve_right (fun z => by omega)
      refine ⟨-3, σ1, σ2, ?_, ?_, hs0⟩
      · rw [e1, ← c3, ← c4]
      · rw [e2, ← d3, ← d4]
    · obtain ⟨hl, c3, c4⟩ := c1.resolve_left (fun z => hn z.1)
      obtain ⟨_, d3, d4⟩ := c2.resolve_left (fun z => hn z.1)
      refine Bth_of ⟨q1, e1, c3, c4⟩ ⟨q2, e2, d3, d4⟩ ⟨⟨by omega, fun i hi => ?_⟩, hg.2⟩
      dsimp only
      by_cases hz : i = n
      · rw [if_pos hz]; omega
      · rw [if_neg hz]; exact hg.1.2 i (by omega)
theorem s_wipe (hs : Sim σ1 σ2) : Bth (f_X3_wipe σ1) (f_X4_wipe σ2) := by
  obtain ⟨X, n, T, U, u, K, k, H, h, hg, hC, hM⟩ := hs
  exact Bth_of (c_wipe hC hg.2.2.2.2.1) (m_wipe hM) ⟨⟨by omega, fun i hi => by omega⟩, hg.2⟩
theorem s_fault (hs : Sim σ1 σ2) : Bth (f_X3_fault σ1) (f_X4_fault σ2) := by
  obtain ⟨X, n, T, U, u, K, k, H, h, hg, hC, hM⟩ := hs
  exact Bth_of (c_fault hC hg) (m_fault hM hg) hg
theorem s_lay (hs : Sim σ1 σ2) : Bth (f_X3_lay σ1) (f_X4_lay σ2) := by
  obtain ⟨X, n, T, U, u, K, k, H, h, hg, hC, hM⟩ := hs
  have a := c_lay hC hg
  have b := m_lay hM hg
  by_cases hc : (pR X n 201 0 T00 false).1 = none ∧ ¬ tW (pR X n 201 0 T00 false).2 = 0 ∧ ¬ tN (pR X n 201 0 T00 false).2 = 0
  · simp only [if_pos hc] at a b
    obtain ⟨q1, e1, c1, c2, c3⟩ := a
    obtain ⟨q2, e2, d1, d2, d3⟩ := b
    refine Bth_of ⟨q1, e1, c1, c2⟩ ⟨q2, e2, d1, d2⟩ ⟨hg.1, ⟨c3, by omega, by omega⟩, by omega, by omega, by omega, by omega, fun i hi => by omega, fun i hi => by omega, fun i hi => by omega⟩
  · simp only [if_neg hc] at a b
    exact Bth_of a b hg
theorem s_sound (hs : Sim σ1 σ2) (a : Int32) : Bth (f_X3_sound a σ1) (f_X4_sound a σ2) := by
  have hs0 := hs
  obtain ⟨X, n, T, U, u, K, k, H, h, hg, hC, hM⟩ := hs
  by_cases hb : inR a (tW T)
  · obtain ⟨w, hw, rfl⟩ := hb
    exact Bth_eq (c_sound hC hg hw) (m_sound hM hg hw) hs0
  · exact Bth_eq (c_sound_bad hC hg hb) (m_sound_bad hM hg hb) hs0
theorem s_wooer (hs : Sim σ1 σ2) (a b : Int32) : Bth (f_X3_wooer a b σ1) (f_X4_wooer a b σ2) := by
  have hs0 := hs
  obtain ⟨X, n, T, U, u, K, k, H, h, hg, hC, hM⟩ := hs
  by_cases hb : inR a (tN T)
  · obtain ⟨w, hw, rfl⟩ := hb
    exact Bth_eq (c_wooer hC hg hw b) (m_wooer hM hg hw b) hs0
  · exact Bth_eq (c_wooer_bad hC hg hb b) (m_wooer_bad hM hg hb b) hs0
theorem s_word (hs : Sim σ1 σ2) (a b c : Int32) : Bth (f_X3_word a b c σ1) (f_X4_word a b c σ2) := by
  have hs0 := hs
  obtain ⟨X, n, T, U, u, K, k, H, h, hg, hC, hM⟩ := hs
  by_cases hb : inR a (tN T) ∧ inR b (tW T)
  · obtain ⟨⟨p, hp, rfl⟩, ⟨w, hw, rfl⟩⟩ := hb
    exact Bth_eq (c_word hC hg hp hw c) (m_word hM hg hp hw c) hs0
  · exact Bth_eq (c_word_bad hC hg hb) (m_word_bad hM hg hb) hs0
theorem tD_teach {p w : Nat} : tD (teach T p w) = tD T := by
  unfold teach
  split
  · exact tD_give
  · split
    · exact tD_give.trans tD_give
    · exact tD_give
theorem s_lesson (hs : Sim σ1 σ2) (a b : Int32) : Bth (f_X3_lesson a b σ1) (f_X4_lesson a b σ2) := by
  have hs0 := hs
  obtain ⟨X, n, T, U, u, K, k, H, h, hg, hC, hM⟩ := hs
  by_cases hb : inR a (tN T) ∧ inR b (tW T)
  · obtain ⟨⟨p, hp, rfl⟩, ⟨w, hw, rfl⟩⟩ := hb
    have s := stat_teach (T := T) (p := p) (w := w)
    have e := m_lesson hM hg hp hw
    rw [wv_lt (way_teach hg.2.1.1 hp hw)] at e
    refine Bth_of (c_lesson hC hg hp hw) e (gOk_push hg (okT_stat hg ⟨s.1, s.2.1, s.2.2.1, s.2.2.2.1⟩ (wf_teach hg.2.1.1 hp hw) ?_))
    rw [tD_teach]; exact hg.2.2.1
  · exact Bth_eq (c_lesson_bad hC hg hb) (m_lesson_bad hM hg hb) hs0
theorem s_pass (hs : Sim σ1 σ2) (a : Int32) : Bth (f_X3_pass a σ1) (f_X4_pass a σ2) := by
  have hs0 := hs
  obtain ⟨X, n, T, U, u, K, k, H, h, hg, hC, hM⟩ := hs
  by_cases hb : a < 1 ∨ ¬ a ≤ 24
  · exact Bth_eq (c_pass_bad hb) (m_pass_bad hb) hs0
  · have h1 : (1 : Int32) ≤ a := by
      rw [← Int32.not_lt]; exact fun z => hb (Or.inl z)
    have h2 : a ≤ 24 := Classical.not_not.mp (fun z => hb (Or.inr z))
    obtain ⟨m, hm, rfl⟩ := (inR_le (n := 24) (by omega)).mp ⟨Int32.le_trans (by decide) h1, h2⟩
    rw [z1, nI_leI (by omega) (by omega)] at h1
    have e1 := c_pass hC hg h1 (by omega)
    have e2 := m_pass hM hg h1 (by omega)
    by_cases hc : tD T + m ≤ 999
    · simp only [if_pos hc] at e1 e2
      have s := stat_days (T := T) (k := m)
      refine Bth_of e1 e2 (gOk_push hg (okT_stat hg ⟨s.1, s.2.1, s.2.2.1, s.2.2.2.1⟩ (wf_days hg.2.1.1) ?_))
      rw [tD_days]; exact hc
    · simp only [if_neg hc] at e1 e2
      exact Bth_of e1 e2 hg
theorem s_mend (hs : Sim σ1 σ2) (a b : Int32) : Bth (f_X3_mend a b σ1) (f_X4_mend a b σ2) := by
  have hs0 := hs
  obtain ⟨X, n, T, U, u, K, k, H, h, hg, hC, hM⟩ := hs
  by_cases hb : inR a (tN T) ∧ inR b (tW T)
  · obtain ⟨⟨p, hp, rfl⟩, ⟨w, hw, rfl⟩⟩ := hb
    have e1 := c_mend hC hg hp hw
    have e2 := m_mend hM hg hp hw
    by_cases hc : way T p w < 10 ∧ way T p w ≠ snd T w
    · simp only [if_pos hc] at e1 e2
      have hsn := hg.2.1.1.2.2.2.2.1 w hw
      refine Bth_of e1 e2 (gOk_push hg (okT_stat hg ⟨tW_give, tN_give, tS_give, fun _ => snd_give⟩ (wf_give hg.2.1.1 hp hw (by omega)) ?_))
      rw [tD_give]; exact hg.2.2.1
    · simp only [if_neg hc] at e1 e2
      exact Bth_of e1 e2 hg
  · exact Bth_eq (c_mend_bad hC hg hb) (m_mend_bad hM hg hb) hs0
theorem s_change (hs : Sim σ1 σ2) (a b : Int32) : Bth (f_X3_change a b σ1) (f_X4_change a b σ2) := by
  have hs0 := hs
  obtain ⟨X, n, T, U, u, K, k, H, h, hg, hC, hM⟩ := hs
  by_cases hb : inR a (tN T) ∧ inR b (tN T) ∧ ¬ a = b
  · obtain ⟨⟨p, hp, rfl⟩, ⟨q, hq, rfl⟩, hne⟩ := hb
    have hne : ¬ p = q := fun z => hne (by rw [z])
    refine Bth_of (c_change hC hg hp hq hne) (m_change hM hg hp hq hne) (gOk_push hg (okT_stat hg ⟨tW_swp, tN_swp, tS_swp, fun _ => snd_swp⟩ (wf_swp hg.2.1.1 hp hq) ?_))
    rw [tD_swp]; exact hg.2.2.1
  · exact Bth_eq (c_change_bad hC hg hb) (m_change_bad hM hg hb) hs0
theorem s_undo (hs : Sim σ1 σ2) : Bth (f_X3_undo σ1) (f_X4_undo σ2) := by
  obtain ⟨X, n, T, U, u, K, k, H, h, hg, hC, hM⟩ := hs
  obtain ⟨q1, e1, c1⟩ := c_undo hC hg
  obtain ⟨q2, e2, c2⟩ := m_undo hM hg
  by_cases hu : u = 0
  · obtain ⟨_, c3, c4⟩ := c1.resolve_right (fun z => by omega)
    obtain ⟨_, d3, d4⟩ := c2.resolve_right (fun z => by omega)
    exact Bth_of ⟨q1, e1, c3, c4⟩ ⟨q2, e2, d3, d4⟩ hg
  · obtain ⟨_, c3, c4⟩ := c1.resolve_left (fun z => hu z.1)
    obtain ⟨_, d3, d4⟩ := c2.resolve_left (fun z => hu z.1)
    obtain ⟨g1, ⟨g2, g3, g4⟩, g5, g6, g7, g8, g9, g10, g11⟩ := hg
    have o := g9 0 (by omega)
    refine Bth_of ⟨q1, e1, c3, c4⟩ ⟨q2, e2, d3, d4⟩ ⟨g1, ⟨o.1, by rw [o.2.1]; exact g3, by rw [o.2.2.1]; exact g4⟩, o.2.2.2.2.2, by omega, g7, g8, fun i hi => okT_back o (g9 (i + 1) (by omega)), fun i hi => okT_back o (g10 i hi), fun i hi => by rw [o.2.1]; exact g11 i hi⟩
theorem s_behind (hs : Sim σ1 σ2) (a b c : Int32) : Bth (f_X3_behind a b c σ1) (f_X4_behind a b c σ2) := by
  have hs0 := hs
  obtain ⟨X, n, T, U, u, K, k, H, h, hg, hC, hM⟩ := hs
  by_cases hb : a < 0 ∨ 40 < a ∨ ¬ inR b (tN T) ∨ ¬ (c = -1 ∨ inR c (tW T))
  · exact Bth_eq (c_behind_bad hC hg hb) (m_behind_bad hM hg hb) hs0
  · have h1 : ¬ a < 0 := fun z => hb (Or.inl z)
    have h2 : a ≤ 40 := by rw [← Int32.not_lt]; exact fun z => hb (Or.inr (Or.inl z))
    have h3 : inR b (tN T) := Classical.not_not.mp (fun z => hb (Or.inr (Or.inr (Or.inl z))))
    have h4 : c = -1 ∨ inR c (tW T) := Classical.not_not.mp (fun z => hb (Or.inr (Or.inr (Or.inr z))))
    obtain ⟨m, hm, rfl⟩ := (inR_le (n := 40) (by omega)).mp ⟨(i0le a).mpr h1, h2⟩
    obtain ⟨p, hp, rfl⟩ := h3
    exact Bth_of (c_behind hC hg (by omega) hp h4) (m_behind hM hg (by omega) hp h4) hg
theorem s_made (hs : Sim σ1 σ2) (a : Int32) : Bth (f_X3_made a σ1) (f_X4_made a σ2) := by
  have hs0 := hs
  obtain ⟨X, n, T, U, u, K, k, H, h, hg, hC, hM⟩ := hs
  by_cases hb : inR a (tN T)
  · obtain ⟨w, hw, rfl⟩ := hb
    exact Bth_of (c_made hC hg hw) (m_made hM hg hw) hg
  · exact Bth_eq (c_made_bad hC hg hb) (m_made_bad hM hg hb) hs0
theorem s_best (hs : Sim σ1 σ2) (a b c : Int32) : Bth (f_X3_best a b c σ1) (f_X4_best a b c σ2) := by
  have hs0 := hs
  obtain ⟨X, n, T, U, u, K, k, H, h, hg, hC, hM⟩ := hs
  by_cases hb : ¬ inR a (tN T) ∨ b < 1 ∨ 3 < b ∨ c < -1 ∨ ¬ c ≤ 2
  · exact Bth_eq (c_best_bad hC hg hb) (m_best_bad hM hg hb) hs0
  · have h3 : inR a (tN T) := Classical.not_not.mp (fun z => hb (Or.inl z))
    have h1 : (1 : Int32) ≤ b := by rw [← Int32.not_lt]; exact fun z => hb (Or.inr (Or.inl z))
    have h2 : b ≤ 3 := by rw [← Int32.not_lt]; exact fun z => hb (Or.inr (Or.inr (Or.inl z)))
    have h4 : ¬ c < -1 := fun z => hb (Or.inr (Or.inr (Or.inr (Or.inl z))))
    have h5 : c ≤ 2 := Classical.not_not.mp (fun z => hb (Or.inr (Or.inr (Or.inr (Or.inr z)))))
    obtain ⟨p, hp, rfl⟩ := h3
    obtain ⟨m, hm, rfl⟩ := (inR_le (n := 3) (by omega)).mp ⟨Int32.le_trans (by decide) h1, h2⟩
    rw [z1, nI_leI (by omega) (by omega)] at h1
    have hc : c = -1 ∨ ∃ j, j ≤ 2 ∧ c = nI j := by
      by_cases hneg : c < 0
      · left
        have a1 : (-1 : Int) ≤ c.toInt := by
          have := Int32.not_lt.mp h4
          rw [Int32.le_iff_toInt_le] at this; exact this
        have a2 : c.toInt < 0 := by rw [Int32.lt_iff_toInt_lt] at hneg; exact hneg
        apply Int32.toInt_inj.mp
        have : c.toInt = -1 := by omega
        rw [this]; rfl
      · right
        obtain ⟨j, hj, rfl⟩ := (inR_le (n := 2) (by omega)).mp ⟨(i0le c).mpr hneg, h5⟩
        exact ⟨j, by omega, rfl⟩
    exact Bth_of (c_best hC hg hp h1 (by omega) hc) (m_best hM hg hp h1 (by omega) hc) hg
theorem s_mends (hs : Sim σ1 σ2) (a : Int32) : Bth (f_X3_mends a σ1) (f_X4_mends a σ2) := by
  have hs0 := hs
  obtain ⟨X, n, T, U, u, K, k, H, h, hg, hC, hM⟩ := hs
  by_cases hb : a < 0 ∨ ¬ a ≤ 1
  · exact Bth_eq (c_mends_bad hb) (m_mends_bad hb) hs0
  · have h1 : ¬ a < 0 := fun z => hb (Or.inl z)
    have h2 : a ≤ 1 := Classical.not_not.mp (fun z => hb (Or.inr z))
    exact Bth_of (c_mends hC hg h1 h2) (m_mends hM hg h1 h2) hg
theorem s_two (hs : Sim σ1 σ2) (a : Int32) : Bth (f_X3_two a σ1) (f_X4_two a σ2) := by
  have hs0 := hs
  obtain ⟨X, n, T, U, u, K, k, H, h, hg, hC, hM⟩ := hs
  by_cases hb : a < 0 ∨ ¬ a ≤ 1
  · exact Bth_eq (c_two_bad hb) (m_two_bad hb) hs0
  · have h1 : ¬ a < 0 := fun z => hb (Or.inl z)
    have h2 : a ≤ 1 := Classical.not_not.mp (fun z => hb (Or.inr z))
    exact Bth_eq (c_two hC hg h1 h2) (m_two hM hg h1 h2) hs0
theorem s_tests (hs : Sim σ1 σ2) (a : Int32) : Bth (f_X3_tests a σ1) (f_X4_tests a σ2) := by
  have hs0 := hs
  obtain ⟨X, n, T, U, u, K, k, H, h, hg, hC, hM⟩ := hs
  by_cases hb : a < 0 ∨ ¬ a ≤ 1
  · exact Bth_eq (c_tests_bad hb) (m_tests_bad hb) hs0
  · have h1 : ¬ a < 0 := fun z => hb (Or.inl z)
    have h2 : a ≤ 1 := Classical.not_not.mp (fun z => hb (Or.inr z))
    exact Bth_of (c_tests hC hg h1 h2) (Ok_e (P := fun s => RM s X n T U u K k H h) (m_tests hM hg h1 h2) hM) hg
theorem s_other (hs : Sim σ1 σ2) : Bth (f_X3_other σ1) (f_X4_other σ2) := by
  have hs0 := hs
  obtain ⟨X, n, T, U, u, K, k, H, h, hg, hC, hM⟩ := hs
  exact Bth_eq (c_other hC hg) (m_other hM hg) hs0
theorem s_hear (hs : Sim σ1 σ2) (a b c : Int32) : Bth (f_X3_hear a b c σ1) (f_X4_hear a b c σ2) := by
  have hs0 := hs
  obtain ⟨X, n, T, U, u, K, k, H, h, hg, hC, hM⟩ := hs
  by_cases hb : ¬ inR a (tW T) ∨ b < 0 ∨ 10 < b ∨ c < 0 ∨ ¬ c ≤ 20
  · exact Bth_eq (c_hear_bad hC hg hb) (m_hear_bad hM hg hb) hs0
  · have h3 : inR a (tW T) := Classical.not_not.mp (fun z => hb (Or.inl z))
    have h1 : ¬ b < 0 := fun z => hb (Or.inr (Or.inl z))
    have h2 : b ≤ 10 := by rw [← Int32.not_lt]; exact fun z => hb (Or.inr (Or.inr (Or.inl z)))
    have h4 : ¬ c < 0 := fun z => hb (Or.inr (Or.inr (Or.inr (Or.inl z))))
    have h5 : c ≤ 20 := Classical.not_not.mp (fun z => hb (Or.inr (Or.inr (Or.inr (Or.inr z)))))
    obtain ⟨w, hw, rfl⟩ := h3
    obtain ⟨v, hv, rfl⟩ := (inR_le (n := 10) (by omega)).mp ⟨(i0le b).mpr h1, h2⟩
    obtain ⟨d, hd, rfl⟩ := (inR_le (n := 20) (by omega)).mp ⟨(i0le c).mpr h4, h5⟩
    obtain ⟨q1, e1, c1⟩ := c_hear hC hg hw (show v ≤ 10 by omega) (show d ≤ 20 by omega)
    obtain ⟨q2, e2, c2⟩ := m_hear hM hg hw (show v ≤ 10 by omega) (show d ≤ 20 by omega)
    by_cases h6 : h = 6
    · obtain ⟨_, c3, c4⟩ := c1.resolve_right (fun z => by omega)
      obtain ⟨_, d3, d4⟩ := c2.resolve_right (fun z => by omega)
      exact Bth_of ⟨q1, e1, c3, c4⟩ ⟨q2, e2, d3, d4⟩ hg
    · obtain ⟨hl, c3, c4⟩ := c1.resolve_left (fun z => h6 z.1)
      obtain ⟨_, d3, d4⟩ := c2.resolve_left (fun z => h6 z.1)
      obtain ⟨g1, g2, g5, g6, g7, g8, g9, g10, g11⟩ := hg
      refine Bth_of ⟨q1, e1, c3, c4⟩ ⟨q2, e2, d3, d4⟩ ⟨g1, g2, g5, g6, g7, by omega, g9, g10, fun i hi => ?_⟩
      dsimp only
      by_cases hz : i = h
      · rw [if_pos hz]; exact ⟨hw, by dsimp only; omega, by dsimp only; omega⟩
      · rw [if_neg hz]; exact g11 i (by omega)
theorem s_forget (hs : Sim σ1 σ2) : Bth (f_X3_forget σ1) (f_X4_forget σ2) := by
  obtain ⟨X, n, T, U, u, K, k, H, h, hg, hC, hM⟩ := hs
  refine Bth_of (c_forget hC hg) (m_forget hM hg) ?_
  obtain ⟨g1, g2, g5, g6, g7, g8, g9, g10, g11⟩ := hg
  exact ⟨g1, g2, g5, g6, g7, by omega, g9, g10, fun i hi => by omega⟩
theorem s_which (hs : Sim σ1 σ2) : Bth (f_X3_which σ1) (f_X4_which σ2) := by
  obtain ⟨X, n, T, U, u, K, k, H, h, hg, hC, hM⟩ := hs
  exact Bth_of (c_which hC hg) (m_which hM hg) hg
theorem s_kinds (hs : Sim σ1 σ2) (a : Int32) : Bth (f_X3_kinds a σ1) (f_X4_kinds a σ2) := by
  have hs0 := hs
  obtain ⟨X, n, T, U, u, K, k, H, h, hg, hC, hM⟩ := hs
  by_cases hb : inR a (tN T)
  · obtain ⟨w, hw, rfl⟩ := hb
    exact Bth_of (c_kinds hC hg hw) (m_kinds hM hg hw) hg
  · exact Bth_eq (c_kinds_bad hC hg hb) (m_kinds_bad hM hg hb) hs0
theorem s_hail (hs : Sim σ1 σ2) (a b c d : Int32) : Bth (f_X3_hail a b c d σ1) (f_X4_hail a b c d σ2) := by
  have hs0 := hs
  obtain ⟨X, n, T, U, u, K, k, H, h, hg, hC, hM⟩ := hs
  by_cases hb : ¬ inR a (tN T) ∨ b < 0 ∨ 8 < b ∨ c < 0 ∨ 10 < c ∨ d < 0 ∨ ¬ d ≤ 1
  · exact Bth_eq (c_hail_bad hC hg hb) (m_hail_bad hM hg hb) hs0
  · have h0 : inR a (tN T) := Classical.not_not.mp (fun z => hb (Or.inl z))
    have h1 : ¬ b < 0 := fun z => hb (Or.inr (Or.inl z))
    have h2 : b ≤ 8 := by rw [← Int32.not_lt]; exact fun z => hb (Or.inr (Or.inr (Or.inl z)))
    have h3 : ¬ c < 0 := fun z => hb (Or.inr (Or.inr (Or.inr (Or.inl z))))
    have h4 : c ≤ 10 := by rw [← Int32.not_lt]; exact fun z => hb (Or.inr (Or.inr (Or.inr (Or.inr (Or.inl z)))))
    have h5 : ¬ d < 0 := fun z => hb (Or.inr (Or.inr (Or.inr (Or.inr (Or.inr (Or.inl z))))))
    have h6 : d ≤ 1 := Classical.not_not.mp (fun z => hb (Or.inr (Or.inr (Or.inr (Or.inr (Or.inr (Or.inr z)))))))
    obtain ⟨p, hp, rfl⟩ := h0
    obtain ⟨m, hm, rfl⟩ := (inR_le (n := 8) (by omega)).mp ⟨(i0le b).mpr h1, h2⟩
    obtain ⟨x, hx, rfl⟩ := (inR_le (n := 10) (by omega)).mp ⟨(i0le c).mpr h3, h4⟩
    exact Bth_of (c_hail hC hg hp (by omega) (by omega) h5 h6) (m_hail hM hg hp (by omega) (by omega) h5 h6) hg
theorem s_year (hs : Sim σ1 σ2) (a b c : Int32) : Bth (f_X3_year a b c σ1) (f_X4_year a b c σ2) := by
  have hs0 := hs
  obtain ⟨X, n, T, U, u, K, k, H, h, hg, hC, hM⟩ := hs
  by_cases hb : a < 0 ∨ 9999 < a ∨ b < 1 ∨ 60 < b ∨ c < 0 ∨ ¬ c ≤ 1
  · exact Bth_eq (c_year_bad hb) (m_year_bad hb) hs0
  · have h1 : ¬ a < 0 := fun z => hb (Or.inl z)
    have h2 : a ≤ 9999 := by rw [← Int32.not_lt]; exact fun z => hb (Or.inr (Or.inl z))
    have h3 : (1 : Int32) ≤ b := by rw [← Int32.not_lt]; exact fun z => hb (Or.inr (Or.inr (Or.inl z)))
    have h4 : b ≤ 60 := by rw [← Int32.not_lt]; exact fun z => hb (Or.inr (Or.inr (Or.inr (Or.inl z))))
    have h5 : ¬ c < 0 := fun z => hb (Or.inr (Or.inr (Or.inr (Or.inr (Or.inl z)))))
    have h6 : c ≤ 1 := Classical.not_not.mp (fun z => hb (Or.inr (Or.inr (Or.inr (Or.inr (Or.inr z))))))
    obtain ⟨z, hz, rfl⟩ := (inR_le (n := 9999) (by omega)).mp ⟨(i0le a).mpr h1, h2⟩
    obtain ⟨m, hm, rfl⟩ := (inR_le (n := 60) (by omega)).mp ⟨Int32.le_trans (by decide) h3, h4⟩
    rw [z1, nI_leI (by omega) (by omega)] at h3
    exact Bth_of (c_year hC hg (by omega) h3 (by omega) h5 h6) (m_year hM hg (by omega) h3 (by omega) h5 h6) hg
theorem s_keep (hs : Sim σ1 σ2) : Bth (f_X3_keep σ1) (f_X4_keep σ2) := by
  obtain ⟨X, n, T, U, u, K, k, H, h, hg, hC, hM⟩ := hs
  obtain ⟨q1, e1, c1⟩ := c_keep hC hg
  obtain ⟨q2, e2, c2⟩ := m_keep hM hg
  by_cases hu : k = 2
  · obtain ⟨_, c3, c4⟩ := c1.resolve_right (fun z => by omega)
    obtain ⟨_, d3, d4⟩ := c2.resolve_right (fun z => by omega)
    exact Bth_of ⟨q1, e1, c3, c4⟩ ⟨q2, e2, d3, d4⟩ hg
  · obtain ⟨_, c3, c4⟩ := c1.resolve_left (fun z => hu z.1)
    obtain ⟨_, d3, d4⟩ := c2.resolve_left (fun z => hu z.1)
    have sf := okT_self hg
    obtain ⟨g1, g2, g5, g6, g7, g8, g9, g10, g11⟩ := hg
    refine Bth_of ⟨q1, e1, c3, c4⟩ ⟨q2, e2, d3, d4⟩ ⟨g1, g2, g5, g6, by omega, g8, g9, fun i hi => ?_, g11⟩
    dsimp only
    by_cases hz : i = k
    · rw [if_pos hz]; exact sf
    · rw [if_neg hz]; exact g10 i (by omega)
theorem s_back (hs : Sim σ1 σ2) : Bth (f_X3_back σ1) (f_X4_back σ2) := by
  obtain ⟨X, n, T, U, u, K, k, H, h, hg, hC, hM⟩ := hs
  obtain ⟨q1, e1, c1⟩ := c_back hC hg
  obtain ⟨q2, e2, c2⟩ := m_back hM hg
  by_cases hu : k = 0
  · obtain ⟨_, c3, c4⟩ := c1.resolve_right (fun z => by omega)
    obtain ⟨_, d3, d4⟩ := c2.resolve_right (fun z => by omega)
    exact Bth_of ⟨q1, e1, c3, c4⟩ ⟨q2, e2, d3, d4⟩ hg
  · obtain ⟨_, c3, c4⟩ := c1.resolve_left (fun z => hu z.1)
    obtain ⟨_, d3, d4⟩ := c2.resolve_left (fun z => hu z.1)
    obtain ⟨g1, ⟨g2, g3, g4⟩, g5, g6, g7, g8, g9, g10, g11⟩ := hg
    have o := g10 (k - 1) (by omega)
    exact Bth_of ⟨q1, e1, c3, c4⟩ ⟨q2, e2, d3, d4⟩ ⟨g1, ⟨o.1, by rw [o.2.1]; exact g3, by rw [o.2.2.1]; exact g4⟩, o.2.2.2.2.2, by omega, by omega, g8, fun i hi => by omega, fun i hi => okT_back o (g10 i (by omega)), fun i hi => by rw [o.2.1]; exact g11 i hi⟩
theorem s_count (hs : Sim σ1 σ2) (a : Int32) : Bth (f_X3_count a σ1) (f_X4_count a σ2) := by
  have hs0 := hs
  obtain ⟨X, n, T, U, u, K, k, H, h, hg, hC, hM⟩ := hs
  exact Bth_eq (c_count hC hg a) (m_count hM hg a) hs0
end SM
