/-! the other program's acts -/
section MR
variable {σ σ' : St} {X : Nat → Nat} {n : Nat} {T T' : Tb} {U : Nat → Tb} {u : Nat} {K : Nat → Tb} {k : Nat} {H : Nat → Nat × Nat × Nat} {h : Nat}
theorem inN {a : Nat} {l m : Nat} (σ : St) (ha : a < 2147483648) (hl : l < 2147483648) (hm : m < 2147483648) (h1 : l ≤ a) (h2 : a ≤ m) : f_X4_in (nI a).toInt64 (nI l).toInt64 (nI m).toInt64 σ = some (1, σ) := by
  rw [in_nn σ ha hl hm, if_pos ⟨h1, h2⟩]
theorem in_bad {a l m : Int32} (σ : St) (h : a < l ∨ ¬ a ≤ m) : f_X4_in a.toInt64 l.toInt64 m.toInt64 σ = some (0, σ) := by
  rw [in_eq, if_neg]
  rintro ⟨h1, h2⟩
  rcases h with h | h
  · exact absurd h (Int32.not_lt.mpr h1)
  · exact h h2
theorem m_write_ok {a : Nat} (hR : RM σ X n T U u K k H h) (hg : gOk X n T U u K k H h) (h1 : 32 ≤ a) (h2 : a ≤ 126) : Ok (f_X4_write (nI a) σ) (fun q => n = 200 ∧ q.1 = -3 ∧ q.2 = σ ∨ n < 200 ∧ q.1 = nI (n + 1) ∧ RM q.2 (fun i => if i = n then a else X i) (n + 1) T U u K k H h) := by
  obtain ⟨ra, rb, rc, rd, re⟩ := hR
  have hn := hg.1.1
  have y200 : (200 : Int32) = nI 200 := rfl
  unfold f_X4_write
  refine Ok_bindE (inN (l := 32) (m := 126) σ (by omega) (by omega) (by omega) h1 h2) ?_
  dsimp only
  rw [if_pos (by decide)]
  simp (disch := omega) only [ra.1, y200, nI_eq]
  by_cases hl : n = 200
  · rw [if_neg (fun z => z hl)]
    exact Ok_some (Or.inl ⟨hl, rfl, rfl⟩)
  · rw [if_pos hl, if_neg (in_nI (by omega) (by decide)), nI_clamp (by omega)]
    refine Ok_nm ?_
    rw [w2_ap, if_neg (by omega), ra.1, z1, nI_add]
    have e8 : (nI a).toInt8.toInt32.toInt8.toInt32 = nI a := by
      have : ∀ a, a < 127 → (nI a).toInt8.toInt32.toInt8.toInt32 = nI a := by decide +kernel
      exact this a (by omega)
    rw [e8]
    refine Ok_nm (Ok_some (Or.inr ⟨by omega, ?_, ?_⟩))
    · dsimp only; rw [w2_ap, if_pos ⟨rfl, rfl⟩]
    · dsimp only
      have ec : ∀ j, ¬ j = 0 → ¬ j = 4 → w2 (w2 σ 4 n (nI a)) 0 8 (nI (n + 1)) j = σ j := fun j h0 h4 => by funext i; rw [w2_ap, if_neg (fun z => h0 z.1), w2_ap, if_neg (fun z => h4 z.1)]
      have eo : ∀ j, ¬ j = 8 → w2 (w2 σ 4 n (nI a)) 0 8 (nI (n + 1)) 0 j = σ 0 j := fun j h8 => by rw [w2_ap, if_neg (fun z => h8 z.2), w2_ap, if_neg (by omega)]
      refine ⟨⟨?_, fun j hj => ?_⟩, ⟨?_, ?_⟩, ?_, ?_, ?_⟩
      · rw [w2_ap, if_pos ⟨rfl, rfl⟩]
      · dsimp only
        rw [w2_ap, if_neg (by omega), w2_ap]
        by_cases hz : j = n
        · rw [if_pos ⟨rfl, hz⟩, if_pos hz]
        · rw [if_neg (fun z => hz z.2), if_neg hz]; exact ra.2 j (by omega)
      · unfold MG; rw [eo 0 (by omega), eo 1 (by omega), eo 2 (by omega), ec 1 (by omega) (by omega)]; exact rb.1
      · rw [ec 3 (by omega) (by omega)]; exact rb.2
      · unfold RMu; rw [eo 6 (by omega), ec 3 (by omega) (by omega)]; exact rc
      · unfold RMk; rw [eo 7 (by omega), ec 3 (by omega) (by omega)]; exact rd
      · unfold RMh; rw [eo 12 (by omega), ec 5 (by omega) (by omega), ec 6 (by omega) (by omega), ec 7 (by omega) (by omega)]; exact re
theorem m_write_bad {a : Int32} (h1 : a < 32 ∨ ¬ a ≤ 126) : f_X4_write a σ = some (-1, σ) := by
  refine Ok_eq ?_
  unfold f_X4_write
  refine Ok_bindE (in_bad (l := 32) (m := 126) σ h1) ?_
  exact Ok_some rfl
theorem m_wipe (hR : RM σ X n T U u K k H h) : Ok (f_X4_wipe σ) (fun q => q.1 = nI n ∧ RM q.2 X 0 T U u K k H h) := by
  obtain ⟨ra, rb, rc, rd, re⟩ := hR
  unfold f_X4_wipe
  refine Ok_nm (Ok_nm (Ok_some ⟨ra.1, ?_⟩))
  dsimp only
  have ec : ∀ j, ¬ j = 0 → w2 σ 0 8 (0 : Int32) j = σ j := fun j h0 => by funext i; rw [w2_ap, if_neg (fun z => h0 z.1)]
  have eo : ∀ j, ¬ j = 8 → w2 σ 0 8 (0 : Int32) 0 j = σ 0 j := fun j h8 => by rw [w2_ap, if_neg (fun z => h8 z.2)]
  refine ⟨⟨?_, fun j hj => by omega⟩, ⟨?_, ?_⟩, ?_, ?_, ?_⟩
  · rw [w2_ap, if_pos ⟨rfl, rfl⟩]; rfl
  · unfold MG; rw [eo 0 (by omega), eo 1 (by omega), eo 2 (by omega), ec 1 (by omega)]; exact rb.1
  · rw [ec 3 (by omega)]; exact rb.2
  · unfold RMu; rw [eo 6 (by omega), ec 3 (by omega)]; exact rc
  · unfold RMk; rw [eo 7 (by omega), ec 3 (by omega)]; exact rd
  · unfold RMh; rw [eo 12 (by omega), ec 5 (by omega), ec 6 (by omega), ec 7 (by omega)]; exact re
theorem wd_yes (hR : RM σ X n T U u K k H h) (hg : gOk X n T U u K k H h) {w : Nat} (hw : w < tW T) : f_X4_isWord (nI w) σ = some (1, σ) := by
  have hT := hg.2.1.1.1
  rcases isWordM (a := nI w) (W := tW T) (by omega) hR.2.1.1.1 with e | e
  · exact e.2
  · exact absurd ((inR_nI (by omega) (by omega)).mpr hw) e.1
theorem wd_no (hR : RM σ X n T U u K k H h) (hg : gOk X n T U u K k H h) {a : Int32} (ha : ¬ inR a (tW T)) : f_X4_isWord a σ = some (0, σ) := by
  have hT := hg.2.1.1.1
  rcases isWordM (a := a) (W := tW T) (by omega) hR.2.1.1.1 with e | e
  · exact absurd e.1 ha
  · exact e.2
theorem on_yes (hR : RM σ X n T U u K k H h) (hg : gOk X n T U u K k H h) {p : Nat} (hp : p < tN T) : f_X4_isOne (nI p) σ = some (1, σ) := by
  have hN := hg.2.1.1.2.1
  rcases isOneM (a := nI p) (W := tN T) (by omega) hR.2.1.1.2.1 with e | e
  · exact e.2
  · exact absurd ((inR_nI (by omega) (by omega)).mpr hp) e.1
theorem on_no (hR : RM σ X n T U u K k H h) (hg : gOk X n T U u K k H h) {a : Int32} (ha : ¬ inR a (tN T)) : f_X4_isOne a σ = some (0, σ) := by
  have hN := hg.2.1.1.2.1
  rcases isOneM (a := a) (W := tN T) (by omega) hR.2.1.1.2.1 with e | e
  · exact absurd e.1 ha
  · exact e.2
theorem m_sound (hR : RM σ X n T U u K k H h) (hg : gOk X n T U u K k H h) {w : Nat} (hw : w < tW T) : f_X4_sound (nI w) σ = some (nI (snd T w), σ) := by
  have hT := hg.2.1.1.1
  refine Ok_eq ?_
  unfold f_X4_sound
  refine Ok_bindE (wd_yes hR hg hw) ?_
  dsimp only
  rw [if_neg (by decide), if_neg (in_nI (by omega) (by decide)), nI_clamp (by omega), hR.2.1.1.2.2.2 w hw]
  exact Ok_some rfl
theorem m_sound_bad (hR : RM σ X n T U u K k H h) (hg : gOk X n T U u K k H h) {a : Int32} (ha : ¬ inR a (tW T)) : f_X4_sound a σ = some (-1, σ) := by
  refine Ok_eq ?_
  unfold f_X4_sound
  refine Ok_bindE (wd_no hR hg ha) ?_
  exact Ok_some rfl
theorem m_wooer (hR : RM σ X n T U u K k H h) (hg : gOk X n T U u K k H h) {p : Nat} (hp : p < tN T) (b : Int32) : f_X4_wooer (nI p) b σ = some (wooerV T p b, σ) := by
  have hN := hg.2.1.1.2.1
  have hw := hg.2.1.1
  refine Ok_eq ?_
  unfold f_X4_wooer
  refine Ok_bindE (on_yes hR hg hp) ?_
  dsimp only
  rw [if_neg (by decide)]
  refine Ok_bindE (in_eq b 0 4 σ) ?_
  dsimp only
  by_cases hb : (0 : Int32) ≤ b ∧ b ≤ 4
  · rw [if_pos hb, if_pos (by decide)]
    obtain ⟨j, hj, rfl⟩ := (inR_le (n := 4) (by omega)).mp hb
    have hj5 : j = 0 ∨ j = 1 ∨ j = 2 ∨ j = 3 ∨ j = 4 := by omega
    have d := hR.2.1.2.2 p hp
    rw [Nat.zero_add] at d
    rcases hj5 with rfl | rfl | rfl | rfl | rfl
    · rw [if_neg (by decide), z18, pk_mul, nI_add, if_neg (in_nI (by omega) (by decide)), nI_clamp (by omega), Nat.add_zero, d.1]
      exact Ok_some rfl
    · rw [if_neg (by decide), z18, pk_mul, nI_add, if_neg (in_nI (by omega) (by decide)), nI_clamp (by omega), d.2.1]
      exact Ok_some rfl
    · rw [if_pos (by decide), if_neg (by decide)]
      refine Ok_bindE (hadM (b := 0) hR.2.1 hw (by omega) hp) ?_
      exact Ok_some rfl
    · rw [if_pos (by decide), if_pos (by decide), if_neg (by decide)]
      refine Ok_bindE (rightM (b := 0) hR.2.1 hw (by omega) hp) ?_
      exact Ok_some rfl
    · rw [if_pos (by decide), if_pos (by decide), if_pos (by decide)]
      refine Ok_bindE (isSpeakerM (b := 0) hR.2.1 hw (by omega) hp) ?_
      have e : wooerV T p (nI 4) = (if tS T ≤ rgtN T p then 1 else 0) := by
        unfold wooerV
        rw [if_neg (by decide), if_neg (by decide), if_neg (by decide), if_neg (by decide), if_pos (by decide)]
      rw [e]
      dsimp only
      by_cases hc : tS T ≤ rgtN T p
      · rw [if_pos hc, if_neg (by decide)]; exact Ok_some rfl
      · rw [if_neg hc, if_pos rfl]; exact Ok_some rfl
  · rw [if_neg hb, if_neg (by decide)]
    have e : wooerV T p b = -1 := by
      unfold wooerV
      rw [if_neg (fun e => hb (by subst e; decide)), if_neg (fun e => hb (by subst e; decide)), if_neg (fun e => hb (by subst e; decide)), if_neg (fun e => hb (by subst e; decide)), if_neg (fun e => hb (by subst e; decide))]
    rw [e]
    exact Ok_some rfl
theorem m_wooer_bad (hR : RM σ X n T U u K k H h) (hg : gOk X n T U u K k H h) {a : Int32} (ha : ¬ inR a (tN T)) (b : Int32) : f_X4_wooer a b σ = some (-1, σ) := by
  refine Ok_eq ?_
  unfold f_X4_wooer
  refine Ok_bindE (on_no hR hg ha) ?_
  exact Ok_some rfl
theorem m_word (hR : RM σ X n T U u K k H h) (hg : gOk X n T U u K k H h) {p w : Nat} (hp : p < tN T) (hw : w < tW T) (b : Int32) : f_X4_word (nI p) (nI w) b σ = some (wordV T p w b, σ) := by
  have hN := hg.2.1.1.2.1
  have hT := hg.2.1.1.1
  have hwf := hg.2.1.1
  refine Ok_eq ?_
  unfold f_X4_word
  refine Ok_bindE (on_yes hR hg hp) ?_
  dsimp only
  rw [if_neg (by decide)]
  refine Ok_bindE (wd_yes hR hg hw) ?_
  dsimp only
  rw [if_neg (by decide)]
  refine Ok_bindE (in_eq b 0 1 σ) ?_
  dsimp only
  unfold wordV
  by_cases hb : (0 : Int32) ≤ b ∧ b ≤ 1
  · rw [if_pos hb, if_pos (by decide)]
    rw [if_neg (c := b < 0 ∨ ¬ b ≤ 1) (by rintro (z | z); exact (i0le b).mp hb.1 z; exact z hb.2)]
    refine Ok_bindE (hasM (b := 0) hR.2.1 hwf (by omega) hp hw) ?_
    simp only [wv_pos]
    by_cases hh : way T p w < 10
    · rw [if_pos hh, if_pos hh]
      by_cases h0 : b = 0
      · rw [if_neg (fun z => z h0), if_pos h0]
        refine Ok_bindE (hasM (b := 0) hR.2.1 hwf (by omega) hp hw) ?_
        refine Ok_some ?_
        rw [wv_lt hh]
      · have d := ((hR.2.1.2.2 p hp).2.2 w hw).2 hh
        rw [Nat.zero_add] at d
        rw [if_pos h0, if_neg h0, z18, pk_mul, z10, nI_add, nI_add, if_neg (in_nI (by omega) (by decide)), nI_clamp (by omega), d]
        exact Ok_some rfl
    · rw [if_neg hh, if_neg hh]; exact Ok_some rfl
  · rw [if_neg hb, if_neg (by decide), if_pos (c := b < 0 ∨ ¬ b ≤ 1)]
    · exact Ok_some rfl
    · by_cases z : b < 0
      · exact Or.inl z
      · exact Or.inr (fun z2 => hb ⟨(i0le b).mpr z, z2⟩)
theorem m_word_bad (hR : RM σ X n T U u K k H h) (hg : gOk X n T U u K k H h) {a b c : Int32} (ha : ¬ (inR a (tN T) ∧ inR b (tW T))) : f_X4_word a b c σ = some (-1, σ) := by
  refine Ok_eq ?_
  unfold f_X4_word
  by_cases h1 : inR a (tN T)
  · obtain ⟨p, hp, rfl⟩ := h1
    refine Ok_bindE (on_yes hR hg hp) ?_
    dsimp only
    rw [if_neg (by decide)]
    refine Ok_bindE (wd_no hR hg (fun z => ha ⟨⟨p, hp, rfl⟩, z⟩)) ?_
    exact Ok_some rfl
  · refine Ok_bindE (on_no hR hg h1) ?_
    exact Ok_some rfl
theorem gOk_push (hg : gOk X n T U u K k H h) {T' : Tb} (h1 : okT T T') : gOk X n T' (push T U) (if u < 8 then u + 1 else 8) K k H h := by
  obtain ⟨g1, ⟨g2, g3, g4⟩, g5, g6, g7, g8, g9, g10, g11⟩ := hg
  obtain ⟨o1, o2, o3, o4, o5, o6⟩ := h1
  have back : ∀ {T1 : Tb}, okT T T1 → okT T' T1 := fun ⟨a1, a2, a3, a4, a5, a6⟩ => ⟨a1, a2.trans o2.symm, a3.trans o3.symm, a4.trans o4.symm, fun w hw => by rw [o2] at hw; rw [a5 w hw, o5 w hw], a6⟩
  have self : okT T T := ⟨g2, rfl, rfl, rfl, fun _ _ => rfl, g5⟩
  refine ⟨g1, ⟨o1, by rw [o2]; exact g3, by rw [o3]; exact g4⟩, o6, by split <;> omega, g7, g8, fun i hi => ?_, fun i hi => back (g10 i hi), fun i hi => by rw [o2]; exact g11 i hi⟩
  cases i with
  | zero => exact back self
  | succ i => exact back (g9 i (by split at hi <;> omega))
theorem okT_stat (hg : gOk X n T U u K k H h) {T' : Tb} (hs : tW T' = tW T ∧ tN T' = tN T ∧ tS T' = tS T ∧ ∀ w, snd T' w = snd T w) (hw : wfT T') (hd : tD T' ≤ 999) : okT T T' := ⟨hw, hs.1, hs.2.1, hs.2.2.1, fun w _ => hs.2.2.2 w, hd⟩
theorem m_lesson (hR : RM σ X n T U u K k H h) (hg : gOk X n T U u K k H h) {p w : Nat} (hp : p < tN T) (hw : w < tW T) : Ok (f_X4_lesson (nI p) (nI w) σ) (fun q => q.1 = wv (way (teach T p w) p w) ∧ RM q.2 X n (teach T p w) (push T U) (if u < 8 then u + 1 else 8) K k H h) := by
  have hwf := hg.2.1.1
  have s := stat_teach (T := T) (p := p) (w := w)
  unfold f_X4_lesson
  refine Ok_bindE (on_yes hR hg hp) ?_
  dsimp only
  rw [if_neg (by decide)]
  refine Ok_bindE (wd_yes hR hg hw) ?_
  dsimp only
  rw [if_pos (by decide)]
  refine Ok_bind (knownM hR hg) (fun q1 h1 => ?_)
  have g1 := gOk_push hg (okT_stat hg (T' := T) ⟨rfl, rfl, rfl, fun _ => rfl⟩ hwf hg.2.2.1)
  refine Ok_bind (learnsM (b := 0) h1.2.1 hwf (by omega) hp hw) (fun q2 h2 => ?_)
  refine Ok_bindE (hasM (b := 0) h2.1 (wf_teach hwf hp hw) (by omega) (by rw [s.2.1]; exact hp) (by rw [s.1]; exact hw)) ?_
  exact Ok_some ⟨rfl, RM_now h1 g1 (Mr_s h2.2) h2.1⟩
theorem m_lesson_bad (hR : RM σ X n T U u K k H h) (hg : gOk X n T U u K k H h) {a b : Int32} (ha : ¬ (inR a (tN T) ∧ inR b (tW T))) : f_X4_lesson a b σ = some (-1, σ) := by
  refine Ok_eq ?_
  unfold f_X4_lesson
  by_cases h1 : inR a (tN T)
  · obtain ⟨p, hp, rfl⟩ := h1
    refine Ok_bindE (on_yes hR hg hp) ?_
    dsimp only
    rw [if_neg (by decide)]
    refine Ok_bindE (wd_no hR hg (fun z => ha ⟨⟨p, hp, rfl⟩, z⟩)) ?_
    exact Ok_some rfl
  · refine Ok_bindE (on_no hR hg h1) ?_
    exact Ok_some rfl
theorem m_pass (hR : RM σ X n T U u K k H h) (hg : gOk X n T U u K k H h) {m : Nat} (h1 : 1 ≤ m) (h24 : m ≤ 24) : Ok (f_X4_pass (nI m) σ) (fun q => if tD T + m ≤ 999 then q.1 = nI (spkN (days T m)) ∧ RM q.2 X n (days T m) (push T U) (if u < 8 then u + 1 else 8) K k H h else q.1 = -2 ∧ RM q.2 X n T U u K k H h) := by
  have hwf := hg.2.1.1
  have hD := hg.2.2.1
  have d0 := hR.2.1.2.1
  rw [Nat.zero_add] at d0
  unfold f_X4_pass
  refine Ok_bindE (inN (l := 1) (m := 24) σ (by omega) (by omega) (by omega) h1 h24) ?_
  dsimp only
  have z90 : (90 : Int32) = nI 90 := rfl
  have z999 : (999 : Int32) = nI 999 := rfl
  rw [if_pos (by decide), z90, if_neg (in_nI (by omega) (by decide)), nI_clamp (by omega)]
  simp (disch := omega) only [d0, nI_add, z999, nI_leI]
  by_cases hc : tD T + m ≤ 999
  · rw [if_pos hc]
    refine Ok_bind (knownM hR hg) (fun q1 h1 => ?_)
    have g1 := gOk_push hg (okT_stat hg (T' := T) ⟨rfl, rfl, rfl, fun _ => rfl⟩ hwf hg.2.2.1)
    refine Ok_bind (daysM (b := 0) h1.2.1 hwf (by omega) (by omega)) (fun q2 h2 => ?_)
    refine Ok_bindE (speakersM (b := 0) h2.1 (wf_days hwf) (by omega)) ?_
    refine Ok_some ?_
    rw [if_pos hc]
    exact ⟨rfl, RM_now h1 g1 h2.2 h2.1⟩
  · rw [if_neg hc]
    refine Ok_some ?_
    rw [if_neg hc]
    exact ⟨rfl, hR⟩
theorem m_pass_bad {a : Int32} (ha : a < 1 ∨ ¬ a ≤ 24) : f_X4_pass a σ = some (-1, σ) := by
  refine Ok_eq ?_
  unfold f_X4_pass
  refine Ok_bindE (in_bad (l := 1) (m := 24) σ ha) ?_
  exact Ok_some rfl
theorem m_mend (hR : RM σ X n T U u K k H h) (hg : gOk X n T U u K k H h) {p w : Nat} (hp : p < tN T) (hw : w < tW T) : Ok (f_X4_mend (nI p) (nI w) σ) (fun q => if way T p w < 10 ∧ way T p w ≠ snd T w then q.1 = nI (way T p w) ∧ RM q.2 X n (give T p w (snd T w)) (push T U) (if u < 8 then u + 1 else 8) K k H h else q.1 = -2 ∧ RM q.2 X n T U u K k H h) := by
  have hwf := hg.2.1.1
  have hT := hwf.1
  have hs := hwf.2.2.2.2.1 w hw
  unfold f_X4_mend
  refine Ok_bindE (on_yes hR hg hp) ?_
  dsimp only
  rw [if_neg (by decide)]
  refine Ok_bindE (wd_yes hR hg hw) ?_
  dsimp only
  rw [if_pos (by decide)]
  refine Ok_bindE (canMendM (b := 0) hR.2.1 hwf (by omega) hp hw) ?_
  dsimp only
  by_cases hc : way T p w < 10 ∧ way T p w ≠ snd T w
  · rw [if_pos hc, if_pos (by decide)]
    refine Ok_bind (knownM hR hg) (fun q1 h1 => ?_)
    have g1 := gOk_push hg (okT_stat hg (T' := T) ⟨rfl, rfl, rfl, fun _ => rfl⟩ hwf hg.2.2.1)
    refine Ok_bindE (hasM (b := 0) h1.2.1 hwf (by omega) hp hw) ?_
    dsimp only
    rw [if_neg (in_nI (by omega) (by decide)), nI_clamp (by omega), h1.2.1.1.2.2.2 w hw]
    refine Ok_bind (getsM (b := 0) h1.2.1 hwf (by omega) hp hw (by omega)) (fun q2 h2 => ?_)
    refine Ok_some ?_
    rw [if_pos hc]
    exact ⟨wv_lt hc.1, RM_now h1 g1 (Mr_s h2.2) h2.1⟩
  · rw [if_neg hc, if_neg (by decide)]
    refine Ok_some ?_
    rw [if_neg hc]
    exact ⟨rfl, hR⟩
theorem m_mend_bad (hR : RM σ X n T U u K k H h) (hg : gOk X n T U u K k H h) {a b : Int32} (ha : ¬ (inR a (tN T) ∧ inR b (tW T))) : f_X4_mend a b σ = some (-1, σ) := by
  refine Ok_eq ?_
  unfold f_X4_mend
  by_cases h1 : inR a (tN T)
  · obtain ⟨p, hp, rfl⟩ := h1
    refine Ok_bindE (on_yes hR hg hp) ?_
    dsimp only
    rw [if_neg (by decide)]
    refine Ok_bindE (wd_no hR hg (fun z => ha ⟨⟨p, hp, rfl⟩, z⟩)) ?_
    exact Ok_some rfl
  · refine Ok_bindE (on_no hR hg h1) ?_
    exact Ok_some rfl
theorem m_change (hR : RM σ X n T U u K k H h) (hg : gOk X n T U u K k H h) {p q : Nat} (hp : p < tN T) (hq : q < tN T) (hne : ¬ p = q) : Ok (f_X4_change (nI p) (nI q) σ) (fun x => x.1 = nI (knd (swp T p q) p) ∧ RM x.2 X n (swp T p q) (push T U) (if u < 8 then u + 1 else 8) K k H h) := by
  have hwf := hg.2.1.1
  have hN := hwf.2.1
  unfold f_X4_change
  refine Ok_bindE (on_yes hR hg hp) ?_
  dsimp only
  rw [if_neg (by decide)]
  refine Ok_bindE (on_yes hR hg hq) ?_
  dsimp only
  rw [if_neg (by decide), if_pos (by rw [nI_eq (by omega) (by omega)]; exact hne)]
  refine Ok_bind (knownM hR hg) (fun q1 h1 => ?_)
  have g1 := gOk_push hg (okT_stat hg (T' := T) ⟨rfl, rfl, rfl, fun _ => rfl⟩ hwf hg.2.2.1)
  refine Ok_bind (swapsM (b := 0) h1.2.1 hwf (by omega) hp hq) (fun q2 h2 => ?_)
  have d := (h2.1.2.2 p (by rw [tN_swp]; exact hp)).1
  rw [Nat.zero_add] at d
  rw [z18, pk_mul, if_neg (in_nI (by omega) (by decide)), nI_clamp (by omega)]
  exact Ok_some ⟨d, RM_now h1 g1 (Mr_s h2.2) h2.1⟩
theorem m_change_bad (hR : RM σ X n T U u K k H h) (hg : gOk X n T U u K k H h) {a b : Int32} (ha : ¬ (inR a (tN T) ∧ inR b (tN T) ∧ ¬ a = b)) : f_X4_change a b σ = some (-1, σ) := by
  refine Ok_eq ?_
  unfold f_X4_change
  by_cases h1 : inR a (tN T)
  · obtain ⟨p, hp, rfl⟩ := h1
    refine Ok_bindE (on_yes hR hg hp) ?_
    dsimp only
    rw [if_neg (by decide)]
    by_cases h2 : inR b (tN T)
    · obtain ⟨q, hq, rfl⟩ := h2
      refine Ok_bindE (on_yes hR hg hq) ?_
      dsimp only
      rw [if_neg (by decide), if_neg (fun z => ha ⟨⟨p, hp, rfl⟩, ⟨q, hq, rfl⟩, z⟩)]
      exact Ok_some rfl
    · refine Ok_bindE (on_no hR hg h2) ?_
      exact Ok_some rfl
  · refine Ok_bindE (on_no hR hg h1) ?_
    exact Ok_some rfl
end MR
