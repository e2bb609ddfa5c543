/-! the class: seats changed, what befalls, copies, seats, sets of wooers and words -/
def sw (p q j : Nat) : Nat := if j = p then q else if j = q then p else j
def swp (T : Tb) (p q : Nat) : Tb := fun c k => if c = 2 ∨ c = 3 then T c (sw p q k) else if c = 4 ∨ c = 5 then T c (8 * sw p q (k / 8) + k % 8) else T c k
def befall (T : Tb) (d : Nat) : Tb :=
  if d % 8 ≤ 3 then teach T (d / 8 % tN T) (d / 64 % tW T)
  else if d % 8 = 4 ∧ way T (d / 8 % tN T) (d / 64 % tW T) < 10 ∧ way T (d / 8 % tN T) (d / 64 % tW T) ≠ snd T (d / 64 % tW T) then give T (d / 8 % tN T) (d / 64 % tW T) (snd T (d / 64 % tW T))
  else if d % 8 = 5 ∧ ¬ d / 8 % tN T = d / 64 % tN T then swp T (d / 8 % tN T) (d / 64 % tN T)
  else T
theorem sw_lt {p q j n : Nat} (hp : p < n) (hq : q < n) (hj : j < n) : sw p q j < n := by unfold sw; split; exact hq; split; exact hp; exact hj
section S
variable {T : Tb} {p q : Nat}
theorem tW_swp : tW (swp T p q) = tW T := by simp [tW, swp]
theorem tN_swp : tN (swp T p q) = tN T := by simp [tN, swp]
theorem tS_swp : tS (swp T p q) = tS T := by simp [tS, swp]
theorem tD_swp : tD (swp T p q) = tD T := by simp [tD, swp]
theorem snd_swp {w : Nat} : snd (swp T p q) w = snd T w := by simp [snd, swp]
theorem knd_swp {j : Nat} : knd (swp T p q) j = knd T (sw p q j) := by simp [knd, swp]
theorem mmr_swp {j : Nat} : mmr (swp T p q) j = mmr T (sw p q j) := by simp [mmr, swp]
theorem way_swp {j w : Nat} (hw : w < 8) : way (swp T p q) j w = way T (sw p q j) w := by
  have h1 : (8 * j + w) / 8 = j := by omega
  have h2 : (8 * j + w) % 8 = w := by omega
  simp [way, swp, h1, h2]
theorem age_swp {j w : Nat} (hw : w < 8) : age (swp T p q) j w = age T (sw p q j) w := by
  have h1 : (8 * j + w) / 8 = j := by omega
  have h2 : (8 * j + w) % 8 = w := by omega
  simp [age, swp, h1, h2]
theorem hasB_swp {j : Nat} (hT : tW T ≤ 8) : hasB (swp T p q) j = hasB T (sw p q j) := by
  unfold hasB; rw [tW_swp]; exact bs_ext (fun i hi => by rw [way_swp (by omega)])
theorem rgtB_swp {j : Nat} (hT : tW T ≤ 8) : rgtB (swp T p q) j = rgtB T (sw p q j) := by
  unfold rgtB; rw [tW_swp]; exact bs_ext (fun i hi => by rw [way_swp (by omega), snd_swp])
theorem wf_swp (h : wfT T) (hp : p < tN T) (hq : q < tN T) : wfT (swp T p q) := by
  obtain ⟨h1, h2, h3, h4, h5, h6⟩ := h
  refine ⟨by rw [tW_swp]; exact h1, by rw [tN_swp]; exact h2, by rw [tS_swp]; exact h3, by rw [tS_swp]; exact h4, fun x hx => by rw [snd_swp]; rw [tW_swp] at hx; exact h5 x hx, fun j hj => ?_⟩
  rw [tN_swp] at hj
  obtain ⟨g1, g2, g3, g4⟩ := h6 _ (sw_lt hp hq hj)
  rw [knd_swp, mmr_swp]
  refine ⟨g1, g2, g3, fun x hx => ?_⟩
  rw [tW_swp] at hx
  rw [way_swp (by omega), age_swp (by omega)]
  exact g4 x hx
theorem stat_befall {T : Tb} {d : Nat} : tW (befall T d) = tW T ∧ tN (befall T d) = tN T ∧ tS (befall T d) = tS T ∧ ∀ w, snd (befall T d) w = snd T w := by
  unfold befall
  split
  · have s := stat_teach (T := T) (p := d / 8 % tN T) (w := d / 64 % tW T); exact ⟨s.1, s.2.1, s.2.2.1, s.2.2.2.1⟩
  · split
    · exact ⟨tW_give, tN_give, tS_give, fun _ => snd_give⟩
    · split
      · exact ⟨tW_swp, tN_swp, tS_swp, fun _ => snd_swp⟩
      · exact ⟨rfl, rfl, rfl, fun _ => rfl⟩
theorem wf_befall {T : Tb} {d : Nat} (h : wfT T) (hW : 0 < tW T) (hN : 0 < tN T) : wfT (befall T d) := by
  have a1 := Nat.mod_lt (d / 8) hN
  have a2 := Nat.mod_lt (d / 64) hN
  have a3 := Nat.mod_lt (d / 64) hW
  unfold befall
  split
  · exact wf_teach h a1 a3
  · split
    · have := h.2.2.2.2.1 _ a3; exact wf_give h a1 a3 (by omega)
    · split
      · exact wf_swp h a1 a2
      · exact h
end S
section SC
variable {σ : St} {t : Nat} {T : Tb} {p q w : Nat}
theorem sw2 {σ : St} {r p q c k : Nat} : w2 (w2 σ r p (σ r q)) r q (σ r p) c k = if c = r then σ r (sw p q k) else σ c k := by
  rw [w2_ap, w2_ap]
  unfold sw
  by_cases hc : c = r
  · subst hc
    by_cases h1 : k = q
    · subst h1
      by_cases h2 : k = p
      · subst h2; simp
      · simp [h2]
    · by_cases h2 : k = p
      · simp [h1, h2]
        intro e; exact absurd (h2.trans e) h1
      · simp [h1, h2]
  · simp [hc]
theorem swapSeats_ok (h : CR σ t T) (hw : wfT T) (hp : p < tN T) (hq : q < tN T) : Ok (f_X1_swapSeats t (nI p) (nI q) σ) (fun x => CR x.2 t (swp T p q) ∧ Fr σ x.2 t (t + 8)) := by
  have hT := hw.1
  have hN := hw.2.1
  obtain ⟨c0, c1, c2, c3, c4, c5⟩ := h
  unfold f_X1_swapSeats
  refine Ok_bindE (swap_eq (by omega) (by omega) (by decide)) ?_
  dsimp only
  generalize hs1 : w2 (w2 σ (t + 2) p (σ (t + 2) q)) (t + 2) q (σ (t + 2) p) = σ1
  have f1 : ∀ c k, σ1 c k = if c = t + 2 then σ (t + 2) (sw p q k) else σ c k := fun c k => by rw [← hs1, sw2]
  refine Ok_bindE (swap_eq (by omega) (by omega) (by decide)) ?_
  dsimp only
  generalize hs2 : w2 (w2 σ1 (t + 3) p (σ1 (t + 3) q)) (t + 3) q (σ1 (t + 3) p) = σ2
  have f2 : ∀ c k, σ2 c k = if c = t + 3 then σ1 (t + 3) (sw p q k) else σ1 c k := fun c k => by rw [← hs2, sw2]
  refine Ok_bindE (swap_eq (by omega) (by omega) (by decide)) ?_
  dsimp only
  generalize hs3 : w2 (w2 σ2 (t + 4) p (σ2 (t + 4) q)) (t + 4) q (σ2 (t + 4) p) = σ3
  have f3 : ∀ c k, σ3 c k = if c = t + 4 then σ2 (t + 4) (sw p q k) else σ2 c k := fun c k => by rw [← hs3, sw2]
  refine Ok_bindE (swap_eq (by omega) (by omega) (by decide)) ?_
  dsimp only
  generalize hs4 : w2 (w2 σ3 (t + 5) p (σ3 (t + 5) q)) (t + 5) q (σ3 (t + 5) p) = σ4
  have f4 : ∀ c k, σ4 c k = if c = t + 5 then σ3 (t + 5) (sw p q k) else σ3 c k := fun c k => by rw [← hs4, sw2]
  have g : ∀ c k, σ4 c k = if c = t + 2 ∨ c = t + 3 ∨ c = t + 4 ∨ c = t + 5 then σ c (sw p q k) else σ c k := by
    intro c k
    simp only [f4, f3, f2, f1]
    by_cases h5 : c = t + 5
    · subst h5; simp
    · by_cases h4 : c = t + 4
      · subst h4; simp
      · by_cases h3 : c = t + 3
        · subst h3; simp
        · by_cases h2 : c = t + 2
          · subst h2; simp
          · simp [h2, h3, h4, h5]
  have fr4 : Fr σ σ4 t (t + 8) := fun c hc => by funext k; rw [g, if_neg (by omega)]
  refine Ok_for (fun i b => b.1 = nI i ∧ (∀ c, ¬ c = t + 6 → ¬ c = t + 7 → b.2 c = σ4 c) ∧ ∀ j x, x < 8 → b.2 (t + 6) (8 * j + x) = σ (t + 6) (8 * (if x < i then sw p q j else j) + x) ∧ b.2 (t + 7) (8 * j + x) = σ (t + 7) (8 * (if x < i then sw p q j else j) + x)) 0 (tW T) _ ⟨rfl, fun _ _ _ => rfl, fun j x hx => ?_⟩ (Nat.zero_le _) (by omega) (fun rec i b _ hi hb hr => ?_) (fun rec b hb => ?_)
  · constructor <;> (dsimp only; rw [g, if_neg (by omega)]; simp)
  · obtain ⟨e1, o1, v1⟩ := hb
    have hW0 : b.2 t 0 = nI (tW T) := by rw [o1 t (by omega) (by omega), g, if_neg (by omega)]; exact c0
    simp (disch := omega) only [hW0, e1, nI_leI]
    rw [if_neg (by omega), ix8, ix8]
    refine Ok_bindE (swap_eq (by omega) (by omega) (by decide)) ?_
    dsimp only
    refine Ok_bindE (swap_eq (by omega) (by omega) (by decide)) ?_
    refine Ok_nm (hr _ ⟨?_, fun c h6 h7 => ?_, fun j x hx => ?_⟩)
    · show nI i + 1 = nI (i + 1); rw [z1, nI_add]
    · dsimp only
      funext k
      rw [sw2, if_neg h7, sw2, if_neg h6, o1 c h6 h7]
    · dsimp only
      have key : ∀ (f : Nat → Int32) , (∀ j x, x < 8 → f (8 * j + x) = f (8 * j + x)) → True := fun _ _ => trivial
      have swx : sw (8 * p + i) (8 * q + i) (8 * j + x) = if x = i then 8 * sw p q j + x else 8 * j + x := by
        unfold sw
        by_cases hxi : x = i
        · subst hxi
          rw [if_pos rfl]
          by_cases h1 : j = p
          · rw [if_pos (by omega), if_pos h1]
          · rw [if_neg (by omega), if_neg h1]
            by_cases h2 : j = q
            · rw [if_pos (by omega), if_pos h2]
            · rw [if_neg (by omega), if_neg h2]
        · rw [if_neg (by omega), if_neg (by omega), if_neg hxi]
      constructor
      · rw [sw2, if_neg (by omega), sw2, if_pos rfl, swx]
        by_cases hxi : x = i
        · subst hxi
          rw [if_pos rfl, (v1 _ x hx).1, if_neg (by omega), if_pos (by omega)]
        · rw [if_neg hxi, (v1 _ x hx).1]
          by_cases h3 : x < i
          · rw [if_pos h3, if_pos (by omega)]
          · rw [if_neg h3, if_neg (by omega)]
      · rw [sw2, if_pos rfl]
        rw [swx, sw2]
        rw [if_neg (by omega)]
        by_cases hxi : x = i
        · subst hxi
          rw [if_pos rfl, (v1 _ x hx).2, if_neg (by omega), if_pos (by omega)]
        · rw [if_neg hxi, (v1 _ x hx).2]
          by_cases h3 : x < i
          · rw [if_pos h3, if_pos (by omega)]
          · rw [if_neg h3, if_neg (by omega)]
  · obtain ⟨e1, o1, v1⟩ := hb
    have oo : ∀ c k, ¬ c = t + 6 → ¬ c = t + 7 → b.2 c k = if c = t + 2 ∨ c = t + 3 ∨ c = t + 4 ∨ c = t + 5 then σ c (sw p q k) else σ c k := fun c k h6 h7 => by rw [o1 c h6 h7, g]
    have hW0 : b.2 t 0 = nI (tW T) := by rw [oo t 0 (by omega) (by omega), if_neg (by omega)]; exact c0
    simp only [hW0, e1]
    rw [if_pos (by rw [nI_leI (by omega) (by omega)]; exact Nat.le_refl _)]
    refine Ok_some ⟨⟨?_, ?_, ?_, ?_, fun x hx => ?_, fun j hj => ?_⟩, fun c hc => ?_⟩
    · rw [hW0, tW_swp]
    · rw [oo _ _ (by omega) (by omega), if_neg (by omega), tN_swp]; exact c1
    · rw [oo _ _ (by omega) (by omega), if_neg (by omega), tS_swp]; exact c2
    · rw [oo _ _ (by omega) (by omega), if_neg (by omega), tD_swp]; exact c3
    · rw [tW_swp] at hx
      rw [oo _ _ (by omega) (by omega), if_neg (by omega), snd_swp]; exact c4 x hx
    · rw [tN_swp] at hj
      have d := c5 _ (sw_lt hp hq hj)
      refine ⟨?_, ?_, ?_, ?_, fun x hx hh => ?_⟩
      · rw [oo _ _ (by omega) (by omega), if_pos (by omega), knd_swp]; exact d.1
      · rw [oo _ _ (by omega) (by omega), if_pos (by omega), mmr_swp]; exact d.2.1
      · rw [oo _ _ (by omega) (by omega), if_pos (by omega), hasB_swp hT]; exact d.2.2.1
      · rw [oo _ _ (by omega) (by omega), if_pos (by omega), rgtB_swp hT]; exact d.2.2.2.1
      · rw [tW_swp] at hx
        rw [way_swp (by omega)] at hh
        rw [(v1 j x (by omega)).1, (v1 j x (by omega)).2, if_pos hx, way_swp (by omega), age_swp (by omega)]
        exact d.2.2.2.2 x hx hh
    · dsimp only
      rw [o1 c (by omega) (by omega)]
      exact fr4 c hc
theorem copyRow_ok {a b L : Nat} {σ : St} (hL : L < 2147483648) : Ok (f_X3_copyRow a L b L σ) (fun x => (∀ k, k < L → x.2 b k = σ a k) ∧ ∀ c, ¬ c = b → x.2 c = σ c) := by
  unfold f_X3_copyRow
  have e : (if (nI L) < (nI L) then (nI L) else (nI L)) = nI L := by split <;> rfl
  rw [e]
  have z : (0 : Int32).toNatClampNeg = 0 := by decide
  rw [if_neg]
  · refine Ok_nm (Ok_some ⟨fun k hk => ?_, fun c hc => ?_⟩)
    · dsimp only
      rw [z, nI_clamp (by omega)]
      unfold va_up
      rw [if_pos rfl, pk_cpy_in (by omega) (by omega)]
      simp
    · dsimp only
      unfold va_up
      rw [if_neg hc]
  · rw [z, nI_clamp (by omega), nI_lt0 (by omega)]
    have : ¬ (0 : Int32) < 0 := by decide
    simp [this]
end SC
theorem copy_ok {σ : St} {t t' : Nat} {T : Tb} (h : CR σ t' T) (hw : wfT T) (hd : t' + 8 ≤ t ∨ t + 8 ≤ t') : Ok (f_X1_copy t (some t') σ) (fun x => CR x.2 t T ∧ Fr σ x.2 t (t + 8)) := by
  have hT := hw.1
  have hN := hw.2.1
  obtain ⟨c0, c1, c2, c3, c4, c5⟩ := h
  unfold f_X1_copy
  simp only [onul]
  refine Ok_bind (copyRow_ok (by decide)) (fun q1 h1 => ?_)
  obtain ⟨e1, o1⟩ := h1
  refine Ok_bind (copyRow_ok (by decide)) (fun q2 h2 => ?_)
  obtain ⟨e2, o2⟩ := h2
  refine Ok_bind (copyRow_ok (by decide)) (fun q3 h3 => ?_)
  obtain ⟨e3, o3⟩ := h3
  refine Ok_bind (copyRow_ok (by decide)) (fun q4 h4 => ?_)
  obtain ⟨e4, o4⟩ := h4
  refine Ok_bind (copyRow_ok (by decide)) (fun q5 h5 => ?_)
  obtain ⟨e5, o5⟩ := h5
  refine Ok_bind (copyRow_ok (by decide)) (fun q6 h6 => ?_)
  obtain ⟨e6, o6⟩ := h6
  refine Ok_bind (copyRow_ok (by decide)) (fun q7 h7 => ?_)
  obtain ⟨e7, o7⟩ := h7
  simp only [nm]
  refine Ok_some ⟨?_, ?_⟩
  · dsimp only
    have r1 : ∀ k, k < 8 → q7.2 (t + 1) k = σ (t' + 1) k := fun k hk => by rw [o7 _ (by omega), o6 _ (by omega), o5 _ (by omega), o4 _ (by omega), o3 _ (by omega), o2 _ (by omega), e1 k hk]
    have r2 : ∀ k, k < 5 → q7.2 (t + 2) k = σ (t' + 2) k := fun k hk => by rw [o7 _ (by omega), o6 _ (by omega), o5 _ (by omega), o4 _ (by omega), o3 _ (by omega), e2 k hk, o1 _ (by omega)]
    have r3 : ∀ k, k < 5 → q7.2 (t + 3) k = σ (t' + 3) k := fun k hk => by rw [o7 _ (by omega), o6 _ (by omega), o5 _ (by omega), o4 _ (by omega), e3 k hk, o2 _ (by omega), o1 _ (by omega)]
    have r4 : ∀ k, k < 5 → q7.2 (t + 4) k = σ (t' + 4) k := fun k hk => by rw [o7 _ (by omega), o6 _ (by omega), o5 _ (by omega), e4 k hk, o3 _ (by omega), o2 _ (by omega), o1 _ (by omega)]
    have r5 : ∀ k, k < 5 → q7.2 (t + 5) k = σ (t' + 5) k := fun k hk => by rw [o7 _ (by omega), o6 _ (by omega), e5 k hk, o4 _ (by omega), o3 _ (by omega), o2 _ (by omega), o1 _ (by omega)]
    have r6 : ∀ k, k < 40 → q7.2 (t + 6) k = σ (t' + 6) k := fun k hk => by rw [o7 _ (by omega), e6 k hk, o5 _ (by omega), o4 _ (by omega), o3 _ (by omega), o2 _ (by omega), o1 _ (by omega)]
    have r7 : ∀ k, k < 40 → q7.2 (t + 7) k = σ (t' + 7) k := fun k hk => by rw [e7 k hk, o6 _ (by omega), o5 _ (by omega), o4 _ (by omega), o3 _ (by omega), o2 _ (by omega), o1 _ (by omega)]
    have r0 : q7.2 t' = σ t' := by rw [o7 _ (by omega), o6 _ (by omega), o5 _ (by omega), o4 _ (by omega), o3 _ (by omega), o2 _ (by omega), o1 _ (by omega)]
    have rt : q7.2 t = σ t := by rw [o7 _ (by omega), o6 _ (by omega), o5 _ (by omega), o4 _ (by omega), o3 _ (by omega), o2 _ (by omega), o1 _ (by omega)]
    refine ⟨?_, ?_, ?_, ?_, fun x hx => ?_, fun p hp => ?_⟩
    · simp only [w2_ap]; simp; rw [r0]; exact c0
    · simp only [w2_ap]; simp; rw [r0]; exact c1
    · simp only [w2_ap]; simp; rw [r0]; exact c2
    · simp only [w2_ap]; simp; rw [r0]; exact c3
    · simp only [w2_ap]; simp; rw [r1 x (by omega)]; exact c4 x hx
    · obtain ⟨d1, d2, d3, d4, d5⟩ := c5 p hp
      refine ⟨?_, ?_, ?_, ?_, fun x hx hh => ⟨?_, ?_⟩⟩
      · simp only [w2_ap]; simp; rw [r2 p (by omega)]; exact d1
      · simp only [w2_ap]; simp; rw [r3 p (by omega)]; exact d2
      · simp only [w2_ap]; simp; rw [r4 p (by omega)]; exact d3
      · simp only [w2_ap]; simp; rw [r5 p (by omega)]; exact d4
      · simp only [w2_ap]; simp; rw [r6 _ (by omega)]; exact (d5 x hx hh).1
      · simp only [w2_ap]; simp; rw [r7 _ (by omega)]; exact (d5 x hx hh).2
  · intro c hc
    funext k
    dsimp only
    simp only [w2_ap]
    rw [if_neg (by omega), if_neg (by omega), if_neg (by omega), if_neg (by omega), o7 _ (by omega), o6 _ (by omega), o5 _ (by omega), o4 _ (by omega), o3 _ (by omega), o2 _ (by omega), o1 _ (by omega)]
