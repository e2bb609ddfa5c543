/-! the other program: sums, seats, copies -/
section MS
variable {σ : St} {b : Nat} {T : Tb} {p q w v : Nat}
theorem speakersM (h : MB σ b T) (hw : wfT T) (hb : b ≤ 1001) : f_X4_speakers (nI b) σ = some (nI (spkN T), σ) := by
  have hN := hw.2.1
  refine Ok_eq ?_
  unfold f_X4_speakers
  refine Ok_for (fun i x => x = (nI (cnt (fun p => decide (tS T ≤ rgtN T p)) i), nI i, σ)) 0 (tN T) _ rfl (Nat.zero_le _) (by omega) (fun rec i x _ hi hx hr => ?_) (fun rec x hx => ?_)
  · subst hx
    dsimp only
    simp (disch := omega) only [h.1.2.1, nI_leI]
    rw [if_neg (by omega)]
    refine Ok_bindE (isSpeakerM h hw hb hi) ?_
    dsimp only
    simp only [jn, nm]
    by_cases hc : tS T ≤ rgtN T i
    · rw [if_pos hc, if_neg (by decide)]
      refine hr _ ?_
      simp only [cnt, hc]
      rw [z1, nI_add, nI_add]; rfl
    · rw [if_neg hc, if_pos rfl]
      refine hr _ ?_
      simp only [cnt, hc]
      rw [z0, z1, nI_add, nI_add]; rfl
  · subst hx
    dsimp only
    simp only [h.1.2.1]
    rw [if_pos (by rw [nI_leI (by omega) (by omega)]; exact Nat.le_refl _)]
    exact Ok_some rfl
theorem rightsM (h : MB σ b T) (hw : wfT T) (hb : b ≤ 1001) : f_X4_rights (nI b) σ = some (nI (allRN T), σ) := by
  have hN := hw.2.1
  refine Ok_eq ?_
  unfold f_X4_rights
  refine Ok_for (fun i x => x = (nI (sumN (rgtN T) i), nI i, σ)) 0 (tN T) _ rfl (Nat.zero_le _) (by omega) (fun rec i x _ hi hx hr => ?_) (fun rec x hx => ?_)
  · subst hx
    dsimp only
    simp (disch := omega) only [h.1.2.1, nI_leI]
    rw [if_neg (by omega)]
    refine Ok_bindE (rightM h hw hb hi) ?_
    refine Ok_bindE (bitsR hw) ?_
    simp only [nm]
    refine hr _ ?_
    simp only [sumN]
    rw [z1, nI_add, nI_add]
  · subst hx
    dsimp only
    simp only [h.1.2.1]
    rw [if_pos (by rw [nI_leI (by omega) (by omega)]; exact Nat.le_refl _)]
    exact Ok_some rfl
theorem allHadM (h : MB σ 0 T) (hw : wfT T) : f_X4_allHad σ = some (nI (allHN T), σ) := by
  have hN := hw.2.1
  refine Ok_eq ?_
  unfold f_X4_allHad
  refine Ok_for (fun i x => x = (nI (sumN (hasN T) i), nI i, σ)) 0 (tN T) _ rfl (Nat.zero_le _) (by omega) (fun rec i x _ hi hx hr => ?_) (fun rec x hx => ?_)
  · subst hx
    dsimp only
    simp (disch := omega) only [h.1.2.1, nI_leI]
    rw [if_neg (by omega)]
    refine Ok_bindE (hadM (b := 0) h hw (by omega) hi) ?_
    refine Ok_bindE (bitsH hw) ?_
    simp only [nm]
    refine hr _ ?_
    simp only [sumN]
    rw [z1, nI_add, nI_add]
  · subst hx
    dsimp only
    simp only [h.1.2.1]
    rw [if_pos (by rw [nI_leI (by omega) (by omega)]; exact Nat.le_refl _)]
    exact Ok_some rfl
theorem canMendM (h : MB σ b T) (hw : wfT T) (hb : b ≤ 1001) (hp : p < tN T) (hq : w < tW T) : f_X4_canMend (nI b) (nI p) (nI w) σ = some (if way T p w < 10 ∧ way T p w ≠ snd T w then 1 else 0, σ) := by
  have hT := hw.1
  have hs := hw.2.2.2.2.1 w hq
  refine Ok_eq ?_
  unfold f_X4_canMend
  refine Ok_bindE (hasM h hw hb hp hq) ?_
  simp only [jn, wv_neg]
  by_cases hh : way T p w < 10
  · rw [if_neg (fun z => z hh)]
    refine Ok_bindE (hasM h hw hb hp hq) ?_
    rw [if_neg (in_nI (by omega) (by decide)), nI_clamp (by omega)]
    simp only [h.1.2.2.2 w hq, wv_eq (show snd T w < 10 by omega) (way_le hw hp hq)]
    by_cases hd : way T p w = snd T w
    · rw [if_pos hd, if_neg (fun z => z.2 hd)]; exact Ok_some rfl
    · rw [if_neg hd, if_pos ⟨hh, hd⟩]; exact Ok_some rfl
  · rw [if_pos hh, if_neg (fun z => hh z.1)]; exact Ok_some rfl
theorem swapsM (h : MB σ b T) (hw : wfT T) (hb : b ≤ 1001) (hp : p < tN T) (hq : q < tN T) : Ok (f_X4_swaps (nI b) (nI p) (nI q) σ) (fun x => MB x.2 b (swp T p q) ∧ Ms σ x.2 b) := by
  have hT := hw.1
  have hN := hw.2.1
  unfold f_X4_swaps
  refine Ok_for (fun i x => x.1 = nI i ∧ Ms σ x.2 b ∧ x.2 3 (b + 90) = σ 3 (b + 90) ∧ ∀ j r, j < 5 → r < 18 → x.2 3 (b + 18 * j + r) = σ 3 (b + 18 * (if r < i then sw p q j else j) + r)) 0 18 _ ⟨rfl, Ms_rf, rfl, fun j r _ _ => by rw [if_neg (by omega)]⟩ (by omega) (by omega) (fun rec i x _ hi hx hr => ?_) (fun rec x hx => ?_)
  · obtain ⟨e1, g1, d1, v1⟩ := hx
    rw [e1, z18, pk_mul, pk_mul, nI_add, nI_add, nI_add, nI_add, if_neg (by rw [nI_leI (by omega) (by omega)]; omega)]
    have hi1 : ¬ (nI (b + 18 * p + i) < 0 ∨ 1092 ≤ (nI (b + 18 * p + i)).toNatClampNeg) := in_nI (by omega) (by decide)
    have hi2 : ¬ (nI (b + 18 * q + i) < 0 ∨ 1092 ≤ (nI (b + 18 * q + i)).toNatClampNeg) := in_nI (by omega) (by decide)
    rw [if_neg hi1, nI_clamp (by omega)]
    refine Ok_nm ?_
    rw [if_neg hi2, nI_clamp (by omega)]
    have hi1' : ¬ (nI (b + 18 * p + i) < 0 ∨ 1092 ≤ b + 18 * p + i) := by rw [nI_lt0 (by omega)]; simp; omega
    have hi2' : ¬ (nI (b + 18 * q + i) < 0 ∨ 1092 ≤ b + 18 * q + i) := by rw [nI_lt0 (by omega)]; simp; omega
    rw [if_neg hi1']
    refine Ok_nm ?_
    rw [if_neg hi2']
    refine Ok_nm (Ok_nm (hr _ ⟨?_, ?_, ?_, fun j r hj hr2 => ?_⟩))
    · show nI i + 1 = nI (i + 1); rw [z1, nI_add]
    · exact Ms_tr g1 (Ms_tr (Ms_w2 (by omega) (by omega)) (Ms_w2 (by omega) (by omega)))
    · dsimp only
      rw [w2_ap, if_neg (by omega), w2_ap, if_neg (by omega)]; exact d1
    · dsimp only
      have ep := v1 p i (by omega) hi
      have eq := v1 q i (by omega) hi
      rw [if_neg (by omega)] at ep eq
      rw [w2_ap, w2_ap, ep, eq]
      by_cases hri : r = i
      · subst hri
        rw [if_pos (show r < r + 1 by omega)]
        unfold sw
        by_cases hjq : j = q
        · rw [if_pos ⟨rfl, by omega⟩]
          by_cases hjp : j = p
          · rw [if_pos hjp]
            have : p = q := by omega
            rw [this]
          · rw [if_neg hjp, if_pos hjq]
        · rw [if_neg (by omega)]
          by_cases hjp : j = p
          · rw [if_pos ⟨rfl, by omega⟩, if_pos hjp]
          · rw [if_neg (by omega), if_neg hjp, if_neg hjq, v1 j r hj hr2, if_neg (by omega)]
      · rw [if_neg (by omega), if_neg (by omega), v1 j r hj hr2]
        by_cases h3 : r < i
        · rw [if_pos h3, if_pos (by omega)]
        · rw [if_neg h3, if_neg (by omega)]
  · obtain ⟨e1, g1, d1, v1⟩ := hx
    rw [e1, if_pos (by decide)]
    refine Ok_some ⟨⟨MG_st (MG_fr h.1 (g1.1 0 (by omega)) (g1.1 1 (by omega))) tW_swp tN_swp tS_swp (fun _ _ => snd_swp), ?_, fun j hj => ?_⟩, g1⟩
    · dsimp only; rw [d1, tD_swp]; exact h.2.1
    · rw [tN_swp] at hj
      have d := h.2.2 _ (sw_lt hp hq hj)
      refine ⟨?_, ?_, fun y hy => ⟨?_, fun hh => ?_⟩⟩
      · have := v1 j 0 (by omega) (by omega)
        rw [if_pos (by omega)] at this
        rw [knd_swp]; exact this.trans d.1
      · have := v1 j 1 (by omega) (by omega)
        rw [if_pos (by omega)] at this
        rw [mmr_swp]; exact this.trans d.2.1
      · rw [tW_swp] at hy
        have := v1 j (2 + y) (by omega) (by omega)
        rw [if_pos (by omega)] at this
        rw [way_swp (by omega), ← (d.2.2 y hy).1]
        rw [Nat.add_assoc, Nat.add_assoc (b + 18 * sw p q j)]; exact this
      · rw [tW_swp] at hy
        rw [way_swp (by omega)] at hh
        have := v1 j (10 + y) (by omega) (by omega)
        rw [if_pos (by omega)] at this
        rw [age_swp (by omega), ← (d.2.2 y hy).2 hh]
        rw [Nat.add_assoc, Nat.add_assoc (b + 18 * sw p q j)]; exact this
theorem copiesM {a c : Nat} (ha : a ≤ 1001) (hc : c ≤ 1001) (hd : a + 91 ≤ c ∨ c + 91 ≤ a) : Ok (f_X4_copies (nI a) (nI c) σ) (fun x => (∀ k, k < 91 → x.2 3 (c + k) = σ 3 (a + k)) ∧ Ms σ x.2 c) := by
  unfold f_X4_copies
  have z91 : (91 : Int32) = nI 91 := rfl
  refine Ok_for (fun i x => x.1 = nI i ∧ Ms σ x.2 c ∧ ∀ k, k < i → x.2 3 (c + k) = σ 3 (a + k)) 0 91 _ ⟨rfl, Ms_rf, fun k hk => by omega⟩ (by omega) (by omega) (fun rec i x _ hi hx hr => ?_) (fun rec x hx => ?_)
  · obtain ⟨e1, g1, v1⟩ := hx
    rw [e1, z91, nI_add, nI_add, if_neg (by rw [nI_leI (by omega) (by omega)]; omega), if_neg (in_nI (by omega) (by decide)), if_neg (in_nI (by omega) (by decide)), nI_clamp (by omega), nI_clamp (by omega)]
    refine Ok_nm (Ok_nm (hr _ ⟨?_, Ms_tr g1 (Ms_w2 (by omega) (by omega)), fun k hk => ?_⟩))
    · show nI i + 1 = nI (i + 1); rw [z1, nI_add]
    · dsimp only
      rw [w2_ap]
      by_cases hz : k = i
      · subst hz
        rw [if_pos ⟨rfl, rfl⟩, g1.2 _ (by omega)]
      · rw [if_neg (by omega)]; exact v1 k (by omega)
  · obtain ⟨e1, g1, v1⟩ := hx
    rw [e1, if_pos (by decide)]
    exact Ok_some ⟨v1, g1⟩
/-- the trial block, and what is kept -/
theorem trialM (h : MB σ 0 T) (hw : wfT T) : Ok (f_X4_copies (0 : Int32) (1001 : Int32) σ) (fun x => MB x.2 1001 T ∧ Ms σ x.2 1001) := by
  refine Ok_mono (copiesM (a := 0) (c := 1001) (by omega) (by omega) (by omega)) (fun x hx => ?_)
  exact ⟨⟨MG_fr h.1 (hx.2.1 0 (by omega)) (hx.2.1 1 (by omega)), MW_to h.2 hw.2.1 hw.1 (fun k hk => hx.1 k hk)⟩, hx.2⟩
end MS
def RMx (σ : St) (X : Nat → Nat) (n : Nat) : Prop := σ 0 8 = nI n ∧ ∀ i, i < n → σ 4 i = nI (X i)
def RMu (σ : St) (U : Nat → Tb) (u : Nat) : Prop := σ 0 6 = nI u ∧ ∀ i, i < u → MW (σ 3) (91 * (u - i)) (U i)
def RMk (σ : St) (K : Nat → Tb) (k : Nat) : Prop := σ 0 7 = nI k ∧ ∀ i, i < k → MW (σ 3) (91 * (9 + i)) (K i)
def RMh (σ : St) (H : Nat → Nat × Nat × Nat) (h : Nat) : Prop := σ 0 12 = nI h ∧ ∀ i, i < h → σ 5 i = nI (H i).1 ∧ σ 6 i = wv (H i).2.1 ∧ σ 7 i = nI (H i).2.2
def RM (σ : St) (X : Nat → Nat) (n : Nat) (T : Tb) (U : Nat → Tb) (u : Nat) (K : Nat → Tb) (k : Nat) (H : Nat → Nat × Nat × Nat) (h : Nat) : Prop := RMx σ X n ∧ MB σ 0 T ∧ RMu σ U u ∧ RMk σ K k ∧ RMh σ H h
section RR2
variable {σ σ' : St} {X : Nat → Nat} {n : Nat} {T T' : Tb} {U : Nat → Tb} {u : Nat} {K : Nat → Tb} {k : Nat} {H : Nat → Nat × Nat × Nat} {h : Nat}
theorem ok_le (hT : wfT T ∧ 0 < tW T ∧ 0 < tN T) : tN T ≤ 5 ∧ tW T ≤ 8 := ⟨hT.1.2.1, hT.1.1⟩
/-- work on block b alone, b the block of now -/
theorem RM_now (hR : RM σ X n T U u K k H h) (hg : gOk X n T U u K k H h) (hf : Mr σ σ' 0) (hc : MB σ' 0 T') : RM σ' X n T' U u K k H h := by
  obtain ⟨a, _, c, d, e⟩ := hR
  have f0 := hf.1 0 (by omega) (by omega) (by omega)
  have f4 := hf.1 4 (by omega) (by omega) (by omega)
  have f5 := hf.1 5 (by omega) (by omega) (by omega)
  have f6 := hf.1 6 (by omega) (by omega) (by omega)
  have f7 := hf.1 7 (by omega) (by omega) (by omega)
  have hu := hg.2.2.2.1
  have hk := hg.2.2.2.2.1
  refine ⟨?_, hc, ⟨by rw [f0]; exact c.1, fun i hi => MW_fr (c.2 i hi) ?_ ?_ (fun j h1 h2 => hf.2 j (by omega))⟩, ⟨by rw [f0]; exact d.1, fun i hi => MW_fr (d.2 i hi) ?_ ?_ (fun j h1 h2 => hf.2 j (by omega))⟩, ?_⟩
  · unfold RMx; rw [f0, f4]; exact a
  · exact (hg.2.2.2.2.2.2.1 i hi).1.2.1
  · exact (hg.2.2.2.2.2.2.1 i hi).1.1
  · exact (hg.2.2.2.2.2.2.2.1 i hi).1.2.1
  · exact (hg.2.2.2.2.2.2.2.1 i hi).1.1
  · unfold RMh; rw [f0, f5, f6, f7]; exact e
theorem RM_scr (hR : RM σ X n T U u K k H h) (hg : gOk X n T U u K k H h) (hf : Mr σ σ' 1001) : RM σ' X n T U u K k H h := by
  obtain ⟨a, b, c, d, e⟩ := hR
  have f0 := hf.1 0 (by omega) (by omega) (by omega)
  have f1 := hf.1 1 (by omega) (by omega) (by omega)
  have f4 := hf.1 4 (by omega) (by omega) (by omega)
  have f5 := hf.1 5 (by omega) (by omega) (by omega)
  have f6 := hf.1 6 (by omega) (by omega) (by omega)
  have f7 := hf.1 7 (by omega) (by omega) (by omega)
  have hu := hg.2.2.2.1
  have hk := hg.2.2.2.2.1
  have hw := hg.2.1.1
  refine ⟨?_, ⟨MG_fr b.1 f0 f1, MW_fr b.2 hw.2.1 hw.1 (fun j h1 h2 => hf.2 j (by omega))⟩, ⟨by rw [f0]; exact c.1, fun i hi => MW_fr (c.2 i hi) ?_ ?_ (fun j h1 h2 => hf.2 j (by omega))⟩, ⟨by rw [f0]; exact d.1, fun i hi => MW_fr (d.2 i hi) ?_ ?_ (fun j h1 h2 => hf.2 j (by omega))⟩, ?_⟩
  · unfold RMx; rw [f0, f4]; exact a
  · exact (hg.2.2.2.2.2.2.1 i hi).1.2.1
  · exact (hg.2.2.2.2.2.2.1 i hi).1.1
  · exact (hg.2.2.2.2.2.2.2.1 i hi).1.2.1
  · exact (hg.2.2.2.2.2.2.2.1 i hi).1.1
  · unfold RMh; rw [f0, f5, f6, f7]; exact e
theorem knownM (hR : RM σ X n T U u K k H h) (hg : gOk X n T U u K k H h) : Ok (f_X4_known σ) (fun q => RM q.2 X n T (push T U) (if u < 8 then u + 1 else 8) K k H h) := by
  have hR0 := hR
  obtain ⟨a, b, c, d, e⟩ := hR
  have hu := hg.2.2.2.1
  have hk := hg.2.2.2.2.1
  have hw := hg.2.1.1
  have uW : ∀ i, i < u → tN (U i) ≤ 5 ∧ tW (U i) ≤ 8 := fun i hi => ⟨(hg.2.2.2.2.2.2.1 i hi).1.2.1, (hg.2.2.2.2.2.2.1 i hi).1.1⟩
  have kW : ∀ i, i < k → tN (K i) ≤ 5 ∧ tW (K i) ≤ 8 := fun i hi => ⟨(hg.2.2.2.2.2.2.2.1 i hi).1.2.1, (hg.2.2.2.2.2.2.2.1 i hi).1.1⟩
  have z91 : (91 : Int32) = nI 91 := rfl
  unfold f_X4_known
  -- the rest, from a state that holds u' < 8 acts
  refine Ok_jn (fun q => RM q X n T U (if u < 8 then u else 7) K k H h) (fun q hq => ?_) (fun kk hkk => ?_)
  · obtain ⟨a, b, c, d, e⟩ := hq
    have hu' : (if u < 8 then u else 7) < 8 := by split <;> omega
    have hu1 : (if u < 8 then u + 1 else 8) = (if u < 8 then u else 7) + 1 := by split <;> omega
    have huu : (if u < 8 then u else 7) ≤ u := by split <;> omega
    rw [hu1]
    generalize (if u < 8 then u else 7) = u' at hu' huu c ⊢
    refine Ok_nm ?_
    have ev : w2 q 0 6 (q 0 6 + 1) 0 6 = nI (u' + 1) := by rw [w2_ap, if_pos ⟨rfl, rfl⟩, c.1, z1, nI_add]
    have eo : ∀ j, ¬ j = 6 → w2 q 0 6 (q 0 6 + 1) 0 j = q 0 j := fun j hj => by rw [w2_ap, if_neg (fun z => hj z.2)]
    have ec : ∀ j, ¬ j = 0 → w2 q 0 6 (q 0 6 + 1) j = q j := fun j hj => by funext i; rw [w2_ap, if_neg (fun z => hj z.1)]
    generalize w2 q 0 6 (q 0 6 + 1) = σ1 at ev eo ec ⊢
    rw [ev, z91, pk_mul]
    refine Ok_bind (copiesM (a := 0) (c := (u' + 1) * 91) (by omega) (by omega) (by omega)) (fun x hx => ?_)
    obtain ⟨v1, g1⟩ := hx
    have x0 := g1.1 0 (by omega)
    have x4 := g1.1 4 (by omega)
    have x5 := g1.1 5 (by omega)
    have x6 := g1.1 6 (by omega)
    have x7 := g1.1 7 (by omega)
    have x1 := g1.1 1 (by omega)
    refine Ok_some ⟨?_, ⟨?_, ?_⟩, ⟨?_, fun i hi => ?_⟩, ⟨?_, fun i hi => ?_⟩, ?_⟩
    · unfold RMx; dsimp only; rw [x0, x4, eo 8 (by omega), ec 4 (by omega)]; exact a
    · unfold MG; dsimp only; rw [x0, x1, eo 0 (by omega), eo 1 (by omega), eo 2 (by omega), ec 1 (by omega)]; exact b.1
    · exact MW_fr b.2 hw.2.1 hw.1 (fun j h1 h2 => by dsimp only; rw [g1.2 j (by omega), ec 3 (by omega)])
    · dsimp only; rw [x0]; exact ev
    · dsimp only
      cases i with
      | zero =>
        have e1 : 91 * (u' + 1 - 0) = (u' + 1) * 91 := by omega
        rw [e1]
        exact MW_to b.2 hw.2.1 hw.1 (fun j hj => by rw [v1 j hj, ec 3 (by omega)])
      | succ i =>
        have e1 : 91 * (u' + 1 - (i + 1)) = 91 * (u' - i) := by omega
        rw [e1]
        exact MW_fr (c.2 i (by omega)) (uW i (by omega)).1 (uW i (by omega)).2 (fun j h1 h2 => by rw [g1.2 j (by omega), ec 3 (by omega)])
    · dsimp only; rw [x0, eo 7 (by omega)]; exact d.1
    · exact MW_fr (d.2 i hi) (kW i hi).1 (kW i hi).2 (fun j h1 h2 => by dsimp only; rw [g1.2 j (by omega), ec 3 (by omega)])
    · unfold RMh; dsimp only; rw [x0, x5, x6, x7, eo 12 (by omega), ec 5 (by omega), ec 6 (by omega), ec 7 (by omega)]; exact e
  · rw [c.1, z8]
    simp (disch := omega) only [nI_eq]
    by_cases h8 : u = 8
    · rw [if_neg (fun z => z h8)]
      have z728 : (728 : Int32) = nI 728 := rfl
      refine Ok_for (fun i x => x.1 = nI i ∧ (∀ j, ¬ j = 3 → x.2 j = σ j) ∧ ∀ j, x.2 3 j = if 91 ≤ j ∧ j < i then σ 3 (j + 91) else σ 3 j) 91 728 _ ⟨rfl, fun _ _ => rfl, fun j => by rw [if_neg (by omega)]⟩ (by omega) (by omega) (fun rec i x hi0 hi hx hr => ?_) (fun rec x hx => ?_)
      · obtain ⟨e1, g1, v1⟩ := hx
        rw [e1, z728, z91, nI_add, if_neg (by rw [nI_leI (by omega) (by omega)]; omega), if_neg (in_nI (by omega) (by decide)), if_neg (in_nI (by omega) (by decide)), nI_clamp (by omega), nI_clamp (by omega)]
        refine Ok_nm (Ok_nm (hr _ ⟨?_, fun j hj => ?_, fun j => ?_⟩))
        · show nI i + 1 = nI (i + 1); rw [z1, nI_add]
        · dsimp only; funext y; rw [w2_ap, if_neg (fun z => hj z.1), g1 j hj]
        · dsimp only
          rw [w2_ap]
          by_cases hz : j = i
          · subst hz
            rw [if_pos ⟨rfl, rfl⟩, if_pos ⟨hi0, by omega⟩, v1, if_neg (by omega)]
          · rw [if_neg (by omega), v1]
            by_cases h3 : 91 ≤ j ∧ j < i
            · rw [if_pos h3, if_pos (by omega)]
            · rw [if_neg h3, if_neg (by omega)]
      · obtain ⟨e1, g1, v1⟩ := hx
        rw [e1, if_pos (by decide)]
        refine Ok_nm (hkk _ ?_)
        have z7 : (7 : Int32) = nI 7 := rfl
        have ec : ∀ j, ¬ j = 0 → w2 x.2 0 6 (7 : Int32) j = x.2 j := fun j hj => by funext i; rw [w2_ap, if_neg (fun z => hj z.1)]
        have eo : ∀ j, ¬ j = 6 → w2 x.2 0 6 (7 : Int32) 0 j = σ 0 j := fun j hj => by rw [w2_ap, if_neg (fun z => hj z.2), g1 0 (by omega)]
        rw [if_neg (by omega)]
        refine ⟨?_, ⟨?_, ?_⟩, ⟨?_, fun i hi => ?_⟩, ⟨?_, fun i hi => ?_⟩, ?_⟩
        · unfold RMx; rw [eo 8 (by omega), ec 4 (by omega), g1 4 (by omega)]; exact a
        · unfold MG; rw [ec 1 (by omega), eo 0 (by omega), eo 1 (by omega), eo 2 (by omega), g1 1 (by omega)]; exact b.1
        · exact MW_fr b.2 hw.2.1 hw.1 (fun j h1 h2 => by rw [ec 3 (by omega), v1, if_neg (by omega)])
        · rw [w2_ap, if_pos ⟨rfl, rfl⟩]; exact z7
        · rw [ec 3 (by omega)]
          exact MW_to (c.2 i (by omega)) (uW i (by omega)).1 (uW i (by omega)).2 (fun j hj => by
            rw [v1, if_pos (by omega)]
            congr 1
            omega)
        · rw [eo 7 (by omega)]; exact d.1
        · exact MW_fr (d.2 i hi) (kW i hi).1 (kW i hi).2 (fun j h1 h2 => by rw [ec 3 (by omega), v1, if_neg (by omega)])
        · unfold RMh; rw [eo 12 (by omega), ec 5 (by omega), ec 6 (by omega), ec 7 (by omega), g1 5 (by omega), g1 6 (by omega), g1 7 (by omega)]; exact e
    · rw [if_pos h8]
      refine hkk _ ?_
      rw [if_pos (by omega)]
      exact hR0
end RR2
