/-! the other program: lessons and days -/
theorem dec1 (v : Int32) : v + (-1) = v - nI 1 := by
  have e : (-1 : Int32) = - nI 1 := by decide
  rw [Int32.sub_eq_add_neg, e]
section ML
variable {σ : St} {b : Nat} {T : Tb} {p w v : Nat}
theorem nxw_mod (hq : w < tW T) : (w + 1) % tW T = nxw T w := by
  unfold nxw
  split
  · exact Nat.mod_eq_of_lt (by omega)
  · have e : w + 1 = tW T := by omega
    rw [e, Nat.mod_self]
theorem nxt_mod (hp : p < tN T) : (p + 1) % tN T = nxt T p := by
  unfold nxt
  split
  · exact Nat.mod_eq_of_lt (by omega)
  · have e : p + 1 = tN T := by omega
    rw [e, Nat.mod_self]
theorem kndM (h : MB σ b T) (hp : p < tN T) : σ 3 (b + 18 * p) = nI (knd T p) := (h.2.2 p hp).1
theorem hearsM (h : MB σ b T) (hw : wfT T) (hb : b ≤ 1001) (hp : p < tN T) (hv : v < 10) : f_X4_hears (nI b) (nI p) (nI v) σ = some (nI (hear T p v), σ) := by
  have h2 := hw.2.1
  have h3 := (hw.2.2.2.2.2 p hp).1
  refine Ok_eq ?_
  unfold f_X4_hears
  simp only [jn]
  rw [mx, if_neg (in_nI (by omega) (by decide)), nI_clamp (by omega), kndM h hp, z1, z2, z10, rem_nI (by omega) (by decide) (by decide), nI_add, rem_nI (by omega) (by decide) (by decide)]
  simp (disch := omega) only [nI_eq]
  unfold hear
  by_cases hc : knd T p = 1
  · by_cases hd : v % 2 = 1
    · rw [if_neg (fun z => z hc), if_neg (fun z => z hd), if_pos ⟨hc, hd⟩]; exact Ok_some rfl
    · rw [if_neg (fun z => z hc), if_pos hd, if_neg (fun z => hd z.2)]; exact Ok_some rfl
  · rw [if_pos hc, if_neg (fun z => hc z.1)]; exact Ok_some rfl
theorem learnsM (h : MB σ b T) (hw : wfT T) (hb : b ≤ 1001) (hp : p < tN T) (hq : w < tW T) : Ok (f_X4_learns (nI b) (nI p) (nI w) σ) (fun q => MB q.2 b (teach T p w) ∧ Ms σ q.2 b) := by
  have hT := hw.1
  have hN := hw.2.1
  have hk := (hw.2.2.2.2.2 p hp).1
  have hs := hw.2.2.2.2.1 w hq
  unfold f_X4_learns
  rw [mx, if_neg (in_nI (by omega) (by decide)), nI_clamp (by omega), kndM h hp]
  refine Ok_nm ?_
  refine Ok_bindE (hasM h hw hb hp hq) ?_
  dsimp only
  refine Ok_jn (fun q => q.2 = σ ∧ q.1 = nI (if knd T p = 3 ∧ way T p w < 10 then way T p w else hear T p (snd T w))) (fun q hq1 => ?_) (fun k hk1 => ?_)
  · obtain ⟨e2, e1⟩ := hq1
    rw [e1, e2]
    have hv : (if knd T p = 3 ∧ way T p w < 10 then way T p w else hear T p (snd T w)) < 10 := by
      split
      · rename_i hc; exact hc.2
      · exact hear_lt (by omega)
    refine Ok_bind (getsM h hw hb hp hq hv) (fun q1 h1 => ?_)
    obtain ⟨h1, g1⟩ := h1
    have w1 := wf_give (v := (if knd T p = 3 ∧ way T p w < 10 then way T p w else hear T p (snd T w))) hw hp hq hv
    have hn := nxw_lt hq
    simp only [h1.1.1, tW_give]
    rw [if_neg (by rw [nI_eq0 (by omega)]; omega)]
    rw [z1, nI_add, rem_nI (by omega) (by omega) (by omega), nxw_mod hq, z2]
    refine Ok_nm ?_
    simp (disch := omega) only [nI_eq]
    unfold teach
    by_cases h3 : knd T p = 3 ∧ way T p w < 10
    · rw [if_pos h3] at h1 ⊢
      rw [if_pos (by omega)]
      exact Ok_some ⟨h1, g1⟩
    · rw [if_neg h3] at h1 w1 ⊢
      by_cases h2 : knd T p = 2
      · rw [if_neg (fun z => z h2)]
        refine Ok_bindE (hasM h1 w1 hb (by rw [tN_give]; exact hp) (by rw [tW_give]; exact hn)) ?_
        simp only [wv_pos]
        by_cases hh : way (give T p w (hear T p (snd T w))) p (nxw T w) < 10
        · rw [if_pos hh, if_neg (fun z => z.2 hh)]
          exact Ok_some ⟨h1, g1⟩
        · rw [if_neg hh, if_neg (in_nI (by omega) (by decide)), nI_clamp (by omega), h1.1.2.2.2 _ (by rw [tW_give]; exact hn), snd_give, if_pos ⟨h2, hh⟩]
          have hs2 := hw.2.2.2.2.1 _ hn
          refine Ok_bind (getsM h1 w1 hb (by rw [tN_give]; exact hp) (by rw [tW_give]; exact hn) (by omega)) (fun q2 h2 => ?_)
          exact Ok_some ⟨h2.1, Ms_tr g1 h2.2⟩
      · rw [if_pos h2, if_neg (fun z => h2 z.1)]
        exact Ok_some ⟨h1, g1⟩
  · refine Ok_jn (fun q => q = σ ∧ ¬ (knd T p = 3 ∧ way T p w < 10)) (fun q hc => ?_) (fun k2 hk2 => ?_)
    · obtain ⟨rfl, hc⟩ := hc
      rw [if_neg (in_nI (by omega) (by decide)), nI_clamp (by omega), h.1.2.2.2 w hq]
      refine Ok_bindE (hearsM h hw hb hp (by omega)) ?_
      refine hk1 _ ⟨rfl, ?_⟩
      rw [if_neg hc]
    · simp only [z3, wv_neg]
      simp (disch := omega) only [nI_eq]
      refine Ok_ite (fun hc => hk2 _ ⟨rfl, fun z => hc z.1⟩) (fun hc => ?_)
      refine Ok_ite (fun hh => hk2 _ ⟨rfl, fun z => hh z.2⟩) (fun hh => ?_)
      have hc := Classical.not_not.mp hc
      have hh := Classical.not_not.mp hh
      refine hk1 _ ⟨rfl, ?_⟩
      rw [if_pos ⟨hc, hh⟩, wv_lt hh]
/-- what is told and how, as the rows tells and how hold it -/
def tlOk (σ : St) (T : Tb) (tl : Bool) (n : Nat) : Prop := ∀ q, q < n → σ 8 q = tv (told T tl q) (tW T) ∧ σ 9 q = (if told T tl q < tW T then nI (way T q (told T tl q)) else -4)
theorem tellingsM {tl : Bool} (h : MB σ b T) (hw : wfT T) (hb : b ≤ 1001) : Ok (f_X4_tellings (nI b) (if tl = true then 0 else 1) σ) (fun q => (∀ c, ¬ c = 8 → ¬ c = 9 → q.2 c = σ c) ∧ tlOk q.2 T tl (tN T)) := by
  have hT := hw.1
  have hN := hw.2.1
  unfold f_X4_tellings
  refine Ok_for (fun i x => x.1 = nI i ∧ (∀ c, ¬ c = 8 → ¬ c = 9 → x.2 c = σ c) ∧ tlOk x.2 T tl i) 0 (tN T) _ ⟨rfl, fun _ _ _ => rfl, fun q hq => by omega⟩ (by omega) (by omega) (fun rec i x _ hi hx hr => ?_) (fun rec x hx => ?_)
  · obtain ⟨e1, f1, t1⟩ := hx
    have hx0 : x.2 0 = σ 0 := f1 0 (by omega) (by omega)
    simp only [e1, hx0, h.1.2.1]
    rw [if_neg (by rw [nI_leI (by omega) (by omega)]; omega), if_neg (by rw [nI_eq0 (by omega)]; omega), z1, nI_add, rem_nI (by omega) (by omega) (by omega), nxt_mod hi]
    have hn := nxt_lt hi
    refine Ok_nm ?_
    rw [if_neg (in_nI (by omega) (by decide)), nI_clamp (by omega)]
    refine Ok_nm (Ok_nm ?_)
    generalize hσ1 : w2 x.2 8 i (-4 : Int32) = σ1
    have g1 : ∀ c, ¬ c = 8 → ¬ c = 9 → σ1 c = σ c := fun c h8 h9 => by rw [← hσ1]; funext k; rw [w2_ap, if_neg (fun z => h8 z.1), f1 c h8 h9]
    have a1 : σ1 8 i = -4 := by rw [← hσ1, w2_ap, if_pos ⟨rfl, rfl⟩]
    have a2 : ∀ q, q < i → σ1 8 q = x.2 8 q := fun q hq => by rw [← hσ1, w2_ap, if_neg (by omega)]
    have a3 : σ1 9 = x.2 9 := by rw [← hσ1]; funext k; rw [w2_ap, if_neg (by omega)]
    have g0 : σ1 0 0 = nI (tW T) := by rw [g1 0 (by omega) (by omega)]; exact h.1.1
    rw [g0]
    -- what comes after the search
    have fin : ∀ σ2 : St, (∀ c, ¬ c = 8 → ¬ c = 9 → σ2 c = σ c) → σ2 8 i = tv (told T tl i) (tW T) → (∀ q, q < i → σ2 8 q = x.2 8 q) → σ2 9 = x.2 9 → Ok (if nI i < 0 ∨ 5 ≤ i then none else jn (fun (q24 : Int32 × St) => (if nI i < 0 ∨ 5 ≤ i then none else nm (w2 q24.2 9 i q24.1) (fun σ29 => nm (nI (i + 1)) (fun x30 => rec (x30, σ29))))) (fun k24 => (if 0 ≤ (σ2 8 i) then (if nI i < 0 ∨ 5 ≤ i then none else (f_X4_hasIt (nI b) (nI i) (σ2 8 i) σ2).bind (fun q27 => k24 (q27.1, q27.2))) else k24 ((-4 : Int32), σ2)))) (fun q => (∀ c, ¬ c = 8 → ¬ c = 9 → q.2 c = σ c) ∧ tlOk q.2 T tl (tN T)) := by
      intro σ2 f2 b1 b2 b3
      have hin : ¬ (nI i < 0 ∨ 5 ≤ i) := by rw [nI_lt0 (by omega)]; simp; omega
      rw [if_neg hin]
      have m2 : MB σ2 b T := ⟨MG_fr h.1 (f2 0 (by omega) (by omega)) (f2 1 (by omega) (by omega)), by rw [f2 3 (by omega) (by omega)]; exact h.2⟩
      refine Ok_jn (fun q => q.2 = σ2 ∧ q.1 = (if told T tl i < tW T then nI (way T i (told T tl i)) else -4)) (fun q hq => ?_) (fun k hk => ?_)
      · obtain ⟨e2, e3⟩ := hq
        rw [if_neg hin, e2, e3]
        refine Ok_nm (Ok_nm (hr _ ⟨?_, fun c h8 h9 => ?_, fun q hq => ?_⟩))
        · rfl
        · dsimp only; funext k; rw [w2_ap, if_neg (fun z => h9 z.1), f2 c h8 h9]
        · dsimp only
          rw [w2_ap, if_neg (by omega), w2_ap]
          by_cases hz : q = i
          · subst hz
            rw [if_pos ⟨rfl, rfl⟩]
            exact ⟨b1, rfl⟩
          · rw [if_neg (fun z => hz z.2), b2 q (by omega), b3]
            exact t1 q (by omega)
      · rw [b1]
        have e0 : ((0 : Int32) ≤ tv (told T tl i) (tW T)) ↔ told T tl i < tW T := by rw [i0le, tv_lt hT]; simp
        simp only [e0]
        by_cases hc : told T tl i < tW T
        · rw [if_pos hc, if_neg hin]
          have e : tv (told T tl i) (tW T) = nI (told T tl i) := by unfold tv; rw [if_pos hc]
          rw [e]
          refine Ok_bindE (hasM m2 hw hb hi hc) ?_
          refine hk _ ⟨rfl, ?_⟩
          rw [if_pos hc]
          cases tl with
          | false => unfold told at hc; simp at hc
          | true => exact wv_lt (told_way hc).1
        · rw [if_neg hc]
          refine hk _ ⟨rfl, ?_⟩
          rw [if_neg hc]
    by_cases hgo : tl = true ∧ ¬ nxt T i = i
    · -- the search goes down
      obtain ⟨ht, hne⟩ := hgo
      subst ht
      refine Ok_for (fun j y => y.1 = nI (tW T - j) - nI 1 ∧ (∀ c, ¬ c = 8 → ¬ c = 9 → y.2 c = σ c) ∧ y.2 8 i = tv (tW T - j + lowF (fun k => decide (way T i (tW T - j + k) < 10) && !decide (way T (nxt T i) (tW T - j + k) < 10)) j) (tW T) ∧ (∀ q, q < i → y.2 8 q = x.2 8 q) ∧ y.2 9 = x.2 9) 0 (tW T) _ ⟨rfl, g1, ?_, a2, a3⟩ (by omega) (by omega) (fun rec2 j y _ hj hy hr2 => ?_) (fun rec2 y hy => ?_)
      · show σ1 8 i = _
        rw [a1]; unfold tv; rw [if_neg (by simp [lowF])]
      · obtain ⟨e2, f2, b1, b2, b3⟩ := hy
        obtain ⟨m, hm⟩ : ∃ m, tW T - j = m + 1 := ⟨tW T - j - 1, by omega⟩
        have e3 : y.1 = nI m := by rw [e2, hm, pk_sub (by omega)]; rfl
        have hm2 : m < tW T := by omega
        have m2 : MB y.2 b T := ⟨MG_fr h.1 (f2 0 (by omega) (by omega)) (f2 1 (by omega) (by omega)), by rw [f2 3 (by omega) (by omega)]; exact h.2⟩
        rw [e3]
        refine Ok_jn (fun _ => False) (fun q hq => hq.elim) (fun k9 _ => ?_)
        rw [if_neg (by rw [nI_lt0 (by omega)]; simp), if_neg (by rw [nI_eq (by omega) (by omega)]; exact hne), if_neg (by simp)]
        refine Ok_bindE (hasM m2 hw hb hi hm2) ?_
        dsimp only
        have hin : ¬ (nI i < 0 ∨ 5 ≤ i) := by rw [nI_lt0 (by omega)]; simp; omega
        have hj1 : tW T - (j + 1) = m := by omega
        have stp : tv (tW T - (j + 1) + lowF (fun k => decide (way T i (tW T - (j + 1) + k) < 10) && !decide (way T (nxt T i) (tW T - (j + 1) + k) < 10)) (j + 1)) (tW T) = if way T i m < 10 ∧ ¬ way T (nxt T i) m < 10 then nI m else y.2 8 i := by
          rw [hj1, b1, hm]
          by_cases hc : way T i m < 10 ∧ ¬ way T (nxt T i) m < 10
          · rw [if_pos hc]
            have : lowF (fun k => decide (way T i (m + k) < 10) && !decide (way T (nxt T i) (m + k) < 10)) (j + 1) = 0 := by
              show (if _ then _ else _) = _
              rw [if_pos (by simp only [Nat.add_zero]; simp [hc.1]; omega)]
            rw [this, Nat.add_zero]; unfold tv; rw [if_pos (by omega)]
          · rw [if_neg hc]
            have : m + lowF (fun k => decide (way T i (m + k) < 10) && !decide (way T (nxt T i) (m + k) < 10)) (j + 1) = m + 1 + lowF (fun k => decide (way T i (m + 1 + k) < 10) && !decide (way T (nxt T i) (m + 1 + k) < 10)) j := by
              show m + (if _ then _ else _) = _
              rw [if_neg (by simp only [Nat.add_zero, Bool.and_eq_true, decide_eq_true_eq, Bool.not_eq_true', decide_eq_false_iff_not]; exact hc)]
              have e : (fun k => decide (way T i (m + (k + 1)) < 10) && !decide (way T (nxt T i) (m + (k + 1)) < 10)) = (fun k => decide (way T i (m + 1 + k) < 10) && !decide (way T (nxt T i) (m + 1 + k) < 10)) := by
                funext k; rw [show m + (k + 1) = m + 1 + k by omega]
              rw [e]; omega
            rw [this]
        refine Ok_jn (fun q => q.2 = y.2 ∧ q.1 = if way T i m < 10 ∧ ¬ way T (nxt T i) m < 10 then nI m else y.2 8 i) (fun q hq => ?_) (fun k14 hk14 => ?_)
        · obtain ⟨e4, e5⟩ := hq
          rw [if_neg hin, e4, e5]
          refine Ok_nm (Ok_nm (hr2 _ ⟨?_, fun c h8 h9 => ?_, ?_, fun q hq => ?_, ?_⟩))
          · dsimp only; rw [hj1]; exact dec1 _
          · dsimp only; funext k; rw [w2_ap, if_neg (fun z => h8 z.1), f2 c h8 h9]
          · dsimp only; rw [w2_ap, if_pos ⟨rfl, rfl⟩]; exact stp.symm
          · dsimp only; rw [w2_ap, if_neg (by omega)]; exact b2 q hq
          · dsimp only; funext k; rw [w2_ap, if_neg (by omega), b3]
        · refine Ok_jn (fun q => q = y.2 ∧ ¬ (way T i m < 10 ∧ ¬ way T (nxt T i) m < 10)) (fun q hq => ?_) (fun k15 hk15 => ?_)
          · obtain ⟨rfl, hc⟩ := hq
            rw [if_neg hin]
            refine hk14 _ ⟨rfl, ?_⟩
            rw [if_neg hc]
          · simp only [wv_neg]
            refine Ok_ite (fun hc => hk15 _ ⟨rfl, fun z => hc z.1⟩) (fun hc => ?_)
            refine Ok_bindE (hasM m2 hw hb hn hm2) ?_
            simp only [wv_pos]
            refine Ok_ite (fun hd => hk15 _ ⟨rfl, fun z => z.2 hd⟩) (fun hd => ?_)
            refine hk14 _ ⟨rfl, ?_⟩
            rw [if_pos ⟨Classical.not_not.mp hc, hd⟩]
      · obtain ⟨e2, f2, b1, b2, b3⟩ := hy
        refine Ok_jn (fun q => q = y.2) (fun q hq => ?_) (fun k9 hk9 => ?_)
        · subst hq
          refine fin _ f2 ?_ b2 b3
          rw [b1, Nat.sub_self]
          unfold told
          rw [if_pos rfl]
          have e : (fun k => decide (way T i (0 + k) < 10) && !decide (way T (nxt T i) (0 + k) < 10)) = (fun k => decide (way T i k < 10) && !decide (way T (nxt T i) k < 10)) := by
            funext k; rw [Nat.zero_add]
          rw [e, Nat.zero_add]
        · rw [e2, Nat.sub_self, if_pos (by decide)]
          exact hk9 _ rfl
    · have hz : told T tl i = tW T := by
        unfold told
        by_cases ht : tl = true
        · rw [if_pos ht]
          have e : nxt T i = i := Classical.not_not.mp (fun z => hgo ⟨ht, z⟩)
          rw [e]
          refine lowF_uniq (Nat.le_refl _) (fun z => by omega) (fun j _ => by simp)
        · rw [if_neg ht]
      refine Ok_for (fun j y => y = (nI (tW T) - nI 1, σ1)) 0 0 _ rfl (by omega) (by omega) (fun rec2 j y _ hj hy hr2 => by omega) (fun rec2 y hy => ?_)
      subst hy
      dsimp only
      refine Ok_jn (fun q => q = σ1) (fun q hq => ?_) (fun k9 hk9 => ?_)
      · subst hq
        refine fin _ g1 ?_ a2 a3
        rw [a1, hz]; unfold tv; rw [if_neg (by omega)]
      · refine Ok_ite (fun _ => hk9 _ rfl) (fun _ => Ok_ite (fun _ => hk9 _ rfl) (fun hc => Ok_ite (fun _ => hk9 _ rfl) (fun hd => ?_)))
        exfalso
        apply hgo
        refine ⟨?_, fun e => hc (by rw [e])⟩
        cases tl
        · exact absurd (by decide) hd
        · rfl
  · obtain ⟨e1, f1, t1⟩ := hx
    have hx0 : x.2 0 = σ 0 := f1 0 (by omega) (by omega)
    simp only [e1, hx0, h.1.2.1]
    rw [if_pos (by rw [nI_leI (by omega) (by omega)]; exact Nat.le_refl _)]
    exact Ok_some ⟨f1, t1⟩
theorem growsM {tw : Nat} (h : MB σ b T) (hw : wfT T) (hb : b ≤ 1001) (hp : p < tN T) (ht : σ 8 p = tv tw (tW T)) : Ok (f_X4_grows (nI b) (nI p) σ) (fun q => MB q.2 b (grow T p tw (tW T)) ∧ Ms σ q.2 b) := by
  have hT := hw.1
  have hN := hw.2.1
  have hm := (hw.2.2.2.2.2 p hp).2
  have hin : ¬ (nI p < 0 ∨ 5 ≤ (nI p).toNatClampNeg) := in_nI (by omega) (by decide)
  unfold f_X4_grows
  refine Ok_for (fun i x => x.1 = nI i ∧ MB x.2 b (grow T p tw i) ∧ Ms σ x.2 b) 0 (tW T) _ ⟨rfl, h, Ms_rf⟩ (Nat.zero_le _) (by omega) (fun rec i x _ hi hx hr => ?_) (fun rec x hx => ?_)
  · obtain ⟨e1, h1, g1⟩ := hx
    have s := stat_grow (T := T) (p := p) (tw := tw) (k := i)
    have w1 : wfT (grow T p tw i) := wf_grow hw hp (by omega)
    have m1 := (w1.2.2.2.2.2 p (by rw [s.2.1]; exact hp)).2
    have hp1 : p < tN (grow T p tw i) := by rw [s.2.1]; exact hp
    have hi1 : i < tW (grow T p tw i) := by rw [s.1]; exact hi
    have t8 : x.2 8 = σ 8 := g1.1 8 (by omega)
    simp only [h1.1.1, e1, s.1]
    rw [if_neg (by rw [nI_leI (by omega) (by omega)]; omega)]
    refine Ok_bindE (hasM h1 w1 hb hp1 hi1) ?_
    dsimp only
    refine Ok_jn (fun q => MB q b (grow T p tw (i + 1)) ∧ Ms σ q b) (fun q hq => ?_) (fun k hk => ?_)
    · refine Ok_nm (hr _ ⟨?_, hq⟩)
      show nI i + 1 = nI (i + 1)
      rw [z1, nI_add]
    · simp only [wv_neg]
      by_cases hh : way (grow T p tw i) p i < 10
      · rw [if_neg (fun z => z hh), if_neg hin]
        have ha := (m1.2.2 i hi1).2 hh
        have mm : mmr (grow T p tw i) p = mmr T p := s.2.2.2.2.2 p
        have te := tv_eq (k := i) (x := tw) (W := tW T) hi hT
        refine Ok_jn (fun q => q.2 = x.2 ∧ q.1 = nI (if i = tw then 0 else age (grow T p tw i) p i + 1)) (fun q hq => ?_) (fun k2 hk2 => ?_)
        · obtain ⟨e2, e3⟩ := hq
          rw [e2, e3, mx1, mxd, if_neg (in_nI (by omega) (by decide)), nI_clamp (by omega)]
          refine Ok_nm ?_
          have h2 := MB_setA (v := (if i = tw then 0 else age (grow T p tw i) p i + 1)) h1 (by rw [s.1]; exact hT) (by rw [s.2.1]; exact hN) hp1 hi1
          have g2 : Ms σ (w2 x.2 3 (b + 18 * p + 10 + i) (nI (if i = tw then 0 else age (grow T p tw i) p i + 1))) b := Ms_tr g1 (Ms_w2 (by omega) (by omega))
          generalize hσ2 : w2 x.2 3 (b + 18 * p + 10 + i) (nI (if i = tw then 0 else age (grow T p tw i) p i + 1)) = σ2 at h2 g2 ⊢
          rw [if_neg (in_nI (by omega) (by decide)), nI_clamp (by omega), (h2.2.2 p (by rw [tN_setA]; exact hp1)).2.1, mmr_setA, mm, if_neg hin, g2.1 8 (by omega), nI_clamp (by omega), ht]
          have hlim : (if i = tw then 0 else age (grow T p tw i) p i + 1) ≤ 31 := by split <;> omega
          simp (disch := omega) only [nI_ltI, te]
          refine Ok_ite (fun hc => ?_) (fun hc => ?_)
          · refine hk _ ⟨?_, g2⟩
            have : grow T p tw (i + 1) = setA (grow T p tw i) p i (if i = tw then 0 else age (grow T p tw i) p i + 1) := by
              show grow1 _ _ _ _ = _
              unfold grow1
              rw [if_pos hh]
              by_cases hz : i = tw
              · rw [if_pos hz, if_pos hz]
              · rw [if_neg hz, if_neg hz]
                rw [if_neg hz] at hc
                rw [if_neg (by rw [mm]; omega)]
            rw [this]; exact h2
          · have hz : ¬ i = tw := fun z => by rw [if_pos z] at hc; omega
            rw [if_neg hz, gets_eq hb (by omega) (by omega)]
            have h3 := MB_drop h2 (by rw [tW_setA, s.1]; exact hT) (by rw [tN_setA, s.2.1]; exact hN) (by rw [tN_setA]; exact hp1) (by rw [tW_setA]; exact hi1)
            refine hk _ ⟨?_, Ms_tr g2 (Ms_gets (by omega) (by omega))⟩
            have : grow T p tw (i + 1) = dropT (setA (grow T p tw i) p i (if i = tw then 0 else age (grow T p tw i) p i + 1)) p i := by
              show grow1 _ _ _ _ = _
              unfold grow1
              rw [if_pos hh, if_neg hz]
              rw [if_neg hz] at hc ⊢
              rw [if_pos (by rw [mm]; omega)]
            rw [this]; exact h3
        · simp only [t8, nI_clamp (show p < 2147483648 by omega), ht, te]
          refine Ok_ite (fun hc => ?_) (fun hc => ?_)
          · rw [mx1, if_neg (in_nI (by omega) (by decide)), nI_clamp (by omega), ((h1.2.2 p hp1).2.2 i hi1).2 hh]
            refine hk2 _ ⟨rfl, ?_⟩
            rw [if_neg hc]
            show nI (age (grow T p tw i) p i) + 1 = _
            rw [z1, nI_add]
          · refine hk2 _ ⟨rfl, ?_⟩
            rw [if_pos (Classical.not_not.mp hc)]; rfl
      · rw [if_pos hh]
        refine hk _ ⟨?_, g1⟩
        have : grow T p tw (i + 1) = grow T p tw i := by
          show grow1 _ _ _ _ = _
          unfold grow1
          rw [if_neg hh]
        rw [this]; exact h1
  · obtain ⟨e1, h1, g1⟩ := hx
    have s := stat_grow (T := T) (p := p) (tw := tw) (k := tW T)
    simp only [h1.1.1, e1, s.1]
    rw [if_pos (by rw [nI_leI (by omega) (by omega)]; exact Nat.le_refl _)]
    exact Ok_some ⟨h1, g1⟩
theorem MB_day (h : MB σ b T) (hN : tN T ≤ 5) (hT : tW T ≤ 8) : MB (w2 σ 3 (b + 90) (nI v)) b (tu T 0 3 v) := by
  obtain ⟨g, d0, d⟩ := h
  have f : ∀ k, ¬ k = b + 90 → w2 σ 3 (b + 90) (nI v) 3 k = σ 3 k := fun k hk => by rw [w2_ap, if_neg (fun z => hk z.2)]
  refine ⟨?_, ?_, fun q hq => ?_⟩
  · refine MG_st (MG_fr g (by funext k; rw [w2_ap, if_neg (by omega)]) (by funext k; rw [w2_ap, if_neg (by omega)])) ?_ ?_ ?_ (fun w _ => ?_) <;> simp [tW, tN, tS, snd, tu]
  · rw [w2_ap, if_pos ⟨rfl, rfl⟩]; simp [tD, tu]
  · have hq2 : q < tN T := by simpa [tN, tu] using hq
    obtain ⟨d1, d2, d3⟩ := d q hq2
    refine ⟨?_, ?_, fun x hx => ?_⟩
    · rw [f _ (by omega), d1]; simp [knd, tu]
    · rw [f _ (by omega), d2]; simp [mmr, tu]
    · have hx2 : x < tW T := by simpa [tW, tu] using hx
      obtain ⟨e1, e2⟩ := d3 x hx2
      refine ⟨?_, fun hh => ?_⟩
      · rw [f _ (by omega), e1]; simp [way, tu]
      · rw [f _ (by omega), e2 (by simpa [way, tu] using hh)]; simp [age, tu]
theorem dayM {tl : Bool} (h : MB σ b T) (hw : wfT T) (hb : b ≤ 1001) : Ok (f_X4_goesOn (nI b) (if tl = true then 0 else 1) σ) (fun q => MB q.2 b (day T tl) ∧ Mr σ q.2 b) := by
  have hT := hw.1
  have hN := hw.2.1
  unfold f_X4_goesOn
  refine Ok_bind (tellingsM h hw hb) (fun q1 hq1 => ?_)
  obtain ⟨f1, t1⟩ := hq1
  have m1 : MB q1.2 b T := ⟨MG_fr h.1 (f1 0 (by omega) (by omega)) (f1 1 (by omega) (by omega)), by rw [f1 3 (by omega) (by omega)]; exact h.2⟩
  have r1 : Mr σ q1.2 b := ⟨fun c _ h8 h9 => f1 c h8 h9, fun k _ => by rw [f1 3 (by omega) (by omega)]⟩
  have tk : ∀ {σ1 σ2 : St}, tlOk σ1 T tl (tN T) → Ms σ1 σ2 b → tlOk σ2 T tl (tN T) := fun ht hs q hq => by rw [hs.1 8 (by omega), hs.1 9 (by omega)]; exact ht q hq
  refine Ok_for (fun i x => x.1 = nI i ∧ MB x.2 b (growA T tl i) ∧ Mr σ x.2 b ∧ tlOk x.2 T tl (tN T)) 0 (tN T) _ ⟨rfl, m1, r1, t1⟩ (Nat.zero_le _) (by omega) (fun rec i x _ hi hx hr => ?_) (fun rec x hx => ?_)
  · obtain ⟨e1, h1, g1, t1⟩ := hx
    have s := stat_growA (T := T) (tl := tl) (k := i)
    simp only [h1.1.2.1, e1, s.2.1]
    rw [if_neg (by rw [nI_leI (by omega) (by omega)]; omega)]
    refine Ok_bind (growsM h1 (wf_growA hw (by omega)) hb (by rw [s.2.1]; exact hi) (by rw [s.1]; exact (t1 i hi).1)) (fun q hq => ?_)
    rw [s.1] at hq
    refine Ok_nm (hr _ ⟨?_, hq.1, Mr_tr g1 (Mr_s hq.2), tk t1 hq.2⟩)
    show nI i + 1 = nI (i + 1); rw [z1, nI_add]
  · obtain ⟨e1, h1, g1, t1⟩ := hx
    have s0 := stat_growA (T := T) (tl := tl) (k := tN T)
    simp only [h1.1.2.1, e1, s0.2.1]
    rw [if_pos (by rw [nI_leI (by omega) (by omega)]; exact Nat.le_refl _)]
    refine Ok_for (fun i x => x.1 = nI i ∧ MB x.2 b (tellA T tl i) ∧ Mr σ x.2 b ∧ tlOk x.2 T tl (tN T)) 0 (tN T) _ ⟨rfl, h1, g1, t1⟩ (Nat.zero_le _) (by omega) (fun rec3 i x _ hi hx hr => ?_) (fun rec3 x hx => ?_)
    · obtain ⟨e1, h1, g1, t1⟩ := hx
      have s := stat_tellA (T := T) (tl := tl) (k := i)
      have hin : ¬ (nI i < 0 ∨ 5 ≤ (nI i).toNatClampNeg) := in_nI (by omega) (by decide)
      simp only [h1.1.2.1, e1, s.2.1]
      rw [if_neg (by rw [nI_leI (by omega) (by omega)]; omega), if_neg hin, nI_clamp (by omega)]
      refine Ok_jn (fun q => MB q b (tellA T tl (i + 1)) ∧ Mr σ q b ∧ tlOk q T tl (tN T)) (fun q hq => ?_) (fun k hk => ?_)
      · refine Ok_nm (hr _ ⟨?_, hq⟩)
        show nI i + 1 = nI (i + 1); rw [z1, nI_add]
      · rw [(t1 i hi).1, (t1 i hi).2]
        simp only [tv_lt hT]
        by_cases hx : told T tl i < tW T
        · have e : tv (told T tl i) (tW T) = nI (told T tl i) := by unfold tv; rw [if_pos hx]
          have hin2 : ¬ (nI i < 0 ∨ 5 ≤ i) := by rw [nI_lt0 (by omega)]; simp; omega
          rw [if_neg (fun z => z hx), if_neg (by rw [nI_eq0 (by omega)]; omega), z1, nI_add, rem_nI (by omega) (by omega) (by omega), nxt_mod hi, e]
          simp only [if_pos hx]
          refine Ok_nm ?_
          rw [if_neg hin2, if_neg hin2]
          have hy := (told_way hx).1
          have hn := nxt_lt hi
          refine Ok_bindE (hearsM h1 (wf_tellA hw (by omega)) hb (by rw [s.2.1]; exact hn) hy) ?_
          dsimp only
          rw [hear_stat s]
          refine Ok_bind (getsM h1 (wf_tellA hw (by omega)) hb (by rw [s.2.1]; exact hn) (by rw [s.1]; exact hx) (hear_lt hy)) (fun q hq => ?_)
          refine hk _ ⟨?_, Mr_tr g1 (Mr_s hq.2), tk t1 hq.2⟩
          have e2 : tellA T tl (i + 1) = give (tellA T tl i) (nxt T i) (told T tl i) (hear T (nxt T i) (way T i (told T tl i))) := by
            show (if _ then _ else _) = _
            rw [if_pos hx]
          rw [e2]; exact hq.1
        · rw [if_pos hx]
          refine hk _ ⟨?_, g1, t1⟩
          have e2 : tellA T tl (i + 1) = tellA T tl i := by
            show (if _ then _ else _) = _
            rw [if_neg hx]
          rw [e2]; exact h1
    · obtain ⟨e1, h1, g1, t1⟩ := hx
      have s := stat_tellA (T := T) (tl := tl) (k := tN T)
      have z90 : (90 : Int32) = nI 90 := rfl
      simp only [h1.1.2.1, e1, s.2.1]
      rw [if_pos (by rw [nI_leI (by omega) (by omega)]; exact Nat.le_refl _), z90, nI_add, if_neg (in_nI (by omega) (by decide)), if_neg (in_nI (by omega) (by decide)), nI_clamp (by omega), h1.2.1, tD_tellA, z1, nI_add]
      refine Ok_nm (Ok_some ⟨MB_day h1 (by rw [s.2.1]; exact hN) (by rw [s.1]; exact hT), Mr_tr g1 (Mr_s (Ms_w2 (by omega) (by omega)))⟩)
theorem daysM {k : Nat} (h : MB σ b T) (hw : wfT T) (hb : b ≤ 1001) (hk : k < 1000) : Ok (f_X4_days (nI b) (nI k) σ) (fun q => MB q.2 b (days T k) ∧ Mr σ q.2 b) := by
  unfold f_X4_days
  refine Ok_for (fun i x => x.1 = nI i ∧ MB x.2 b (days T i) ∧ Mr σ x.2 b) 0 k _ ⟨rfl, h, Mr_rf⟩ (Nat.zero_le _) (by omega) (fun rec i x _ hi hx hr => ?_) (fun rec x hx => ?_)
  · obtain ⟨e1, h1, g1⟩ := hx
    rw [e1]
    simp (disch := omega) only [nI_leI]
    rw [if_neg (by omega)]
    refine Ok_bind (dayM (tl := true) h1 (wf_days hw) hb) (fun q hq => ?_)
    refine Ok_nm (hr _ ⟨?_, hq.1, Mr_tr g1 hq.2⟩)
    show nI i + 1 = nI (i + 1); rw [z1, nI_add]
  · obtain ⟨e1, h1, g1⟩ := hx
    rw [e1, if_pos (by rw [nI_leI (by omega) (by omega)]; exact Nat.le_refl _)]
    exact Ok_some ⟨h1, g1⟩
end ML
