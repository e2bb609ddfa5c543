/-! the class: what it tells, lessons, days, mends, seats, undone, kept, heard -/
section RA
variable {σ σ' : St} {X : Nat → Nat} {n : Nat} {T T' : Tb} {U : Nat → Tb} {u : Nat} {K : Nat → Tb} {k : Nat} {H : Nat → Nat × Nat × Nat} {h : Nat}
theorem isW (hR : RC σ X n T U u K k H h) (hg : gOk X n T U u K k H h) {w : Nat} (hw : w < tW T) : f_X1_isWord 2 (nI w) σ = some (1, σ) := by
  have h8 := hg.2.1.1.1
  rcases isWord_eq (a := nI w) (by omega) hR.2.1.1 with ⟨_, e⟩ | ⟨z, _⟩
  · exact e
  · exact absurd ⟨w, hw, rfl⟩ z
theorem isWn (hR : RC σ X n T U u K k H h) (hg : gOk X n T U u K k H h) {a : Int32} (ha : ¬ inR a (tW T)) : f_X1_isWord 2 a σ = some (0, σ) := by
  have h8 := hg.2.1.1.1
  rcases isWord_eq (a := a) (by omega) hR.2.1.1 with ⟨z, _⟩ | ⟨_, e⟩
  · exact absurd z ha
  · exact e
theorem isP (hR : RC σ X n T U u K k H h) (hg : gOk X n T U u K k H h) {p : Nat} (hp : p < tN T) : f_X1_isWooer 2 (nI p) σ = some (1, σ) := by
  have h8 := hg.2.1.1.2.1
  rcases isWooer_eq (a := nI p) (by omega) hR.2.1.2.1 with ⟨_, e⟩ | ⟨z, _⟩
  · exact e
  · exact absurd ⟨p, hp, rfl⟩ z
theorem isPn (hR : RC σ X n T U u K k H h) (hg : gOk X n T U u K k H h) {a : Int32} (ha : ¬ inR a (tN T)) : f_X1_isWooer 2 a σ = some (0, σ) := by
  have h8 := hg.2.1.1.2.1
  rcases isWooer_eq (a := a) (by omega) hR.2.1.2.1 with ⟨z, _⟩ | ⟨_, e⟩
  · exact absurd z ha
  · exact e
theorem c_sound (hR : RC σ X n T U u K k H h) (hg : gOk X n T U u K k H h) {w : Nat} (hw : w < tW T) : f_X3_sound (nI w) σ = some (nI (snd T w), σ) := by
  have h8 := hg.2.1.1.1
  refine Ok_eq ?_
  unfold f_X3_sound
  refine Ok_bindE (isW hR hg hw) ?_
  dsimp only
  rw [if_neg (by decide)]
  refine Ok_bindE (at_eq (by omega) (by decide)) ?_
  dsimp only
  rw [hR.2.1.2.2.2.2.1 w hw]
  exact Ok_some rfl
theorem c_sound_bad (hR : RC σ X n T U u K k H h) (hg : gOk X n T U u K k H h) {a : Int32} (ha : ¬ inR a (tW T)) : f_X3_sound a σ = some (-1, σ) := by
  unfold f_X3_sound
  rw [isWn hR hg ha]
  rfl
/-- what 'wooer' tells -/
def wooerV (T : Tb) (p : Nat) (what : Int32) : Int32 := if what = 0 then nI (knd T p) else if what = 1 then nI (mmr T p) else if what = 2 then nI (hasB T p) else if what = 3 then nI (rgtB T p) else if what = 4 then (if tS T ≤ rgtN T p then 1 else 0) else -1
theorem c_wooer (hR : RC σ X n T U u K k H h) (hg : gOk X n T U u K k H h) {p : Nat} (hp : p < tN T) (b : Int32) : f_X3_wooer (nI p) b σ = some (wooerV T p b, σ) := by
  have h8 := hg.2.1.1.2.1
  have d := hR.2.1.2.2.2.2.2 p hp
  refine Ok_eq ?_
  unfold f_X3_wooer
  refine Ok_bindE (isP hR hg hp) ?_
  dsimp only
  rw [if_pos (by decide)]
  unfold wooerV
  refine Ok_ite (fun h0 => ?_) (fun h0 => ?_)
  · rw [if_pos h0]
    refine Ok_bindE (at_eq (by omega) (by decide)) ?_
    dsimp only; rw [d.1]; exact Ok_some rfl
  · rw [if_neg h0]
    refine Ok_ite (fun h1 => ?_) (fun h1 => ?_)
    · rw [if_pos h1]
      refine Ok_bindE (at_eq (by omega) (by decide)) ?_
      dsimp only; rw [d.2.1]; exact Ok_some rfl
    · rw [if_neg h1]
      refine Ok_ite (fun h2 => ?_) (fun h2 => ?_)
      · rw [if_pos h2]
        refine Ok_bindE (at_eq (by omega) (by decide)) ?_
        dsimp only; rw [d.2.2.1]; exact Ok_some rfl
      · rw [if_neg h2]
        refine Ok_ite (fun h3 => ?_) (fun h3 => ?_)
        · rw [if_pos h3]
          refine Ok_bindE (at_eq (by omega) (by decide)) ?_
          dsimp only; rw [d.2.2.2.1]; exact Ok_some rfl
        · rw [if_neg h3]
          refine Ok_ite (fun h4 => ?_) (fun h4 => ?_)
          · rw [if_pos h4]
            refine Ok_bindE (isSpeaker_eq hR.2.1 hg.2.1.1 hp) ?_
            dsimp only
            refine Ok_ite (fun h5 => ?_) (fun h5 => ?_)
            · rw [i1_eq0] at h5; rw [if_neg h5]; exact Ok_some rfl
            · rw [i1_eq0] at h5; rw [if_pos (Classical.not_not.mp h5)]; exact Ok_some rfl
          · rw [if_neg h4]; exact Ok_some rfl
theorem c_wooer_bad (hR : RC σ X n T U u K k H h) (hg : gOk X n T U u K k H h) {a : Int32} (ha : ¬ inR a (tN T)) (b : Int32) : f_X3_wooer a b σ = some (-1, σ) := by
  unfold f_X3_wooer
  rw [isPn hR hg ha]
  rfl
def wordV (T : Tb) (p w : Nat) (what : Int32) : Int32 := if what < 0 ∨ ¬ what ≤ 1 then -1 else if way T p w < 10 then (if what = 0 then nI (way T p w) else nI (age T p w)) else -4
theorem c_word (hR : RC σ X n T U u K k H h) (hg : gOk X n T U u K k H h) {p w : Nat} (hp : p < tN T) (hw : w < tW T) (b : Int32) : f_X3_word (nI p) (nI w) b σ = some (wordV T p w b, σ) := by
  refine Ok_eq ?_
  unfold f_X3_word
  refine Ok_bindE (isP hR hg hp) ?_
  dsimp only
  rw [if_neg (by decide)]
  refine Ok_bindE (isW hR hg hw) ?_
  dsimp only
  rw [if_neg (by decide)]
  unfold wordV
  refine Ok_ite (fun h0 => ?_) (fun h0 => ?_)
  · rw [if_pos (Or.inl h0)]; exact Ok_some rfl
  · refine Ok_ite (fun h1 => ?_) (fun h1 => ?_)
    · rw [if_neg (fun z => z.elim h0 (fun q => q h1))]
      refine Ok_bindE (holds_eq hR.2.1 hg.2.1.1 hp hw) ?_
      dsimp only
      refine Ok_ite (fun h2 => ?_) (fun h2 => ?_)
      · rw [i1_eq0] at h2
        have h2 := Classical.not_not.mp h2
        rw [if_pos h2]
        refine Ok_ite (fun h3 => ?_) (fun h3 => ?_)
        · rw [if_neg h3]
          refine Ok_bindE (ageOf_eq hR.2.1 hg.2.1.1 hp hw h2) ?_
          exact Ok_some rfl
        · rw [if_pos (Classical.not_not.mp h3)]
          refine Ok_bindE (wayOf_eq hR.2.1 hg.2.1.1 hp hw h2) ?_
          exact Ok_some rfl
      · rw [i1_eq0] at h2
        rw [if_neg (Classical.not_not.mp h2)]
        exact Ok_some rfl
    · rw [if_pos (Or.inr h1)]; exact Ok_some rfl
theorem c_word_bad (hR : RC σ X n T U u K k H h) (hg : gOk X n T U u K k H h) {a b c : Int32} (ha : ¬ (inR a (tN T) ∧ inR b (tW T))) : f_X3_word a b c σ = some (-1, σ) := by
  unfold f_X3_word
  by_cases h1 : inR a (tN T)
  · obtain ⟨p, hp, rfl⟩ := h1
    rw [isP hR hg hp]
    simp only [Option.bind_some]
    rw [if_neg (by decide), isWn hR hg (fun z => ha ⟨⟨p, hp, rfl⟩, z⟩)]
    rfl
  · rw [isPn hR hg h1]
    rfl
theorem way_teach {p w : Nat} (hw : wfT T) (hp : p < tN T) (hq : w < tW T) : way (teach T p w) p w < 10 := by
  have h8 := hw.1
  have hs := hw.2.2.2.2.1 w hq
  have hn := nxw_lt hq
  unfold teach
  split
  · rename_i hc; rw [way_give (by omega) (by omega), if_pos ⟨rfl, rfl⟩]; exact hc.2
  · split
    · rename_i hc
      rw [way_give (by omega) (by omega)]
      split
      · have := hw.2.2.2.2.1 _ hn; omega
      · rw [way_give (by omega) (by omega), if_pos ⟨rfl, rfl⟩]; exact hear_lt (by omega)
    · rw [way_give (by omega) (by omega), if_pos ⟨rfl, rfl⟩]; exact hear_lt (by omega)
theorem c_lesson (hR : RC σ X n T U u K k H h) (hg : gOk X n T U u K k H h) {p w : Nat} (hp : p < tN T) (hw : w < tW T) : Ok (f_X3_lesson (nI p) (nI w) σ) (fun q => q.1 = nI (way (teach T p w) p w) ∧ RC q.2 X n (teach T p w) (push T U) (if u < 8 then u + 1 else 8) K k H h) := by
  unfold f_X3_lesson
  refine Ok_bindE (isP hR hg hp) ?_
  dsimp only
  rw [if_neg (by decide)]
  refine Ok_bindE (isW hR hg hw) ?_
  dsimp only
  rw [if_pos (by decide)]
  refine Ok_bind (noteAct_ok hR hg) (fun q1 h1 => ?_)
  refine Ok_bind (teach_ok h1.2.1 hg.2.1.1 hp hw) (fun q2 h2 => ?_)
  have s := stat_teach (T := T) (p := p) (w := w)
  refine Ok_bindE (wayOf_eq h2.1 (wf_teach hg.2.1.1 hp hw) (by rw [s.2.1]; exact hp) (by rw [s.1]; exact hw) (way_teach hg.2.1.1 hp hw)) ?_
  exact Ok_some ⟨rfl, RC_now h1 hg.2.2.2.2.1 (Fr_wd h2.2 (Nat.le_refl _) (by omega)) h2.1⟩
theorem c_lesson_bad (hR : RC σ X n T U u K k H h) (hg : gOk X n T U u K k H h) {a b : Int32} (ha : ¬ (inR a (tN T) ∧ inR b (tW T))) : f_X3_lesson a b σ = some (-1, σ) := by
  unfold f_X3_lesson
  by_cases h1 : inR a (tN T)
  · obtain ⟨p, hp, rfl⟩ := h1
    rw [isP hR hg hp]
    simp only [Option.bind_some]
    rw [if_neg (by decide), isWn hR hg (fun z => ha ⟨⟨p, hp, rfl⟩, z⟩)]
    rfl
  · rw [isPn hR hg h1]
    rfl
theorem c_pass (hR : RC σ X n T U u K k H h) (hg : gOk X n T U u K k H h) {m : Nat} (h1 : 1 ≤ m) (h24 : m ≤ 24) : Ok (f_X3_pass (nI m) σ) (fun q => if tD T + m ≤ 999 then q.1 = nI (spkN (days T m)) ∧ RC q.2 X n (days T m) (push T U) (if u < 8 then u + 1 else 8) K k H h else q.1 = -2 ∧ RC q.2 X n T U u K k H h) := by
  have hD := hg.2.2.1
  have y24 : (24 : Int32) = nI 24 := rfl
  have y999 : (999 : Int32) = nI 999 := rfl
  unfold f_X3_pass
  rw [y24, y999, z1, hR.2.1.2.2.2.1, nI_add, if_neg (by rw [nI_ltI (by omega) (by omega)]; omega), if_pos (by rw [nI_leI (by omega) (by omega)]; omega)]
  refine Ok_ite (fun hc => ?_) (fun hc => ?_)
  · rw [nI_leI (by omega) (by omega)] at hc
    refine Ok_bind (noteAct_ok hR hg) (fun q1 h1 => ?_)
    refine Ok_bind (spend_ok h1.2.1 hg.2.1.1 (by omega)) (fun q2 h2 => ?_)
    refine Ok_bindE (speakers_eq h2.1 (wf_days hg.2.1.1)) ?_
    refine Ok_some ?_
    rw [if_pos hc]
    exact ⟨rfl, RC_now h1 hg.2.2.2.2.1 (Fr_wd h2.2 (Nat.le_refl _) (by omega)) h2.1⟩
  · rw [nI_leI (by omega) (by omega)] at hc
    refine Ok_some ?_
    rw [if_neg hc]
    exact ⟨rfl, hR⟩
theorem c_pass_bad {a : Int32} (ha : a < 1 ∨ ¬ a ≤ 24) : f_X3_pass a σ = some (-1, σ) := by
  unfold f_X3_pass
  by_cases h1 : a < 1
  · rw [if_pos h1]
  · rw [if_neg h1, if_neg (by rcases ha with z | z; exact absurd z h1; exact z)]
theorem c_mend (hR : RC σ X n T U u K k H h) (hg : gOk X n T U u K k H h) {p w : Nat} (hp : p < tN T) (hw : w < tW T) : Ok (f_X3_mend (nI p) (nI w) σ) (fun q => if way T p w < 10 ∧ way T p w ≠ snd T w then q.1 = nI (way T p w) ∧ RC q.2 X n (give T p w (snd T w)) (push T U) (if u < 8 then u + 1 else 8) K k H h else q.1 = -2 ∧ RC q.2 X n T U u K k H h) := by
  unfold f_X3_mend
  refine Ok_bindE (isP hR hg hp) ?_
  dsimp only
  rw [if_neg (by decide)]
  refine Ok_bindE (isW hR hg hw) ?_
  dsimp only
  rw [if_pos (by decide)]
  refine Ok_bindE (canRepair_eq hR.2.1 hg.2.1.1 hp hw) ?_
  dsimp only
  refine Ok_ite (fun hc => ?_) (fun hc => ?_)
  · rw [i1_eq0] at hc
    have hc := Classical.not_not.mp hc
    refine Ok_bindE (wayOf_eq hR.2.1 hg.2.1.1 hp hw hc.1) ?_
    dsimp only
    refine Ok_bind (noteAct_ok hR hg) (fun q1 h1 => ?_)
    refine Ok_bind (repair_ok h1.2.1 hg.2.1.1 hp hw) (fun q2 h2 => ?_)
    refine Ok_some ?_
    rw [if_pos hc]
    exact ⟨rfl, RC_now h1 hg.2.2.2.2.1 (Fr_wd h2.2 (Nat.le_refl _) (by omega)) h2.1⟩
  · rw [i1_eq0] at hc
    have hc := Classical.not_not.mp hc
    refine Ok_some ?_
    rw [if_neg hc]
    exact ⟨rfl, hR⟩
theorem c_mend_bad (hR : RC σ X n T U u K k H h) (hg : gOk X n T U u K k H h) {a b : Int32} (ha : ¬ (inR a (tN T) ∧ inR b (tW T))) : f_X3_mend a b σ = some (-1, σ) := by
  unfold f_X3_mend
  by_cases h1 : inR a (tN T)
  · obtain ⟨p, hp, rfl⟩ := h1
    rw [isP hR hg hp]
    simp only [Option.bind_some]
    rw [if_neg (by decide), isWn hR hg (fun z => ha ⟨⟨p, hp, rfl⟩, z⟩)]
    rfl
  · rw [isPn hR hg h1]
    rfl
theorem c_change (hR : RC σ X n T U u K k H h) (hg : gOk X n T U u K k H h) {p q : Nat} (hp : p < tN T) (hq : q < tN T) (hne : ¬ p = q) : Ok (f_X3_change (nI p) (nI q) σ) (fun x => x.1 = nI (knd (swp T p q) p) ∧ RC x.2 X n (swp T p q) (push T U) (if u < 8 then u + 1 else 8) K k H h) := by
  have h5 := hg.2.1.1.2.1
  unfold f_X3_change
  refine Ok_bindE (isP hR hg hp) ?_
  dsimp only
  rw [if_neg (by decide)]
  refine Ok_bindE (isP hR hg hq) ?_
  dsimp only
  rw [if_neg (by decide), if_pos (by rw [nI_eq (by omega) (by omega)]; exact hne)]
  refine Ok_bind (noteAct_ok hR hg) (fun q1 h1 => ?_)
  refine Ok_bind (swapSeats_ok h1.2.1 hg.2.1.1 hp hq) (fun q2 h2 => ?_)
  refine Ok_bindE (at_eq (by omega) (by decide)) ?_
  exact Ok_some ⟨(h2.1.2.2.2.2.2 p (by rw [tN_swp]; exact hp)).1, RC_now h1 hg.2.2.2.2.1 (Fr_wd h2.2 (Nat.le_refl _) (by omega)) h2.1⟩
theorem c_change_bad (hR : RC σ X n T U u K k H h) (hg : gOk X n T U u K k H h) {a b : Int32} (ha : ¬ (inR a (tN T) ∧ inR b (tN T) ∧ ¬ a = b)) : f_X3_change a b σ = some (-1, σ) := by
  unfold f_X3_change
  by_cases h1 : inR a (tN T)
  · obtain ⟨p, hp, rfl⟩ := h1
    rw [isP hR hg hp]
    simp only [Option.bind_some]
    rw [if_neg (by decide)]
    by_cases h2 : inR b (tN T)
    · obtain ⟨q, hq, rfl⟩ := h2
      rw [isP hR hg hq]
      simp only [Option.bind_some]
      rw [if_neg (by decide), if_neg (fun z => ha ⟨⟨p, hp, rfl⟩, ⟨q, hq, rfl⟩, z⟩)]
    · rw [isPn hR hg h2]
      rfl
  · rw [isPn hR hg h1]
    rfl
theorem c_undo (hR : RC σ X n T U u K k H h) (hg : gOk X n T U u K k H h) : Ok (f_X3_undo σ) (fun q => u = 0 ∧ q.1 = -2 ∧ RC q.2 X n T U u K k H h ∨ 0 < u ∧ q.1 = nI (u - 1) ∧ RC q.2 X n (U 0) (fun i => U (i + 1)) (u - 1) K k H h) := by
  obtain ⟨ra, rb, ⟨eu, lt, hl, el, cr⟩, rd, re⟩ := id hR
  have hu := hg.2.2.2.1
  have hk := hg.2.2.2.2.1
  unfold f_X3_undo
  rw [eu]
  refine Ok_ite (fun hc => ?_) (fun hc => ?_)
  · rw [z0, nI_ltI (by omega) (by omega)] at hc
    have hU := (hg.2.2.2.2.2.2.1 0 hc).1
    refine Ok_nm ?_
    have ei : ((σ 208 1 + (8 : Int32)) - (1 : Int32)) - ((σ 208 1 + (8 : Int32)) - (1 : Int32)) / (8 : Int32) * (8 : Int32) = nI ((lt + 7) % 8) := by
      rw [el, z8, nI_add, z1, pk_sub (by omega), rem_nI (by omega) (by omega) (by omega)]; rfl
    rw [ei]
    have e1 : w2 σ 208 1 (nI ((lt + 7) % 8)) 208 1 = nI ((lt + 7) % 8) := by rw [w2_ap, if_pos ⟨rfl, rfl⟩]
    rw [e1]
    have oo : ∀ c, ¬ c = 208 → w2 σ 208 1 (nI ((lt + 7) % 8)) c = σ c := fun c hc => by funext x; rw [w2_ap, if_neg (fun z => hc z.1)]
    refine Ok_bindE (tableAt_eq (by omega) (by decide)) ?_
    dsimp only
    have c0 : CR (w2 σ 208 1 (nI ((lt + 7) % 8))) (111 + 1 + 9 * ((lt + 7) % 8)) (U 0) := CR_fr (cr 0 hc) (fun c h1 h2 => oo c (by omega))
    refine Ok_bind (copy_ok c0 hU (Or.inr (by omega))) (fun q1 h1 => ?_)
    obtain ⟨c1, f1⟩ := h1
    refine Ok_nm (Ok_some (Or.inr ⟨hc, ?_, ?_⟩))
    · dsimp only
      rw [w2_ap, if_pos ⟨rfl, rfl⟩, f1 208 (by omega), w2_ap, if_neg (by omega), eu, z1, pk_sub (by omega)]
    · dsimp only
      have o2 : ∀ c, ¬ c = 208 → w2 q1.2 208 0 (q1.2 208 0 - (1 : Int32)) c = q1.2 c := fun c hc => by funext x; rw [w2_ap, if_neg (fun z => hc z.1)]
      have o3 : ∀ c, ¬ c = 208 → 10 ≤ c → w2 q1.2 208 0 (q1.2 208 0 - (1 : Int32)) c = σ c := fun c h2 h3 => by rw [o2 c h2, f1 c (by omega), oo c h2]
      have o4 : ∀ c, c < 2 → w2 q1.2 208 0 (q1.2 208 0 - (1 : Int32)) c = σ c := fun c h2 => by rw [o2 c (by omega), f1 c (by omega), oo c (by omega)]
      refine ⟨RCx_fr ra (o4 0 (by omega)) (o4 1 (by omega)), CR_fr c1 (fun c h2 h3 => o2 c (by omega)), ⟨?_, (lt + 7) % 8, by omega, ?_, fun i hi => ?_⟩, RCk_fr rd hk ?_ (fun c h2 h3 => o3 c (by omega) (by omega)), RCh_fr re (fun c h2 h3 => o3 c (by omega) (by omega))⟩
      · rw [w2_ap, if_pos ⟨rfl, rfl⟩, f1 208 (by omega), w2_ap, if_neg (by omega), eu, z1, pk_sub (by omega)]
      · rw [w2_ap, if_neg (by omega), f1 208 (by omega), w2_ap, if_pos ⟨rfl, rfl⟩]
      · have e5 : ((lt + 7) % 8 + 7 - i) % 8 = (lt + 7 - (i + 1)) % 8 := by omega
        rw [e5]
        exact CR_fr (cr (i + 1) (by omega)) (fun c h2 h3 => o3 c (by omega) (by omega))
      · rw [w2_ap, if_neg (by omega), f1 208 (by omega), w2_ap, if_neg (by omega)]
  · rw [z0, nI_ltI (by omega) (by omega)] at hc
    exact Ok_some (Or.inl ⟨by omega, rfl, hR⟩)
theorem c_keep (hR : RC σ X n T U u K k H h) (hg : gOk X n T U u K k H h) : Ok (f_X3_keep σ) (fun q => k = 2 ∧ q.1 = -3 ∧ RC q.2 X n T U u K k H h ∨ k < 2 ∧ q.1 = nI (k + 1) ∧ RC q.2 X n T U u (fun i => if i = k then T else K i) (k + 1) H h) := by
  obtain ⟨ra, rb, rc, rd, re⟩ := id hR
  have hk := hg.2.2.2.2.1
  unfold f_X3_keep
  rw [rd.1]
  refine Ok_ite (fun hc => ?_) (fun hc => ?_)
  · rw [z2, nI_ltI (by omega) (by omega)] at hc
    refine Ok_bindE (tableAt_eq hc (by decide)) ?_
    dsimp only
    refine Ok_bind (copyInto_ok rb hg.2.1.1 (by omega)) (fun q1 h1 => ?_)
    obtain ⟨c1, f1⟩ := h1
    have e1 : w2 q1.2 208 2 (q1.2 208 2 + (1 : Int32)) 208 2 = nI (k + 1) := by
      rw [w2_ap, if_pos ⟨rfl, rfl⟩, f1 208 (by omega), rd.1, z1, nI_add]
    have oo : ∀ c x, ¬ (c = 208 ∧ x = 2) → w2 q1.2 208 2 (q1.2 208 2 + (1 : Int32)) c x = q1.2 c x := fun c x hc => by rw [w2_ap, if_neg hc]
    have o2 : ∀ c, ¬ c = 208 → w2 q1.2 208 2 (q1.2 208 2 + (1 : Int32)) c = q1.2 c := fun c hc => by funext x; exact oo c x (fun z => hc z.1)
    refine Ok_nm (Ok_some (Or.inr ⟨hc, e1, ?_⟩))
    dsimp only
    refine ⟨RCx_fr ra ((o2 0 (by omega)).trans (f1 0 (by omega))) ((o2 1 (by omega)).trans (f1 1 (by omega))), CR_fr rb (fun c h1 h2 => (o2 c (by omega)).trans (f1 c (by omega))), RCu_fr rc ((oo 208 0 (by omega)).trans (by rw [f1 208 (by omega)])) ((oo 208 1 (by omega)).trans (by rw [f1 208 (by omega)])) (fun c h1 h2 => (o2 c (by omega)).trans (f1 c (by omega))), ⟨e1, fun i hi => ?_⟩, RCh_fr re (fun c h1 h2 => (o2 c (by omega)).trans (f1 c (by omega)))⟩
    by_cases hik : i = k
    · subst hik
      dsimp only
      rw [if_pos rfl]
      exact CR_fr c1 (fun c h1 h2 => o2 c (by omega))
    · dsimp only
      rw [if_neg hik]
      exact CR_fr (rd.2 i (by omega)) (fun c h1 h2 => (o2 c (by omega)).trans (f1 c (by omega)))
  · rw [z2, nI_ltI (by omega) (by omega)] at hc
    exact Ok_some (Or.inl ⟨by omega, rfl, hR⟩)
theorem c_back (hR : RC σ X n T U u K k H h) (hg : gOk X n T U u K k H h) : Ok (f_X3_back σ) (fun q => k = 0 ∧ q.1 = -2 ∧ RC q.2 X n T U u K k H h ∨ 0 < k ∧ q.1 = nI (k - 1) ∧ RC q.2 X n (K (k - 1)) U 0 K (k - 1) H h) := by
  obtain ⟨ra, rb, ⟨eu, lt, hl, el, cr⟩, rd, re⟩ := id hR
  have hk := hg.2.2.2.2.1
  unfold f_X3_back
  rw [rd.1]
  refine Ok_ite (fun hc => ?_) (fun hc => ?_)
  · rw [z0, nI_ltI (by omega) (by omega)] at hc
    have hK := (hg.2.2.2.2.2.2.2.1 (k - 1) (by omega)).1
    refine Ok_nm ?_
    rw [z1, pk_sub (by omega)]
    have e1 : w2 σ 208 2 (nI (k - 1)) 208 2 = nI (k - 1) := by rw [w2_ap, if_pos ⟨rfl, rfl⟩]
    rw [e1]
    have oo : ∀ c, ¬ c = 208 → w2 σ 208 2 (nI (k - 1)) c = σ c := fun c hc => by funext x; rw [w2_ap, if_neg (fun z => hc z.1)]
    refine Ok_bindE (tableAt_eq (by omega) (by decide)) ?_
    dsimp only
    have c0 : CR (w2 σ 208 2 (nI (k - 1))) (184 + 1 + 9 * (k - 1)) (K (k - 1)) := CR_fr (rd.2 (k - 1) (by omega)) (fun c h1 h2 => oo c (by omega))
    refine Ok_bind (copy_ok c0 hK (Or.inr (by omega))) (fun q1 h1 => ?_)
    obtain ⟨c1, f1⟩ := h1
    have o2 : ∀ c, ¬ c = 208 → w2 q1.2 208 0 (0 : Int32) c = q1.2 c := fun c hc => by funext x; rw [w2_ap, if_neg (fun z => hc z.1)]
    have o3 : ∀ c, ¬ c = 208 → (c < 2 ∨ 10 ≤ c) → w2 q1.2 208 0 (0 : Int32) c = σ c := fun c h2 h3 => by rw [o2 c h2, f1 c (by omega), oo c h2]
    refine Ok_nm (Ok_some (Or.inr ⟨hc, ?_, ?_⟩))
    · dsimp only; rw [w2_ap, if_neg (by omega), f1 208 (by omega)]; exact e1
    · dsimp only
      refine ⟨RCx_fr ra (o3 0 (by omega) (by omega)) (o3 1 (by omega) (by omega)), CR_fr c1 (fun c h2 h3 => o2 c (by omega)), ⟨?_, lt, hl, ?_, fun i hi => by omega⟩, ⟨?_, fun i hi => ?_⟩, RCh_fr re (fun c h2 h3 => o3 c (by omega) (by omega))⟩
      · rw [w2_ap, if_pos ⟨rfl, rfl⟩]; rfl
      · rw [w2_ap, if_neg (by omega), f1 208 (by omega), w2_ap, if_neg (by omega)]; exact el
      · rw [w2_ap, if_neg (by omega), f1 208 (by omega)]; exact e1
      · exact CR_fr (rd.2 i (by omega)) (fun c h2 h3 => o3 c (by omega) (by omega))
  · rw [z0, nI_ltI (by omega) (by omega)] at hc
    exact Ok_some (Or.inl ⟨by omega, rfl, hR⟩)
def countV (n : Nat) (T : Tb) (u k h : Nat) (a : Int32) : Int32 := if a = 0 then nI (tW T) else if a = 1 then nI (tN T) else if a = 2 then nI (tS T) else if a = 3 then nI (tD T) else if a = 4 then nI (spkN T) else if a = 5 then nI (allRN T) else if a = 6 then nI (allHN T) else if a = 7 then nI h else if a = 8 then nI u else if a = 9 then nI k else if a = 10 then nI n else -1
theorem c_count (hR : RC σ X n T U u K k H h) (hg : gOk X n T U u K k H h) (a : Int32) : f_X3_count a σ = some (countV n T u k h a, σ) := by
  obtain ⟨⟨i, b, r⟩, rb, rc, rd, re⟩ := hR
  unfold f_X3_count countV
  rw [rb.1, rb.2.1, rb.2.2.1, rb.2.2.2.1, speakers_eq rb hg.2.1.1, allRight_eq rb hg.2.1.1, allHad_eq rb hg.2.1.1, re.1, rc.1, rd.1, r.1]
  simp only [Option.bind_some]
  by_cases h0 : a = 0
  · rw [if_pos h0, if_pos h0]
  rw [if_neg h0, if_neg h0]
  by_cases h1 : a = 1
  · rw [if_pos h1, if_pos h1]
  rw [if_neg h1, if_neg h1]
  by_cases h2 : a = 2
  · rw [if_pos h2, if_pos h2]
  rw [if_neg h2, if_neg h2]
  by_cases h3 : a = 3
  · rw [if_pos h3, if_pos h3]
  rw [if_neg h3, if_neg h3]
  by_cases h4 : a = 4
  · rw [if_pos h4, if_pos h4]
  rw [if_neg h4, if_neg h4]
  by_cases h5 : a = 5
  · rw [if_pos h5, if_pos h5]
  rw [if_neg h5, if_neg h5]
  by_cases h6 : a = 6
  · rw [if_pos h6, if_pos h6]
  rw [if_neg h6, if_neg h6]
  by_cases h7 : a = 7
  · rw [if_pos h7, if_pos h7]
  rw [if_neg h7, if_neg h7]
  by_cases h8 : a = 8
  · rw [if_pos h8, if_pos h8]
  rw [if_neg h8, if_neg h8]
  by_cases h9 : a = 9
  · rw [if_pos h9, if_pos h9]
  rw [if_neg h9, if_neg h9]
  by_cases h10 : a = 10
  · rw [if_pos h10, if_pos h10]
  rw [if_neg h10, if_neg h10]
theorem c_hear (hR : RC σ X n T U u K k H h) (hg : gOk X n T U u K k H h) {w v d : Nat} (hw : w < tW T) (hv : v ≤ 10) (hd : d ≤ 20) : Ok (f_X3_hear (nI w) (nI v) (nI d) σ) (fun q => h = 6 ∧ q.1 = -3 ∧ RC q.2 X n T U u K k H h ∨ h < 6 ∧ q.1 = nI (h + 1) ∧ RC q.2 X n T U u K k (fun i => if i = h then (w, v, d) else H i) (h + 1)) := by
  obtain ⟨ra, rb, rc, rd, re⟩ := id hR
  have hk := hg.2.2.2.2.1
  have h6 := hg.2.2.2.2.2.1
  have y20 : (20 : Int32) = nI 20 := rfl
  unfold f_X3_hear
  refine Ok_bindE (isW hR hg hw) ?_
  dsimp only
  rw [if_neg (by decide), if_neg (by rw [nI_lt0 (by omega)]; simp), if_neg (by rw [z10, nI_ltI (by omega) (by omega)]; omega), if_neg (by rw [nI_lt0 (by omega)]; simp), if_pos (by rw [y20, nI_leI (by omega) (by omega)]; omega)]
  unfold f_X0_add
  by_cases hl : h < 6
  · rw [if_pos (by rw [re.1, z6, nI_ltI (by omega) (by omega)]; exact hl), re.1]
    refine Ok_bind (P := fun q => q = ((1 : Int32), w2 (w2 (w2 (w2 σ 204 h (nI w)) 205 h (nI v)) 206 h (nI d)) 203 0 (nI (h + 1)))) ?_ (fun q hq => ?_)
    · refine Ok_bindE (put_eq hl (by decide)) ?_
      dsimp only
      rw [w2_ap, if_neg (by omega), re.1]
      refine Ok_bindE (put_eq hl (by decide)) ?_
      dsimp only
      rw [w2_ap, if_neg (by omega), w2_ap, if_neg (by omega), re.1]
      refine Ok_bindE (put_eq hl (by decide)) ?_
      refine Ok_nm (Ok_some ?_)
      dsimp only
      rw [w2_ap, if_neg (by omega), w2_ap, if_neg (by omega), w2_ap, if_neg (by omega), re.1, z1, nI_add]
    · subst hq
      dsimp only
      rw [if_neg (by decide)]
      have e1 : w2 (w2 (w2 (w2 σ 204 h (nI w)) 205 h (nI v)) 206 h (nI d)) 203 0 (nI (h + 1)) 203 0 = nI (h + 1) := by rw [w2_ap, if_pos ⟨rfl, rfl⟩]
      have oo : ∀ c, (c < 203 ∨ 207 ≤ c) → w2 (w2 (w2 (w2 σ 204 h (nI w)) 205 h (nI v)) 206 h (nI d)) 203 0 (nI (h + 1)) c = σ c := fun c hc => by funext x; rw [w2_ap, if_neg (by omega), w2_ap, if_neg (by omega), w2_ap, if_neg (by omega), w2_ap, if_neg (by omega)]
      refine Ok_some (Or.inr ⟨hl, e1, RCx_fr ra (oo 0 (by omega)) (oo 1 (by omega)), CR_fr rb (fun c h1 h2 => oo c (by omega)), RCu_fr rc (by dsimp only; rw [oo 208 (by omega)]) (by dsimp only; rw [oo 208 (by omega)]) (fun c h1 h2 => oo c (by omega)), RCk_fr rd hk (by dsimp only; rw [oo 208 (by omega)]) (fun c h1 h2 => oo c (by omega)), e1, fun i hi => ?_⟩)
      dsimp only
      by_cases hih : i = h
      · subst hih
        rw [if_pos rfl]
        refine ⟨?_, ?_, ?_⟩
        · rw [w2_ap, if_neg (by omega), w2_ap, if_neg (by omega), w2_ap, if_neg (by omega), w2_ap, if_pos ⟨rfl, rfl⟩]
        · rw [w2_ap, if_neg (by omega), w2_ap, if_neg (by omega), w2_ap, if_pos ⟨rfl, rfl⟩]
        · rw [w2_ap, if_neg (by omega), w2_ap, if_pos ⟨rfl, rfl⟩]
      · rw [if_neg hih]
        have d := re.2 i (by omega)
        refine ⟨?_, ?_, ?_⟩
        · rw [w2_ap, if_neg (by omega), w2_ap, if_neg (by omega), w2_ap, if_neg (by omega), w2_ap, if_neg (by omega)]; exact d.1
        · rw [w2_ap, if_neg (by omega), w2_ap, if_neg (by omega), w2_ap, if_neg (by omega), w2_ap, if_neg (by omega)]; exact d.2.1
        · rw [w2_ap, if_neg (by omega), w2_ap, if_neg (by omega), w2_ap, if_neg (by omega), w2_ap, if_neg (by omega)]; exact d.2.2
  · rw [if_neg (by rw [re.1, z6, nI_ltI (by omega) (by omega)]; exact hl)]
    show Ok (some _) _
    exact Ok_some (Or.inl ⟨by omega, rfl, hR⟩)
theorem c_hear_bad (hR : RC σ X n T U u K k H h) (hg : gOk X n T U u K k H h) {a b c : Int32} (ha : ¬ inR a (tW T) ∨ b < 0 ∨ 10 < b ∨ c < 0 ∨ ¬ c ≤ 20) : f_X3_hear a b c σ = some (-1, σ) := by
  unfold f_X3_hear
  by_cases h1 : inR a (tW T)
  · obtain ⟨w, hw, rfl⟩ := h1
    rw [isW hR hg hw]
    simp only [Option.bind_some]
    rw [if_neg (by decide)]
    by_cases h2 : b < 0
    · rw [if_pos h2]
    · rw [if_neg h2]
      by_cases h3 : 10 < b
      · rw [if_pos h3]
      · rw [if_neg h3]
        by_cases h4 : c < 0
        · rw [if_pos h4]
        · rw [if_neg h4, if_neg]
          rcases ha with z | z | z | z | z
          · exact absurd ⟨w, hw, rfl⟩ z
          · exact absurd z h2
          · exact absurd z h3
          · exact absurd z h4
          · exact z
  · rw [isWn hR hg h1]
    rfl
theorem c_forget (hR : RC σ X n T U u K k H h) (hg : gOk X n T U u K k H h) : Ok (f_X3_forget σ) (fun q => q.1 = nI h ∧ RC q.2 X n T U u K k H 0) := by
  obtain ⟨ra, rb, rc, rd, re⟩ := id hR
  have hk := hg.2.2.2.2.1
  unfold f_X3_forget
  have oo : ∀ c, ¬ c = 203 → w2 σ 203 0 (0 : Int32) c = σ c := fun c hc => by funext x; rw [w2_ap, if_neg (fun z => hc z.1)]
  refine Ok_nm (Ok_nm (Ok_some ⟨re.1, RCx_fr ra (oo 0 (by omega)) (oo 1 (by omega)), CR_fr rb (fun c h1 h2 => oo c (by omega)), RCu_fr rc (by dsimp only; rw [oo 208 (by omega)]) (by dsimp only; rw [oo 208 (by omega)]) (fun c h1 h2 => oo c (by omega)), RCk_fr rd hk (by dsimp only; rw [oo 208 (by omega)]) (fun c h1 h2 => oo c (by omega)), ?_, fun i hi => by omega⟩))
  dsimp only
  rw [w2_ap, if_pos ⟨rfl, rfl⟩]; rfl
end RA
