/-! the class: tests, what was heard, rows of lessons, hail, years -/
/-- how many pairs come ahead of those of p -/
def cpN (N : Nat) : Nat → Nat
  | 0 => 0
  | p + 1 => cpN N p + (N - (p + 1))
theorem cpN_lt : ∀ N, N < 6 → ∀ p, p < N → ∀ j, j < N - (p + 1) → cpN N p + j < 10 := by decide
theorem cpN_le : ∀ N, N < 6 → ∀ p, p ≤ N → cpN N p ≤ 10 := by decide
/-- the pairs p, p + 1 + j told up to now are those noted in the row 207, m of them -/
def prs (σ : St) (T : Tb) (P J m : Nat) : Prop := (∀ i, i < m → ∃ p q, p < q ∧ q < tN T ∧ (p < P ∨ p = P ∧ q < P + 1 + J) ∧ σ 207 i = nI (diffB T p q)) ∧ ∀ p q, p < q → q < tN T → (p < P ∨ p = P ∧ q < P + 1 + J) → ∃ i, i < m ∧ σ 207 i = nI (diffB T p q)
section RM1
variable {σ σ' : St} {X : Nat → Nat} {n : Nat} {T T' : Tb} {U : Nat → Tb} {u : Nat} {K : Nat → Tb} {k : Nat} {H : Nat → Nat × Nat × Nat} {h : Nat}
theorem RC_pairs (hR : RC σ X n T U u K k H h) (hk : k ≤ 2) (hf : ∀ c, ¬ c = 207 → σ' c = σ c) : RC σ' X n T U u K k H h := RC_scr hR hk (fun c _ hc => hf c hc)
theorem comparePairs_ok (hR : RC σ X n T U u K k H h) (hg : gOk X n T U u K k H h) : Ok (f_X3_comparePairs σ) (fun q => ∃ m, m ≤ 10 ∧ q.1 = nI m ∧ (∀ c, ¬ c = 207 → q.2 c = σ c) ∧ prs q.2 T (tN T) 0 m) := by
  have h5 := hg.2.1.1.2.1
  have hk := hg.2.2.2.2.1
  unfold f_X3_comparePairs
  refine Ok_for (fun p b => b.1 = nI (cpN (tN T) p) ∧ b.2.1 = nI p ∧ (∀ c, ¬ c = 207 → b.2.2 c = σ c) ∧ prs b.2.2 T p 0 (cpN (tN T) p)) 0 (tN T) _ ⟨rfl, rfl, fun _ _ => rfl, fun i hi => by simp [cpN] at hi, fun p q h1 h2 h3 => by omega⟩ (Nat.zero_le _) (by omega) (fun rec p b _ hp hb hr => ?_) (fun rec b hb => ?_)
  · obtain ⟨e1, e2, f1, p1⟩ := hb
    have R1 := RC_pairs hR hk f1
    simp (disch := omega) only [R1.2.1.2.1, e2, nI_leI]
    rw [if_neg (by omega)]
    refine Ok_nm ?_
    refine Ok_for (fun j b => b.1 = nI (cpN (tN T) p + j) ∧ b.2.1 = nI (p + 1 + j) ∧ (∀ c, ¬ c = 207 → b.2.2 c = σ c) ∧ prs b.2.2 T p j (cpN (tN T) p + j)) 0 (tN T - (p + 1)) _ ⟨e1, by rw [z1, nI_add], f1, p1⟩ (Nat.zero_le _) (by omega) (fun rec2 j b2 _ hj hb2 hr2 => ?_) (fun rec2 b2 hb2 => ?_)
    · obtain ⟨g1, g2, f2, p2⟩ := hb2
      have R2 := RC_pairs hR hk f2
      have hlt := cpN_lt (tN T) (by omega) p hp j hj
      simp (disch := omega) only [R2.2.1.2.1, g2, nI_leI]
      rw [if_neg (by omega), g1]
      refine Ok_bindE (differing_eq R2.2.1 hg.2.1.1 hp (by omega)) ?_
      dsimp only
      refine Ok_bindE (put_eq hlt (by decide)) ?_
      refine Ok_nm (Ok_nm (hr2 _ ⟨?_, ?_, fun c hc => ?_, ?_⟩))
      · show nI (cpN (tN T) p + j) + 1 = _; rw [z1, nI_add]; rfl
      · show nI (p + 1 + j) + 1 = _; rw [z1, nI_add]; rfl
      · dsimp only; funext x; rw [w2_ap, if_neg (fun z => hc z.1), f2 c hc]
      · dsimp only
        refine ⟨fun i hi => ?_, fun a q h1 h2 h3 => ?_⟩
        · by_cases him : i = cpN (tN T) p + j
          · subst him
            exact ⟨p, p + 1 + j, by omega, by omega, Or.inr ⟨rfl, by omega⟩, by rw [w2_ap, if_pos ⟨rfl, rfl⟩]⟩
          · obtain ⟨a, q, h1, h2, h3, h4⟩ := p2.1 i (by omega)
            exact ⟨a, q, h1, h2, by omega, by rw [w2_ap, if_neg (fun z => him z.2)]; exact h4⟩
        · by_cases hap : a = p ∧ q = p + 1 + j
          · obtain ⟨rfl, rfl⟩ := hap
            exact ⟨cpN (tN T) a + j, by omega, by rw [w2_ap, if_pos ⟨rfl, rfl⟩]⟩
          · obtain ⟨i, hi, h4⟩ := p2.2 a q h1 h2 (by omega)
            exact ⟨i, by omega, by rw [w2_ap, if_neg (by omega)]; exact h4⟩
    · obtain ⟨g1, g2, f2, p2⟩ := hb2
      have R2 := RC_pairs hR hk f2
      simp only [R2.2.1.2.1, g2]
      rw [if_pos (by rw [nI_leI (by omega) (by omega)]; omega)]
      refine Ok_nm (hr _ ⟨g1, ?_, f2, ?_⟩)
      · show nI p + 1 = nI (p + 1); rw [z1, nI_add]
      · show prs _ _ _ _ (cpN (tN T) p + (tN T - (p + 1)))
        refine ⟨fun i hi => ?_, fun a q h1 h2 h3 => ?_⟩
        · obtain ⟨a, q, h1, h2, h3, h4⟩ := p2.1 i hi
          exact ⟨a, q, h1, h2, by omega, h4⟩
        · exact p2.2 a q h1 h2 (by omega)
  · obtain ⟨e1, e2, f1, p1⟩ := hb
    have R1 := RC_pairs hR hk f1
    simp only [R1.2.1.2.1, e2]
    rw [if_pos (by rw [nI_leI (by omega) (by omega)]; exact Nat.le_refl _)]
    exact Ok_some ⟨cpN (tN T) (tN T), cpN_le _ (by omega) _ (Nat.le_refl _), e1, f1, p1⟩
theorem diffB_lt {p q : Nat} (h8 : tW T ≤ 8) : diffB T p q < 256 := bs256 _ h8
theorem and_lt {a b : Nat} (ha : a < 256) : a &&& b < 2147483648 := Nat.lt_of_le_of_lt Nat.and_le_left (by omega)
theorem partsAll_ok {s m : Nat} (h8 : tW T ≤ 8) (hm : m ≤ 10) (hp : prs σ T (tN T) 0 m) (hs : s < 256) : f_X3_partsAll (nI s) (nI m) σ = some (if apB T s = true then 1 else 0, σ) := by
  refine Ok_eq ?_
  unfold f_X3_partsAll
  have key : apB T s = true ↔ ∀ i, i < m → ∀ x, x < 256 → σ 207 i = nI x → ¬ x &&& s = 0 := by
    unfold apB
    rw [allB_iff]
    constructor
    · intro hz i hi x hx ex
      obtain ⟨p, q, h1, h2, _, h4⟩ := hp.1 i hi
      have h5 := allB_iff.mp (hz q h2) p h1
      have h6 := diffB_lt (T := T) (p := p) (q := q) h8
      have : x = diffB T p q := (nI_eq (by omega) (by omega)).mp (ex.symm.trans h4)
      rw [this]
      simpa using h5
    · intro hz q hq
      rw [allB_iff]
      intro p hpq
      obtain ⟨i, hi, e⟩ := hp.2 p q hpq hq (Or.inl (by omega))
      have := hz i hi _ (diffB_lt h8) e
      simpa using this
  refine Ok_for (fun i b => b = (nI i, σ) ∧ ∀ j, j < i → ∀ x, x < 256 → σ 207 j = nI x → ¬ x &&& s = 0) 0 m _ ⟨rfl, fun j hj => by omega⟩ (Nat.zero_le _) (by omega) (fun rec i b _ hi hb hr => ?_) (fun rec b hb => ?_)
  · obtain ⟨rfl, hno⟩ := hb
    dsimp only
    rw [if_neg (by rw [nI_leI (by omega) (by omega)]; omega)]
    refine Ok_bindE (at_eq (by omega) (by decide)) ?_
    dsimp only
    obtain ⟨p, q, h1, h2, _, h4⟩ := hp.1 i hi
    have hd := diffB_lt (T := T) (p := p) (q := q) h8
    rw [h4, fa_and]
    refine Ok_ite (fun hc => ?_) (fun hc => ?_)
    · rw [nI_eq0 (and_lt hd)] at hc
      refine Ok_nm (hr _ ⟨?_, fun j hj x hx ex => ?_⟩)
      · rw [z1, nI_add]
      · by_cases hji : j = i
        · subst hji
          have : x = diffB T p q := (nI_eq (by omega) (by omega)).mp (ex.symm.trans h4)
          rw [this]; exact hc
        · exact hno j (by omega) x hx ex
    · rw [nI_eq0 (and_lt hd)] at hc
      refine Ok_some ?_
      rw [if_neg]
      intro z
      exact key.mp z i hi _ hd h4 (Classical.not_not.mp hc)
  · obtain ⟨rfl, hno⟩ := hb
    dsimp only
    rw [if_pos (by rw [nI_leI (by omega) (by omega)]; exact Nat.le_refl _)]
    refine Ok_some ?_
    rw [if_pos (key.mpr hno)]
def tsV (s : Option Nat) (f : Nat → Nat) : Int32 := match s with
  | none => -4
  | some a => nI (f a)
theorem tsF_lt {T : Tb} {j a : Nat} (ha : tsF T j = some a) : a < j := by
  induction j with
  | zero => cases ha
  | succ j ih =>
    unfold tsF at ha
    split at ha
    · cases ha; omega
    · have := ih ha; omega
theorem c_tests (hR : RC σ X n T U u K k H h) (hg : gOk X n T U u K k H h) {a : Int32} (ha : ¬ a < 0) (hb : a ≤ 1) : Ok (f_X3_tests a σ) (fun q => q.1 = (if a = 0 then tsV (tsF T (2 ^ tW T)) pc else tsV (tsF T (2 ^ tW T)) id) ∧ RC q.2 X n T U u K k H h) := by
  have hk := hg.2.2.2.2.1
  have h8 := hg.2.1.1.1
  have hp8 : 2 ^ tW T ≤ 256 := by
    have : 2 ^ tW T ≤ 2 ^ 8 := Nat.pow_le_pow_right (by decide) h8
    simpa using this
  unfold f_X3_tests
  rw [if_neg ha, if_pos hb]
  refine Ok_bind (comparePairs_ok hR hg) (fun q1 h1 => ?_)
  obtain ⟨m, hm, em, f1, p1⟩ := h1
  have R1 := RC_pairs hR hk f1
  rw [em]
  refine Ok_for (fun s b => b = (tsV (tsF T s) pc, tsV (tsF T s) id, nI s, q1.2)) 0 (2 ^ tW T) _ rfl (Nat.zero_le _) (by omega) (fun rec s b _ hs hb hr => ?_) (fun rec b hb => ?_)
  · subst hb
    dsimp only
    simp only [R1.2.1.1, shl1 (tW T) (by omega)]
    rw [if_neg (by rw [nI_leI (by omega) (by omega)]; omega)]
    refine Ok_bindE (bc_eq q1.2 s (by omega)) ?_
    dsimp only
    have hpc := pc_le s
    refine Ok_jn (fun q => q = (tsV (tsF T (s + 1)) pc, tsV (tsF T (s + 1)) id, q1.2)) (fun q hq => ?_) (fun k8 hk8 => ?_)
    · subst hq
      refine Ok_nm (hr _ ?_)
      dsimp only
      rw [z1, nI_add]
    · refine Ok_jn (fun q => q = q1.2 ∧ (tsF T s = none ∨ ∃ a, tsF T s = some a ∧ pc s < pc a)) (fun q hq => ?_) (fun k9 hk9 => ?_)
      · obtain ⟨rfl, hq⟩ := hq
        refine Ok_bindE (partsAll_ok h8 hm p1 (by omega)) ?_
        dsimp only
        refine Ok_ite (fun hc => ?_) (fun hc => ?_)
        · rw [i1_eq0] at hc
          refine hk8 _ ?_
          have : tsF T (s + 1) = tsF T s := by
            show (if _ then _ else _) = _
            rw [if_neg (fun z => hc z.2)]
          rw [this]
        · rw [i1_eq0] at hc
          have hc := Classical.not_not.mp hc
          refine hk8 _ ?_
          have : tsF T (s + 1) = some s := by
            show (if _ then _ else _) = _
            rw [if_pos ⟨hq, hc⟩]
          rw [this]; rfl
      · have skip : (¬ (tsF T s = none ∨ ∃ a, tsF T s = some a ∧ pc s < pc a)) → tsF T (s + 1) = tsF T s := fun hz => by
          show (if _ then _ else _) = _
          rw [if_neg (fun z => hz z.1)]
        cases hts : tsF T s with
        | none =>
          show Ok (if (-4 : Int32) = -4 then _ else _) _
          rw [if_pos rfl]
          exact hk9 _ ⟨rfl, Or.inl hts⟩
        | some b =>
          have hpb := pc_le b
          show Ok (if nI (pc b) = -4 then _ else (if nI (pc b) ≤ nI (pc s) then _ else _)) _
          rw [if_neg (fun z => m4_lt (pc b) (by omega) (by rw [z]; exact Int32.le_refl _))]
          refine Ok_ite (fun hc => ?_) (fun hc => ?_)
          · rw [nI_leI (by omega) (by omega)] at hc
            refine hk8 _ ?_
            rw [skip (fun z => by
              rcases z with z | ⟨c, z, z2⟩
              · rw [hts] at z; cases z
              · rw [hts] at z; cases z; omega), hts]
          · rw [nI_leI (by omega) (by omega)] at hc
            exact hk9 _ ⟨rfl, Or.inr ⟨b, hts, by omega⟩⟩
  · subst hb
    dsimp only
    simp only [R1.2.1.1, shl1 (tW T) (by omega)]
    rw [if_pos (by rw [nI_leI (by omega) (by omega)]; exact Nat.le_refl _)]
    refine Ok_ite (fun hc => ?_) (fun hc => ?_)
    · exact Ok_some ⟨by rw [if_neg hc], R1⟩
    · exact Ok_some ⟨by rw [if_pos (Classical.not_not.mp hc)], R1⟩
theorem c_tests_bad {a : Int32} (ha : a < 0 ∨ ¬ a ≤ 1) : f_X3_tests a σ = some (-1, σ) := by
  unfold f_X3_tests
  by_cases h1 : a < 0
  · rw [if_pos h1]
  · rw [if_neg h1, if_neg (by rcases ha with z | z; exact absurd z h1; exact z)]
theorem lastDay_eq (hH : RCh σ H h) (h6 : h ≤ 6) (hd : ∀ i, i < h → (H i).2.2 ≤ 20) : Ok (f_X0_lastDay σ) (fun q => q.2 = σ ∧ ∃ l, l ≤ 20 ∧ q.1 = nI l ∧ ∀ i, i < h → (H i).2.2 ≤ l) := by
  unfold f_X0_lastDay
  refine Ok_for (fun i b => b.2 = (nI i, σ) ∧ ∃ l, l ≤ 20 ∧ b.1 = nI l ∧ ∀ j, j < i → (H j).2.2 ≤ l) 0 h _ ⟨rfl, 0, by omega, rfl, fun j hj => by omega⟩ (Nat.zero_le _) (by omega) (fun rec i b _ hi hb hr => ?_) (fun rec b hb => ?_)
  · obtain ⟨e1, l, hl, e2, al⟩ := hb
    rw [e1, e2]
    dsimp only
    have hdi := hd i hi
    simp (disch := omega) only [hH.1, nI_leI]
    rw [if_neg (by omega)]
    refine Ok_bindE (at_eq (by omega) (by decide)) ?_
    dsimp only
    rw [(hH.2 i hi).2.2]
    refine Ok_nm (Ok_nm (hr _ ⟨?_, if l < (H i).2.2 then (H i).2.2 else l, ?_, ?_, fun j hj => ?_⟩))
    · dsimp only; rw [z1, nI_add]
    · split <;> omega
    · dsimp only
      simp (disch := omega) only [nI_ltI]
      split <;> rfl
    · by_cases hji : j = i
      · subst hji; split <;> omega
      · have := al j (by omega); split <;> omega
  · obtain ⟨e1, l, hl, e2, al⟩ := hb
    rw [e1, e2]
    dsimp only
    simp only [hH.1]
    rw [if_pos (by rw [nI_leI (by omega) (by omega)]; exact Nat.le_refl _)]
    exact Ok_some ⟨rfl, l, hl, rfl, al⟩
/-- what is heard up to the day t, and on it up to the i-th -/
def fitQ (T : Tb) (H : Nat → Nat × Nat × Nat) (h t i p : Nat) : Prop := (∀ j, j < h → (H j).2.2 < t → way (days T (H j).2.2) p (H j).1 = (H j).2.1) ∧ ∀ j, j < i → (H j).2.2 = t → way (days T (H j).2.2) p (H j).1 = (H j).2.1
noncomputable def fitC (T : Tb) (H : Nat → Nat × Nat × Nat) (h t i p : Nat) : Bool := @decide (fitQ T H h t i p) (Classical.propDecidable _)
theorem fitC_iff {T : Tb} {H : Nat → Nat × Nat × Nat} {h t i p : Nat} : fitC T H h t i p = true ↔ fitQ T H h t i p := by unfold fitC; exact @decide_eq_true_iff _ (Classical.propDecidable _)
theorem bool_iff {a b : Bool} (hz : a = true ↔ b = true) : a = b := by
  cases a <;> cases b
  · rfl
  · exact absurd (hz.mpr rfl) (by decide)
  · exact absurd (hz.mp rfl) (by decide)
  · rfl
theorem bs_all : ∀ N, N < 6 → 2 ^ N - 1 = bs (fun _ => true) N := by decide
theorem fitting_ok {t : Nat} (hC : CR σ t T) (hw : wfT T) (hH : RCh σ H h) (h6 : h ≤ 6) (hd : ∀ i, i < h → (H i).1 < tW T ∧ (H i).2.1 ≤ 10 ∧ (H i).2.2 ≤ 20) (ht : t + 9 ≤ 203) : Ok (f_X0_fitting t σ) (fun q => q.1 = nI (bs (fitB T H h) (tN T)) ∧ Fr σ q.2 t (t + 9)) := by
  have h5 := hw.2.1
  have hpw : 1 ≤ 2 ^ tN T := Nat.pow_pos (by decide)
  unfold f_X0_fitting
  refine Ok_nm ?_
  rw [hC.2.1, shl1 _ (by omega), z1, pk_sub hpw, bs_all _ (by omega)]
  refine Ok_bind (lastDay_eq hH h6 (fun i hi => (hd i hi).2.2)) (fun q1 h1 => ?_)
  obtain ⟨e1, l, hl, e2, al⟩ := h1
  rw [e1, e2]
  refine Ok_for (fun d b => b.1 = nI (bs (fitC T H h d 0) (tN T)) ∧ b.2.1 = nI d ∧ CR b.2.2 t (days T d) ∧ Fr σ b.2.2 t (t + 9)) 0 (l + 1) _ ⟨?_, rfl, hC, Fr_rf⟩ (Nat.zero_le _) (by omega) (fun rec d b _ hd1 hb hr => ?_) (fun rec b hb => ?_)
  · show nI _ = nI _
    congr 1
    refine bs_ext (fun p hp => ?_)
    have : fitC T H h 0 0 p = true := fitC_iff.mpr ⟨fun j _ hj => by omega, fun j hj => by omega⟩
    rw [this]
  · obtain ⟨g1, g2, c1, f1⟩ := hb
    rw [g1, g2, if_neg (by rw [nI_ltI (by omega) (by omega)]; omega)]
    have s := stat_days' (T := T) (m := d)
    have wd := wf_days (k := d) hw
    refine Ok_for (fun i x => x.1 = nI (bs (fitC T H h d i) (tN T)) ∧ x.2.1 = nI i ∧ x.2.2 = b.2.2) 0 h _ ⟨rfl, rfl, rfl⟩ (Nat.zero_le _) (by omega) (fun rec2 i x _ hi hx hr2 => ?_) (fun rec2 x hx => ?_)
    · obtain ⟨k1, k2, k3⟩ := hx
      have hH2 : RCh b.2.2 H h := RCh_fr hH (fun c h1 h2 => f1 c (by omega))
      obtain ⟨d1, d2, d3⟩ := hd i hi
      rw [k1, k2, k3]
      simp (disch := omega) only [hH2.1, nI_leI]
      rw [if_neg (by omega)]
      refine Ok_bindE (at_eq (by omega) (by decide)) ?_
      dsimp only
      rw [(hH2.2 i hi).2.2]
      refine Ok_jn (fun y => y = (nI (bs (fitC T H h d (i + 1)) (tN T)), b.2.2)) (fun y hy => ?_) (fun k10 hk10 => ?_)
      · subst hy
        refine Ok_nm (hr2 _ ⟨rfl, ?_, rfl⟩)
        show nI i + 1 = nI (i + 1); rw [z1, nI_add]
      · refine Ok_ite (fun hc => ?_) (fun hc => ?_)
        · rw [nI_eq (by omega) (by omega)] at hc
          refine hk10 _ ?_
          congr 2
          refine bs_ext (fun p hp => bool_iff ?_)
          rw [fitC_iff, fitC_iff]
          constructor
          · rintro ⟨a1, a2⟩
            refine ⟨a1, fun j hj ej => ?_⟩
            by_cases hji : j = i
            · subst hji; exact absurd ej hc
            · exact a2 j (by omega) ej
          · rintro ⟨a1, a2⟩
            exact ⟨a1, fun j hj ej => a2 j (by omega) ej⟩
        · rw [nI_eq (by omega) (by omega)] at hc
          have hc := Classical.not_not.mp hc
          refine Ok_bindE (at_eq (by omega) (by decide)) ?_
          refine Ok_bindE (at_eq (by omega) (by decide)) ?_
          dsimp only
          rw [(hH2.2 i hi).1, (hH2.2 i hi).2.1]
          refine Ok_bindE (having_eq c1 wd (by rw [s.1]; exact d1) d2) ?_
          dsimp only
          refine Ok_nm (hk10 _ ?_)
          have e : nI (bs (fitC T H h d i) (tN T)) &&& nI (havB (days T d) (H i).1 (H i).2.1) = nI (bs (fitC T H h d (i + 1)) (tN T)) := by
            rw [fa_and]
            congr 1
            unfold havB
            rw [s.2.1]
            apply Nat.eq_of_testBit_eq; intro p
            rw [Nat.testBit_and, bs_bit, bs_bit, bs_bit]
            by_cases hp : p < tN T
            · simp only [hp, decide_true, Bool.true_and]
              refine bool_iff ?_
              rw [Bool.and_eq_true, fitC_iff, fitC_iff, decide_eq_true_eq]
              constructor
              · rintro ⟨⟨a1, a2⟩, a3⟩
                refine ⟨a1, fun j hj ej => ?_⟩
                by_cases hji : j = i
                · subst hji; rw [ej]; exact a3
                · exact a2 j (by omega) ej
              · rintro ⟨a1, a2⟩
                refine ⟨⟨a1, fun j hj ej => a2 j (by omega) ej⟩, ?_⟩
                have := a2 i (by omega) hc
                rw [hc] at this; exact this
            · simp [hp]
          rw [e]
    · obtain ⟨k1, k2, k3⟩ := hx
      have hH2 : RCh b.2.2 H h := RCh_fr hH (fun c h1 h2 => f1 c (by omega))
      rw [k1, k2, k3]
      simp only [hH2.1]
      rw [if_pos (by rw [nI_leI (by omega) (by omega)]; exact Nat.le_refl _)]
      refine Ok_bind (spendDay_ok (tl := true) c1 wd) (fun q2 hq2 => ?_)
      refine Ok_nm (hr _ ⟨?_, ?_, hq2.1, Fr_tr f1 hq2.2⟩)
      · show nI _ = nI _
        congr 1
        refine bs_ext (fun p hp => bool_iff ?_)
        rw [fitC_iff, fitC_iff]
        constructor
        · rintro ⟨a1, a2⟩
          refine ⟨fun j hj ej => ?_, fun j hj => by omega⟩
          by_cases hjd : (H j).2.2 = d
          · exact a2 j hj hjd
          · exact a1 j hj (by omega)
        · rintro ⟨a1, _⟩
          exact ⟨fun j hj ej => a1 j hj (by omega), fun j hj ej => a1 j hj (by omega)⟩
      · show nI d + 1 = nI (d + 1); rw [z1, nI_add]
  · obtain ⟨g1, g2, c1, f1⟩ := hb
    rw [g1, g2, if_pos (by rw [nI_ltI (by omega) (by omega)]; omega)]
    refine Ok_some ⟨?_, f1⟩
    show nI _ = nI _
    congr 1
    refine bs_ext (fun p hp => bool_iff ?_)
    rw [fitC_iff, fitB_iff]
    constructor
    · rintro ⟨a1, _⟩ i hi
      exact a1 i hi (by have := al i hi; omega)
    · intro a1
      exact ⟨fun j hj _ => a1 j hj, fun j hj => by omega⟩
theorem c_which (hR : RC σ X n T U u K k H h) (hg : gOk X n T U u K k H h) : Ok (f_X3_which σ) (fun q => q.1 = nI (whichV T H h) ∧ RC q.2 X n T U u K k H h) := by
  unfold f_X3_which
  refine Ok_bind (trial_ok hR hg) (fun q1 h1 => ?_)
  have R1 := RC_tr hR hg.2.2.2.2.1 h1.2
  refine Ok_bind (fitting_ok h1.1 hg.2.1.1 R1.2.2.2.2 hg.2.2.2.2.2.1 hg.2.2.2.2.2.2.2.2 (by omega)) (fun q2 h2 => ?_)
  exact Ok_some ⟨h2.1, RC_tr R1 hg.2.2.2.2.1 h2.2⟩
theorem wf_kind {p kd : Nat} (hw : wfT T) (hk : kd ≤ 3) : wfT (tu T 2 p kd) := by
  obtain ⟨a1, a2, a3, a4, a5, a6⟩ := hw
  refine ⟨by simpa [tW, tu] using a1, by simpa [tN, tu] using a2, by simpa [tS, tu] using a3, by simpa [tS, tu] using a4, by simpa [tW, snd, tu] using a5, fun q hq => ?_⟩
  have b := a6 q (by simpa [tN, tu] using hq)
  refine ⟨?_, by simpa [mmr, tu] using b.2.1, by simpa [mmr, tu] using b.2.2.1, by simpa [tW, way, age, mmr, tu] using b.2.2.2⟩
  have := b.1
  simp only [knd, tu] at this ⊢
  split <;> omega
theorem CR_kind {t p kd : Nat} (hC : CR σ t T) : CR (w2 σ (t + 2) p (nI kd)) t (tu T 2 p kd) := by
  obtain ⟨c0, c1, c2, c3, c4, c5⟩ := hC
  refine ⟨?_, ?_, ?_, ?_, fun x hx => ?_, fun q hqn => ?_⟩
  · simp only [w2_ap]; simpa [tW, tu] using c0
  · simp only [w2_ap]; simpa [tN, tu] using c1
  · simp only [w2_ap]; simpa [tS, tu] using c2
  · simp only [w2_ap]; simpa [tD, tu] using c3
  · simp only [w2_ap]; simpa [snd, tu] using c4 x (by simpa [tW, tu] using hx)
  · have d := c5 q (by simpa [tN, tu] using hqn)
    have f : ∀ c k, ¬ c = t + 2 → w2 σ (t + 2) p (nI kd) c k = σ c k := fun c k hc => by rw [w2_ap, if_neg (fun z => hc z.1)]
    refine ⟨?_, (f _ _ (by omega)).trans d.2.1, (f _ _ (by omega)).trans d.2.2.1, (f _ _ (by omega)).trans d.2.2.2.1, fun x hx hh => ?_⟩
    · rw [w2_ap]
      have e : knd (tu T 2 p kd) q = if q = p then kd else knd T q := by simp [knd, tu]
      rw [e]
      by_cases hqp : q = p
      · rw [if_pos ⟨rfl, hqp⟩, if_pos hqp]
      · rw [if_neg (fun z => hqp z.2), if_neg hqp]; exact d.1
    · have g := d.2.2.2.2 x hx hh
      exact ⟨(f _ _ (by omega)).trans g.1, (f _ _ (by omega)).trans g.2⟩
theorem c_kinds (hR : RC σ X n T U u K k H h) (hg : gOk X n T U u K k H h) {p : Nat} (hp : p < tN T) : Ok (f_X3_kinds (nI p) σ) (fun q => q.1 = nI (kindsV T H h p) ∧ RC q.2 X n T U u K k H h) := by
  have hk := hg.2.2.2.2.1
  have h5 := hg.2.1.1.2.1
  unfold f_X3_kinds
  refine Ok_bindE (isP hR hg hp) ?_
  dsimp only
  rw [if_pos (by decide)]
  refine Ok_for (fun kd b => b.1 = nI (bs (fun x => fitB (tu T 2 p x) H h p) kd) ∧ b.2.1 = nI kd ∧ Fr σ b.2.2 20 29) 0 4 _ ⟨rfl, rfl, Fr_rf⟩ (by omega) (by omega) (fun rec kd b _ hkd hb hr => ?_) (fun rec b hb => ?_)
  · obtain ⟨e1, e2, f1⟩ := hb
    have R1 := RC_tr hR hk f1
    rw [e2, if_neg (by rw [z3, nI_ltI (by omega) (by omega)]; omega)]
    refine Ok_bind (trial_ok R1 hg) (fun q1 h1 => ?_)
    refine Ok_bindE (put_eq (by omega) (by decide)) ?_
    dsimp only
    have R2 := RC_tr R1 hk h1.2
    have f2 : Fr q1.2 (w2 q1.2 (20 + 2) p (nI kd)) 20 29 := w2_fr (by omega) (by omega)
    have R3 := RC_tr R2 hk f2
    have tn : tN (tu T 2 p kd) = tN T := by simp [tN, tu]
    have tw : tW (tu T 2 p kd) = tW T := by simp [tW, tu]
    refine Ok_bind (fitting_ok (CR_kind h1.1) (wf_kind hg.2.1.1 (by omega)) R3.2.2.2.2 hg.2.2.2.2.2.1 (by rw [tw]; exact hg.2.2.2.2.2.2.2.2) (by omega)) (fun q2 h2 => ?_)
    obtain ⟨e3, f3⟩ := h2
    rw [tn] at e3
    rw [e3]
    have fa : Fr σ q2.2 20 29 := Fr_tr (Fr_tr (Fr_tr f1 h1.2) f2) f3
    refine Ok_jn (fun y => y.1 = nI (bs (fun x => fitB (tu T 2 p x) H h p) (kd + 1)) ∧ y.2 = q2.2) (fun y hy => ?_) (fun k8 hk8 => ?_)
    · refine Ok_nm (hr _ ⟨hy.1, ?_, by dsimp only; rw [hy.2]; exact fa⟩)
      show nI kd + 1 = nI (kd + 1); rw [z1, nI_add]
    · rw [shrb _ (bs256 _ (by omega)) p (by omega), bs_bit]
      simp only [hp, decide_true, Bool.true_and]
      refine Ok_ite (fun hc => ?_) (fun hc => ?_)
      · refine hk8 _ ⟨?_, rfl⟩
        have : fitB (tu T 2 p kd) H h p = false := by
          cases hz : fitB (tu T 2 p kd) H h p
          · rfl
          · rw [hz] at hc; exact absurd rfl hc
        dsimp only
        rw [e1]
        simp [bs, this]
      · refine Ok_nm (hk8 _ ⟨?_, rfl⟩)
        have hz : fitB (tu T 2 p kd) H h p = true := by
          cases hz : fitB (tu T 2 p kd) H h p
          · rw [hz] at hc; exact absurd (by decide) hc
          · rfl
        dsimp only
        rw [e1, shl1 kd (by omega), fa_or]
        have e : bs (fun x => fitB (tu T 2 p x) H h p) (kd + 1) = bs (fun x => fitB (tu T 2 p x) H h p) kd + 2 ^ kd := by simp [bs, hz]
        have e2 : bs (fun x => fitB (tu T 2 p x) H h p) kd ||| 2 ^ kd = bs (fun x => fitB (tu T 2 p x) H h p) kd + 2 ^ kd := by
          rw [← e]
          apply Nat.eq_of_testBit_eq; intro j
          rw [Nat.testBit_or, bs_bit, bs_bit, Nat.testBit_two_pow]
          by_cases hj : kd = j
          · subst hj; simp [hz]
          · by_cases h1 : j < kd
            · have : j < kd + 1 := by omega
              simp [hj, h1, this]
            · have : ¬ j < kd + 1 := by omega
              simp [hj, h1, this]
        rw [e, e2]
  · obtain ⟨e1, e2, f1⟩ := hb
    rw [e2, if_pos (by rw [z3, nI_ltI (by omega) (by omega)]; omega)]
    exact Ok_some ⟨e1, RC_tr hR hk f1⟩
theorem c_kinds_bad (hR : RC σ X n T U u K k H h) (hg : gOk X n T U u K k H h) {a : Int32} (ha : ¬ inR a (tN T)) : f_X3_kinds a σ = some (-1, σ) := by
  unfold f_X3_kinds
  rw [isPn hR hg ha]
  rfl
end RM1
