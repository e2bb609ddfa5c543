/-! the class: rows of lessons, hail, years -/
theorem maxTo_le {f : Nat → Nat} {n b : Nat} (h : ∀ i, i < n → f i ≤ b) : maxTo f n ≤ b := by
  induction n with
  | zero => simp [maxTo]
  | succ n ih =>
    simp only [maxTo]
    have h1 := ih (fun i hi => h i (by omega))
    have h2 := h n (by omega)
    split <;> omega
theorem wf_le {T : Tb} (hw : wfT T) (p : Nat) : rgtN T p ≤ 8 := Nat.le_trans (cnt_le _ _) hw.1
theorem bE_le {p : Nat} : ∀ (m : Nat) (T : Tb) (row : Nat), wfT T → p < tN T → bE p m T row ≤ 4607 := by
  intro m
  induction m with
  | zero => intro T row hw hp; have := wf_le hw p; simp only [bE]; omega
  | succ m ih =>
    intro T row hw hp
    refine maxTo_le (fun w hwl => ?_)
    have s1 := stat_teach (T := T) (p := p) (w := w)
    have s2 := stat_day (T := teach T p w) (tl := true)
    exact ih _ _ (wf_day (wf_teach hw hp hwl)) (by rw [s2.2.1, s1.2.1]; exact hp)
theorem hl_le {p x : Nat} (hx : x ≤ 10) : ∀ (m : Nat) (T : Tb), hl p x m T ≤ 10 ^ m := by
  intro m
  induction m with
  | zero => intro T; simp only [hl]; split <;> decide
  | succ m ih =>
    intro T
    simp only [hl]
    have h1 := Nat.mul_le_mul_left x (ih (day T false))
    have h2 := Nat.mul_le_mul_left (10 - x) (ih (day T true))
    have h3 : x * 10 ^ m + (10 - x) * 10 ^ m = 10 ^ (m + 1) := by
      rw [← Nat.add_mul, show x + (10 - x) = 10 by omega, Nat.pow_succ, Nat.mul_comm]
    omega
theorem p10 : ∀ m, m < 9 → 10 ^ m ≤ 100000000 := by decide
theorem p8 : ∀ lv, lv < 4 → 8 ^ lv ≤ 512 := by decide
theorem best_sh : ∀ r, r < 512 → ∀ s, s < 3 → (nI r >>> (((3 : Int32) * nI s) &&& 31)) &&& (7 : Int32) = nI (r / 8 ^ s % 8) := by decide +kernel
section RB
variable {σ σ' : St} {X : Nat → Nat} {n : Nat} {T T' : Tb} {U : Nat → Tb} {u : Nat} {K : Nat → Tb} {k : Nat} {H : Nat → Nat × Nat × Nat} {h : Nat}
theorem bestFrom_ok {p : Nat} : ∀ (m fu lv : Nat) (T : Tb) (row : Nat) (σ : St), m < fu → lv + m ≤ 3 → CR σ (30 + 9 * lv) T → wfT T → p < tN T → row < 8 ^ lv → Ok (f_X3_bestFrom fu 29 9 (nI lv) (nI (lv + m)) (nI p) (nI row) σ) (fun q => q.1 = nI (bE p m T row) ∧ Fr σ q.2 (30 + 9 * (lv + 1)) 111) := by
  intro m
  induction m with
  | zero =>
    intro fu lv T row σ hfu hlv hC hw hp hrow
    obtain ⟨fu, rfl⟩ : ∃ f, fu = f + 1 := ⟨fu - 1, by omega⟩
    have hr := p8 lv (by omega)
    have hg := wf_le hw p
    rw [f_X3_bestFrom]
    refine Ok_bindE (tableAt_eq (show lv < 9 by omega) (by decide)) ?_
    simp only [onul]
    rw [if_neg (by rw [nI_ltI (by omega) (by omega)]; omega)]
    rw [show 29 + 1 + 9 * lv = 30 + 9 * lv by omega]
    refine Ok_bindE (rightOf_eq hC hw hp) ?_
    refine Ok_some ⟨?_, Fr_rf⟩
    dsimp only
    have y512 : (512 : Int32) = nI 512 := rfl
    rw [y512, pk_mul, nI_add, z1, pk_sub (by omega), pk_sub (by omega)]
    unfold bE
    congr 1
  | succ m ih =>
    intro fu lv T row σ hfu hlv hC hw hp hrow
    obtain ⟨fu, rfl⟩ : ∃ f, fu = f + 1 := ⟨fu - 1, by omega⟩
    have hr := p8 lv (by omega)
    have h8 := hw.1
    rw [f_X3_bestFrom]
    refine Ok_bindE (tableAt_eq (show lv < 9 by omega) (by decide)) ?_
    simp only [onul]
    rw [if_pos (by rw [nI_ltI (by omega) (by omega)]; omega), z1, nI_add]
    refine Ok_bindE (tableAt_eq (show lv + 1 < 9 by omega) (by decide)) ?_
    simp only
    rw [show 29 + 1 + 9 * lv = 30 + 9 * lv by omega, show 29 + 1 + 9 * (lv + 1) = 30 + 9 * (lv + 1) by omega]
    refine Ok_for (fun w b => b.1 = nI (maxTo (fun w => bE p m (day (teach T p w) true) (8 * row + w)) w) ∧ b.2.1 = nI w ∧ Fr σ b.2.2 (30 + 9 * (lv + 1)) 111) 0 (tW T) _ ⟨rfl, rfl, Fr_rf⟩ (Nat.zero_le _) (by omega) (fun rec w b _ hwl hb hrr => ?_) (fun rec b hb => ?_)
    · obtain ⟨e1, e2, f1⟩ := hb
      have C1 : CR b.2.2 (30 + 9 * lv) T := CR_fr hC (fun c h1 h2 => f1 c (by omega))
      have s1 := stat_teach (T := T) (p := p) (w := w)
      have s2 := stat_day (T := teach T p w) (tl := true)
      have w1 := wf_teach hw hp hwl
      have w2 := wf_day (tl := true) w1
      simp (disch := omega) only [C1.1, e2, nI_leI]
      rw [if_neg (by omega)]
      refine Ok_bind (copy_ok C1 hw (Or.inl (by omega))) (fun q1 h1 => ?_)
      refine Ok_bind (teach_ok h1.1 hw hp hwl) (fun q2 h2 => ?_)
      refine Ok_bind (spendDay_ok (tl := true) h2.1 w1) (fun q3 h3 => ?_)
      have hrow2 : 8 * row + w < 8 ^ (lv + 1) := by rw [Nat.pow_succ]; omega
      rw [z8, pk_mul, nI_add]
      have e5 : nI (lv + (m + 1)) = nI (lv + 1 + m) := by congr 1; omega
      rw [e5]
      refine Ok_bind (ih fu (lv + 1) _ (8 * row + w) q3.2 (by omega) (by omega) h3.1 w2 (by rw [s2.2.1, s1.2.1]; exact hp) hrow2) (fun q4 h4 => ?_)
      refine Ok_nm (Ok_nm (hrr _ ⟨?_, ?_, ?_⟩))
      · dsimp only
        rw [e1, h4.1]
        have l1 : maxTo (fun w => bE p m (day (teach T p w) true) (8 * row + w)) w ≤ 4607 := maxTo_le (fun i hi => by
          have t1 := stat_teach (T := T) (p := p) (w := i)
          have t2 := stat_day (T := teach T p i) (tl := true)
          exact bE_le m _ _ (wf_day (wf_teach hw hp (by omega))) (by rw [t2.2.1, t1.2.1]; exact hp))
        have l2 : bE p m (day (teach T p w) true) (8 * row + w) ≤ 4607 := bE_le m _ _ w2 (by rw [s2.2.1, s1.2.1]; exact hp)
        simp (disch := omega) only [nI_ltI]
        show _ = nI (if _ then _ else _)
        split <;> rfl
      · rw [nI_add]
      · exact Fr_tr f1 (Fr_tr (Fr_tr (Fr_tr (Fr_wd h1.2 (Nat.le_refl _) (by omega)) (Fr_wd h2.2 (Nat.le_refl _) (by omega))) (Fr_wd h3.2 (Nat.le_refl _) (by omega))) (Fr_wd h4.2 (by omega) (Nat.le_refl _)))
    · obtain ⟨e1, e2, f1⟩ := hb
      have C1 : CR b.2.2 (30 + 9 * lv) T := CR_fr hC (fun c h1 h2 => f1 c (by omega))
      simp only [C1.1, e2]
      rw [if_pos (by rw [nI_leI (by omega) (by omega)]; exact Nat.le_refl _)]
      exact Ok_some ⟨e1, f1⟩
theorem startLevels_ok (hR : RC σ X n T U u K k H h) (hg : gOk X n T U u K k H h) : Ok (f_X3_startLevels σ) (fun q => CR q.2 30 T ∧ Fr σ q.2 30 38) := by
  unfold f_X3_startLevels
  rw [z0]
  refine Ok_bindE (tableAt_eq (show 0 < 9 by omega) (by decide)) ?_
  dsimp only
  exact Ok_bind (copyInto_ok hR.2.1 hg.2.1.1 (by omega)) (fun q hq => Ok_some hq)
theorem RC_lev (hR : RC σ X n T U u K k H h) (hk : k ≤ 2) (hf : Fr σ σ' 30 111) : RC σ' X n T U u K k H h := RC_scr hR hk (fun c hc _ => hf c (by omega))
def bestR (p m : Nat) (T : Tb) : Nat := 511 - bE p m T 0 % 512
def bestV (p m : Nat) (T : Tb) (b : Int32) : Int32 := if b = -1 then nI (bE p m T 0 / 512) else if b.toNatClampNeg < m then nI (bestR p m T / 8 ^ (m - 1 - b.toNatClampNeg) % 8) else -4
theorem c_best (hR : RC σ X n T U u K k H h) (hg : gOk X n T U u K k H h) {p m : Nat} {b : Int32} (hp : p < tN T) (h1 : 1 ≤ m) (h3 : m ≤ 3) (hb : b = -1 ∨ ∃ j, j ≤ 2 ∧ b = nI j) : Ok (f_X3_best (nI p) (nI m) b σ) (fun q => q.1 = bestV p m T b ∧ RC q.2 X n T U u K k H h) := by
  have hk := hg.2.2.2.2.1
  unfold f_X3_best
  refine Ok_bindE (isP hR hg hp) ?_
  dsimp only
  have b1 : ¬ b < -1 := by
    rcases hb with rfl | ⟨j, hj, rfl⟩
    · decide
    · intro z
      have h2 := nI_pos' (n := j) (by omega)
      exact Int32.lt_irrefl (Int32.lt_of_lt_of_le z (Int32.le_trans (by decide : (-1 : Int32) ≤ 0) h2))
  have b2 : b ≤ 2 := by
    rcases hb with rfl | ⟨j, hj, rfl⟩
    · decide
    · rw [z2, nI_leI (by omega) (by omega)]; exact hj
  rw [if_neg (by decide), if_neg (by rw [z1, nI_ltI (by omega) (by omega)]; omega), if_neg (by rw [z3, nI_ltI (by omega) (by omega)]; omega), if_neg b1, if_pos b2]
  have go : Ok ((f_X3_startLevels σ).bind (fun q8 => (f_X3_bestFrom FR 29 9 (0 : Int32) (nI m) (nI p) (0 : Int32) q8.2).bind (fun q9 => (if ¬ b = (-1 : Int32) then nm (((511 : Int32) - (q9.1 - q9.1 / (512 : Int32) * (512 : Int32)))) (fun x11 => some (((x11 >>> (((3 : Int32) * ((nI m - (1 : Int32)) - b)) &&& 31)) &&& (7 : Int32)), q9.2)) else some ((q9.1 / (512 : Int32)), q9.2))))) (fun q => (b = -1 → q.1 = nI (bE p m T 0 / 512)) ∧ (∀ j, j < m → b = nI j → q.1 = nI (bestR p m T / 8 ^ (m - 1 - j) % 8)) ∧ RC q.2 X n T U u K k H h) := by
    refine Ok_bind (startLevels_ok hR hg) (fun q1 h1 => ?_)
    have bf := bestFrom_ok (p := p) m FR 0 T 0 q1.2 (by unfold FR; omega) (by omega) h1.1 hg.2.1.1 hp (by decide)
    rw [Nat.zero_add] at bf
    refine Ok_bind bf (fun q2 h2 => ?_)
    have hle := bE_le (p := p) m T 0 hg.2.1.1 hp
    have R2 := RC_lev hR hk (Fr_tr (Fr_wd h1.2 (Nat.le_refl _) (by omega)) (Fr_wd h2.2 (by omega) (Nat.le_refl _)))
    have y512 : (512 : Int32) = nI 512 := rfl
    have y511 : (511 : Int32) = nI 511 := rfl
    rw [h2.1, y512, y511, rem_nI (by omega) (by omega) (by omega), div_nI (by omega) (by omega) (by omega), pk_sub (by omega)]
    refine Ok_ite (fun hc => ?_) (fun hc => ?_)
    · refine Ok_nm (Ok_some ⟨fun z => absurd z hc, fun j hj e => ?_, R2⟩)
      dsimp only
      rw [e, z1, pk_sub (by omega), pk_sub (by omega)]
      exact best_sh _ (by omega) _ (by omega)
    · refine Ok_some ⟨fun _ => rfl, fun j hj e => ?_, R2⟩
      rw [Classical.not_not.mp hc] at e
      have h2 := nI_pos' (n := j) (by omega)
      rw [← e] at h2
      exact absurd h2 (by decide)
  unfold bestV
  rcases hb with rfl | ⟨j, hj, rfl⟩
  · rw [if_pos rfl, if_pos (Int32.lt_of_lt_of_le (by decide : (-1 : Int32) < 0) (nI_pos' (by omega)))]
    exact Ok_mono go (fun q hq => ⟨hq.1 rfl, hq.2.2⟩)
  · have hne : ¬ nI j = -1 := fun e => by
      have h2 := nI_pos' (n := j) (by omega)
      rw [e] at h2; exact absurd h2 (by decide)
    rw [if_neg hne, nI_clamp (by omega)]
    simp (disch := omega) only [nI_ltI]
    by_cases hjm : j < m
    · rw [if_pos hjm, if_pos hjm]
      exact Ok_mono go (fun q hq => ⟨hq.2.1 j hjm rfl, hq.2.2⟩)
    · rw [if_neg hjm, if_neg hjm]
      exact Ok_some ⟨rfl, hR⟩
theorem c_best_bad (hR : RC σ X n T U u K k H h) (hg : gOk X n T U u K k H h) {a b c : Int32} (ha : ¬ inR a (tN T) ∨ b < 1 ∨ 3 < b ∨ c < -1 ∨ ¬ c ≤ 2) : f_X3_best a b c σ = some (-1, σ) := by
  unfold f_X3_best
  by_cases h1 : inR a (tN T)
  · obtain ⟨p, hp, rfl⟩ := h1
    rw [isP hR hg hp]
    simp only [Option.bind_some]
    rw [if_neg (by decide)]
    by_cases h2 : b < 1
    · rw [if_pos h2]
    · rw [if_neg h2]
      by_cases h3 : 3 < b
      · rw [if_pos h3]
      · rw [if_neg h3]
        by_cases h4 : c < -1
        · rw [if_pos h4]
        · rw [if_neg h4, if_neg]
          rcases ha with z | z | z | z | z
          · exact absurd ⟨p, hp, rfl⟩ z
          · exact absurd z h2
          · exact absurd z h3
          · exact absurd z h4
          · exact z
  · rw [isPn hR hg h1]
    rfl
theorem hailFrom_ok {p x : Nat} (hx : x ≤ 10) : ∀ (m fu lv : Nat) (T : Tb) (σ : St), m < fu → lv + m ≤ 8 → CR σ (30 + 9 * lv) T → wfT T → p < tN T → Ok (f_X3_hailFrom fu 29 9 (nI lv) (nI (lv + m)) (nI p) (nI x) σ) (fun q => q.1 = nI (hl p x m T) ∧ Fr σ q.2 (30 + 9 * (lv + 1)) 111) := by
  intro m
  induction m with
  | zero =>
    intro fu lv T σ hfu hlv hC hw hp
    obtain ⟨fu, rfl⟩ : ∃ f, fu = f + 1 := ⟨fu - 1, by omega⟩
    rw [f_X3_hailFrom]
    refine Ok_bindE (tableAt_eq (show lv < 9 by omega) (by decide)) ?_
    simp only [onul]
    rw [if_neg (by rw [nI_ltI (by omega) (by omega)]; omega)]
    rw [show 29 + 1 + 9 * lv = 30 + 9 * lv by omega]
    refine Ok_bindE (isSpeaker_eq hC hw hp) ?_
    dsimp only
    unfold hl
    refine Ok_ite (fun hc => ?_) (fun hc => ?_)
    · rw [i1_eq0] at hc; rw [if_neg hc]; exact Ok_some ⟨rfl, Fr_rf⟩
    · rw [i1_eq0] at hc; rw [if_pos (Classical.not_not.mp hc)]; exact Ok_some ⟨rfl, Fr_rf⟩
  | succ m ih =>
    intro fu lv T σ hfu hlv hC hw hp
    obtain ⟨fu, rfl⟩ : ∃ f, fu = f + 1 := ⟨fu - 1, by omega⟩
    have hl1 := hl_le (p := p) hx m (day T false)
    have hl2 := hl_le (p := p) hx m (day T true)
    have hp10 := p10 m (by omega)
    rw [f_X3_hailFrom]
    refine Ok_bindE (tableAt_eq (show lv < 9 by omega) (by decide)) ?_
    simp only [onul]
    rw [if_pos (by rw [nI_ltI (by omega) (by omega)]; omega), z1, nI_add]
    refine Ok_bindE (tableAt_eq (show lv + 1 < 9 by omega) (by decide)) ?_
    simp only
    rw [show 29 + 1 + 9 * lv = 30 + 9 * lv by omega, show 29 + 1 + 9 * (lv + 1) = 30 + 9 * (lv + 1) by omega]
    have e5 : nI (lv + (m + 1)) = nI (lv + 1 + m) := by congr 1; omega
    rw [e5]
    have sd : ∀ tl : Bool, tN (day T tl) = tN T := fun tl => stat_day.2.1
    refine Ok_jn (fun q => q.1 = nI (x * hl p x m (day T false)) ∧ Fr σ q.2 (30 + 9 * (lv + 1)) 111) (fun q hq => ?_) (fun k6 hk6 => ?_)
    · obtain ⟨e1, f1⟩ := hq
      rw [e1]
      refine Ok_ite (fun hc => ?_) (fun hc => ?_)
      · rw [z10, nI_leI (by omega) (by omega)] at hc
        refine Ok_some ⟨?_, f1⟩
        show nI _ = nI _
        have : x = 10 := by omega
        subst this
        congr 1
        show _ = 10 * hl p 10 m (day T false) + (10 - 10) * hl p 10 m (day T true)
        simp
      · rw [z10, nI_leI (by omega) (by omega)] at hc
        have C1 : CR q.2 (30 + 9 * lv) T := CR_fr hC (fun c h1 h2 => f1 c (by omega))
        refine Ok_bind (copy_ok C1 hw (Or.inl (by omega))) (fun q1 h1 => ?_)
        rw [← z1]
        refine Ok_bind (spendDay_ok (tl := true) h1.1 hw) (fun q2 h2 => ?_)
        refine Ok_bind (ih fu (lv + 1) _ q2.2 (by omega) (by omega) h2.1 (wf_day hw) (by rw [sd]; exact hp)) (fun q3 h3 => ?_)
        refine Ok_nm (Ok_some ⟨?_, ?_⟩)
        · dsimp only
          rw [h3.1, z10, pk_sub (by omega), pk_mul, nI_add]; rfl
        · exact Fr_tr f1 (Fr_tr (Fr_tr (Fr_wd h1.2 (Nat.le_refl _) (by omega)) (Fr_wd h2.2 (Nat.le_refl _) (by omega))) (Fr_wd h3.2 (by omega) (Nat.le_refl _)))
    · refine Ok_ite (fun hc => ?_) (fun hc => ?_)
      · rw [z0, nI_leI (by omega) (by omega)] at hc
        have : x = 0 := by omega
        subst this
        exact hk6 _ ⟨by rw [Nat.zero_mul]; rfl, Fr_rf⟩
      · refine Ok_bind (copy_ok hC hw (Or.inl (by omega))) (fun q1 h1 => ?_)
        refine Ok_bind (spendDay_ok (tl := false) h1.1 hw) (fun q2 h2 => ?_)
        refine Ok_bind (ih fu (lv + 1) _ q2.2 (by omega) (by omega) h2.1 (wf_day hw) (by rw [sd]; exact hp)) (fun q3 h3 => ?_)
        refine Ok_nm (hk6 _ ⟨?_, ?_⟩)
        · dsimp only
          rw [h3.1, pk_mul, z0, nI_add, Nat.zero_add]
        · exact Fr_tr (Fr_tr (Fr_wd h1.2 (Nat.le_refl _) (by omega)) (Fr_wd h2.2 (Nat.le_refl _) (by omega))) (Fr_wd h3.2 (by omega) (Nat.le_refl _))
theorem commonPart_ok {a b : Nat} (ha : a ≤ 100000000) (h0 : 0 < a) (hb : b ≤ a) : f_X3_commonPart (nI a) (nI b) σ = some (nI (Nat.gcd a b), σ) := by
  refine Ok_eq ?_
  unfold f_X3_commonPart
  have y100 : (100 : Int32) = nI 100 := rfl
  have hab : a * b < 2 ^ 54 := by
    have h1 : a * b ≤ 100000000 * 100000000 := Nat.mul_le_mul ha (by omega)
    have h2 : 100000000 * 100000000 < 2 ^ 54 := by decide
    omega
  refine Ok_for (fun i s => ∃ x y, s = (nI x, nI y, nI i, σ) ∧ x * y < 2 ^ (54 - i) ∧ y ≤ x ∧ 0 < x ∧ x ≤ 100000000 ∧ Nat.gcd x y = Nat.gcd a b) 0 54 _ ⟨a, b, rfl, hab, hb, h0, ha, rfl⟩ (by omega) (by omega) (fun rec i s _ hi hs hr => ?_) (fun rec s hs => ?_)
  · obtain ⟨x, y, rfl, hxy, hyx, hx0, hx, hgc⟩ := hs
    dsimp only
    rw [if_neg (by rw [y100, nI_leI (by omega) (by omega)]; omega)]
    refine Ok_ite (fun hc => ?_) (fun hc => ?_)
    · rw [nI_eq0 (by omega)] at hc
      refine Ok_some ?_
      rw [← hgc, hc, Nat.gcd_zero_right]
    · rw [if_neg hc]
      rw [nI_eq0 (by omega)] at hc
      have hm := Nat.mod_lt x (show 0 < y by omega)
      refine Ok_nm (Ok_nm (hr _ ⟨y, x % y, ?_, ?_, by omega, by omega, by omega, ?_⟩))
      · rw [rem_nI (by omega) (by omega) (by omega), z1, nI_add]
      · have h2 : 2 * (x % y) < x := by
          have := Nat.div_add_mod x y
          have h3 : 1 ≤ x / y := Nat.div_pos hyx (by omega)
          have h4 : y * 1 ≤ y * (x / y) := Nat.mul_le_mul_left y h3
          omega
        have h5 : y * (2 * (x % y)) < y * x := Nat.mul_lt_mul_of_pos_left h2 (by omega)
        have h6 : 2 ^ (54 - i) = 2 * 2 ^ (54 - (i + 1)) := by
          rw [show 54 - i = (54 - (i + 1)) + 1 by omega, Nat.pow_succ, Nat.mul_comm]
        have h7 : y * (2 * (x % y)) = 2 * (y * (x % y)) := by rw [Nat.mul_left_comm]
        have h8 : y * x = x * y := Nat.mul_comm _ _
        omega
      · rw [← hgc, Nat.gcd_comm x y, Nat.gcd_rec y x, Nat.gcd_comm]
  · obtain ⟨x, y, rfl, hxy, hyx, hx0, hx, hgc⟩ := hs
    dsimp only
    rw [if_neg (by rw [y100, nI_leI (by omega) (by omega)]; omega)]
    have hy0 : y = 0 := by
      have : x * y < 1 := hxy
      have h2 : x * y = 0 := by omega
      rcases Nat.mul_eq_zero.mp h2 with z | z <;> omega
    rw [if_pos (by rw [nI_eq0 (by omega)]; exact hy0)]
    refine Ok_some ?_
    rw [← hgc, hy0, Nat.gcd_zero_right]
def hailV (p m x : Nat) (T : Tb) (part : Int32) : Int32 := if part = 0 then nI (hl p x m T / Nat.gcd (10 ^ m) (hl p x m T)) else nI (10 ^ m / Nat.gcd (10 ^ m) (hl p x m T))
theorem c_hail (hR : RC σ X n T U u K k H h) (hg : gOk X n T U u K k H h) {p m x : Nat} {b : Int32} (hp : p < tN T) (hm : m ≤ 8) (hx : x ≤ 10) (hb0 : ¬ b < 0) (hb1 : b ≤ 1) : Ok (f_X3_hail (nI p) (nI m) (nI x) b σ) (fun q => q.1 = hailV p m x T b ∧ RC q.2 X n T U u K k H h) := by
  have hk := hg.2.2.2.2.1
  unfold f_X3_hail
  refine Ok_bindE (isP hR hg hp) ?_
  dsimp only
  rw [if_neg (by decide), if_neg (by rw [nI_lt0 (by omega)]; simp), if_neg (by rw [z8, nI_ltI (by omega) (by omega)]; omega), if_neg (by rw [nI_lt0 (by omega)]; simp), if_neg (by rw [z10, nI_ltI (by omega) (by omega)]; omega), if_neg hb0, if_pos hb1]
  refine Ok_bind (startLevels_ok hR hg) (fun q1 h1 => ?_)
  have bf := hailFrom_ok (p := p) hx m FR 0 T q1.2 (by unfold FR; omega) (by omega) h1.1 hg.2.1.1 hp
  rw [Nat.zero_add] at bf
  refine Ok_bind bf (fun q2 h2 => ?_)
  have hle := hl_le (p := p) hx m T
  have hp10 := p10 m (by omega)
  have hpos : 0 < 10 ^ m := Nat.pow_pos (by decide)
  have R2 := RC_lev hR hk (Fr_tr (Fr_wd h1.2 (Nat.le_refl _) (by omega)) (Fr_wd h2.2 (by omega) (Nat.le_refl _)))
  rw [h2.1]
  refine Ok_for (fun i s => s = (nI (10 ^ i), nI i, q2.2)) 0 m _ rfl (Nat.zero_le _) (by omega) (fun rec i s _ hi hs hr => ?_) (fun rec s hs => ?_)
  · subst hs
    dsimp only
    rw [if_neg (by rw [nI_leI (by omega) (by omega)]; omega)]
    refine Ok_nm (Ok_nm (hr _ ?_))
    rw [z10, pk_mul, z1, nI_add, Nat.pow_succ]
  · subst hs
    dsimp only
    rw [if_pos (by rw [nI_leI (by omega) (by omega)]; exact Nat.le_refl _)]
    refine Ok_bindE (commonPart_ok hp10 hpos hle) ?_
    have hgp : 0 < Nat.gcd (10 ^ m) (hl p x m T) := Nat.gcd_pos_of_pos_left _ hpos
    have hgl : Nat.gcd (10 ^ m) (hl p x m T) ≤ 10 ^ m := Nat.le_of_dvd hpos (Nat.gcd_dvd_left _ _)
    have gne : ¬ nI (Nat.gcd (10 ^ m) (hl p x m T)) = 0 := by rw [nI_eq0 (by omega)]; omega
    dsimp only
    rw [if_pos gne]
    unfold hailV
    refine Ok_ite (fun hc => ?_) (fun hc => ?_)
    · rw [if_neg gne]
      refine Ok_some ⟨?_, R2⟩
      rw [if_neg hc]
      exact div_nI (by omega) (by omega) (by omega)
    · rw [if_neg gne]
      refine Ok_some ⟨?_, R2⟩
      rw [if_pos (Classical.not_not.mp hc)]
      exact div_nI (by omega) (by omega) (by omega)
theorem c_hail_bad (hR : RC σ X n T U u K k H h) (hg : gOk X n T U u K k H h) {a b c d : Int32} (ha : ¬ inR a (tN T) ∨ b < 0 ∨ 8 < b ∨ c < 0 ∨ 10 < c ∨ d < 0 ∨ ¬ d ≤ 1) : f_X3_hail a b c d σ = some (-1, σ) := by
  unfold f_X3_hail
  by_cases h1 : inR a (tN T)
  · obtain ⟨p, hp, rfl⟩ := h1
    rw [isP hR hg hp]
    simp only [Option.bind_some]
    rw [if_neg (by decide)]
    by_cases h2 : b < 0
    · rw [if_pos h2]
    · rw [if_neg h2]
      by_cases h3 : 8 < b
      · rw [if_pos h3]
      · rw [if_neg h3]
        by_cases h4 : c < 0
        · rw [if_pos h4]
        · rw [if_neg h4]
          by_cases h5 : 10 < c
          · rw [if_pos h5]
          · rw [if_neg h5]
            by_cases h6 : d < 0
            · rw [if_pos h6]
            · rw [if_neg h6, if_neg]
              rcases ha with z | z | z | z | z | z | z
              · exact absurd ⟨p, hp, rfl⟩ z
              · exact absurd z h2
              · exact absurd z h3
              · exact absurd z h4
              · exact absurd z h5
              · exact absurd z h6
              · exact z
  · rw [isPn hR hg h1]
    rfl
theorem draw_eq {z j : Nat} (hz : z ≤ 9999) (hj : j < 60) : f_X3_draw (nI z) (nI j) σ = some (nI (drw z j), σ) := by
  have y1 : (7919 : Int64) = lN 7919 := rfl
  have y2 : (6151 : Int64) = lN 6151 := rfl
  have y3 : (65521 : Int64) = lN 65521 := rfl
  have hb : 7919 * z + 6151 * j + 1 < 80000000 := by omega
  have hsq : (7919 * z + 6151 * j + 1) * (7919 * z + 6151 * j + 1) < 2 ^ 63 := by
    have : (7919 * z + 6151 * j + 1) * (7919 * z + 6151 * j + 1) ≤ 80000000 * 80000000 := Nat.mul_le_mul (by omega) (by omega)
    have h2 : 80000000 * 80000000 < 2 ^ 63 := by decide
    omega
  unfold f_X3_draw
  simp only [nm]
  rw [nI_l (by omega), nI_l (by omega), y1, y2, y3, lN_mul, lN_mul, lN_add, lN_1, lN_mul, pk_lRem hsq (by omega) (by decide), lN_i]
  rfl
theorem yr_facts {z : Nat} (hw : wfT T) (hW : 0 < tW T) (hN : 0 < tN T) (j : Nat) : wfT (yr z T j) ∧ tW (yr z T j) = tW T ∧ tN (yr z T j) = tN T := by
  induction j with
  | zero => exact ⟨hw, rfl, rfl⟩
  | succ j ih =>
    obtain ⟨a, b, c⟩ := ih
    have s := stat_befall (T := yr z T j) (d := drw z j)
    have s2 := stat_day (T := befall (yr z T j) (drw z j)) (tl := true)
    exact ⟨wf_day (wf_befall a (by rw [b]; exact hW) (by rw [c]; exact hN)), s2.1.trans (s.1.trans b), s2.2.1.trans (s.2.1.trans c)⟩
def yearV (z m : Nat) (T : Tb) (b : Int32) : Int32 := if b = 0 then nI (spkN (yr z T m)) else nI (allRN (yr z T m))
theorem drw_lt (z j : Nat) : drw z j < 65521 := Nat.mod_lt _ (by decide)
theorem c_year (hR : RC σ X n T U u K k H h) (hg : gOk X n T U u K k H h) {z m : Nat} {b : Int32} (hz : z ≤ 9999) (h1 : 1 ≤ m) (h60 : m ≤ 60) (hb0 : ¬ b < 0) (hb1 : b ≤ 1) : Ok (f_X3_year (nI z) (nI m) b σ) (fun q => q.1 = yearV z m T b ∧ RC q.2 X n T U u K k H h) := by
  have y9 : (9999 : Int32) = nI 9999 := rfl
  have y60 : (60 : Int32) = nI 60 := rfl
  unfold f_X3_year
  rw [if_neg (by rw [nI_lt0 (by omega)]; simp), if_neg (by rw [y9, nI_ltI (by omega) (by omega)]; omega), if_neg (by rw [z1, nI_ltI (by omega) (by omega)]; omega), if_neg (by rw [y60, nI_ltI (by omega) (by omega)]; omega), if_neg hb0, if_pos hb1]
  refine Ok_bind (trial_ok hR hg) (fun q1 h1 => ?_)
  refine Ok_for (fun i s => s.1 = nI i ∧ CR s.2 20 (yr z T i) ∧ Fr σ s.2 20 29) 0 m _ ⟨rfl, h1.1, h1.2⟩ (Nat.zero_le _) (by omega) (fun rec i s _ hi hs hr => ?_) (fun rec s hs => ?_)
  · obtain ⟨e1, c1, f1⟩ := hs
    obtain ⟨w1, a1, a2⟩ := yr_facts (z := z) hg.2.1.1 hg.2.1.2.1 hg.2.1.2.2 i
    rw [e1, if_neg (by rw [nI_leI (by omega) (by omega)]; omega)]
    refine Ok_bindE (draw_eq hz (by omega)) ?_
    dsimp only
    refine Ok_bind (befall_ok c1 w1 (by rw [a1]; exact hg.2.1.2.1) (by rw [a2]; exact hg.2.1.2.2) (drw_lt _ _)) (fun q2 h2 => ?_)
    refine Ok_bind (spendDay_ok (tl := true) h2.1 (wf_befall w1 (by rw [a1]; exact hg.2.1.2.1) (by rw [a2]; exact hg.2.1.2.2))) (fun q3 h3 => ?_)
    refine Ok_nm (hr _ ⟨?_, h3.1, Fr_tr (Fr_tr f1 (Fr_wd h2.2 (Nat.le_refl _) (by omega))) h3.2⟩)
    show nI i + 1 = nI (i + 1); rw [z1, nI_add]
  · obtain ⟨e1, c1, f1⟩ := hs
    obtain ⟨w1, a1, a2⟩ := yr_facts (z := z) hg.2.1.1 hg.2.1.2.1 hg.2.1.2.2 m
    rw [e1, if_pos (by rw [nI_leI (by omega) (by omega)]; exact Nat.le_refl _)]
    unfold yearV
    refine Ok_ite (fun hc => ?_) (fun hc => ?_)
    · rw [if_neg hc]
      refine Ok_bindE (allRight_eq c1 w1) ?_
      exact Ok_some ⟨rfl, RC_tr hR hg.2.2.2.2.1 f1⟩
    · rw [if_pos (Classical.not_not.mp hc)]
      refine Ok_bindE (speakers_eq c1 w1) ?_
      exact Ok_some ⟨rfl, RC_tr hR hg.2.2.2.2.1 f1⟩
theorem c_year_bad {a b c : Int32} (ha : a < 0 ∨ 9999 < a ∨ b < 1 ∨ 60 < b ∨ c < 0 ∨ ¬ c ≤ 1) : f_X3_year a b c σ = some (-1, σ) := by
  unfold f_X3_year
  by_cases h1 : a < 0
  · rw [if_pos h1]
  · rw [if_neg h1]
    by_cases h2 : 9999 < a
    · rw [if_pos h2]
    · rw [if_neg h2]
      by_cases h3 : b < 1
      · rw [if_pos h3]
      · rw [if_neg h3]
        by_cases h4 : 60 < b
        · rw [if_pos h4]
        · rw [if_neg h4]
          by_cases h5 : c < 0
          · rw [if_pos h5]
          · rw [if_neg h5, if_neg]
            rcases ha with z | z | z | z | z | z
            · exact absurd z h1
            · exact absurd z h2
            · exact absurd z h3
            · exact absurd z h4
            · exact absurd z h5
            · exact z
end RB
