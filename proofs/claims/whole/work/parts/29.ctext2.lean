/-! the class's Text: wooers, need, items, the whole text -/
def seatK (D : Tb) (k m : Nat) (f : Nat → Nat) (w : Nat) : Tb := fun c q => if c = 0 ∧ q = 1 then tN D + 1 else if c = 2 ∧ q = tN D then k else if c = 3 ∧ q = tN D then m else if c = 4 ∧ q / 8 = tN D then (if q % 8 < w then f (q % 8) else 10) else if c = 5 ∧ q / 8 = tN D then 0 else D c q
def rowF (X : Nat → Nat) (n j : Nat) : Nat → Nat := fun x => if chr X n (j + x) = 45 then 10 else chr X n (j + x) - 48
def rowOk (X : Nat → Nat) (n j W : Nat) : Prop := ∀ x, x < W → chr X n (j + x) = 45 ∨ (48 ≤ chr X n (j + x) ∧ chr X n (j + x) ≤ 57)
def rowB (X : Nat → Nat) (n j : Nat) : Nat → Bool
  | 0 => true
  | x + 1 => rowB X n j x && (decide (chr X n (j + x) = 45) || (decide (48 ≤ chr X n (j + x)) && decide (chr X n (j + x) ≤ 57)))
theorem rowB_iff {X : Nat → Nat} {n j W : Nat} : rowB X n j W = true ↔ rowOk X n j W := by
  induction W with
  | zero => simp [rowB, rowOk]
  | succ W ih =>
    simp only [rowB, Bool.and_eq_true, Bool.or_eq_true, decide_eq_true_eq, ih]
    unfold rowOk
    constructor
    · rintro ⟨h1, h2⟩ x hx
      by_cases hxw : x = W
      · subst hxw; exact h2
      · exact h1 x (by omega)
    · intro h
      exact ⟨fun x hx => h x (by omega), h W (by omega)⟩
def pWoo (D : Tb) (X : Nat → Nat) (n i : Nat) : Option (Nat × Tb) :=
  if tW D = 0 ∨ 5 ≤ tN D then none
  else (pNum X n i 44).bind (fun a => if 3 < a.1 then none else (pNum X n a.2 44).bind (fun b => if b.1 < 1 ∨ 30 < b.1 then none else if rowB X n b.2 (tW D) = true ∧ chr X n (b.2 + tW D) = 59 then some (b.2 + tW D + 1, seatK D a.1 b.1 (rowF X n b.2) (tW D)) else none))
def pNee (X : Nat → Nat) (n i : Nat) : Option (Nat × Nat) := (pNum X n i 59).bind (fun a => if 1 ≤ a.1 ∧ a.1 ≤ 8 then some (a.2, a.1) else none)
def pItem (D : Tb) (X : Nat → Nat) (n i : Nat) (past : Bool) : Option (Nat × Tb × Bool) :=
  if chr X n i = 116 then (if past = true then none else (pTong D X n (i + 1)).bind (fun a => some (a.1, a.2, false)))
  else if chr X n i = 119 then (pWoo D X n (i + 1)).bind (fun a => some (a.1, a.2, true))
  else if chr X n i = 115 then (pNee X n (i + 1)).bind (fun a => some (a.1, tu D 0 2 a.2, true))
  else none
/-- the whole text: the place of the first item that is not so, and what is told -/
def pR (X : Nat → Nat) (n : Nat) : Nat → Nat → Tb → Bool → Option Nat × Tb
  | 0, _, D, _ => (none, D)
  | f + 1, i, D, past => if n ≤ i then (none, D) else match pItem D X n i past with
    | none => (some i, D)
    | some a => pR X n f a.1 a.2.1 a.2.2
section SK
variable {D : Tb} {k m : Nat} {f : Nat → Nat} {w : Nat}
theorem tW_sk : tW (seatK D k m f w) = tW D := by simp [tW, seatK]
theorem tN_sk : tN (seatK D k m f w) = tN D + 1 := by simp [tN, seatK]
theorem tS_sk : tS (seatK D k m f w) = tS D := by simp [tS, seatK]
theorem tD_sk : tD (seatK D k m f w) = tD D := by simp [tD, seatK]
theorem snd_sk {x : Nat} : snd (seatK D k m f w) x = snd D x := by simp [snd, seatK]
theorem knd_sk {p : Nat} : knd (seatK D k m f w) p = if p = tN D then k else knd D p := by simp [knd, seatK]
theorem mmr_sk {p : Nat} : mmr (seatK D k m f w) p = if p = tN D then m else mmr D p := by simp [mmr, seatK]
theorem way_sk {p x : Nat} (hx : x < 8) : way (seatK D k m f w) p x = if p = tN D then (if x < w then f x else 10) else way D p x := by
  have h1 : (8 * p + x) / 8 = p := by omega
  have h2 : (8 * p + x) % 8 = x := by omega
  simp [way, seatK, h1, h2]
theorem age_sk {p x : Nat} (hx : x < 8) : age (seatK D k m f w) p x = if p = tN D then 0 else age D p x := by
  have h1 : (8 * p + x) / 8 = p := by omega
  simp [age, seatK, h1]
theorem sk_give {v : Nat} (hw : w < 8) (hf : f w = v) : give (seatK D k m f w) (tN D) w v = seatK D k m f (w + 1) := by
  funext c q
  simp only [give, tu, seatK]
  by_cases h5 : c = 5
  · subst h5
    by_cases hq : q = 8 * tN D + w
    · have : q / 8 = tN D := by omega
      simp [hq]
      omega
    · simp [hq]
  · by_cases h4 : c = 4
    · subst h4
      by_cases hq : q = 8 * tN D + w
      · subst hq
        have h1 : (8 * tN D + w) / 8 = tN D := by omega
        have h2 : (8 * tN D + w) % 8 = w := by omega
        simp [h1, h2, hf]
      · simp only [hq]
        by_cases h1 : q / 8 = tN D
        · have h2 : ¬ q % 8 = w := by omega
          by_cases h3 : q % 8 < w
          · have : q % 8 < w + 1 := by omega
            simp [h1, h3, this]
          · have : ¬ q % 8 < w + 1 := by omega
            simp [h1, h3, this]
        · simp [h1]
    · simp [h4, h5]
theorem sk_skip (hf : f w = 10) : seatK D k m f w = seatK D k m f (w + 1) := by
  funext c q
  simp only [seatK]
  by_cases h4 : c = 4 ∧ q / 8 = tN D
  · obtain ⟨rfl, h1⟩ := h4
    by_cases h2 : q % 8 = w
    · simp [h1, h2, hf]
    · by_cases h3 : q % 8 < w
      · have : q % 8 < w + 1 := by omega
        simp [h1, h3, this]
      · have : ¬ q % 8 < w + 1 := by omega
        simp [h1, h3, this]
  · simp [h4]
theorem wf_sk (h : wfT D) (hN : tN D < 5) (hk : k ≤ 3) (h1 : 1 ≤ m) (h2 : m ≤ 30) (hf : ∀ x, f x ≤ 10) : wfT (seatK D k m f w) := by
  obtain ⟨a1, a2, a3, a4, a5, a6⟩ := h
  refine ⟨by rw [tW_sk]; exact a1, by rw [tN_sk]; omega, by rw [tS_sk]; exact a3, by rw [tS_sk]; exact a4, fun x hx => by rw [snd_sk]; rw [tW_sk] at hx; exact a5 x hx, fun p hp => ?_⟩
  rw [tN_sk] at hp
  rw [knd_sk, mmr_sk]
  by_cases hpn : p = tN D
  · rw [if_pos hpn, if_pos hpn]
    refine ⟨hk, h1, h2, fun x hx => ?_⟩
    rw [tW_sk] at hx
    rw [way_sk (by omega), age_sk (by omega), if_pos hpn, if_pos hpn]
    have := hf x
    split
    · exact ⟨this, fun _ => h1⟩
    · exact ⟨by omega, fun _ => h1⟩
  · rw [if_neg hpn, if_neg hpn]
    obtain ⟨b1, b2, b3, b4⟩ := a6 p (by omega)
    refine ⟨b1, b2, b3, fun x hx => ?_⟩
    rw [tW_sk] at hx
    rw [way_sk (by omega), age_sk (by omega), if_neg hpn, if_neg hpn]
    exact b4 x hx
end SK
section TZ
variable {σ : St} {X : Nat → Nat} {n i t : Nat} {past : Bool} {D : Tb}
theorem seat_ok {k m : Nat} {f : Nat → Nat} (h : CR σ t D) (hw : wfT D) (hN : tN D < 5) : Ok (f_X1_seat t (nI k) (nI m) σ) (fun q => q.1 = nI (tN D) ∧ CR q.2 t (seatK D k m f 0) ∧ Fr σ q.2 t (t + 8)) := by
  have hT := hw.1
  obtain ⟨c0, c1, c2, c3, c4, c5⟩ := h
  unfold f_X1_seat
  refine Ok_nm ?_
  rw [c1]
  refine Ok_bindE (put_eq (by omega) (by decide)) ?_
  refine Ok_bindE (put_eq (by omega) (by decide)) ?_
  refine Ok_bindE (put_eq (by omega) (by decide)) ?_
  refine Ok_bindE (put_eq (by omega) (by decide)) ?_
  refine Ok_nm (Ok_some ⟨rfl, ?_, ?_⟩)
  · refine ⟨?_, ?_, ?_, ?_, fun x hx => ?_, fun p hp => ?_⟩
    · rw [tW_sk]; simp only [w2_ap]; simp [c0]
    · rw [tN_sk]; simp only [w2_ap]; simp [c1]; rw [z1, nI_add]
    · rw [tS_sk]; simp only [w2_ap]; simp [c2]
    · rw [tD_sk]; simp only [w2_ap]; simp [c3]
    · rw [tW_sk] at hx; rw [snd_sk]; simp only [w2_ap]; simp; exact c4 x hx
    · rw [tN_sk] at hp
      rw [knd_sk, mmr_sk]
      by_cases hpn : p = tN D
      · subst hpn
        have eH : hasB (seatK D k m f 0) (tN D) = 0 := by
          unfold hasB; rw [tW_sk]
          exact bs_zero.mpr (fun x hx => by rw [way_sk (by omega)]; simp)
        have eR : rgtB (seatK D k m f 0) (tN D) = 0 := by
          unfold rgtB; rw [tW_sk]
          refine bs_zero.mpr (fun x hx => ?_)
          rw [way_sk (by omega), snd_sk, if_pos rfl, if_neg (by omega)]
          have := hw.2.2.2.2.1 x hx
          have : ¬ 10 = snd D x := by omega
          simp [this]
        rw [eH, eR]
        refine ⟨?_, ?_, ?_, ?_, fun x hx hh => ?_⟩
        · simp only [w2_ap]; simp
        · simp only [w2_ap]; simp
        · simp only [w2_ap]; simp [z0]
        · simp only [w2_ap]; simp [z0]
        · rw [tW_sk] at hx
          rw [way_sk (by omega), if_pos rfl, if_neg (by omega)] at hh; omega
      · rw [if_neg hpn, if_neg hpn]
        have d := c5 p (by omega)
        have eH : hasB (seatK D k m f 0) p = hasB D p := by
          unfold hasB; rw [tW_sk]
          exact bs_ext (fun x hx => by rw [way_sk (by omega), if_neg hpn])
        have eR : rgtB (seatK D k m f 0) p = rgtB D p := by
          unfold rgtB; rw [tW_sk]
          exact bs_ext (fun x hx => by rw [way_sk (by omega), if_neg hpn, snd_sk])
        rw [eH, eR]
        refine ⟨?_, ?_, ?_, ?_, fun x hx hh => ?_⟩
        · simp only [w2_ap]; simp [hpn]; exact d.1
        · simp only [w2_ap]; simp [hpn]; exact d.2.1
        · simp only [w2_ap]; simp [hpn]; exact d.2.2.1
        · simp only [w2_ap]; simp [hpn]; exact d.2.2.2.1
        · rw [tW_sk] at hx
          rw [way_sk (by omega), if_neg hpn] at hh ⊢
          rw [age_sk (by omega), if_neg hpn]
          simp only [w2_ap]; simp
          exact d.2.2.2.2 x hx hh
  · exact Fr_tr (Fr_tr (Fr_tr (Fr_tr (w2_fr (by omega) (by omega)) (w2_fr (by omega) (by omega))) (w2_fr (by omega) (by omega))) (w2_fr (by omega) (by omega))) (w2_fr (by omega) (by omega))
/-- what reading an item leaves: all but the Text's object and the table -/
def Fri (σ σ' : St) (t : Nat) : Prop := ∀ c, ¬ c = 0 → (c < t ∨ t + 8 ≤ c) → σ' c = σ c
theorem Fri_t {σ σ' : St} {t : Nat} (h : Frt σ σ') : Fri σ σ' t := fun c hc _ => h c hc
theorem Fri_f {σ σ' : St} {t : Nat} (h : Fr σ σ' t (t + 8)) : Fri σ σ' t := fun c _ hc => h c hc
theorem Fri_tr {σ σ1 σ2 : St} {t : Nat} (h1 : Fri σ σ1 t) (h2 : Fri σ1 σ2 t) : Fri σ σ2 t := fun c hc h => (h2 c hc h).trans (h1 c hc h)
theorem RT_f {σ σ' : St} {t : Nat} (h : RT σ X n i past) (ht : 2 ≤ t) (hf : Fr σ σ' t (t + 8)) : RT σ' X n i past := by
  unfold RT
  rw [hf 0 (by omega), hf 1 (by omega)]
  exact h
theorem RT_past {b : Bool} (h : RT σ X n i past) : RT (w2 σ 0 2 (nI (if b then 1 else 0))) X n i b ∧ Frt σ (w2 σ 0 2 (nI (if b then 1 else 0))) := by
  refine ⟨⟨?_, ?_, ?_, fun j hj => ?_⟩, fun c hc => ?_⟩
  · rw [w2_ap, if_neg (by omega)]; exact h.1
  · rw [w2_ap, if_neg (by omega)]; exact h.2.1
  · rw [w2_ap, if_pos ⟨rfl, rfl⟩]
  · rw [w2_ap, if_neg (by omega)]; exact h.2.2.2 j hj
  · funext k; rw [w2_ap, if_neg (fun z => hc z.1)]
theorem readWooer_ok (ht : txtOk X n) (h : RT σ X n i past) (hi : i ≤ n) (hD : CR σ t D) (hw : wfT D) (h2 : 2 ≤ t) : Ok (f_X2_readWooer t σ) (fun q => Fri σ q.2 t ∧ ∃ j, j ≤ n ∧ RT q.2 X n j true ∧ (pWoo D X n i = none ∧ q.1 = 0 ∨ ∃ D', pWoo D X n i = some (j, D') ∧ i < j ∧ q.1 = 1 ∧ CR q.2 t D' ∧ wfT D')) := by
  have hn := ht.1
  have hT := hw.1
  unfold f_X2_readWooer
  refine Ok_nm ?_
  have e1 : w2 σ 0 2 (1 : Int32) = w2 σ 0 2 (nI (if true then 1 else 0)) := rfl
  rw [e1]
  obtain ⟨r1, g1⟩ := RT_past (b := true) h
  generalize w2 σ 0 2 (nI (if true then 1 else 0)) = σ1 at r1 g1 ⊢
  have cr1 : CR σ1 t D := CR_fr hD (fun c hc _ => g1 c (by omega))
  refine Ok_ite (fun hc => ?_) (fun hc => ?_)
  · rw [cr1.1, nI_eq0 (by omega)] at hc
    refine Ok_some ⟨Fri_t g1, i, hi, r1, Or.inl ⟨?_, rfl⟩⟩
    unfold pWoo; rw [if_pos (Or.inl hc)]
  · rw [cr1.1, nI_eq0 (by omega)] at hc
    refine Ok_ite (fun h5 => ?_) (fun h5 => ?_)
    · have hN5 := hw.2.1
      rw [cr1.2.1, z5, nI_ltI (by omega) (by omega)] at h5
      have z44 : (44 : Int32) = nI 44 := rfl
      rw [z44]
      refine Ok_bind (number_ok ht r1 hi (by omega) (by omega)) (fun q1 hq1 => ?_)
      obtain ⟨g2, j1, hj1, r2, alt⟩ := hq1
      have ga : Frt σ q1.2 := Frt_tr g1 g2
      have up : pWoo D X n i = (pNum X n i 44).bind (fun a => if 3 < a.1 then none else (pNum X n a.2 44).bind (fun b => if b.1 < 1 ∨ 30 < b.1 then none else if rowB X n b.2 (tW D) = true ∧ chr X n (b.2 + tW D) = 59 then some (b.2 + tW D + 1, seatK D a.1 b.1 (rowF X n b.2) (tW D)) else none)) := by
        unfold pWoo; rw [if_neg (by omega)]
      rcases alt with ⟨pn, qv⟩ | ⟨kv, pn, hlt, hk100, qv⟩
      · rw [qv, if_pos (by decide)]
        exact Ok_some ⟨Fri_t ga, j1, hj1, r2, Or.inl ⟨by rw [up, pn]; rfl, rfl⟩⟩
      · rw [qv]
        rw [pn] at up
        simp only [Option.bind_some] at up
        rw [if_neg (by rw [nI_lt0 (by omega)]; simp)]
        refine Ok_ite (fun hk3 => ?_) (fun hk3 => ?_)
        · rw [z3, nI_leI (by omega) (by omega)] at hk3
          rw [if_neg (by omega)] at up
          refine Ok_bind (number_ok ht r2 hj1 (by omega) (by omega)) (fun q2 hq2 => ?_)
          obtain ⟨g3, j2, hj2, r3, alt⟩ := hq2
          have gb : Frt σ q2.2 := Frt_tr ga g3
          rcases alt with ⟨pn2, qv2⟩ | ⟨mv, pn2, hlt2, hm100, qv2⟩
          · rw [qv2, if_pos (by decide)]
            exact Ok_some ⟨Fri_t gb, j2, hj2, r3, Or.inl ⟨by rw [up, pn2]; rfl, rfl⟩⟩
          · rw [qv2]
            rw [pn2] at up
            simp only [Option.bind_some] at up
            refine Ok_ite (fun hm1 => ?_) (fun hm1 => ?_)
            · rw [z1, nI_ltI (by omega) (by omega)] at hm1
              rw [if_pos (Or.inl hm1)] at up
              exact Ok_some ⟨Fri_t gb, j2, hj2, r3, Or.inl ⟨up, rfl⟩⟩
            · rw [z1, nI_ltI (by omega) (by omega)] at hm1
              have z30 : (30 : Int32) = nI 30 := rfl
              refine Ok_ite (fun hm3 => ?_) (fun hm3 => ?_)
              · rw [z30, nI_leI (by omega) (by omega)] at hm3
                rw [if_neg (by omega)] at up
                have cr3 : CR q2.2 t D := CR_fr hD (fun c hc _ => gb c (by omega))
                refine Ok_bind (seat_ok (k := kv) (m := mv) (f := rowF X n j2) cr3 hw h5) (fun q3 hq3 => ?_)
                obtain ⟨ev, cr4, g4⟩ := hq3
                rw [ev]
                have hf10 : ∀ x, rowF X n j2 x ≤ 127 := fun x => by
                  unfold rowF; have := chr_lt ht (j2 + x); split <;> omega
                have stp := Ok_for (R := fun (q : Int32 × St) => Fri σ q.2 t ∧ ∃ j, j ≤ n ∧ RT q.2 X n j true ∧ (pWoo D X n i = none ∧ q.1 = 0 ∨ ∃ D', pWoo D X n i = some (j, D') ∧ i < j ∧ q.1 = 1 ∧ CR q.2 t D' ∧ wfT D'))
                  (body := fun (r11 : Int32 × St → Option (Int32 × St)) (b11 : Int32 × St) => (if (b11.2 t 0) ≤ b11.1 then (f_X2_next b11.2).bind (fun q13 => (if ¬ q13.1 = (59 : Int32) then some ((0 : Int32), q13.2) else some ((1 : Int32), q13.2))) else (f_X2_next b11.2).bind (fun q15 => (f_X2_isFigure q15.1 q15.2).bind (fun q16 => jn (fun (q17 : St) => nm (b11.1 + (1 : Int32)) (fun x21 => r11 (x21, q17))) (fun k17 => (if q16.1 = 0 then (if q15.1 = (45 : Int32) then k17 q16.2 else some ((0 : Int32), q16.2)) else (f_X1_give t (nI (tN D)) b11.1 (q15.1 - (48 : Int32)) q16.2).bind (fun q20 => k17 q20.2)))))))
                  (fun x b => b.1 = nI x ∧ RT b.2 X n (j2 + x) true ∧ j2 + x ≤ n ∧ Fri σ b.2 t ∧ CR b.2 t (seatK D kv mv (rowF X n j2) x) ∧ (∀ y, y < x → chr X n (j2 + y) = 45 ∨ (48 ≤ chr X n (j2 + y) ∧ chr X n (j2 + y) ≤ 57))) 0 (tW D) ((0 : Int32), q3.2)
                  ⟨rfl, RT_f r3 h2 g4, hj2, Fri_tr (Fri_t gb) (Fri_f g4), cr4, fun y hy => by omega⟩ (Nat.zero_le _) (by omega)
                  (fun rec x b _ hx hb hr => ?_) (fun rec b hb => ?_)
                · exact stp
                · obtain ⟨e5, r5, hxn, g5, cr5, rw5⟩ := hb
                  have c1 := chr_lt ht (j2 + x)
                  simp (disch := omega) only [cr5.1, e5, tW_sk, nI_leI]
                  rw [if_neg (by omega)]
                  refine Ok_bind (next_ok ht r5 hxn) (fun q4 hq4 => ?_)
                  obtain ⟨e6, r6, g6⟩ := hq4
                  have gd : Fri σ q4.2 t := Fri_tr g5 (Fri_t g6)
                  have cr6 : CR q4.2 t (seatK D kv mv (rowF X n j2) x) := CR_fr cr5 (fun c hc _ => g6 c (by omega))
                  have hj : (if j2 + x < n then j2 + x + 1 else j2 + x) ≤ n := by split <;> omega
                  rw [e6]
                  refine Ok_bindE (isFigure_eq (by omega)) ?_
                  dsimp only
                  refine Ok_jn (fun y => RT y X n (j2 + (x + 1)) true ∧ j2 + (x + 1) ≤ n ∧ Fri σ y t ∧ CR y t (seatK D kv mv (rowF X n j2) (x + 1)) ∧ (chr X n (j2 + x) = 45 ∨ (48 ≤ chr X n (j2 + x) ∧ chr X n (j2 + x) ≤ 57))) (fun y hy => ?_) (fun k hk => ?_)
                  · obtain ⟨y1, y2, y3, y4, y5⟩ := hy
                    refine Ok_nm (hr _ ⟨?_, y1, y2, y3, y4, fun z hz => ?_⟩)
                    · show nI x + 1 = nI (x + 1); rw [z1, nI_add]
                    · by_cases hzx : z = x
                      · subst hzx; exact y5
                      · exact rw5 z (by omega)
                  · refine Ok_ite (fun hc1 => ?_) (fun hc1 => ?_)
                    · rw [i1_eq0] at hc1
                      have z45 : (45 : Int32) = nI 45 := rfl
                      refine Ok_ite (fun hc2 => ?_) (fun hc2 => ?_)
                      · rw [z45, nI_eq (by omega) (by omega)] at hc2
                        have hin : j2 + x < n := chr_in (X := X) (by omega)
                        rw [if_pos hin] at r6
                        refine hk _ ⟨r6, by omega, gd, ?_, Or.inl hc2⟩
                        rw [← sk_skip (by unfold rowF; rw [if_pos hc2])]
                        exact cr6
                      · rw [z45, nI_eq (by omega) (by omega)] at hc2
                        refine Ok_some ⟨gd, _, hj, r6, Or.inl ⟨?_, rfl⟩⟩
                        rw [up, if_neg]
                        rintro ⟨zz, -⟩
                        rcases rowB_iff.mp zz x hx with z | z
                        · exact hc2 z
                        · exact hc1 z
                    · rw [i1_eq0] at hc1
                      have hc1 := Classical.not_not.mp hc1
                      have hin : j2 + x < n := chr_in (X := X) (by omega)
                      rw [if_pos hin] at r6
                      rw [sub48 hc1.1]
                      have hfx : rowF X n j2 x = chr X n (j2 + x) - 48 := by unfold rowF; rw [if_neg (by omega)]
                      have wk : wfT (seatK D kv mv (fun y => if y < x then rowF X n j2 y else 10) x) := by
                        refine wf_sk hw h5 hk3 (by omega) hm3 (fun y => ?_)
                        split
                        · rename_i hy
                          have h7 := rw5 y hy
                          unfold rowF
                          split
                          · omega
                          · rcases h7 with h7 | h7 <;> omega
                        · omega
                      have eqk : seatK D kv mv (fun y => if y < x then rowF X n j2 y else 10) x = seatK D kv mv (rowF X n j2) x := by
                        funext c q
                        unfold seatK
                        by_cases h4 : q % 8 < x <;> simp [h4]
                      rw [eqk] at wk
                      refine Ok_bind (give_ok (p := tN D) cr6 wk (by rw [tN_sk]; omega) (by rw [tW_sk]; exact hx) (by omega)) (fun q5 hq5 => ?_)
                      refine hk _ ⟨RT_f r6 h2 hq5.2, by omega, Fri_tr gd (Fri_f hq5.2), ?_, Or.inr hc1⟩
                      rw [sk_give (by omega) hfx] at hq5
                      exact hq5.1
                · obtain ⟨e5, r5, hxn, g5, cr5, rw5⟩ := hb
                  have c1 := chr_lt ht (j2 + tW D)
                  simp only [cr5.1, e5, tW_sk]
                  rw [if_pos (by rw [nI_leI (by omega) (by omega)]; exact Nat.le_refl _)]
                  refine Ok_bind (next_ok ht r5 hxn) (fun q4 hq4 => ?_)
                  obtain ⟨e6, r6, g6⟩ := hq4
                  have gd : Fri σ q4.2 t := Fri_tr g5 (Fri_t g6)
                  have cr6 : CR q4.2 t (seatK D kv mv (rowF X n j2) (tW D)) := CR_fr cr5 (fun c hc _ => g6 c (by omega))
                  have hj : (if j2 + tW D < n then j2 + tW D + 1 else j2 + tW D) ≤ n := by split <;> omega
                  rw [e6]
                  have z59 : (59 : Int32) = nI 59 := rfl
                  refine Ok_ite (fun hc1 => ?_) (fun hc1 => ?_)
                  · rw [z59, nI_eq (by omega) (by omega)] at hc1
                    exact Ok_some ⟨gd, _, hj, r6, Or.inl ⟨by rw [up, if_neg (fun z => hc1 z.2)], rfl⟩⟩
                  · rw [z59, nI_eq (by omega) (by omega)] at hc1
                    have hc1 := Classical.not_not.mp hc1
                    have hin : j2 + tW D < n := chr_in (X := X) (by omega)
                    rw [if_pos hin] at r6
                    refine Ok_some ⟨gd, _, by omega, r6, Or.inr ⟨_, by rw [up, if_pos ⟨rowB_iff.mpr rw5, hc1⟩], by omega, rfl, cr6, ?_⟩⟩
                    have wk : wfT (seatK D kv mv (fun y => if y < tW D then rowF X n j2 y else 10) (tW D)) := by
                      refine wf_sk hw h5 hk3 (by omega) hm3 (fun y => ?_)
                      split
                      · rename_i hy
                        have h7 := rw5 y hy
                        unfold rowF
                        split
                        · omega
                        · rcases h7 with h7 | h7 <;> omega
                      · omega
                    have eqk : seatK D kv mv (fun y => if y < tW D then rowF X n j2 y else 10) (tW D) = seatK D kv mv (rowF X n j2) (tW D) := by
                      funext c q
                      unfold seatK
                      by_cases h4 : q % 8 < tW D <;> simp [h4]
                    rw [eqk] at wk
                    exact wk
              · rw [z30, nI_leI (by omega) (by omega)] at hm3
                rw [if_pos (Or.inr (by omega))] at up
                exact Ok_some ⟨Fri_t gb, j2, hj2, r3, Or.inl ⟨up, rfl⟩⟩
        · rw [z3, nI_leI (by omega) (by omega)] at hk3
          rw [if_pos (by omega)] at up
          exact Ok_some ⟨Fri_t ga, j1, hj1, r2, Or.inl ⟨up, rfl⟩⟩
    · have hN5 := hw.2.1
      rw [cr1.2.1, z5, nI_ltI (by omega) (by omega)] at h5
      refine Ok_some ⟨Fri_t g1, i, hi, r1, Or.inl ⟨?_, rfl⟩⟩
      unfold pWoo; rw [if_pos (Or.inr (by omega))]
end TZ
