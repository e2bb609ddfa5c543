/-! the class: what befalls, an empty table, sets of wooers and words -/
theorem i1_eq0 {c : Prop} [Decidable c] : ((if c then (1 : Int32) else 0) = 0) ↔ ¬ c := by
  by_cases h : c
  · rw [if_pos h]; simp only [h, not_true, iff_false]; decide
  · rw [if_neg h]; simp [h]
def diffB (T : Tb) (p q : Nat) : Nat := bs (fun w => !decide (way T p w = way T q w)) (tW T)
def hldN (T : Tb) (w v : Nat) : Nat := cnt (fun p => decide (way T p w = v)) (tN T)
def havB (T : Tb) (w v : Nat) : Nat := bs (fun p => decide (way T p w = v)) (tN T)
def anoth (T : Tb) (w : Nat) : Prop := ∃ p, p < tN T ∧ way T p w < 10 ∧ way T p w ≠ snd T w ∧ hldN T w (snd T w) < hldN T w (way T p w)
section B
variable {σ : St} {t : Nat} {T : Tb} {p q w : Nat}
theorem div_nI {a d : Nat} (ha : a < 2147483648) (h0 : 0 < d) (hd : d < 2147483648) : nI a / nI d = nI (a / d) := pk_div ha h0 hd
theorem befall_ok {d : Nat} (h : CR σ t T) (hw : wfT T) (hW : 0 < tW T) (hN : 0 < tN T) (hd : d < 65521) : Ok (f_X1_befall t (nI d) σ) (fun x => CR x.2 t (befall T d) ∧ Fr σ x.2 t (t + 8)) := by
  have hT8 := hw.1
  have hN5 := hw.2.1
  have a1 := Nat.mod_lt (d / 8) hN
  have a2 := Nat.mod_lt (d / 64) hN
  have a3 := Nat.mod_lt (d / 64) hW
  have z64 : (64 : Int32) = nI 64 := rfl
  unfold f_X1_befall
  simp only [h.2.1, h.1, z8, z64]
  have m8 : nI d - nI d / nI 8 * nI 8 = nI (d % 8) := rem_nI (by omega) (by omega) (by omega)
  have q8 : nI d / nI 8 = nI (d / 8) := div_nI (by omega) (by omega) (by omega)
  have q64 : nI d / nI 64 = nI (d / 64) := div_nI (by omega) (by omega) (by omega)
  have r1 : nI (d / 8) - nI (d / 8) / nI (tN T) * nI (tN T) = nI (d / 8 % tN T) := rem_nI (by omega) (by omega) (by omega)
  have r2 : nI (d / 64) - nI (d / 64) / nI (tN T) * nI (tN T) = nI (d / 64 % tN T) := rem_nI (by omega) (by omega) (by omega)
  have r3 : nI (d / 64) - nI (d / 64) / nI (tW T) * nI (tW T) = nI (d / 64 % tW T) := rem_nI (by omega) (by omega) (by omega)
  rw [m8, q8, q64, r1, r2, r3]
  rw [if_neg (by rw [z0, nI_leI (by omega) (by omega)]; omega), if_pos (by rw [z0, nI_ltI (by omega) (by omega)]; omega), if_neg (by rw [z0, nI_eq (by omega) (by omega)]; omega)]
  refine Ok_nm ?_
  rw [if_neg (by rw [z0, nI_eq (by omega) (by omega)]; omega)]
  refine Ok_nm ?_
  rw [if_neg (by rw [z0, nI_eq (by omega) (by omega)]; omega)]
  refine Ok_nm ?_
  refine Ok_nm ?_
  unfold befall
  refine Ok_ite (fun hc => ?_) (fun hc => ?_)
  · rw [z3, nI_ltI (by omega) (by omega)] at hc
    rw [if_neg (by omega)]
    refine Ok_jn (fun x => x = σ ∧ ¬ (d % 8 = 4 ∧ way T (d / 8 % tN T) (d / 64 % tW T) < 10 ∧ way T (d / 8 % tN T) (d / 64 % tW T) ≠ snd T (d / 64 % tW T))) (fun x hx => ?_) (fun k hk => ?_)
    · obtain ⟨rfl, hx⟩ := hx
      rw [if_neg hx]
      refine Ok_ite (fun h5 => ?_) (fun h5 => ?_)
      · rw [z5, nI_eq (by omega) (by omega)] at h5
        rw [if_neg (fun z => h5 z.1)]
        exact Ok_some ⟨h, Fr_rf⟩
      · rw [z5, nI_eq (by omega) (by omega)] at h5
        refine Ok_ite (fun h6 => ?_) (fun h6 => ?_)
        · rw [nI_eq (by omega) (by omega)] at h6
          rw [if_neg (fun z => z.2 h6)]
          exact Ok_some ⟨h, Fr_rf⟩
        · rw [nI_eq (by omega) (by omega)] at h6
          rw [if_pos ⟨Classical.not_not.mp h5, h6⟩]
          refine Ok_bind (swapSeats_ok h hw a1 a2) (fun x hx => Ok_some hx)
    · refine Ok_ite (fun h4 => ?_) (fun h4 => ?_)
      · rw [z4, nI_eq (by omega) (by omega)] at h4
        exact hk _ ⟨rfl, fun z => h4 z.1⟩
      · rw [z4, nI_eq (by omega) (by omega)] at h4
        refine Ok_bindE (canRepair_eq h hw a1 a3) ?_
        dsimp only
        refine Ok_ite (fun h6 => ?_) (fun h6 => ?_)
        · rw [i1_eq0] at h6
          exact hk _ ⟨rfl, fun z => h6 z.2⟩
        · rw [i1_eq0] at h6
          have h6 := Classical.not_not.mp h6
          rw [if_pos ⟨Classical.not_not.mp h4, h6⟩]
          refine Ok_bind (repair_ok h hw a1 a3) (fun x hx => Ok_some hx)
  · rw [z3, nI_ltI (by omega) (by omega)] at hc
    rw [if_pos (by omega)]
    refine Ok_bind (teach_ok h hw a1 a3) (fun x hx => Ok_some hx)
def T00 : Tb := fun c k => if c = 0 ∧ k = 2 then 3 else 0
theorem clear_ok : Ok (f_X1_clear t σ) (fun x => CR x.2 t T00 ∧ Fr σ x.2 t (t + 1)) := by
  unfold f_X1_clear
  simp only [nm]
  refine Ok_some ⟨⟨?_, ?_, ?_, ?_, fun x hx => ?_, fun p hp => ?_⟩, Fr_tr (Fr_tr (Fr_tr (w2_fr (by omega) (by omega)) (w2_fr (by omega) (by omega))) (w2_fr (by omega) (by omega))) (w2_fr (by omega) (by omega))⟩
  · simp only [w2_ap]; simp [tW, T00, z0]
  · simp only [w2_ap]; simp [tN, T00, z0]
  · simp only [w2_ap]; simp [tS, T00, z3]
  · simp only [w2_ap]; simp [tD, T00, z0]
  · simp [tW, T00] at hx
  · simp [tN, T00] at hp
theorem differing_eq (h : CR σ t T) (hw : wfT T) (hp : p < tN T) (hq : q < tN T) : f_X1_differing t (nI p) (nI q) σ = some (nI (diffB T p q), σ) := by
  have hT := hw.1
  have hN := hw.2.1
  refine Ok_eq ?_
  unfold f_X1_differing
  refine Ok_bindE (at_eq (by omega) (by decide)) ?_
  refine Ok_bindE (at_eq (by omega) (by decide)) ?_
  refine Ok_nm ?_
  refine Ok_bindE (at_eq (by omega) (by decide)) ?_
  refine Ok_bindE (at_eq (by omega) (by decide)) ?_
  refine Ok_nm ?_
  dsimp only
  rw [(h.2.2.2.2.2 p hp).2.2.1, (h.2.2.2.2.2 q hq).2.2.1, nx_xor, fa_and]
  have eA : hasB T p &&& hasB T q = bs (fun w => decide (way T p w < 10) && decide (way T q w < 10)) (tW T) := by
    apply Nat.eq_of_testBit_eq; intro i
    unfold hasB
    rw [Nat.testBit_and, bs_bit, bs_bit, bs_bit]
    by_cases hi : i < tW T <;> simp [hi]
  have eX : hasB T p ^^^ hasB T q = bs (fun w => decide (way T p w < 10) ^^ decide (way T q w < 10)) (tW T) := by
    apply Nat.eq_of_testBit_eq; intro i
    unfold hasB
    rw [Nat.testBit_xor, bs_bit, bs_bit, bs_bit]
    by_cases hi : i < tW T <;> simp [hi]
  rw [eA, eX]
  refine Ok_for (fun i b => b = (nI (bs (fun w => (decide (way T p w < 10) ^^ decide (way T q w < 10)) || (decide (w < i) && !decide (way T p w = way T q w))) (tW T)), nI i, σ)) 0 (tW T) _ ?_ (Nat.zero_le _) (by omega) (fun rec i b _ hi hb hr => ?_) (fun rec b hb => ?_)
  · congr 2
    exact bs_ext (fun i hi => by simp)
  · subst hb
    dsimp only
    simp (disch := omega) only [h.1, nI_leI]
    rw [if_neg (by omega)]
    have w10p := ((hw.2.2.2.2.2 p hp).2.2.2 i hi).1
    have w10q := ((hw.2.2.2.2.2 q hq).2.2.2 i hi).1
    refine Ok_jn (fun x => x = (nI (bs (fun w => (decide (way T p w < 10) ^^ decide (way T q w < 10)) || (decide (w < i + 1) && !decide (way T p w = way T q w))) (tW T)), σ)) (fun x hx => ?_) (fun k hk => ?_)
    · subst hx
      refine Ok_nm (hr _ ?_)
      dsimp only
      rw [z1, nI_add]
    · have sb := shrb _ (bs256 (fun w => decide (way T p w < 10) && decide (way T q w < 10)) hT) i (by omega)
      rw [sb, bs_bit]
      simp only [hi, decide_true, Bool.true_and]
      have same : (∀ j, j < tW T → ((decide (way T p j < 10) ^^ decide (way T q j < 10)) || (decide (j < i) && !decide (way T p j = way T q j))) = ((decide (way T p j < 10) ^^ decide (way T q j < 10)) || (decide (j < i + 1) && !decide (way T p j = way T q j)))) → bs (fun w => (decide (way T p w < 10) ^^ decide (way T q w < 10)) || (decide (w < i) && !decide (way T p w = way T q w))) (tW T) = bs (fun w => (decide (way T p w < 10) ^^ decide (way T q w < 10)) || (decide (w < i + 1) && !decide (way T p w = way T q w))) (tW T) := fun hz => bs_ext hz
      have nextj : ∀ j, ¬ j = i → (decide (j < i + 1)) = decide (j < i) := fun j hj => by
        by_cases h1 : j < i
        · have : j < i + 1 := by omega
          simp [h1, this]
        · have : ¬ j < i + 1 := by omega
          simp [h1, this]
      refine Ok_ite (fun hc => ?_) (fun hc => ?_)
      · refine hk _ ?_
        congr 2
        refine same (fun j hj => ?_)
        by_cases hji : j = i
        · subst hji
          have hnb : ¬ (way T p j < 10 ∧ way T q j < 10) := fun z => by
            simp [z.1, z.2] at hc
            exact absurd rfl hc
          by_cases hp1 : way T p j < 10
          · have hq1 : ¬ way T q j < 10 := fun z => hnb ⟨hp1, z⟩
            simp [hp1, hq1]
          · by_cases hq1 : way T q j < 10
            · simp [hp1, hq1]
            · have : way T p j = way T q j := by omega
              simp [this]
        · rw [nextj j hji]
      · have hb2 : way T p i < 10 ∧ way T q i < 10 := by
          by_cases z1 : way T p i < 10 <;> by_cases z2 : way T q i < 10
          · exact ⟨z1, z2⟩
          all_goals (exfalso; apply hc; simp [z1, z2]; decide)
        refine Ok_bindE (wayOf_eq h hw hp hi hb2.1) ?_
        refine Ok_bindE (wayOf_eq h hw hq hi hb2.2) ?_
        dsimp only
        refine Ok_ite (fun he => ?_) (fun he => ?_)
        · rw [nI_eq (by omega) (by omega)] at he
          refine hk _ ?_
          congr 2
          refine same (fun j hj => ?_)
          by_cases hji : j = i
          · subst hji; simp [he]
          · rw [nextj j hji]
        · rw [nI_eq (by omega) (by omega)] at he
          refine Ok_nm (hk _ ?_)
          rw [shl1 i (by omega), fa_or, bs_one hi, bs_or]
          congr 2
          refine bs_ext (fun j hj => ?_)
          by_cases hji : j = i
          · subst hji; simp [he]
          · rw [nextj j hji]; simp [hji]
  · subst hb
    dsimp only
    simp only [h.1]
    rw [if_pos (by rw [nI_leI (by omega) (by omega)]; exact Nat.le_refl _)]
    refine Ok_some ?_
    congr 2
    refine bs_ext (fun j hj => ?_)
    have w10p := ((hw.2.2.2.2.2 p hp).2.2.2 j hj).1
    have w10q := ((hw.2.2.2.2.2 q hq).2.2.2 j hj).1
    simp only [hj, decide_true, Bool.true_and]
    by_cases he : way T p j = way T q j
    · simp [he]
    · by_cases hp1 : way T p j < 10 <;> simp [he, hp1]
theorem holders_eq {v : Nat} (h : CR σ t T) (hw : wfT T) (hq : w < tW T) (hv : v < 10) : f_X1_holders t (nI w) (nI v) σ = some (nI (hldN T w v), σ) := by
  have hT := hw.1
  have hN := hw.2.1
  refine Ok_eq ?_
  unfold f_X1_holders
  refine Ok_for (fun i b => b = (nI (cnt (fun p => decide (way T p w = v)) i), nI i, σ)) 0 (tN T) _ rfl (Nat.zero_le _) (by omega) (fun rec i b _ hi hb hr => ?_) (fun rec b hb => ?_)
  · subst hb
    dsimp only
    simp (disch := omega) only [h.2.1, nI_leI]
    rw [if_neg (by omega)]
    refine Ok_bindE (holds_eq h hw hi hq) ?_
    dsimp only
    refine Ok_jn (fun x => x = (nI (cnt (fun p => decide (way T p w = v)) (i + 1)), σ)) (fun x hx => ?_) (fun k hk => ?_)
    · subst hx
      refine Ok_nm (hr _ ?_)
      dsimp only
      rw [z1, nI_add]
    · refine Ok_ite (fun hc => ?_) (fun hc => ?_)
      · rw [i1_eq0] at hc
        refine hk _ ?_
        have : ¬ way T i w = v := by omega
        simp [cnt, this]
      · rw [i1_eq0] at hc
        have hc := Classical.not_not.mp hc
        refine Ok_bindE (wayOf_eq h hw hi hq hc) ?_
        dsimp only
        refine Ok_ite (fun he => ?_) (fun he => ?_)
        · rw [nI_eq (by omega) (by omega)] at he
          exact hk _ (by simp [cnt, he])
        · rw [nI_eq (by omega) (by omega)] at he
          have he := Classical.not_not.mp he
          refine Ok_nm (hk _ ?_)
          rw [z1, nI_add]
          simp [cnt, he]
  · subst hb
    dsimp only
    simp only [h.2.1]
    rw [if_pos (by rw [nI_leI (by omega) (by omega)]; exact Nat.le_refl _)]
    exact Ok_some rfl
theorem isAnother_ok (h : CR σ t T) (hw : wfT T) (hq : w < tW T) : Ok (f_X1_isAnother t (nI w) σ) (fun x => x.2 = σ ∧ (x.1 = 0 ∧ ¬ anoth T w ∨ x.1 = 1 ∧ anoth T w)) := by
  have hT := hw.1
  have hN := hw.2.1
  have hs := hw.2.2.2.2.1 w hq
  have hcl : ∀ v, hldN T w v ≤ 5 := fun v => Nat.le_trans (cnt_le _ _) hN
  have hcs := hcl (snd T w)
  unfold f_X1_isAnother
  refine Ok_bindE (at_eq (by omega) (by decide)) ?_
  dsimp only
  rw [h.2.2.2.2.1 w hq]
  refine Ok_bindE (holders_eq h hw hq (by omega)) ?_
  dsimp only
  refine Ok_for (fun i b => b = (nI i, σ) ∧ ∀ p, p < i → ¬ (way T p w < 10 ∧ way T p w ≠ snd T w ∧ hldN T w (snd T w) < hldN T w (way T p w))) 0 (tN T) _ ⟨rfl, fun p hp => by omega⟩ (Nat.zero_le _) (by omega) (fun rec i b _ hi hb hr => ?_) (fun rec b hb => ?_)
  · obtain ⟨rfl, hno⟩ := hb
    dsimp only
    simp (disch := omega) only [h.2.1, nI_leI]
    rw [if_neg (by omega)]
    refine Ok_bindE (canRepair_eq h hw hi hq) ?_
    dsimp only
    refine Ok_jn (fun x => x = σ ∧ ¬ (way T i w < 10 ∧ way T i w ≠ snd T w ∧ hldN T w (snd T w) < hldN T w (way T i w))) (fun x hx => ?_) (fun k hk => ?_)
    · obtain ⟨rfl, hx⟩ := hx
      refine Ok_nm (hr _ ⟨?_, fun p hp => ?_⟩)
      · rw [z1, nI_add]
      · by_cases hpi : p = i
        · subst hpi; exact hx
        · exact hno p (by omega)
    · refine Ok_ite (fun hc => ?_) (fun hc => ?_)
      · rw [i1_eq0] at hc
        exact hk _ ⟨rfl, fun z => hc ⟨z.1, z.2.1⟩⟩
      · rw [i1_eq0] at hc
        have hc := Classical.not_not.mp hc
        have hcw := hcl (way T i w)
        refine Ok_bindE (wayOf_eq h hw hi hq hc.1) ?_
        dsimp only
        refine Ok_bindE (holders_eq h hw hq hc.1) ?_
        dsimp only
        refine Ok_ite (fun he => ?_) (fun he => ?_)
        · rw [nI_leI (by omega) (by omega)] at he
          exact hk _ ⟨rfl, fun z => by omega⟩
        · rw [nI_leI (by omega) (by omega)] at he
          exact Ok_some ⟨rfl, Or.inr ⟨rfl, i, hi, hc.1, hc.2, by omega⟩⟩
  · obtain ⟨rfl, hno⟩ := hb
    dsimp only
    simp only [h.2.1]
    rw [if_pos (by rw [nI_leI (by omega) (by omega)]; exact Nat.le_refl _)]
    exact Ok_some ⟨rfl, Or.inl ⟨rfl, fun z => by obtain ⟨p, hp, hz⟩ := z; exact hno p hp hz⟩⟩
theorem having_eq {v : Nat} (h : CR σ t T) (hw : wfT T) (hq : w < tW T) (hv : v ≤ 10) : f_X1_having t (nI w) (nI v) σ = some (nI (havB T w v), σ) := by
  have hT := hw.1
  have hN := hw.2.1
  refine Ok_eq ?_
  unfold f_X1_having
  refine Ok_for (fun i b => b = (nI (bs (fun p => decide (way T p w = v)) i), nI i, σ)) 0 (tN T) _ rfl (Nat.zero_le _) (by omega) (fun rec i b _ hi hb hr => ?_) (fun rec b hb => ?_)
  · subst hb
    have w10 := ((hw.2.2.2.2.2 i hi).2.2.2 w hq).1
    dsimp only
    simp (disch := omega) only [h.2.1, nI_leI]
    rw [if_neg (by omega)]
    refine Ok_jn (fun x => x = (if way T i w = v then 1 else 0, σ)) (fun x hx => ?_) (fun k hk => ?_)
    · subst hx
      dsimp only
      refine Ok_jn (fun x => x = (nI (bs (fun p => decide (way T p w = v)) (i + 1)), σ)) (fun x hx => ?_) (fun k hk => ?_)
      · subst hx
        refine Ok_nm (hr _ ?_)
        dsimp only
        rw [z1, nI_add]
      · refine Ok_ite (fun hc => ?_) (fun hc => ?_)
        · rw [i1_eq0] at hc
          exact hk _ (by simp [bs, hc])
        · rw [i1_eq0] at hc
          have hc := Classical.not_not.mp hc
          refine Ok_nm (hk _ ?_)
          rw [shl1 i (by omega), fa_or, Nat.or_comm]
          have e : bs (fun p => decide (way T p w = v)) (i + 1) = bs (fun p => decide (way T p w = v)) i + 2 ^ i := by simp [bs, hc]
          have e2 : 2 ^ i ||| bs (fun p => decide (way T p w = v)) i = bs (fun p => decide (way T p w = v)) i + 2 ^ i := by
            rw [Nat.or_comm, ← e]
            apply Nat.eq_of_testBit_eq; intro j
            rw [Nat.testBit_or, bs_bit, bs_bit, Nat.testBit_two_pow]
            by_cases hj : i = j
            · subst hj; simp [hc]
            · by_cases h1 : j < i
              · have : j < i + 1 := by omega
                simp [hj, h1, this]
              · have : ¬ j < i + 1 := by omega
                simp [hj, h1, this]
          rw [e, e2]
    · refine Ok_ite (fun hc => ?_) (fun hc => ?_)
      · rw [z10, nI_eq (by omega) (by omega)] at hc
        refine Ok_bindE (holds_eq h hw hi hq) ?_
        dsimp only
        refine Ok_jn (fun x => x = σ ∧ ¬ way T i w = v) (fun x hx => ?_) (fun k2 hk2 => ?_)
        · obtain ⟨rfl, hx⟩ := hx
          exact hk _ (by rw [if_neg hx])
        · refine Ok_ite (fun hh => ?_) (fun hh => ?_)
          · rw [i1_eq0] at hh
            exact hk2 _ ⟨rfl, by omega⟩
          · rw [i1_eq0] at hh
            have hh := Classical.not_not.mp hh
            refine Ok_bindE (wayOf_eq h hw hi hq hh) ?_
            dsimp only
            refine Ok_ite (fun he => ?_) (fun he => ?_)
            · rw [nI_eq (by omega) (by omega)] at he
              exact hk2 _ ⟨rfl, he⟩
            · rw [nI_eq (by omega) (by omega)] at he
              exact hk _ (by rw [if_pos (Classical.not_not.mp he)])
      · rw [z10, nI_eq (by omega) (by omega)] at hc
        have hc := Classical.not_not.mp hc
        subst hc
        refine Ok_bindE (holds_eq h hw hi hq) ?_
        dsimp only
        refine Ok_ite (fun hh => ?_) (fun hh => ?_)
        · rw [i1_eq0] at hh
          exact hk _ (by rw [if_neg (by omega)])
        · rw [i1_eq0] at hh
          exact hk _ (by rw [if_pos (by omega)])
  · subst hb
    dsimp only
    simp only [h.2.1]
    rw [if_pos (by rw [nI_leI (by omega) (by omega)]; exact Nat.le_refl _)]
    exact Ok_some rfl
end B
