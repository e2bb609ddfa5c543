/-! a text as numbers, how it is read; the class's Text -/
def chr (X : Nat → Nat) (n i : Nat) : Nat := if i < n then X i else 0
def dig (c : Nat) : Prop := 48 ≤ c ∧ c ≤ 57
def pNum (X : Nat → Nat) (n i e : Nat) : Option (Nat × Nat) :=
  if 48 ≤ chr X n i ∧ chr X n i ≤ 57 then
    (if chr X n (i + 1) = e then some (chr X n i - 48, i + 2)
     else if 48 ≤ chr X n (i + 1) ∧ chr X n (i + 1) ≤ 57 then
      (if chr X n (i + 2) = e then some (10 * (chr X n i - 48) + (chr X n (i + 1) - 48), i + 3) else none)
     else none)
  else none
def txtOk (X : Nat → Nat) (n : Nat) : Prop := n ≤ 200 ∧ ∀ i, i < n → X i < 128
def RT (σ : St) (X : Nat → Nat) (n i : Nat) (past : Bool) : Prop := σ 0 0 = nI n ∧ σ 0 1 = nI i ∧ σ 0 2 = nI (if past then 1 else 0) ∧ ∀ j, j < n → σ 1 j = nI (X j)
theorem chr_lt {X : Nat → Nat} {n : Nat} (h : txtOk X n) (i : Nat) : chr X n i < 128 := by
  unfold chr; split
  · rename_i hi; exact h.2 i hi
  · omega
theorem chr_in {X : Nat → Nat} {n i : Nat} (h : ¬ chr X n i = 0) : i < n := by
  unfold chr at h; split at h
  · assumption
  · exact absurd rfl h
section TX
variable {σ : St} {X : Nat → Nat} {n i : Nat} {past : Bool}
/-- what reading changes: the Text's own place and mark alone -/
def Frt (σ σ' : St) : Prop := ∀ c, ¬ c = 0 → σ' c = σ c
theorem Frt_rf {σ : St} : Frt σ σ := fun _ _ => rfl
theorem Frt_tr {σ σ1 σ2 : St} (h1 : Frt σ σ1) (h2 : Frt σ1 σ2) : Frt σ σ2 := fun c hc => (h2 c hc).trans (h1 c hc)
theorem next_ok (ht : txtOk X n) (h : RT σ X n i past) (hi : i ≤ n) : Ok (f_X2_next σ) (fun q => q.1 = nI (chr X n i) ∧ RT q.2 X n (if i < n then i + 1 else i) past ∧ Frt σ q.2) := by
  have hn := ht.1
  obtain ⟨h0, h1, h2, h3⟩ := h
  unfold f_X2_next
  simp (disch := omega) only [h0, h1, nI_ltI]
  by_cases hc : i < n
  · rw [if_pos hc]
    refine Ok_bindE (at_eq (by omega) (by decide)) ?_
    refine Ok_nm (Ok_some ⟨?_, ⟨?_, ?_, ?_, fun j hj => ?_⟩, fun c hc => ?_⟩)
    · unfold chr; rw [if_pos hc]; exact h3 i hc
    · dsimp only; rw [w2_ap, if_neg (by omega)]; exact h0
    · dsimp only; rw [w2_ap, if_pos ⟨rfl, rfl⟩, if_pos hc, h1, z1, nI_add]
    · dsimp only; rw [w2_ap, if_neg (by omega)]; exact h2
    · dsimp only; rw [w2_ap, if_neg (by omega)]; exact h3 j hj
    · dsimp only; funext k; rw [w2_ap, if_neg (fun z => hc z.1)]
  · rw [if_neg hc]
    refine Ok_some ⟨?_, ⟨h0, ?_, h2, h3⟩, Frt_rf⟩
    · unfold chr; rw [if_neg hc]; rfl
    · rw [if_neg hc]; exact h1
theorem isFigure_eq {c : Nat} (hc : c < 200) : f_X2_isFigure (nI c) σ = some (if 48 ≤ c ∧ c ≤ 57 then 1 else 0, σ) := by
  unfold f_X2_isFigure
  have a : (48 : Int32) = nI 48 := rfl
  have b : (57 : Int32) = nI 57 := rfl
  simp (disch := omega) only [jn, a, b, nI_ltI]
  by_cases h1 : c < 48
  · rw [if_pos h1, if_neg (by omega)]
  · rw [if_neg h1]
    by_cases h2 : 57 < c
    · rw [if_pos h2, if_neg (by omega)]
    · rw [if_neg h2, if_pos (by omega)]
theorem sub48 {c : Nat} (h : 48 ≤ c) : nI c - (48 : Int32) = nI (c - 48) := pk_sub h
theorem number_ok {e : Nat} (ht : txtOk X n) (h : RT σ X n i past) (hi : i ≤ n) (he : 0 < e) (he2 : e < 48 ∨ 57 < e ∧ e < 128) : Ok (f_X2_number (nI e) σ) (fun q => Frt σ q.2 ∧ ∃ j, j ≤ n ∧ RT q.2 X n j past ∧ (pNum X n i e = none ∧ q.1 = -1 ∨ ∃ v, pNum X n i e = some (v, j) ∧ i < j ∧ v < 100 ∧ q.1 = nI v)) := by
  have hn := ht.1
  have c0 := chr_lt ht i
  have c1 := chr_lt ht (i + 1)
  have c2 := chr_lt ht (i + 2)
  unfold f_X2_number
  refine Ok_bind (next_ok ht h hi) (fun q1 hq1 => ?_)
  obtain ⟨e1, r1, g1⟩ := hq1
  rw [e1]
  refine Ok_bindE (isFigure_eq (by omega)) ?_
  dsimp only
  refine Ok_ite (fun hc => ?_) (fun hc => ?_)
  · rw [i1_eq0] at hc
    have hc := Classical.not_not.mp hc
    have hin : i < n := chr_in (X := X) (by omega)
    rw [if_pos hin] at r1
    refine Ok_bind (next_ok ht r1 (by omega)) (fun q2 hq2 => ?_)
    obtain ⟨e2, r2, g2⟩ := hq2
    rw [e2]
    refine Ok_ite (fun hd => ?_) (fun hd => ?_)
    · rw [nI_eq (by omega) (by omega)] at hd
      refine Ok_bindE (isFigure_eq (by omega)) ?_
      dsimp only
      refine Ok_ite (fun hf => ?_) (fun hf => ?_)
      · rw [i1_eq0] at hf
        refine Ok_some ⟨Frt_tr g1 g2, _, ?_, r2, Or.inl ⟨?_, rfl⟩⟩
        · split <;> omega
        · unfold pNum; rw [if_pos hc, if_neg hd, if_neg hf]
      · rw [i1_eq0] at hf
        have hf := Classical.not_not.mp hf
        have hin2 : i + 1 < n := chr_in (X := X) (by omega)
        rw [if_pos hin2] at r2
        refine Ok_bind (next_ok ht r2 (by omega)) (fun q3 hq3 => ?_)
        obtain ⟨e3, r3, g3⟩ := hq3
        rw [show i + 1 + 1 = i + 2 from rfl] at e3 r3
        rw [e3]
        refine Ok_ite (fun hk => ?_) (fun hk => ?_)
        · rw [nI_eq (by omega) (by omega)] at hk
          have hin3 : i + 2 < n := chr_in (X := X) (by omega)
          rw [if_pos hin3] at r3
          refine Ok_some ⟨Frt_tr (Frt_tr g1 g2) g3, i + 3, by omega, r3, Or.inr ⟨10 * (chr X n i - 48) + (chr X n (i + 1) - 48), ?_, by omega, by omega, ?_⟩⟩
          · unfold pNum; rw [if_pos hc, if_neg hd, if_pos hf, if_pos hk]
          · dsimp only
            rw [sub48 hc.1, z10, pk_mul, nI_add, sub48 (by omega)]
            congr 1; omega
        · rw [nI_eq (by omega) (by omega)] at hk
          refine Ok_some ⟨Frt_tr (Frt_tr g1 g2) g3, _, ?_, r3, Or.inl ⟨?_, rfl⟩⟩
          · split <;> omega
          · unfold pNum; rw [if_pos hc, if_neg hd, if_pos hf, if_neg hk]
    · rw [nI_eq (by omega) (by omega)] at hd
      have hd := Classical.not_not.mp hd
      have hin2 : i + 1 < n := chr_in (X := X) (by omega)
      rw [if_pos hin2] at r2
      refine Ok_some ⟨Frt_tr g1 g2, i + 2, by omega, r2, Or.inr ⟨chr X n i - 48, ?_, by omega, by omega, ?_⟩⟩
      · unfold pNum; rw [if_pos hc, if_pos hd]
      · exact sub48 hc.1
  · rw [i1_eq0] at hc
    have hc := Classical.not_not.mp hc
    refine Ok_some ⟨g1, _, ?_, r1, Or.inl ⟨?_, rfl⟩⟩
    · split <;> omega
    · unfold pNum; rw [if_neg hc]
end TX
/-- how many figures stand from i on, k at most -/
def dc (X : Nat → Nat) (n i : Nat) : Nat → Nat
  | 0 => 0
  | k + 1 => if 48 ≤ chr X n i ∧ chr X n i ≤ 57 then dc X n (i + 1) k + 1 else 0
def setTg (D : Tb) (X : Nat → Nat) (n i m : Nat) : Tb := fun c k => if c = 0 ∧ k = 0 then m else if c = 1 ∧ k < m then chr X n (i + k) - 48 else D c k
def pTong (D : Tb) (X : Nat → Nat) (n i : Nat) : Option (Nat × Tb) :=
  if 1 ≤ dc X n i 9 ∧ dc X n i 9 ≤ 8 ∧ chr X n (i + dc X n i 9) = 59 then some (i + dc X n i 9 + 1, setTg D X n i (dc X n i 9)) else none
theorem dc_le (X : Nat → Nat) (n i k : Nat) : dc X n i k ≤ k := by
  induction k generalizing i with
  | zero => simp [dc]
  | succ k ih => simp only [dc]; split; have := ih (i + 1); omega; omega
theorem dc_fig {X : Nat → Nat} {n i k j : Nat} (h : j < dc X n i k) : 48 ≤ chr X n (i + j) ∧ chr X n (i + j) ≤ 57 := by
  induction k generalizing i j with
  | zero => simp [dc] at h
  | succ k ih =>
    simp only [dc] at h
    split at h
    · rename_i hc
      cases j with
      | zero => exact hc
      | succ j =>
        have := ih (i := i + 1) (j := j) (by omega)
        rw [show i + (j + 1) = i + 1 + j by omega]; exact this
    · omega
theorem dc_uniq {X : Nat → Nat} {n i k m : Nat} (hm : m ≤ k) (h1 : ∀ j, j < m → 48 ≤ chr X n (i + j) ∧ chr X n (i + j) ≤ 57) (h2 : m < k → ¬ (48 ≤ chr X n (i + m) ∧ chr X n (i + m) ≤ 57)) : dc X n i k = m := by
  induction k generalizing i m with
  | zero => simp [dc]; omega
  | succ k ih =>
    simp only [dc]
    cases m with
    | zero => rw [if_neg (by have := h2 (by omega); exact this)]
    | succ m =>
      rw [if_pos (by have := h1 0 (by omega); exact this)]
      rw [ih (i := i + 1) (m := m) (by omega) (fun j hj => by have := h1 (j + 1) (by omega); rw [show i + 1 + j = i + (j + 1) by omega]; exact this) (fun hmk => by have := h2 (by omega); rw [show i + 1 + m = i + (m + 1) by omega]; exact this)]
section TY
variable {σ : St} {X : Nat → Nat} {n i t : Nat} {past : Bool} {D : Tb}
theorem CR_setTg {σ1 : St} {m : Nat} {v : Int32} (h : CR σ t D ∨ CR σ t (setTg D X n i m)) (hN : tN D = 0) (hm : m < 8) (hs : ∀ k, k < m → σ (t + 1) k = nI (chr X n (i + k) - 48)) (hv : v = nI (chr X n (i + m) - 48)) : CR (w2 (w2 σ (t + 1) m v) t 0 (nI (m + 1))) t (setTg D X n i (m + 1)) := by
  have hN' : ∀ m, tN (setTg D X n i m) = 0 := fun m => by unfold tN setTg; simp; exact hN
  have hS' : ∀ m, tS (setTg D X n i m) = tS D := fun m => by unfold tS setTg; simp
  have hD' : ∀ m, tD (setTg D X n i m) = tD D := fun m => by unfold tD setTg; simp
  have b1 : σ t 1 = nI 0 := by rcases h with h | h; rw [h.2.1, hN]; rw [h.2.1, hN']
  have b2 : σ t 2 = nI (tS D) := by rcases h with h | h; exact h.2.2.1; rw [h.2.2.1, hS']
  have b3 : σ t 3 = nI (tD D) := by rcases h with h | h; exact h.2.2.2.1; rw [h.2.2.2.1, hD']
  refine ⟨?_, ?_, ?_, ?_, fun x hx => ?_, fun p hp => ?_⟩
  · simp only [w2_ap]; simp [tW, setTg]
  · rw [hN']; simp only [w2_ap]; simp [b1]
  · rw [hS']; simp only [w2_ap]; simp [b2]
  · rw [hD']; simp only [w2_ap]; simp [b3]
  · have hx2 : x < m + 1 := by simpa [tW, setTg] using hx
    have e : snd (setTg D X n i (m + 1)) x = chr X n (i + x) - 48 := by simp [snd, setTg, hx2]
    rw [e]
    simp only [w2_ap]
    by_cases hxm : x = m
    · subst hxm; simp [hv]
    · simp [hxm]; exact hs x (by omega)
  · rw [hN'] at hp; omega
theorem readTongue_ok (ht : txtOk X n) (h : RT σ X n i past) (hi : i ≤ n) (hD : CR σ t D) (hN : past = false → tN D = 0) (h2 : 2 ≤ t) : Ok (f_X2_readTongue t σ) (fun q => Fr σ q.2 0 (t + 8) ∧ (∀ c, ¬ c = 0 → c < t → q.2 c = σ c) ∧ ∃ j, j ≤ n ∧ RT q.2 X n j past ∧ ((past = true ∨ pTong D X n i = none) ∧ q.1 = 0 ∨ past = false ∧ ∃ D', pTong D X n i = some (j, D') ∧ i < j ∧ q.1 = 1 ∧ CR q.2 t D')) := by
  have hn := ht.1
  unfold f_X2_readTongue
  cases past with
  | true =>
    rw [h.2.2.1, if_neg (by decide)]
    exact Ok_some ⟨Fr_rf, fun _ _ _ => rfl, i, hi, h, Or.inl ⟨Or.inl rfl, rfl⟩⟩
  | false =>
    have hN := hN rfl
    rw [h.2.2.1, if_pos (by decide)]
    have step := Ok_for (R := fun (q : Int32 × St) => Fr σ q.2 0 (t + 8) ∧ (∀ c, ¬ c = 0 → c < t → q.2 c = σ c) ∧ ∃ j, j ≤ n ∧ RT q.2 X n j false ∧ ((false = true ∨ pTong D X n i = none) ∧ q.1 = 0 ∨ false = false ∧ ∃ D', pTong D X n i = some (j, D') ∧ i < j ∧ q.1 = 1 ∧ CR q.2 t D'))
      (body := fun (r2 : Int32 × St → Option (Int32 × St)) (b2 : Int32 × St) => (if (8 : Int32) < b2.1 then some ((0 : Int32), b2.2) else (f_X2_next b2.2).bind (fun q4 => (if ¬ q4.1 = (59 : Int32) then (f_X2_isFigure q4.1 q4.2).bind (fun q6 => (if q6.1 = 0 then some ((0 : Int32), q6.2) else (if ¬ b2.1 = (8 : Int32) then (f_X3_put (t + 1) 8 b2.1 (q4.1 - (48 : Int32)) q6.2).bind (fun q9 => nm (w2 q9.2 t 0 (b2.1 + (1 : Int32))) (fun σ10 => nm (b2.1 + (1 : Int32)) (fun x11 => r2 (x11, σ10)))) else some ((0 : Int32), q6.2)))) else (if b2.1 ≤ 0 then some ((0 : Int32), q4.2) else some ((1 : Int32), q4.2))))))
      (fun m b => b.1 = nI m ∧ RT b.2 X n (i + m) false ∧ i + m ≤ n ∧ Fr σ b.2 0 (t + 8) ∧ (∀ c, ¬ c = 0 → c < t → b.2 c = σ c) ∧ (∀ j, j < m → 48 ≤ chr X n (i + j) ∧ chr X n (i + j) ≤ 57) ∧ (m = 0 ∧ CR b.2 t D ∨ 0 < m ∧ CR b.2 t (setTg D X n i m)) ∧ ∀ k, k < m → b.2 (t + 1) k = nI (chr X n (i + k) - 48)) 0 9 ((0 : Int32), σ)
      ⟨rfl, h, hi, Fr_rf, fun _ _ _ => rfl, fun j hj => by omega, Or.inl ⟨rfl, hD⟩, fun k hk => by omega⟩ (by omega) (by omega)
      (fun rec m b _ hm hb hr => ?_) (fun rec b hb => ?_)
    · exact step
    · obtain ⟨e1, r1, hmn, g1, g2, df, cr, so⟩ := hb
      have c1 := chr_lt ht (i + m)
      rw [e1, if_neg (by rw [z8, nI_ltI (by omega) (by omega)]; omega)]
      refine Ok_bind (next_ok ht r1 hmn) (fun q1 hq1 => ?_)
      obtain ⟨e2, r2, f1⟩ := hq1
      have ga : Fr σ q1.2 0 (t + 8) := fun c hc => by rw [f1 c (by omega)]; exact g1 c hc
      have gb : ∀ c, ¬ c = 0 → c < t → q1.2 c = σ c := fun c hc hc2 => by rw [f1 c hc]; exact g2 c hc hc2
      have hj : (if i + m < n then i + m + 1 else i + m) ≤ n := by split <;> omega
      rw [e2]
      have z59 : (59 : Int32) = nI 59 := rfl
      refine Ok_ite (fun hc => ?_) (fun hc => ?_)
      · rw [z59, nI_eq (by omega) (by omega)] at hc
        refine Ok_bindE (isFigure_eq (by omega)) ?_
        dsimp only
        refine Ok_ite (fun hf => ?_) (fun hf => ?_)
        · rw [i1_eq0] at hf
          refine Ok_some ⟨ga, gb, _, hj, r2, Or.inl ⟨Or.inr ?_, rfl⟩⟩
          unfold pTong
          have : dc X n i 9 = m := dc_uniq (by omega) df (fun _ => hf)
          rw [this, if_neg (fun z => hc z.2.2)]
        · rw [i1_eq0] at hf
          have hf := Classical.not_not.mp hf
          have hin : i + m < n := chr_in (X := X) (by omega)
          refine Ok_ite (fun h8 => ?_) (fun h8 => ?_)
          · rw [z8, nI_eq (by omega) (by omega)] at h8
            refine Ok_bindE (put_eq (by omega) (by decide)) ?_
            rw [if_pos hin] at r2
            refine Ok_nm (Ok_nm (hr _ ⟨?_, ⟨?_, ?_, ?_, fun j hj => ?_⟩, by omega, ?_, fun c hc hc2 => ?_, fun j hj => ?_, Or.inr ⟨by omega, ?_⟩, fun k hk => ?_⟩))
            · show nI m + 1 = nI (m + 1); rw [z1, nI_add]
            · dsimp only; rw [w2_ap, if_neg (by omega), w2_ap, if_neg (by omega)]; exact r2.1
            · dsimp only; rw [w2_ap, if_neg (by omega), w2_ap, if_neg (by omega)]; exact r2.2.1
            · dsimp only; rw [w2_ap, if_neg (by omega), w2_ap, if_neg (by omega)]; exact r2.2.2.1
            · dsimp only; rw [w2_ap, if_neg (by omega), w2_ap, if_neg (by omega)]; exact r2.2.2.2 j hj
            · exact Fr_tr ga (Fr_tr (w2_fr (by omega) (by omega)) (w2_fr (by omega) (by omega)))
            · dsimp only; funext k; rw [w2_ap, if_neg (by omega), w2_ap, if_neg (by omega), gb c hc hc2]
            · by_cases hjm : j = m
              · subst hjm; exact hf
              · exact df j (by omega)
            · dsimp only
              rw [z1, nI_add]
              have so2 : ∀ k, k < m → q1.2 (t + 1) k = nI (chr X n (i + k) - 48) := fun k hk => by rw [f1 _ (by omega)]; exact so k hk
              refine CR_setTg (σ1 := σ) ?_ hN (by omega) so2 (sub48 hf.1)
              rcases cr with ⟨_, c⟩ | ⟨_, c⟩
              · exact Or.inl (CR_fr c (fun c hc _ => f1 c (by omega)))
              · exact Or.inr (CR_fr c (fun c hc _ => f1 c (by omega)))
            · dsimp only
              rw [w2_ap, if_neg (by omega), w2_ap]
              by_cases hkm : k = m
              · subst hkm; rw [if_pos ⟨rfl, rfl⟩]; exact sub48 hf.1
              · rw [if_neg (fun z => hkm z.2), f1 _ (by omega)]; exact so k (by omega)
          · rw [z8, nI_eq (by omega) (by omega)] at h8
            have h8 := Classical.not_not.mp h8
            subst h8
            refine Ok_some ⟨ga, gb, _, hj, r2, Or.inl ⟨Or.inr ?_, rfl⟩⟩
            unfold pTong
            have : dc X n i 9 = 9 := dc_uniq (by omega) (fun j hj => by
              by_cases hj8 : j = 8
              · subst hj8; exact hf
              · exact df j (by omega)) (fun h => by omega)
            rw [this, if_neg (fun z => by omega)]
      · rw [z59, nI_eq (by omega) (by omega)] at hc
        have hc := Classical.not_not.mp hc
        have hin : i + m < n := chr_in (X := X) (by omega)
        have hdc : dc X n i 9 = m := dc_uniq (by omega) df (fun _ => by omega)
        refine Ok_ite (fun hl => ?_) (fun hl => ?_)
        · rw [z0, nI_leI (by omega) (by omega)] at hl
          refine Ok_some ⟨ga, gb, _, hj, r2, Or.inl ⟨Or.inr ?_, rfl⟩⟩
          unfold pTong
          rw [hdc, if_neg (fun z => by omega)]
        · rw [z0, nI_leI (by omega) (by omega)] at hl
          rw [if_pos hin] at r2
          refine Ok_some ⟨ga, gb, i + m + 1, by omega, r2, Or.inr ⟨rfl, setTg D X n i m, ?_, by omega, rfl, ?_⟩⟩
          · unfold pTong
            rw [hdc, if_pos ⟨by omega, by omega, hc⟩]
          · rcases cr with ⟨z, _⟩ | ⟨_, c⟩
            · omega
            · exact CR_fr c (fun c hc _ => f1 c (by omega))
    · obtain ⟨e1, r1, hmn, g1, g2, df, cr, so⟩ := hb
      rw [e1, if_pos (by rw [z8, nI_ltI (by omega) (by omega)]; omega)]
      refine Ok_some ⟨g1, g2, _, hmn, r1, Or.inl ⟨Or.inr ?_, rfl⟩⟩
      unfold pTong
      have : dc X n i 9 = 9 := dc_uniq (by omega) df (fun h => by omega)
      rw [this, if_neg (fun z => by omega)]
end TY
