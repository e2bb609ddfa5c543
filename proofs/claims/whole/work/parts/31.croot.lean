/-! the class itself: what its object holds; its acts -/
def push (T : Tb) (U : Nat → Tb) : Nat → Tb
  | 0 => T
  | i + 1 => U i
def RCx (σ : St) (X : Nat → Nat) (n : Nat) : Prop := ∃ i b, RT σ X n i b
def RCu (σ : St) (U : Nat → Tb) (u : Nat) : Prop := σ 208 0 = nI u ∧ ∃ lt, lt < 8 ∧ σ 208 1 = nI lt ∧ ∀ i, i < u → CR σ (112 + 9 * ((lt + 7 - i) % 8)) (U i)
def RCk (σ : St) (K : Nat → Tb) (k : Nat) : Prop := σ 208 2 = nI k ∧ ∀ i, i < k → CR σ (185 + 9 * i) (K i)
def RCh (σ : St) (H : Nat → Nat × Nat × Nat) (h : Nat) : Prop := σ 203 0 = nI h ∧ ∀ i, i < h → σ 204 i = nI (H i).1 ∧ σ 205 i = nI (H i).2.1 ∧ σ 206 i = nI (H i).2.2
def RC (σ : St) (X : Nat → Nat) (n : Nat) (T : Tb) (U : Nat → Tb) (u : Nat) (K : Nat → Tb) (k : Nat) (H : Nat → Nat × Nat × Nat) (h : Nat) : Prop := RCx σ X n ∧ CR σ 2 T ∧ RCu σ U u ∧ RCk σ K k ∧ RCh σ H h
def okT (T T' : Tb) : Prop := wfT T' ∧ tW T' = tW T ∧ tN T' = tN T ∧ tS T' = tS T ∧ (∀ w, w < tW T → snd T' w = snd T w) ∧ tD T' ≤ 999
def gOk (X : Nat → Nat) (n : Nat) (T : Tb) (U : Nat → Tb) (u : Nat) (K : Nat → Tb) (k : Nat) (H : Nat → Nat × Nat × Nat) (h : Nat) : Prop := txtOk X n ∧ (wfT T ∧ 0 < tW T ∧ 0 < tN T) ∧ tD T ≤ 999 ∧ u ≤ 8 ∧ k ≤ 2 ∧ h ≤ 6 ∧ (∀ i, i < u → okT T (U i)) ∧ (∀ i, i < k → okT T (K i)) ∧ ∀ i, i < h → (H i).1 < tW T ∧ (H i).2.1 ≤ 10 ∧ (H i).2.2 ≤ 20
section RR
variable {σ σ' : St} {X : Nat → Nat} {n : Nat} {T T' : Tb} {U : Nat → Tb} {u : Nat} {K : Nat → Tb} {k : Nat} {H : Nat → Nat × Nat × Nat} {h : Nat}
theorem RCx_fr (hR : RCx σ X n) (h0 : σ' 0 = σ 0) (h1 : σ' 1 = σ 1) : RCx σ' X n := by
  obtain ⟨i, b, r⟩ := hR
  exact ⟨i, b, by unfold RT; rw [h0, h1]; exact r⟩
theorem RCu_fr (hR : RCu σ U u) (h0 : σ' 208 0 = σ 208 0) (h1 : σ' 208 1 = σ 208 1) (hf : ∀ c, 112 ≤ c → c < 184 → σ' c = σ c) : RCu σ' U u := by
  obtain ⟨e, lt, hl, e1, cr⟩ := hR
  exact ⟨h0.trans e, lt, hl, h1.trans e1, fun i hi => CR_fr (cr i hi) (fun c h2 h3 => hf c (by omega) (by omega))⟩
theorem RCk_fr (hR : RCk σ K k) (hk : k ≤ 2) (h0 : σ' 208 2 = σ 208 2) (hf : ∀ c, 185 ≤ c → c < 203 → σ' c = σ c) : RCk σ' K k := ⟨h0.trans hR.1, fun i hi => CR_fr (hR.2 i hi) (fun c h2 h3 => hf c (by omega) (by omega))⟩
theorem RCh_fr (hR : RCh σ H h) (hf : ∀ c, 203 ≤ c → c < 207 → σ' c = σ c) : RCh σ' H h := by
  unfold RCh
  rw [hf 203 (by omega) (by omega), hf 204 (by omega) (by omega), hf 205 (by omega) (by omega), hf 206 (by omega) (by omega)]
  exact hR
theorem RC_now (hR : RC σ X n T U u K k H h) (hk : k ≤ 2) (hf : Fr σ σ' 2 11) (hc : CR σ' 2 T') : RC σ' X n T' U u K k H h := by
  obtain ⟨a, b, c, d, e⟩ := hR
  exact ⟨RCx_fr a (hf 0 (by omega)) (hf 1 (by omega)), hc, RCu_fr c (by rw [hf 208 (by omega)]) (by rw [hf 208 (by omega)]) (fun c h1 _ => hf c (by omega)), RCk_fr d hk (by rw [hf 208 (by omega)]) (fun c h1 _ => hf c (by omega)), RCh_fr e (fun c h1 _ => hf c (by omega))⟩
/-- work on the tables that nothing is kept in -/
theorem RC_scr (hR : RC σ X n T U u K k H h) (hk : k ≤ 2) (hf : ∀ c, (c < 10 ∨ 112 ≤ c) → ¬ c = 207 → σ' c = σ c) : RC σ' X n T U u K k H h := by
  obtain ⟨a, b, c, d, e⟩ := hR
  exact ⟨RCx_fr a (hf 0 (by omega) (by omega)) (hf 1 (by omega) (by omega)), CR_fr b (fun c h1 h2 => hf c (by omega) (by omega)), RCu_fr c (by rw [hf 208 (by omega) (by omega)]) (by rw [hf 208 (by omega) (by omega)]) (fun c h1 _ => hf c (by omega) (by omega)), RCk_fr d hk (by rw [hf 208 (by omega) (by omega)]) (fun c h1 _ => hf c (by omega) (by omega)), RCh_fr e (fun c h1 _ => hf c (by omega) (by omega))⟩
theorem tableAt_eq {r L i : Nat} (hi : i < L) (hL : L < 2147483648) : f_X3_tableAt r L (nI i) σ = some (some (r + 1 + 9 * i), σ) := by
  unfold f_X3_tableAt
  simp only [jn]
  rw [if_neg (by rw [nI_lt0 (by omega)]; simp), if_neg (by rw [nI_leI (by omega) (by omega)]; omega), if_neg (in_nI hi hL), nI_clamp (by omega)]
theorem copyInto_ok {t : Nat} (hc : CR σ 2 T) (hw : wfT T) (ht : 10 ≤ t) : Ok (f_X3_copyInto (some t) σ) (fun x => CR x.2 t T ∧ Fr σ x.2 t (t + 8)) := by
  unfold f_X3_copyInto
  show Ok ((f_X1_copy t (some 2) σ).bind _) _
  exact Ok_bind (copy_ok hc hw (Or.inl (by omega))) (fun q hq => Ok_some hq)
theorem noteAct_ok (hR : RC σ X n T U u K k H h) (hg : gOk X n T U u K k H h) : Ok (f_X3_noteAct σ) (fun q => RC q.2 X n T (push T U) (if u < 8 then u + 1 else 8) K k H h) := by
  obtain ⟨ra, rb, ⟨eu, lt, hl, el, cr⟩, rd, re⟩ := hR
  have hu := hg.2.2.2.1
  have hk := hg.2.2.2.2.1
  have hw := hg.2.1.1
  unfold f_X3_noteAct
  rw [el]
  refine Ok_bindE (tableAt_eq hl (by decide)) ?_
  dsimp only
  refine Ok_bind (copyInto_ok rb hw (by omega)) (fun q hq => ?_)
  obtain ⟨c1, f1⟩ := hq
  have e1 : q.2 208 1 = nI lt := by rw [f1 208 (by omega)]; exact el
  have e0 : q.2 208 0 = nI u := by rw [f1 208 (by omega)]; exact eu
  have e2 : q.2 208 2 = σ 208 2 := by rw [f1 208 (by omega)]
  refine Ok_nm (Ok_nm (Ok_some ?_))
  rw [e1, z1, nI_add, z8, rem_nI (by omega) (by omega) (by omega)]
  have e0' : w2 q.2 208 1 (nI ((lt + 1) % 8)) 208 0 = nI u := by rw [w2_ap, if_neg (by omega)]; exact e0
  rw [e0', nI_add]
  have eif : (if nI 8 < nI (u + 1) then nI 8 else nI (u + 1)) = nI (if u < 8 then u + 1 else 8) := by
    simp (disch := omega) only [nI_ltI]
    by_cases hu8 : u < 8
    · rw [if_neg (by omega), if_pos hu8]
    · rw [if_pos (by omega), if_neg hu8]
  rw [eif]
  have oth : ∀ c k, ¬ c = 208 → w2 (w2 q.2 208 1 (nI ((lt + 1) % 8))) 208 0 (nI (if u < 8 then u + 1 else 8)) c k = q.2 c k := fun c k hc => by rw [w2_ap, if_neg (fun z => hc z.1), w2_ap, if_neg (fun z => hc z.1)]
  have oth2 : ∀ c, ¬ c = 208 → w2 (w2 q.2 208 1 (nI ((lt + 1) % 8))) 208 0 (nI (if u < 8 then u + 1 else 8)) c = q.2 c := fun c hc => by funext k; exact oth c k hc
  dsimp only
  refine ⟨RCx_fr ra ((oth2 0 (by omega)).trans (f1 0 (by omega))) ((oth2 1 (by omega)).trans (f1 1 (by omega))), CR_fr rb (fun c h1 h2 => (oth2 c (by omega)).trans (f1 c (by omega))), ⟨?_, (lt + 1) % 8, by omega, ?_, fun i hi => ?_⟩, RCk_fr rd hk ?_ (fun c h1 h2 => (oth2 c (by omega)).trans (f1 c (by omega))), RCh_fr re (fun c h1 h2 => (oth2 c (by omega)).trans (f1 c (by omega)))⟩
  · rw [w2_ap, if_pos ⟨rfl, rfl⟩]
  · rw [w2_ap, if_neg (by omega), w2_ap, if_pos ⟨rfl, rfl⟩]
  · cases i with
    | zero =>
      have : ((lt + 1) % 8 + 7 - 0) % 8 = lt := by omega
      rw [this]
      exact CR_fr c1 (fun c h1 h2 => oth2 c (by omega))
    | succ i =>
      have h8 : i < u ∧ i < 7 := by split at hi <;> omega
      have e3 : ((lt + 1) % 8 + 7 - (i + 1)) % 8 = (lt + 7 - i) % 8 := by omega
      have e4 : ¬ (lt + 7 - i) % 8 = lt := by omega
      rw [e3]
      refine CR_fr (cr i h8.1) (fun c h1 h2 => ?_)
      rw [oth2 c (by omega)]
      refine f1 c ?_
      omega
  · rw [w2_ap, if_neg (by omega), w2_ap, if_neg (by omega)]; exact e2
theorem c_write_ok {a : Nat} (hR : RC σ X n T U u K k H h) (hg : gOk X n T U u K k H h) (h1 : 32 ≤ a) (h2 : a ≤ 126) : Ok (f_X3_write (nI a) σ) (fun q => n = 200 ∧ q.1 = -3 ∧ q.2 = σ ∨ n < 200 ∧ q.1 = nI (n + 1) ∧ RC q.2 (fun i => if i = n then a else X i) (n + 1) T U u K k H h) := by
  obtain ⟨⟨i, b, r⟩, rb, rc, rd, re⟩ := hR
  have hn := hg.1.1
  have hk := hg.2.2.2.2.1
  have y32 : (32 : Int32) = nI 32 := rfl
  have y126 : (126 : Int32) = nI 126 := rfl
  have y200 : (200 : Int32) = nI 200 := rfl
  unfold f_X3_write f_X2_append
  rw [y32, y126, if_neg (by rw [nI_ltI (by omega) (by omega)]; omega), if_pos (by rw [nI_leI (by omega) (by omega)]; omega)]
  by_cases hl : n < 200
  · rw [if_pos (by rw [r.1, y200, nI_ltI (by omega) (by omega)]; exact hl), r.1]
    refine Ok_bind (P := fun q => q = ((1 : Int32), w2 (w2 σ 1 n (nI a)) 0 0 (nI (n + 1)))) ?_ (fun q hq => ?_)
    · refine Ok_bindE (put_eq hl (by decide)) ?_
      refine Ok_nm (Ok_some ?_)
      dsimp only
      rw [w2_ap, if_neg (by omega), r.1, z1, nI_add]
    · subst hq
      dsimp only
      rw [if_neg (by decide)]
      refine Ok_some (Or.inr ⟨hl, ?_, ⟨i, b, ?_, ?_, ?_, fun j hj => ?_⟩, ?_, ?_, ?_, ?_⟩)
      · dsimp only; rw [w2_ap, if_pos ⟨rfl, rfl⟩]
      · dsimp only; rw [w2_ap, if_pos ⟨rfl, rfl⟩]
      · dsimp only; rw [w2_ap, if_neg (by omega), w2_ap, if_neg (by omega)]; exact r.2.1
      · dsimp only; rw [w2_ap, if_neg (by omega), w2_ap, if_neg (by omega)]; exact r.2.2.1
      · dsimp only
        rw [w2_ap, if_neg (by omega), w2_ap]
        by_cases hjn : j = n
        · rw [if_pos ⟨rfl, hjn⟩, if_pos hjn]
        · rw [if_neg (fun z => hjn z.2), if_neg hjn]; exact r.2.2.2 j (by omega)
      all_goals have oo : ∀ c, 2 ≤ c → w2 (w2 σ 1 n (nI a)) 0 0 (nI (n + 1)) c = σ c := fun c hc => by funext x; rw [w2_ap, if_neg (by omega), w2_ap, if_neg (by omega)]
      · exact CR_fr rb (fun c h1 _ => oo c h1)
      · exact RCu_fr rc (by dsimp only; rw [oo 208 (by omega)]) (by dsimp only; rw [oo 208 (by omega)]) (fun c h1 _ => oo c (by omega))
      · exact RCk_fr rd hk (by dsimp only; rw [oo 208 (by omega)]) (fun c h1 _ => oo c (by omega))
      · exact RCh_fr re (fun c h1 _ => oo c (by omega))
  · rw [if_neg (by rw [r.1, y200, nI_ltI (by omega) (by omega)]; exact hl)]
    show Ok (some _) _
    exact Ok_some (Or.inl ⟨by omega, rfl, rfl⟩)
theorem c_write_bad {a : Int32} (h1 : a < 32 ∨ ¬ a ≤ 126) : f_X3_write a σ = some (-1, σ) := by
  unfold f_X3_write
  by_cases h : a < 32
  · rw [if_pos h]
  · rw [if_neg h, if_neg (by rcases h1 with h1 | h1; exact absurd h1 h; exact h1)]
theorem c_wipe (hR : RC σ X n T U u K k H h) (hk : k ≤ 2) : Ok (f_X3_wipe σ) (fun q => q.1 = nI n ∧ RC q.2 X 0 T U u K k H h) := by
  obtain ⟨⟨i, b, r⟩, rb, rc, rd, re⟩ := hR
  unfold f_X3_wipe
  have oo : ∀ c, 1 ≤ c → w2 σ 0 0 (0 : Int32) c = σ c := fun c hc => by funext x; rw [w2_ap, if_neg (by omega)]
  refine Ok_nm (Ok_nm (Ok_some ⟨r.1, ⟨i, b, ?_, ?_, ?_, fun j hj => by omega⟩, CR_fr rb (fun c h1 _ => oo c (by omega)), RCu_fr rc (by dsimp only; rw [oo 208 (by omega)]) (by dsimp only; rw [oo 208 (by omega)]) (fun c h1 _ => oo c (by omega)), RCk_fr rd hk (by dsimp only; rw [oo 208 (by omega)]) (fun c h1 _ => oo c (by omega)), RCh_fr re (fun c h1 _ => oo c (by omega))⟩))
  · dsimp only; rw [w2_ap, if_pos ⟨rfl, rfl⟩]; rfl
  · dsimp only; rw [w2_ap, if_neg (by omega)]; exact r.2.1
  · dsimp only; rw [w2_ap, if_neg (by omega)]; exact r.2.2.1
theorem RC_read {j : Nat} {b : Bool} (hR : RC σ X n T U u K k H h) (hk : k ≤ 2) (hf : Fri σ σ' 11) (hr : RT σ' X n j b) : RC σ' X n T U u K k H h := by
  obtain ⟨a, rb, c, d, e⟩ := hR
  have oo : ∀ c, 2 ≤ c → (c < 11 ∨ 19 ≤ c) → σ' c = σ c := fun c h1 h2 => hf c (by omega) (by omega)
  exact ⟨⟨j, b, hr⟩, CR_fr rb (fun c h1 h2 => oo c (by omega) (by omega)), RCu_fr c (by rw [oo 208 (by omega) (by omega)]) (by rw [oo 208 (by omega) (by omega)]) (fun c h1 _ => oo c (by omega) (by omega)), RCk_fr d hk (by rw [oo 208 (by omega) (by omega)]) (fun c h1 _ => oo c (by omega) (by omega)), RCh_fr e (fun c h1 _ => oo c (by omega) (by omega))⟩
theorem c_fault (hR : RC σ X n T U u K k H h) (hg : gOk X n T U u K k H h) : Ok (f_X3_fault σ) (fun q => (q.1 = match (pR X n 201 0 T00 false).1 with | some i => nI i | none => -4) ∧ RC q.2 X n T U u K k H h) := by
  have hk := hg.2.2.2.2.1
  obtain ⟨i, b, r⟩ := hR.1
  unfold f_X3_fault
  refine Ok_bind (readInto_ok hg.1 r (by omega)) (fun q hq => ?_)
  obtain ⟨g1, ⟨j, b2, hj, r2⟩, kk, alt⟩ := hq
  refine Ok_some ⟨?_, RC_read hR hk g1 r2⟩
  rcases alt with ⟨e1, _, e2⟩ | ⟨e1, e2, _⟩
  · rw [e1]; exact e2
  · rw [e1]; exact e2
theorem c_lay (hR : RC σ X n T U u K k H h) (hg : gOk X n T U u K k H h) : Ok (f_X3_lay σ) (fun q => if (pR X n 201 0 T00 false).1 = none ∧ ¬ tW (pR X n 201 0 T00 false).2 = 0 ∧ ¬ tN (pR X n 201 0 T00 false).2 = 0 then q.1 = nI (tN (pR X n 201 0 T00 false).2) ∧ RC q.2 X n (pR X n 201 0 T00 false).2 U 0 K 0 H 0 ∧ wfT (pR X n 201 0 T00 false).2 else q.1 = -2 ∧ RC q.2 X n T U u K k H h) := by
  have hk := hg.2.2.2.2.1
  obtain ⟨i, b, r⟩ := hR.1
  unfold f_X3_lay
  refine Ok_bind (readInto_ok hg.1 r (by omega)) (fun q hq => ?_)
  obtain ⟨g1, ⟨j, b2, hj, r2⟩, kk, alt⟩ := hq
  have R1 := RC_read hR hk g1 r2
  generalize hP : pR X n 201 0 T00 false = P at alt ⊢
  rcases alt with ⟨e1, hkn, e2⟩ | ⟨e1, e2, cr, wf⟩
  · have hn := hg.1.1
    rw [e2, if_pos]
    · refine Ok_some ?_
      rw [if_neg (fun z => by rw [e1] at z; cases z.1)]
      exact ⟨rfl, R1⟩
    · intro z
      have h2 : ¬ nI kk < 0 := nI_pos (by omega)
      rw [z] at h2
      exact h2 (by decide)
  · rw [e2, if_neg (fun z => z rfl)]
    have w8 := wf.1
    have n5 := wf.2.1
    refine Ok_ite (fun hc => ?_) (fun hc => ?_)
    · rw [cr.1, nI_eq0 (by omega)] at hc
      refine Ok_some ?_
      rw [if_neg (fun z => z.2.1 hc)]
      exact ⟨rfl, R1⟩
    · rw [cr.1, nI_eq0 (by omega)] at hc
      refine Ok_ite (fun hc2 => ?_) (fun hc2 => ?_)
      · rw [cr.2.1, nI_eq0 (by omega)] at hc2
        refine Ok_bind (copy_ok cr wf (Or.inr (by omega))) (fun q2 hq2 => ?_)
        obtain ⟨c2, f2⟩ := hq2
        refine Ok_nm (Ok_nm (Ok_nm (Ok_some ?_)))
        rw [if_pos ⟨e1, hc, hc2⟩]
        have oo : ∀ c x, ¬ c = 203 → ¬ c = 208 → w2 (w2 (w2 q2.2 203 0 (0 : Int32)) 208 0 (0 : Int32)) 208 2 (0 : Int32) c x = q2.2 c x := fun c x h1 h2 => by rw [w2_ap, if_neg (fun z => h2 z.1), w2_ap, if_neg (fun z => h2 z.1), w2_ap, if_neg (fun z => h1 z.1)]
        have o2 : ∀ c, ¬ c = 203 → ¬ c = 208 → w2 (w2 (w2 q2.2 203 0 (0 : Int32)) 208 0 (0 : Int32)) 208 2 (0 : Int32) c = q2.2 c := fun c h1 h2 => by funext x; exact oo c x h1 h2
        obtain ⟨⟨j3, b3, r3⟩, rb, ⟨eu, lt, hl, el, cru⟩, rd, re⟩ := R1
        refine ⟨?_, ⟨⟨j3, b3, ?_⟩, CR_fr c2 (fun c h1 h2 => o2 c (by omega) (by omega)), ⟨?_, lt, hl, ?_, fun i hi => by omega⟩, ⟨?_, fun i hi => by omega⟩, ?_, fun i hi => by omega⟩, wf⟩
        · rw [oo 2 1 (by omega) (by omega)]; exact c2.2.1
        · dsimp only
          unfold RT
          rw [o2 0 (by omega) (by omega), o2 1 (by omega) (by omega), f2 0 (by omega), f2 1 (by omega)]; exact r3
        · dsimp only; rw [w2_ap, if_neg (by omega), w2_ap, if_pos ⟨rfl, rfl⟩]; rfl
        · dsimp only; rw [w2_ap, if_neg (by omega), w2_ap, if_neg (by omega), w2_ap, if_neg (by omega), f2 208 (by omega)]; exact el
        · dsimp only; rw [w2_ap, if_pos ⟨rfl, rfl⟩]; rfl
        · dsimp only; rw [w2_ap, if_neg (by omega), w2_ap, if_neg (by omega), w2_ap, if_pos ⟨rfl, rfl⟩]; rfl
      · rw [cr.2.1, nI_eq0 (by omega)] at hc2
        refine Ok_some ?_
        rw [if_neg (fun z => hc2 z.2.2)]
        exact ⟨rfl, R1⟩
end RR
