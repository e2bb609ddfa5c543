/-! both begin alike -/
theorem tkS_1 {σ : St} {j : Nat} : ∀ i : Nat, j < i → tkS σ i 1 j = tx84.getD j 0
  | 0, h => absurd h (by omega)
  | i + 1, h => by
    show w2 (w2 (tkS σ i) 1 i (tx84.getD i 0)) 0 0 (nI (i + 1)) 1 j = _
    rw [w2_ap, if_neg (by omega), w2_ap]
    by_cases hj : j = i
    · rw [if_pos ⟨rfl, hj⟩, hj]
    · rw [if_neg (fun z => hj z.2), tkS_1 i (by omega)]
theorem tkS_o {σ : St} {c k : Nat} (h0 : ¬ (c = 0 ∧ k = 0)) (h1 : ¬ c = 1) : ∀ i : Nat, tkS σ i c k = σ c k
  | 0 => by show w2 σ 0 0 (0 : Int32) c k = _; rw [w2_ap, if_neg h0]
  | i + 1 => by
    show w2 (w2 (tkS σ i) 1 i (tx84.getD i 0)) 0 0 (nI (i + 1)) c k = _
    rw [w2_ap, if_neg h0, w2_ap, if_neg (fun z => h1 z.1), tkS_o h0 h1 i]
theorem begin_class : ∃ r : Int32 × St, f_X2_readInto 2 (tkS bS 84) = some r ∧ RC (sF (w2 r.2 0 0 (0 : Int32))) X84 0 T84 (fun _ => T84) 0 (fun _ => T84) 0 (fun _ => (0, 0, 0)) 0 ∧ wfT T84 := by
  have hR : RT (tkS bS 84) X84 84 0 false := ⟨tkS_len 84, (tkS_o (by omega) (by omega) 84).trans rfl, (tkS_o (by omega) (by omega) 84).trans rfl, fun j hj => (tkS_1 84 hj).trans (X84_tx j hj)⟩
  obtain ⟨r, er, f1, ⟨j, b, hj, r1⟩, alt⟩ := readInto_ok (t := 2) X84_ok hR (by omega)
  obtain ⟨kk, alt⟩ := alt
  rcases alt with ⟨e1, _⟩ | ⟨_, e2, cr, wf⟩
  · rw [T84_no] at e1; cases e1
  · refine ⟨r, er, ⟨⟨j, b, ?_, ?_, ?_, fun i hi => by omega⟩, CR_fr cr (fun c h1 h2 => ?_), ⟨rfl, 0, by omega, rfl, fun i hi => by omega⟩, ⟨rfl, fun i hi => by omega⟩, ⟨rfl, fun i hi => by omega⟩⟩, wf⟩
    · show w2 r.2 0 0 (0 : Int32) 0 0 = nI 0
      rw [w2_ap, if_pos ⟨rfl, rfl⟩]; rfl
    · show w2 r.2 0 0 (0 : Int32) 0 1 = nI j
      rw [w2_ap, if_neg (by omega)]; exact r1.2.1
    · show w2 r.2 0 0 (0 : Int32) 0 2 = _
      rw [w2_ap, if_neg (by omega)]; exact r1.2.2.1
    · unfold sF
      rw [if_pos (by omega)]
      funext x
      rw [w2_ap, if_neg (by omega)]
def zB : St := fun _ k => if k - 1001 < 90 ∧ 2 ≤ (k - 1001) % 18 ∧ (k - 1001) % 18 < 10 then -1 else 0
theorem zB_k : ∀ p, p < 5 → mCh zB 3 (1001 + (18 * p)) = nI ([0, 1, 2, 3, 0].getD p 0) := by decide +kernel
theorem zB_m : ∀ p, p < 5 → mCh zB 3 (1001 + (18 * p + 1)) = nI ([5, 9, 3, 12, 8].getD p 0) := by decide +kernel
theorem zB_w : ∀ p, p < 5 → ∀ w, w < 8 → mCh zB 3 (1001 + (18 * p + 2 + w)) = wv (wayL84.getD (8 * p + w) 0) := by decide +kernel
theorem zB_a : ∀ p, p < 5 → ∀ w, w < 8 → mCh zB 3 (1001 + (18 * p + 10 + w)) = nI 0 := by decide +kernel
theorem zB_d : mCh zB 3 (1001 + 90) = nI 0 := by decide +kernel
theorem begin_MD {σ : St} (hb : ∀ j, j < 91 → σ 3 (1001 + j) = if j < 90 ∧ 2 ≤ j % 18 ∧ j % 18 < 10 then -1 else 0) : MD (mCh σ) T84 := by
  have hc : ∀ j, j < 91 → mCh σ 3 (1001 + j) = mCh zB 3 (1001 + j) := fun j hj => mCh_cg (by rw [hb j hj]; unfold zB; rw [Nat.add_sub_cancel_left])
  refine ⟨by rw [T84_W]; rfl, by rw [T84_N]; rfl, by rw [T84_S]; rfl, fun w hw => ?_, ⟨?_, fun p hp => ?_⟩, fun p w hp hp5 hw => ?_, ?_⟩
  · rw [T84_W] at hw
    rw [T84_snd w hw]
    rcases (show w = 0 ∨ w = 1 ∨ w = 2 ∨ w = 3 ∨ w = 4 ∨ w = 5 ∨ w = 6 ∨ w = 7 by omega) with rfl | rfl | rfl | rfl | rfl | rfl | rfl | rfl <;> rfl
  · rw [T84_D, hc 90 (by omega)]; exact zB_d
  · rw [T84_N] at hp
    refine ⟨?_, ?_, fun w hw => ⟨?_, fun hz => ?_⟩⟩
    · rw [T84_knd p hp, hc (18 * p) (by omega)]; exact zB_k p hp
    · rw [T84_mmr p hp, show 1001 + 18 * p + 1 = 1001 + (18 * p + 1) by omega, hc (18 * p + 1) (by omega)]; exact zB_m p hp
    · rw [T84_W] at hw
      rw [T84_way p hp w hw, show 1001 + 18 * p + 2 + w = 1001 + (18 * p + 2 + w) by omega, hc (18 * p + 2 + w) (by omega)]; exact zB_w p hp w hw
    · rw [T84_W] at hw
      rw [T84_age p hp w hw hz, show 1001 + 18 * p + 10 + w = 1001 + (18 * p + 10 + w) by omega, hc (18 * p + 10 + w) (by omega)]; exact zB_a p hp w hw
  · rw [T84_N] at hp; omega
  · rw [T84_W, T84_N, T84_S, T84_D]; omega
theorem begin_model : ∃ σ : St, mInit = some σ ∧ RM σ X84 0 T84 (fun _ => T84) 0 (fun _ => T84) 0 (fun _ => (0, 0, 0)) 0 := by
  obtain ⟨q, e, fd, h4, hb⟩ := clears_all (σ := fun _ _ => 0)
  obtain ⟨r, er, mb, o1, o2, o3⟩ := settlesM (begin_MD hb)
  have e0 : ∀ j, ¬ j = 0 → ¬ j = 1 → ¬ j = 2 → ¬ j = 3 → ¬ j = 4 → ¬ j = 5 → ¬ j = 9 → ¬ j = 11 → r.2 0 j = 0 := fun j a0 a1 a2 a3 a4 a5 a9 a11 => by
    rw [o2 j a0 a1 a2, mCh_oth (by omega) (by omega) (by omega), fd.2.2 j a3 a4 a5 a9 a11]
  refine ⟨r.2, by rw [mInit_eq e h4, er]; rfl, ⟨e0 8 (by omega) (by omega) (by omega) (by omega) (by omega) (by omega) (by omega) (by omega), fun i hi => by omega⟩, mb, ⟨e0 6 (by omega) (by omega) (by omega) (by omega) (by omega) (by omega) (by omega) (by omega), fun i hi => by omega⟩, ⟨e0 7 (by omega) (by omega) (by omega) (by omega) (by omega) (by omega) (by omega) (by omega), fun i hi => by omega⟩, ⟨e0 12 (by omega) (by omega) (by omega) (by omega) (by omega) (by omega) (by omega) (by omega), fun i hi => by omega⟩⟩
theorem begin_sim : ∃ (r : Int32 × St) (σ2 : St), f_X2_readInto 2 (tkS bS 84) = some r ∧ mInit = some σ2 ∧ Sim (sF (w2 r.2 0 0 (0 : Int32))) σ2 := by
  obtain ⟨r, er, hC, wf⟩ := begin_class
  obtain ⟨σ2, e2, hM⟩ := begin_model
  exact ⟨r, σ2, er, e2, X84, 0, T84, fun _ => T84, 0, fun _ => T84, 0, fun _ => (0, 0, 0), 0, ⟨⟨by omega, fun i hi => by omega⟩, ⟨wf, by rw [T84_W]; omega, by rw [T84_N]; omega⟩, by rw [T84_D]; omega, by omega, by omega, by omega, fun i hi => by omega, fun i hi => by omega, fun i hi => by omega⟩, hC, hM⟩
