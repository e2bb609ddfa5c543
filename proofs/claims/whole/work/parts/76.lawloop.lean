/-! the law's loop -/
set_option maxHeartbeats 1000000 in
theorem law_out {p : Program} {l : Launch} {e : Env} {s : State} {m : MethodId} {below : List Frame} {meth : Method} {c : Code} {E : En} {kc ks b L : Nat} {xs : Nat → Int32} {adC adM : Nat → Nat} (F : Fy p s m #[Value.ref b] meth c code 4 R_law E (fun q => s.heap.size ≤ q) ret) (hX : va_X b L xs s s.heap) (hbl : b < s.heap.size) (hL : L ≤ 2560) (hc : kc ≤ 600000) (hsl : ks ≤ 7302250) {i : Nat} {σ1 σ2 : St} (hb : ¬ i + 5 ≤ L) (hi : i ≤ 2565) : JW p l e s m below meth c E (fun q => s.heap.size ≤ q) (lw_Z below #[Value.ref b] s) kc ks b i adC adM σ1 σ2 18 [] := by
  have hbA : ¬ (fun q : Nat => s.heap.size ≤ q) b := Nat.not_le.mpr hbl
  refine N_iload_n (pc := 18) F dl_18 rfl 0 rfl ?_
  refine N_aload_n (pc := 19) F dl_19 rfl 3 rfl ?_
  refine N_slen (pc := 20) F hX hbl hbA dl_20 ?_
  refine N_iconst (pc := 21) (v := nI 5) F dl_21 rfl ?_
  refine N_isub (pc := 22) F dl_22 ?_
  have hlt : nI L - nI 5 < nI i := by
    rw [Int32.lt_iff_toInt_lt, pk_sub_toInt (by omega) (by omega), nI_toInt (by omega)]
    omega
  refine N_icmp_gtT (pc := 23) F (tgt := 890) dl_23 (by decide) hlt ?_
  refine N_iconst (pc := 890) (v := 1) F dl_890 rfl ?_
  exact fun H locs ls hls hP hD hS => va_forget hS.2.2 (W.widen hc hsl (lw_ret F.1 F.2.1 F.2.2.2.2.2.2.2.2.1 F.2.2.2.2.2.2.2.2.2 dl_891))
set_option maxHeartbeats 4000000 in
theorem law_loop {p : Program} {l : Launch} {e : Env} {s : State} {m : MethodId} {below : List Frame} {meth : Method} {c : Code} {E : En} {kc ks b L : Nat} {xs : Nat → Int32} {adC adM : Nat → Nat} (F : Fy p s m #[Value.ref b] meth c code 4 R_law E (fun q => s.heap.size ≤ q) ret) (hX : va_X b L xs s s.heap) (hbl : b < s.heap.size) (hL : L ≤ 2560) (hc : kc ≤ 600000) (hsl : ks ≤ 7302250) : ∀ (d i : Nat) (σ1 σ2 : St), L + 5 ≤ i + d → i ≤ 2565 → Sim σ1 σ2 → JW p l e s m below meth c E (fun q => s.heap.size ≤ q) (lw_Z below #[Value.ref b] s) kc ks b i adC adM σ1 σ2 18 [] := by
  have hbA : ¬ (fun q : Nat => s.heap.size ≤ q) b := Nat.not_le.mpr hbl
  intro d
  induction d with
  | zero =>
    intro i σ1 σ2 hd hi hs
    exact law_out F hX hbl hL hc hsl (by omega) hi
  | succ d ih =>
    intro i σ1 σ2 hd hi hs
    by_cases hb : i + 5 ≤ L
    · have nxt : ∀ τ1 τ2 : St, Sim τ1 τ2 → JW p l e s m below meth c E (fun q => s.heap.size ≤ q) (lw_Z below #[Value.ref b] s) kc ks b i adC adM τ1 τ2 884 [] := by
        intro τ1 τ2 ht
        refine N_iinc (pc := 884) F (v := nI (i + 5)) (lv' := [(3, .int (nI (i + 5))), (2, .ref (adM 0)), (1, .ref (adC 208)), (0, .ref b)]) dl_884 0 rfl (by rw [← nI_add]; rfl) (by decide) rfl ?_
        refine N_goto (pc := 887) F (tgt := 18) dl_887 (by decide) ?_
        exact ih (i + 5) τ1 τ2 (by omega) (by omega) ht
      refine N_iload_n (pc := 18) F dl_18 rfl 0 rfl ?_
      refine N_aload_n (pc := 19) F dl_19 rfl 3 rfl ?_
      refine N_slen (pc := 20) F hX hbl hbA dl_20 ?_
      refine N_iconst (pc := 21) (v := nI 5) F dl_21 rfl ?_
      refine N_isub (pc := 22) F dl_22 ?_
      refine N_ti (pk_sub (by omega)).symm ?_
      refine N_icmp_gtF (pc := 23) F (tgt := 890) dl_23 (by decide) (by rw [nI_ltI (by omega) (by omega)]; omega) ?_
      refine N_aload_n (pc := 26) F dl_26 rfl 3 rfl ?_
      refine N_iload_n (pc := 27) F dl_27 rfl 0 rfl ?_
      refine N_sld (pc := 28) (idx := i) F hX hbl hbA rfl (by omega) (by omega) dl_28 ?_
      refine N_bipush (pc := 29) (v := 31) F dl_29 rfl ?_
      refine N_iand (pc := 31) F dl_31 ?_
      obtain ⟨k, hk, ek⟩ := pk_andE (xs i) (m := 31) 5 (by decide)
      refine N_ti ek.symm ?_
      clear ek
      rcases (show k = 0 ∨ k = 1 ∨ k = 2 ∨ k = 3 ∨ k = 4 ∨ k = 5 ∨ k = 6 ∨ k = 7 ∨ k = 8 ∨ k = 9 ∨ k = 10 ∨ k = 11 ∨ k = 12 ∨ k = 13 ∨ k = 14 ∨ k = 15 ∨ k = 16 ∨ k = 17 ∨ k = 18 ∨ k = 19 ∨ k = 20 ∨ k = 21 ∨ k = 22 ∨ k = 23 ∨ k = 24 ∨ k = 25 ∨ k = 26 ∨ k = 27 ∨ k = 28 ∨ k = 29 ∨ k = 30 ∨ k = 31 by omega) with rfl | rfl | rfl | rfl | rfl | rfl | rfl | rfl | rfl | rfl | rfl | rfl | rfl | rfl | rfl | rfl | rfl | rfl | rfl | rfl | rfl | rfl | rfl | rfl | rfl | rfl | rfl | rfl | rfl | rfl | rfl | rfl

      · exact N_tableIn (pc := 32) F (off := 128) (tgt := 160) dl_32 (by decide) (by decide) (by decide) (by decide) (lk_write F hX hbl hbA hb hL hc hsl hs nxt)
      · exact N_tableIn (pc := 32) F (off := 151) (tgt := 183) dl_32 (by decide) (by decide) (by decide) (by decide) (lk_wipe F hX hbl hbA hb hL hc hsl hs nxt)
      · exact N_tableIn (pc := 32) F (off := 164) (tgt := 196) dl_32 (by decide) (by decide) (by decide) (by decide) (lk_fault F hX hbl hbA hb hL hc hsl hs nxt)
      · exact N_tableIn (pc := 32) F (off := 177) (tgt := 209) dl_32 (by decide) (by decide) (by decide) (by decide) (lk_lay F hX hbl hbA hb hL hc hsl hs nxt)
      · exact N_tableIn (pc := 32) F (off := 190) (tgt := 222) dl_32 (by decide) (by decide) (by decide) (by decide) (lk_sound F hX hbl hbA hb hL hc hsl hs nxt)
      · exact N_tableIn (pc := 32) F (off := 213) (tgt := 245) dl_32 (by decide) (by decide) (by decide) (by decide) (lk_wooer F hX hbl hbA hb hL hc hsl hs nxt)
      · exact N_tableIn (pc := 32) F (off := 246) (tgt := 278) dl_32 (by decide) (by decide) (by decide) (by decide) (lk_word F hX hbl hbA hb hL hc hsl hs nxt)
      · exact N_tableIn (pc := 32) F (off := 289) (tgt := 321) dl_32 (by decide) (by decide) (by decide) (by decide) (lk_lesson F hX hbl hbA hb hL hc hsl hs nxt)
      · exact N_tableIn (pc := 32) F (off := 322) (tgt := 354) dl_32 (by decide) (by decide) (by decide) (by decide) (lk_pass F hX hbl hbA hb hL hc hsl hs nxt)
      · exact N_tableIn (pc := 32) F (off := 345) (tgt := 377) dl_32 (by decide) (by decide) (by decide) (by decide) (lk_mend F hX hbl hbA hb hL hc hsl hs nxt)
      · exact N_tableIn (pc := 32) F (off := 378) (tgt := 410) dl_32 (by decide) (by decide) (by decide) (by decide) (lk_change F hX hbl hbA hb hL hc hsl hs nxt)
      · exact N_tableIn (pc := 32) F (off := 411) (tgt := 443) dl_32 (by decide) (by decide) (by decide) (by decide) (lk_undo F hX hbl hbA hb hL hc hsl hs nxt)
      · exact N_tableIn (pc := 32) F (off := 424) (tgt := 456) dl_32 (by decide) (by decide) (by decide) (by decide) (lk_behind F hX hbl hbA hb hL hc hsl hs nxt)
      · exact N_tableIn (pc := 32) F (off := 467) (tgt := 499) dl_32 (by decide) (by decide) (by decide) (by decide) (lk_made F hX hbl hbA hb hL hc hsl hs nxt)
      · exact N_tableIn (pc := 32) F (off := 490) (tgt := 522) dl_32 (by decide) (by decide) (by decide) (by decide) (lk_best F hX hbl hbA hb hL hc hsl hs nxt)
      · exact N_tableIn (pc := 32) F (off := 533) (tgt := 565) dl_32 (by decide) (by decide) (by decide) (by decide) (lk_mends F hX hbl hbA hb hL hc hsl hs nxt)
      · exact N_tableIn (pc := 32) F (off := 556) (tgt := 588) dl_32 (by decide) (by decide) (by decide) (by decide) (lk_two F hX hbl hbA hb hL hc hsl hs nxt)
      · exact N_tableIn (pc := 32) F (off := 579) (tgt := 611) dl_32 (by decide) (by decide) (by decide) (by decide) (lk_tests F hX hbl hbA hb hL hc hsl hs nxt)
      · exact N_tableIn (pc := 32) F (off := 602) (tgt := 634) dl_32 (by decide) (by decide) (by decide) (by decide) (lk_other F hX hbl hbA hb hL hc hsl hs nxt)
      · exact N_tableIn (pc := 32) F (off := 615) (tgt := 647) dl_32 (by decide) (by decide) (by decide) (by decide) (lk_hear F hX hbl hbA hb hL hc hsl hs nxt)
      · exact N_tableIn (pc := 32) F (off := 658) (tgt := 690) dl_32 (by decide) (by decide) (by decide) (by decide) (lk_forget F hX hbl hbA hb hL hc hsl hs nxt)
      · exact N_tableIn (pc := 32) F (off := 671) (tgt := 703) dl_32 (by decide) (by decide) (by decide) (by decide) (lk_which F hX hbl hbA hb hL hc hsl hs nxt)
      · exact N_tableIn (pc := 32) F (off := 684) (tgt := 716) dl_32 (by decide) (by decide) (by decide) (by decide) (lk_kinds F hX hbl hbA hb hL hc hsl hs nxt)
      · exact N_tableIn (pc := 32) F (off := 707) (tgt := 739) dl_32 (by decide) (by decide) (by decide) (by decide) (lk_hail F hX hbl hbA hb hL hc hsl hs nxt)
      · exact N_tableIn (pc := 32) F (off := 760) (tgt := 792) dl_32 (by decide) (by decide) (by decide) (by decide) (lk_year F hX hbl hbA hb hL hc hsl hs nxt)
      · exact N_tableIn (pc := 32) F (off := 803) (tgt := 835) dl_32 (by decide) (by decide) (by decide) (by decide) (lk_keep F hX hbl hbA hb hL hc hsl hs nxt)
      · exact N_tableIn (pc := 32) F (off := 816) (tgt := 848) dl_32 (by decide) (by decide) (by decide) (by decide) (lk_back F hX hbl hbA hb hL hc hsl hs nxt)
      · exact N_tableIn (pc := 32) F (off := 829) (tgt := 861) dl_32 (by decide) (by decide) (by decide) (by decide) (lk_count F hX hbl hbA hb hL hc hsl hs nxt)
      · exact N_tableOut (pc := 32) F (tgt := 884) dl_32 (Or.inr (by decide)) (by decide) (nxt σ1 σ2 hs)
      · exact N_tableOut (pc := 32) F (tgt := 884) dl_32 (Or.inr (by decide)) (by decide) (nxt σ1 σ2 hs)
      · exact N_tableOut (pc := 32) F (tgt := 884) dl_32 (Or.inr (by decide)) (by decide) (nxt σ1 σ2 hs)
      · exact N_tableOut (pc := 32) F (tgt := 884) dl_32 (Or.inr (by decide)) (by decide) (nxt σ1 σ2 hs)
    · exact law_out F hX hbl hL hc hsl hb hi
