set_option maxHeartbeats 4000000 in
set_option maxRecDepth 100000 in
theorem c_X4_undo {l : Launch} {E : En} {ad : Nat → Nat} {G : Lay} {n : Nat} (hI : adI ad n) (ht : ModAt E ad G n) {σ : St} {res : Int32 × St} (hf : f_X4_undo  σ = some res) : Ct l yX4_undo cX4_undo 1 (some .int) 1 E ad G n [.ref (ad 0)] σ (some (.int res.1)) res.2 := by
  unfold f_X4_undo at hf
  refine J_start (own := RX4) (lv := [(0, .ref (ad 0))]) pnX4 rfl hI (Nat.le_of_ble_eq_true rfl) rfl (fun p e s m args below meth c F => ?_)
  refine J_aload_n (pc := 0) F dX4_undo_0 rfl 0 rfl ?_
  refine gfX4_acts (pc := 1) F ht wd_627 dX4_undo_1 ?_
  rcases ite_elim hf with ⟨c1, hf⟩ | ⟨c1, hf⟩
  · refine J_if_neT (pc := 4) F (tgt := 10) dX4_undo_4 (by decide) c1 ?_
    refine J_aload_n (pc := 10) F dX4_undo_10 rfl 0 rfl ?_
    refine J_aload_n (pc := 11) F dX4_undo_11 rfl 0 rfl ?_
    refine gfX4_acts (pc := 12) F ht wd_627 dX4_undo_12 ?_
    refine J_bipush (pc := 15) F dX4_undo_15 kb_91 ?_
    refine J_imul (pc := 17) F dX4_undo_17 ?_
    refine J_iconst (pc := 18) F dX4_undo_18 ki_0 ?_
    obtain ⟨q2, h2, hf⟩ := bind_elim hf
    refine J_callVU (pc := 19) F (c_X4_copies hI ht h2) (by omega) (by decide) (modN ht) (ht.2.1 _) rfl wc_X4_copies wd_614 rfl rfl (Nat.le_of_ble_eq_true rfl) dX4_undo_19 ?_
    refine J_aload_n (pc := 22) F dX4_undo_22 rfl 0 rfl ?_
    refine J_dup (pc := 23) F dX4_undo_23 rfl ?_
    refine gfX4_acts (pc := 24) F ht wd_627 dX4_undo_24 ?_
    refine J_iconst (pc := 27) F dX4_undo_27 ki_1 ?_
    refine J_isub (pc := 28) F dX4_undo_28 ?_
    obtain ⟨σ3, eσ3, hf⟩ := nm_elim hf
    refine pfX4_acts (pc := 29) F ht wd_627 dX4_undo_29 eσ3 ?_
    refine J_aload_n (pc := 32) F dX4_undo_32 rfl 0 rfl ?_
    refine gfX4_acts (pc := 33) F ht wd_627 dX4_undo_33 ?_
    exact J_iret (pc := 36) F rfl dX4_undo_36 hf
  · refine J_if_neF (pc := 4) F (tgt := 10) dX4_undo_4 (by decide) c1 ?_
    refine J_bipush (pc := 7) F dX4_undo_7 kb_m2 ?_
    exact J_iret (pc := 9) F rfl dX4_undo_9 hf
set_option maxHeartbeats 4000000 in
set_option maxRecDepth 100000 in
theorem c_X4_behind {l : Launch} {E : En} {ad : Nat → Nat} {G : Lay} {n : Nat} (hI : adI ad n) (ht : ModAt E ad G n) {a0 : Int32} {a1 : Int32} {a2 : Int32} {σ : St} {res : Int32 × St} (hf : f_X4_behind a0 a1 a2 σ = some res) : Ct l yX4_behind cX4_behind 4 (some .int) 4 E ad G n [.ref (ad 0), .int a0, .int a1, .int a2] σ (some (.int res.1)) res.2 := by
  unfold f_X4_behind at hf
  refine J_start (own := RX4) (lv := [(0, .ref (ad 0)), (1, .int a0), (2, .int a1), (3, .int a2)]) pnX4 rfl hI (Nat.le_of_ble_eq_true rfl) rfl (fun p e s m args below meth c F => ?_)
  refine J_iload_n (pc := 0) F dX4_behind_0 rfl 1 rfl ?_
  refine J_i2l (pc := 1) F dX4_behind_1 ?_
  refine J_lconst (pc := 2) F (v := 0) dX4_behind_2 (by decide +kernel) ?_
  refine J_ldc2 (pc := 3) F wd_849 dX4_behind_3 ?_
  obtain ⟨q1, h1, hf⟩ := bind_elim hf
  refine J_callSI (pc := 6) F (c_X4_in hI  h1) (by omega) (by decide) wc_X4_in wd_691 rfl rfl (Nat.le_of_ble_eq_true rfl) dX4_behind_6 ?_
  rcases ite_elim hf with ⟨c2, hf⟩ | ⟨c2, hf⟩
  · refine J_if_eqT (pc := 9) F (tgt := 38) dX4_behind_9 (by decide) c2 ?_
    refine J_iconst (pc := 38) F dX4_behind_38 ki_m1 ?_
    exact J_iret (pc := 39) F rfl dX4_behind_39 hf
  · refine J_if_eqF (pc := 9) F (tgt := 38) dX4_behind_9 (by decide) c2 ?_
    refine J_aload_n (pc := 12) F dX4_behind_12 rfl 0 rfl ?_
    refine J_iload_n (pc := 13) F dX4_behind_13 rfl 2 rfl ?_
    obtain ⟨q3, h3, hf⟩ := bind_elim hf
    refine J_callVI (pc := 14) F (c_X4_isOne hI ht h3) (by omega) (by decide) (modN ht) (ht.2.1 _) rfl wc_X4_isOne wd_752 rfl rfl (Nat.le_of_ble_eq_true rfl) dX4_behind_14 ?_
    rcases ite_elim hf with ⟨c4, hf⟩ | ⟨c4, hf⟩
    · refine J_if_eqT (pc := 17) F (tgt := 38) dX4_behind_17 (by decide) c4 ?_
      refine J_iconst (pc := 38) F dX4_behind_38 ki_m1 ?_
      exact J_iret (pc := 39) F rfl dX4_behind_39 hf
    · refine J_if_eqF (pc := 17) F (tgt := 38) dX4_behind_17 (by decide) c4 ?_
      refine J_iload_n (pc := 20) F dX4_behind_20 rfl 3 rfl ?_
      refine J_i2l (pc := 21) F dX4_behind_21 ?_
      refine J_ldc2 (pc := 22) F wd_850 dX4_behind_22 ?_
      refine J_aload_n (pc := 25) F dX4_behind_25 rfl 0 rfl ?_
      refine gfX4_words (pc := 26) F ht wd_618 dX4_behind_26 ?_
      refine J_iconst (pc := 29) F dX4_behind_29 ki_1 ?_
      refine J_isub (pc := 30) F dX4_behind_30 ?_
      refine J_i2l (pc := 31) F dX4_behind_31 ?_
      obtain ⟨q5, h5, hf⟩ := bind_elim hf
      refine J_callSI (pc := 32) F (c_X4_in hI  h5) (by omega) (by decide) wc_X4_in wd_691 rfl rfl (Nat.le_of_ble_eq_true rfl) dX4_behind_32 ?_
      rcases ite_elim hf with ⟨c6, hf⟩ | ⟨c6, hf⟩
      · refine J_if_neT (pc := 35) F (tgt := 40) dX4_behind_35 (by decide) c6 ?_
        refine J_aload_n (pc := 40) F dX4_behind_40 rfl 0 rfl ?_
        refine J_iconst (pc := 41) F dX4_behind_41 ki_0 ?_
        refine J_sipush (pc := 42) F dX4_behind_42 ks_1001 ?_
        obtain ⟨q7, h7, hf⟩ := bind_elim hf
        refine J_callVU (pc := 45) F (c_X4_copies hI ht h7) (by omega) (by decide) (modN ht) (ht.2.1 _) rfl wc_X4_copies wd_614 rfl rfl (Nat.le_of_ble_eq_true rfl) dX4_behind_45 ?_
        refine J_aload_n (pc := 48) F dX4_behind_48 rfl 0 rfl ?_
        refine J_sipush (pc := 49) F dX4_behind_49 ks_1001 ?_
        refine J_iload_n (pc := 52) F dX4_behind_52 rfl 1 rfl ?_
        obtain ⟨q8, h8, hf⟩ := bind_elim hf
        refine J_callVU (pc := 53) F (c_X4_days hI ht h8) (by omega) (by decide) (modN ht) (ht.2.1 _) rfl wc_X4_days wd_805 rfl rfl (Nat.le_of_ble_eq_true rfl) dX4_behind_53 ?_
        refine J_iload_n (pc := 56) F dX4_behind_56 rfl 3 rfl ?_
        rcases ite_elim hf with ⟨c9, hf⟩ | ⟨c9, hf⟩
        · refine J_if_geT (pc := 57) F (tgt := 74) dX4_behind_57 (by decide) c9 ?_
          refine J_aload_n (pc := 74) F dX4_behind_74 rfl 0 rfl ?_
          refine J_sipush (pc := 75) F dX4_behind_75 ks_1001 ?_
          refine J_iload_n (pc := 78) F dX4_behind_78 rfl 2 rfl ?_
          refine J_iload_n (pc := 79) F dX4_behind_79 rfl 3 rfl ?_
          obtain ⟨q10, h10, hf⟩ := bind_elim hf
          refine J_callVI (pc := 80) F (c_X4_hasIt hI ht h10) (by omega) (by decide) (modN ht) (ht.2.1 _) rfl wc_X4_hasIt wd_761 rfl rfl (Nat.le_of_ble_eq_true rfl) dX4_behind_80 ?_
          rcases ite_elim hf with ⟨c11, hf⟩ | ⟨c11, hf⟩
          · refine J_if_geT (pc := 83) F (tgt := 91) dX4_behind_83 (by decide) c11 ?_
            refine J_aload_n (pc := 91) F dX4_behind_91 rfl 0 rfl ?_
            refine J_sipush (pc := 92) F dX4_behind_92 ks_1001 ?_
            refine J_iload_n (pc := 95) F dX4_behind_95 rfl 2 rfl ?_
            refine J_iload_n (pc := 96) F dX4_behind_96 rfl 3 rfl ?_
            obtain ⟨q12, h12, hf⟩ := bind_elim hf
            refine J_callVI (pc := 97) F (c_X4_hasIt hI ht h12) (by omega) (by decide) (modN ht) (ht.2.1 _) rfl wc_X4_hasIt wd_761 rfl rfl (Nat.le_of_ble_eq_true rfl) dX4_behind_97 ?_
            exact J_iret (pc := 100) F rfl dX4_behind_100 hf
          · refine J_if_geF (pc := 83) F (tgt := 91) dX4_behind_83 (by decide) c11 ?_
            refine J_bipush (pc := 86) F dX4_behind_86 kb_m4 ?_
            refine J_goto (pc := 88) F (tgt := 100) dX4_behind_88 (by decide) ?_
            exact J_iret (pc := 100) F rfl dX4_behind_100 hf
        · refine J_if_geF (pc := 57) F (tgt := 74) dX4_behind_57 (by decide) c9 ?_
          refine J_aload_n (pc := 60) F dX4_behind_60 rfl 0 rfl ?_
          refine J_sipush (pc := 61) F dX4_behind_61 ks_1001 ?_
          refine J_iload_n (pc := 64) F dX4_behind_64 rfl 2 rfl ?_
          obtain ⟨q13, h13, hf⟩ := bind_elim hf
          refine J_callVI (pc := 65) F (c_X4_right hI ht h13) (by omega) (by decide) (modN ht) (ht.2.1 _) rfl wc_X4_right wd_765 rfl rfl (Nat.le_of_ble_eq_true rfl) dX4_behind_65 ?_
          obtain ⟨q14, h14, hf⟩ := bind_elim hf
          refine J_callSI (pc := 68) F (c_X4_bits hI  h14) (by omega) (by decide) wc_X4_bits wd_773 rfl rfl (Nat.le_of_ble_eq_true rfl) dX4_behind_68 ?_
          refine J_goto (pc := 71) F (tgt := 100) dX4_behind_71 (by decide) ?_
          exact J_iret (pc := 100) F rfl dX4_behind_100 hf
      · refine J_if_neF (pc := 35) F (tgt := 40) dX4_behind_35 (by decide) c6 ?_
        refine J_iconst (pc := 38) F dX4_behind_38 ki_m1 ?_
        exact J_iret (pc := 39) F rfl dX4_behind_39 hf
set_option maxHeartbeats 4000000 in
set_option maxRecDepth 100000 in
theorem c_X4_made {l : Launch} {E : En} {ad : Nat → Nat} {G : Lay} {n : Nat} (hI : adI ad n) (ht : ModAt E ad G n) {a0 : Int32} {σ : St} {res : Int32 × St} (hf : f_X4_made a0 σ = some res) : Ct l yX4_made cX4_made 3 (some .int) 3 E ad G n [.ref (ad 0), .int a0] σ (some (.int res.1)) res.2 := by
  unfold f_X4_made at hf
  refine J_start (own := RX4) (lv := [(0, .ref (ad 0)), (1, .int a0)]) pnX4 rfl hI (Nat.le_of_ble_eq_true rfl) rfl (fun p e s m args below meth c F => ?_)
  refine J_aload_n (pc := 0) F dX4_made_0 rfl 0 rfl ?_
  refine J_iload_n (pc := 1) F dX4_made_1 rfl 1 rfl ?_
  obtain ⟨q1, h1, hf⟩ := bind_elim hf
  refine J_callVI (pc := 2) F (c_X4_isOne hI ht h1) (by omega) (by decide) (modN ht) (ht.2.1 _) rfl wc_X4_isOne wd_752 rfl rfl (Nat.le_of_ble_eq_true rfl) dX4_made_2 ?_
  rcases ite_elim hf with ⟨c2, hf⟩ | ⟨c2, hf⟩
  · refine J_if_neT (pc := 5) F (tgt := 10) dX4_made_5 (by decide) c2 ?_
    refine J_aload_n (pc := 10) F dX4_made_10 rfl 0 rfl ?_
    refine J_iconst (pc := 11) F dX4_made_11 ki_0 ?_
    refine J_sipush (pc := 12) F dX4_made_12 ks_1001 ?_
    obtain ⟨q3, h3, hf⟩ := bind_elim hf
    refine J_callVU (pc := 15) F (c_X4_copies hI ht h3) (by omega) (by decide) (modN ht) (ht.2.1 _) rfl wc_X4_copies wd_614 rfl rfl (Nat.le_of_ble_eq_true rfl) dX4_made_15 ?_
    refine J_iconst (pc := 18) F dX4_made_18 ki_0 ?_
    refine J_istore_n (pc := 19) F (lv' := [(2, .int (0 : Int32)), (0, .ref (ad 0)), (1, .int a0)]) dX4_made_19 rfl (by decide) rfl ?_
    refine J_sub [1, 2, 0] rfl ?_
    refine lp_ind (P := fun (b4 : Int32 × St) => J p l e 3 s m args below meth c E ad G n (QI below E ad G n args s res) 3 b4.2 20 [(0, .ref (ad 0)), (1, .int a0), (2, .int b4.1)] []) (fun r4 ih4 b4 hf => ?_) FU ((0 : Int32), q3.2) hf
    show J p l e 3 s m args below meth c E ad G n (QI below E ad G n args s res) 3 b4.2 20 [(0, .ref (ad 0)), (1, .int a0), (2, .int b4.1)] []
    refine J_iload_n (pc := 20) F dX4_made_20 rfl 2 rfl ?_
    refine J_bipush (pc := 21) F dX4_made_21 kb_60 ?_
    rcases ite_elim hf with ⟨c5, hf⟩ | ⟨c5, hf⟩
    · refine J_icmp_gtT (pc := 23) F (tgt := 53) dX4_made_23 (by decide) c5 ?_
      refine J_bipush (pc := 53) F dX4_made_53 kb_m4 ?_
      exact J_iret (pc := 55) F rfl dX4_made_55 hf
    · refine J_icmp_gtF (pc := 23) F (tgt := 53) dX4_made_23 (by decide) c5 ?_
      refine J_aload_n (pc := 26) F dX4_made_26 rfl 0 rfl ?_
      refine J_sipush (pc := 27) F dX4_made_27 ks_1001 ?_
      refine J_iload_n (pc := 30) F dX4_made_30 rfl 1 rfl ?_
      obtain ⟨q6, h6, hf⟩ := bind_elim hf
      refine J_callVI (pc := 31) F (c_X4_isSpeaker hI ht h6) (by omega) (by decide) (modN ht) (ht.2.1 _) rfl wc_X4_isSpeaker wd_769 rfl rfl (Nat.le_of_ble_eq_true rfl) dX4_made_31 ?_
      rcases ite_elim hf with ⟨c7, hf⟩ | ⟨c7, hf⟩
      · refine J_if_eqT (pc := 34) F (tgt := 39) dX4_made_34 (by decide) c7 ?_
        refine J_aload_n (pc := 39) F dX4_made_39 rfl 0 rfl ?_
        refine J_sipush (pc := 40) F dX4_made_40 ks_1001 ?_
        refine J_iconst (pc := 43) F dX4_made_43 ki_0 ?_
        obtain ⟨q8, h8, hf⟩ := bind_elim hf
        refine J_callVU (pc := 44) F (c_X4_goesOn hI ht h8) (by omega) (by decide) (modN ht) (ht.2.1 _) rfl wc_X4_goesOn wd_809 rfl rfl (Nat.le_of_ble_eq_true rfl) dX4_made_44 ?_
        obtain ⟨x9, ex9, hf⟩ := nm_elim hf
        refine J_iinc (pc := 47) F (lv' := [(2, .int x9), (0, .ref (ad 0)), (1, .int a0)]) dX4_made_47 2 rfl (ex9.trans (congrArg _ ki_1.symm)) (by decide) rfl ?_
        refine J_goto (pc := 50) F (tgt := 20) dX4_made_50 (by decide) ?_
        refine J_sub [1, 2, 0] rfl ?_
        exact ih4 (x9, q8.2) hf
      · refine J_if_eqF (pc := 34) F (tgt := 39) dX4_made_34 (by decide) c7 ?_
        refine J_iload_n (pc := 37) F dX4_made_37 rfl 2 rfl ?_
        exact J_iret (pc := 38) F rfl dX4_made_38 hf
  · refine J_if_neF (pc := 5) F (tgt := 10) dX4_made_5 (by decide) c2 ?_
    refine J_iconst (pc := 8) F dX4_made_8 ki_m1 ?_
    exact J_iret (pc := 9) F rfl dX4_made_9 hf
set_option maxHeartbeats 4000000 in
set_option maxRecDepth 100000 in
theorem c_X4_best {l : Launch} {E : En} {ad : Nat → Nat} {G : Lay} {n : Nat} (hI : adI ad n) (ht : ModAt E ad G n) {a0 : Int32} {a1 : Int32} {a2 : Int32} {σ : St} {res : Int32 × St} (hf : f_X4_best a0 a1 a2 σ = some res) : Ct l yX4_best cX4_best 11 (some .int) 3 E ad G n [.ref (ad 0), .int a0, .int a1, .int a2] σ (some (.int res.1)) res.2 := by
  unfold f_X4_best at hf
  refine J_start (own := RX4) (lv := [(0, .ref (ad 0)), (1, .int a0), (2, .int a1), (3, .int a2)]) pnX4 rfl hI (Nat.le_of_ble_eq_true rfl) rfl (fun p e s m args below meth c F => ?_)
  refine J_aload_n (pc := 0) F dX4_best_0 rfl 0 rfl ?_
  refine J_iload_n (pc := 1) F dX4_best_1 rfl 1 rfl ?_
  obtain ⟨q1, h1, hf⟩ := bind_elim hf
  refine J_callVI (pc := 2) F (c_X4_isOne hI ht h1) (by omega) (by decide) (modN ht) (ht.2.1 _) rfl wc_X4_isOne wd_752 rfl rfl (Nat.le_of_ble_eq_true rfl) dX4_best_2 ?_
  rcases ite_elim hf with ⟨c2, hf⟩ | ⟨c2, hf⟩
  · refine J_if_eqT (pc := 5) F (tgt := 34) dX4_best_5 (by decide) c2 ?_
    refine J_iconst (pc := 34) F dX4_best_34 ki_m1 ?_
    exact J_iret (pc := 35) F rfl dX4_best_35 hf
  · refine J_if_eqF (pc := 5) F (tgt := 34) dX4_best_5 (by decide) c2 ?_
    refine J_iload_n (pc := 8) F dX4_best_8 rfl 2 rfl ?_
    refine J_i2l (pc := 9) F dX4_best_9 ?_
    refine J_lconst (pc := 10) F (v := 1) dX4_best_10 (by decide +kernel) ?_
    refine J_ldc2 (pc := 11) F wd_859 dX4_best_11 ?_
    obtain ⟨q3, h3, hf⟩ := bind_elim hf
    refine J_callSI (pc := 14) F (c_X4_in hI  h3) (by omega) (by decide) wc_X4_in wd_691 rfl rfl (Nat.le_of_ble_eq_true rfl) dX4_best_14 ?_
    rcases ite_elim hf with ⟨c4, hf⟩ | ⟨c4, hf⟩
    · refine J_if_eqT (pc := 17) F (tgt := 34) dX4_best_17 (by decide) c4 ?_
      refine J_iconst (pc := 34) F dX4_best_34 ki_m1 ?_
      exact J_iret (pc := 35) F rfl dX4_best_35 hf
    · refine J_if_eqF (pc := 17) F (tgt := 34) dX4_best_17 (by decide) c4 ?_
      refine J_iload_n (pc := 20) F dX4_best_20 rfl 3 rfl ?_
      refine J_i2l (pc := 21) F dX4_best_21 ?_
      refine J_ldc2 (pc := 22) F wd_850 dX4_best_22 ?_
      refine J_ldc2 (pc := 25) F wd_860 dX4_best_25 ?_
      obtain ⟨q5, h5, hf⟩ := bind_elim hf
      refine J_callSI (pc := 28) F (c_X4_in hI  h5) (by omega) (by decide) wc_X4_in wd_691 rfl rfl (Nat.le_of_ble_eq_true rfl) dX4_best_28 ?_
      rcases ite_elim hf with ⟨c6, hf⟩ | ⟨c6, hf⟩
      · refine J_if_neT (pc := 31) F (tgt := 36) dX4_best_31 (by decide) c6 ?_
        refine J_iload_n (pc := 36) F dX4_best_36 rfl 2 rfl ?_
        refine J_iconst (pc := 37) F dX4_best_37 ki_1 ?_
        obtain ⟨k7, hk7, hf⟩ := jn_elim hf
        have hJk7 : ∀ (q7 : Int32 × St), k7 q7 = some res → J p l e 3 s m args below meth c E ad G n (QI below E ad G n args s res) 11 q7.2 79 [(0, .ref (ad 0)), (1, .int a0), (2, .int a1), (3, .int a2)] [.int q7.1] := by
          intro q7 hf
          replace hf := hk7 q7 hf
          refine J_istore (pc := 79) F (lv' := [(4, .int q7.1), (0, .ref (ad 0)), (1, .int a0), (2, .int a1), (3, .int a2)]) dX4_best_79 (by decide) rfl ?_
          refine J_iconst (pc := 81) F dX4_best_81 ki_0 ?_
          refine J_istore (pc := 82) F (lv' := [(5, .int (0 : Int32)), (4, .int q7.1), (0, .ref (ad 0)), (1, .int a0), (2, .int a1), (3, .int a2)]) dX4_best_82 (by decide) rfl ?_
          refine J_iconst (pc := 84) F dX4_best_84 ki_m1 ?_
          refine J_istore (pc := 85) F (lv' := [(6, .int (-1 : Int32)), (5, .int (0 : Int32)), (4, .int q7.1), (0, .ref (ad 0)), (1, .int a0), (2, .int a1), (3, .int a2)]) dX4_best_85 (by decide) rfl ?_
          refine J_iconst (pc := 87) F dX4_best_87 ki_0 ?_
          refine J_istore (pc := 88) F (lv' := [(7, .int (0 : Int32)), (6, .int (-1 : Int32)), (5, .int (0 : Int32)), (4, .int q7.1), (0, .ref (ad 0)), (1, .int a0), (2, .int a1), (3, .int a2)]) dX4_best_88 (by decide) rfl ?_
          refine J_sub [4, 5, 6, 7, 3, 2, 1, 0] rfl ?_
          refine lp_ind (P := fun (b10 : Int32 × Int32 × Int32 × St) => J p l e 3 s m args below meth c E ad G n (QI below E ad G n args s res) 11 b10.2.2.2 90 [(0, .ref (ad 0)), (1, .int a0), (2, .int a1), (3, .int a2), (4, .int q7.1), (5, .int b10.1), (6, .int b10.2.1), (7, .int b10.2.2.1)] []) (fun r10 ih10 b10 hf => ?_) FU ((0 : Int32), (-1 : Int32), (0 : Int32), q7.2) hf
          show J p l e 3 s m args below meth c E ad G n (QI below E ad G n args s res) 11 b10.2.2.2 90 [(0, .ref (ad 0)), (1, .int a0), (2, .int a1), (3, .int a2), (4, .int q7.1), (5, .int b10.1), (6, .int b10.2.1), (7, .int b10.2.2.1)] []
          refine J_iload (pc := 90) F dX4_best_90 7 rfl ?_
          refine J_iload (pc := 92) F dX4_best_92 4 rfl ?_
          rcases ite_elim hf with ⟨c11, hf⟩ | ⟨c11, hf⟩
          · refine J_icmp_geT (pc := 94) F (tgt := 209) dX4_best_94 (by decide) c11 ?_
            refine J_iload (pc := 209) F dX4_best_209 4 rfl ?_
            refine J_istore (pc := 211) F (lv' := [(7, .int q7.1), (0, .ref (ad 0)), (1, .int a0), (2, .int a1), (3, .int a2), (4, .int q7.1), (5, .int b10.1), (6, .int b10.2.1)]) dX4_best_211 (by decide) rfl ?_
            refine J_iload (pc := 213) F dX4_best_213 6 rfl ?_
            refine J_istore (pc := 215) F (lv' := [(8, .int b10.1), (7, .int q7.1), (0, .ref (ad 0)), (1, .int a0), (2, .int a1), (3, .int a2), (4, .int q7.1), (5, .int b10.1), (6, .int b10.2.1)]) dX4_best_215 (by decide) rfl ?_
            refine J_bipush (pc := 217) F dX4_best_217 kb_m4 ?_
            refine J_istore (pc := 219) F (lv' := [(9, .int (-4 : Int32)), (8, .int b10.1), (7, .int q7.1), (0, .ref (ad 0)), (1, .int a0), (2, .int a1), (3, .int a2), (4, .int q7.1), (5, .int b10.1), (6, .int b10.2.1)]) dX4_best_219 (by decide) rfl ?_
            refine J_iconst (pc := 221) F dX4_best_221 ki_0 ?_
            refine J_istore (pc := 222) F (lv' := [(10, .int (0 : Int32)), (9, .int (-4 : Int32)), (8, .int b10.1), (7, .int q7.1), (0, .ref (ad 0)), (1, .int a0), (2, .int a1), (3, .int a2), (4, .int q7.1), (5, .int b10.1), (6, .int b10.2.1)]) dX4_best_222 (by decide) rfl ?_
            refine J_sub [4, 6, 7, 10, 3, 2, 1, 0] rfl ?_
            refine lp_ind (P := fun (b12 : Int32 × Int32 × Int32 × Int32 × St) => J p l e 3 s m args below meth c E ad G n (QI below E ad G n args s res) 11 b12.2.2.2.2 224 [(0, .ref (ad 0)), (2, .int a1), (3, .int a2), (6, .int b10.2.1), (7, .int b12.1), (8, .int b12.2.1), (9, .int b12.2.2.1), (10, .int b12.2.2.2.1)] []) (fun r12 ih12 b12 hf => ?_) FU (q7.1, b10.1, (-4 : Int32), (0 : Int32), b10.2.2.2) hf
            show J p l e 3 s m args below meth c E ad G n (QI below E ad G n args s res) 11 b12.2.2.2.2 224 [(0, .ref (ad 0)), (2, .int a1), (3, .int a2), (6, .int b10.2.1), (7, .int b12.1), (8, .int b12.2.1), (9, .int b12.2.2.1), (10, .int b12.2.2.2.1)] []
            refine J_iload (pc := 224) F dX4_best_224 7 rfl ?_
            refine J_iload_n (pc := 226) F dX4_best_226 rfl 2 rfl ?_
            obtain ⟨k13, hk13, hf⟩ := jn_elim hf
            have hJk13 : ∀ (q13 : St), k13 q13 = some res → J p l e 3 s m args below meth c E ad G n (QI below E ad G n args s res) 11 q13 265 [(2, .int a1), (3, .int a2), (6, .int b10.2.1), (9, .int b12.2.2.1)] [] := by
              intro q13 hf
              replace hf := hk13 q13 hf
              refine J_iload_n (pc := 265) F dX4_best_265 rfl 1 rfl ?_
              rcases ite_elim hf with ⟨c23, hf⟩ | ⟨c23, hf⟩
              · refine J_if_geT (pc := 266) F (tgt := 274) dX4_best_266 (by decide) c23 ?_
                refine J_iload_n (pc := 274) F dX4_best_274 rfl 1 rfl ?_
                refine J_iload_n (pc := 275) F dX4_best_275 rfl 0 rfl ?_
                rcases ite_elim hf with ⟨c24, hf⟩ | ⟨c24, hf⟩
                · refine J_icmp_ltT (pc := 276) F (tgt := 284) dX4_best_276 (by decide) c24 ?_
                  refine J_iload (pc := 284) F dX4_best_284 3 rfl ?_
                  exact J_iret (pc := 286) F rfl dX4_best_286 hf
                · refine J_icmp_ltF (pc := 276) F (tgt := 284) dX4_best_276 (by decide) c24 ?_
                  refine J_bipush (pc := 279) F dX4_best_279 kb_m4 ?_
                  refine J_goto (pc := 281) F (tgt := 286) dX4_best_281 (by decide) ?_
                  exact J_iret (pc := 286) F rfl dX4_best_286 hf
              · refine J_if_geF (pc := 266) F (tgt := 274) dX4_best_266 (by decide) c23 ?_
                refine J_iload (pc := 269) F dX4_best_269 2 rfl ?_
                refine J_goto (pc := 271) F (tgt := 286) dX4_best_271 (by decide) ?_
                exact J_iret (pc := 286) F rfl dX4_best_286 hf
            clear hk13
            rcases ite_elim hf with ⟨c14, hf⟩ | ⟨c14, hf⟩
            · refine J_icmp_gtT (pc := 227) F (tgt := 265) dX4_best_227 (by decide) c14 ?_
              refine J_sub [1, 2, 3, 6] rfl ?_
              exact hJk13 b12.2.2.2.2 hf
            · refine J_icmp_gtF (pc := 227) F (tgt := 265) dX4_best_227 (by decide) c14 ?_
              refine J_iload (pc := 230) F dX4_best_230 7 rfl ?_
              refine J_iload_n (pc := 232) F dX4_best_232 rfl 1 rfl ?_
              rcases ite_elim hf with ⟨c15, hf⟩ | ⟨c15, hf⟩
              · refine J_icmp_geT (pc := 233) F (tgt := 265) dX4_best_233 (by decide) c15 ?_
                refine J_sub [1, 2, 3, 6] rfl ?_
                exact hJk13 b12.2.2.2.2 hf
              · refine J_icmp_geF (pc := 233) F (tgt := 265) dX4_best_233 (by decide) c15 ?_
                refine J_iload (pc := 236) F dX4_best_236 4 rfl ?_
                refine J_aload_n (pc := 238) F dX4_best_238 rfl 0 rfl ?_
                refine gfX4_words (pc := 239) F ht wd_618 dX4_best_239 ?_
                obtain ⟨g16, hf⟩ := grd_elim hf
                refine J_idiv (pc := 242) F dX4_best_242 g16 ?_
                obtain ⟨x17, ex17, hf⟩ := nm_elim hf
                refine J_ti ex17 ?_
                refine J_istore (pc := 243) F (lv' := [(7, .int x17), (0, .ref (ad 0)), (2, .int a1), (3, .int a2), (6, .int b10.2.1), (8, .int b12.2.1), (9, .int b12.2.2.1), (10, .int b12.2.2.2.1)]) dX4_best_243 (by decide) rfl ?_
                refine J_iload (pc := 245) F dX4_best_245 5 rfl ?_
                refine J_iload (pc := 247) F dX4_best_247 0 rfl ?_
                obtain ⟨g18, hf⟩ := grd_elim hf
                refine J_idiv (pc := 249) F dX4_best_249 g18 ?_
                obtain ⟨x19, ex19, hf⟩ := nm_elim hf
                refine J_ti ex19 ?_
                refine J_istore (pc := 250) F (lv' := [(9, .int x19), (7, .int x17), (0, .ref (ad 0)), (2, .int a1), (3, .int a2), (6, .int b10.2.1), (8, .int b12.2.1), (10, .int b12.2.2.2.1)]) dX4_best_250 (by decide) rfl ?_
                refine J_iload (pc := 252) F dX4_best_252 6 rfl ?_
                refine J_iload (pc := 254) F dX4_best_254 1 rfl ?_
                obtain ⟨g20, hf⟩ := grd_elim hf
                refine J_irem (pc := 256) F dX4_best_256 g20 ?_
                obtain ⟨x21, ex21, hf⟩ := nm_elim hf
                refine J_ti ex21 ?_
                refine J_istore (pc := 257) F (lv' := [(8, .int x21), (9, .int x19), (7, .int x17), (0, .ref (ad 0)), (2, .int a1), (3, .int a2), (6, .int b10.2.1), (10, .int b12.2.2.2.1)]) dX4_best_257 (by decide) rfl ?_
                obtain ⟨x22, ex22, hf⟩ := nm_elim hf
                refine J_iinc (pc := 259) F (lv' := [(10, .int x22), (8, .int x21), (9, .int x19), (7, .int x17), (0, .ref (ad 0)), (2, .int a1), (3, .int a2), (6, .int b10.2.1)]) dX4_best_259 7 rfl (ex22.trans (congrArg _ ki_1.symm)) (by decide) rfl ?_
                refine J_goto (pc := 262) F (tgt := 224) dX4_best_262 (by decide) ?_
                refine J_sub [4, 5, 6, 7, 3, 1, 2, 0] rfl ?_
                exact ih12 (x17, x21, x19, x22, b12.2.2.2.2) hf
          · refine J_icmp_geF (pc := 94) F (tgt := 209) dX4_best_94 (by decide) c11 ?_
            refine J_aload_n (pc := 97) F dX4_best_97 rfl 0 rfl ?_
            refine J_iconst (pc := 98) F dX4_best_98 ki_0 ?_
            refine J_sipush (pc := 99) F dX4_best_99 ks_1001 ?_
            obtain ⟨q25, h25, hf⟩ := bind_elim hf
            refine J_callVU (pc := 102) F (c_X4_copies hI ht h25) (by omega) (by decide) (modN ht) (ht.2.1 _) rfl wc_X4_copies wd_614 rfl rfl (Nat.le_of_ble_eq_true rfl) dX4_best_102 ?_
            refine J_iload (pc := 105) F dX4_best_105 4 rfl ?_
            refine J_istore (pc := 107) F (lv' := [(8, .int q7.1), (0, .ref (ad 0)), (1, .int a0), (2, .int a1), (3, .int a2), (4, .int q7.1), (5, .int b10.1), (6, .int b10.2.1), (7, .int b10.2.2.1)]) dX4_best_107 (by decide) rfl ?_
            refine J_iload (pc := 109) F dX4_best_109 8 rfl ?_
            refine J_istore (pc := 111) F (lv' := [(9, .int b10.2.2.1), (8, .int q7.1), (0, .ref (ad 0)), (1, .int a0), (2, .int a1), (3, .int a2), (4, .int q7.1), (5, .int b10.1), (6, .int b10.2.1), (7, .int b10.2.2.1)]) dX4_best_111 (by decide) rfl ?_
            refine J_iconst (pc := 113) F dX4_best_113 ki_0 ?_
            refine J_istore (pc := 114) F (lv' := [(10, .int (0 : Int32)), (9, .int b10.2.2.1), (8, .int q7.1), (0, .ref (ad 0)), (1, .int a0), (2, .int a1), (3, .int a2), (4, .int q7.1), (5, .int b10.1), (6, .int b10.2.1), (7, .int b10.2.2.1)]) dX4_best_114 (by decide) rfl ?_
            refine J_sub [3, 4, 5, 6, 7, 8, 9, 10, 2, 1, 0] rfl ?_
            refine lp_ind (P := fun (b26 : Int32 × Int32 × Int32 × St) => J p l e 3 s m args below meth c E ad G n (QI below E ad G n args s res) 11 b26.2.2.2 116 [(0, .ref (ad 0)), (1, .int a0), (2, .int a1), (3, .int a2), (4, .int q7.1), (5, .int b10.1), (6, .int b10.2.1), (7, .int b10.2.2.1), (8, .int b26.1), (9, .int b26.2.1), (10, .int b26.2.2.1)] []) (fun r26 ih26 b26 hf => ?_) FU (q7.1, b10.2.2.1, (0 : Int32), q25.2) hf
            show J p l e 3 s m args below meth c E ad G n (QI below E ad G n args s res) 11 b26.2.2.2 116 [(0, .ref (ad 0)), (1, .int a0), (2, .int a1), (3, .int a2), (4, .int q7.1), (5, .int b10.1), (6, .int b10.2.1), (7, .int b10.2.2.1), (8, .int b26.1), (9, .int b26.2.1), (10, .int b26.2.2.1)] []
            refine J_iload (pc := 116) F dX4_best_116 10 rfl ?_
            refine J_iload_n (pc := 118) F dX4_best_118 rfl 2 rfl ?_
            rcases ite_elim hf with ⟨c27, hf⟩ | ⟨c27, hf⟩
            · refine J_icmp_geT (pc := 119) F (tgt := 165) dX4_best_119 (by decide) c27 ?_
              refine J_aload_n (pc := 165) F dX4_best_165 rfl 0 rfl ?_
              refine J_sipush (pc := 166) F dX4_best_166 ks_1001 ?_
              refine J_iload_n (pc := 169) F dX4_best_169 rfl 1 rfl ?_
              obtain ⟨q28, h28, hf⟩ := bind_elim hf
              refine J_callVI (pc := 170) F (c_X4_right hI ht h28) (by omega) (by decide) (modN ht) (ht.2.1 _) rfl wc_X4_right wd_765 rfl rfl (Nat.le_of_ble_eq_true rfl) dX4_best_170 ?_
              obtain ⟨q29, h29, hf⟩ := bind_elim hf
              refine J_callSI (pc := 173) F (c_X4_bits hI  h29) (by omega) (by decide) wc_X4_bits wd_773 rfl rfl (Nat.le_of_ble_eq_true rfl) dX4_best_173 ?_
              refine J_istore (pc := 176) F (lv' := [(10, .int q29.1), (0, .ref (ad 0)), (1, .int a0), (2, .int a1), (3, .int a2), (4, .int q7.1), (5, .int b10.1), (6, .int b10.2.1), (7, .int b10.2.2.1), (8, .int b26.1), (9, .int b26.2.1)]) dX4_best_176 (by decide) rfl ?_
              refine J_iload (pc := 178) F dX4_best_178 0 rfl ?_
              refine J_iload (pc := 180) F dX4_best_180 7 rfl ?_
              obtain ⟨k30, hk30, hf⟩ := jn_elim hf
              have hJk30 : ∀ (q30 : Int32 × St), k30 q30 = some res → J p l e 3 s m args below meth c E ad G n (QI below E ad G n args s res) 11 q30.2 192 [(0, .ref (ad 0)), (1, .int a0), (2, .int a1), (3, .int a2), (4, .int q7.1), (6, .int b10.2.1), (7, .int b10.2.2.1), (10, .int q29.1)] [.int q30.1] := by
                intro q30 hf
                replace hf := hk30 q30 hf
                refine J_istore (pc := 192) F (lv' := [(5, .int q30.1), (0, .ref (ad 0)), (1, .int a0), (2, .int a1), (3, .int a2), (4, .int q7.1), (6, .int b10.2.1), (7, .int b10.2.2.1), (10, .int q29.1)]) dX4_best_192 (by decide) rfl ?_
                refine J_iload (pc := 194) F dX4_best_194 6 rfl ?_
                refine J_iload (pc := 196) F dX4_best_196 8 rfl ?_
                obtain ⟨q32, h32, hf⟩ := bind_elim hf
                refine J_callSI (pc := 198) F (c_X4_larger hI  h32) (by omega) (by decide) wc_X4_larger wd_861 rfl rfl (Nat.le_of_ble_eq_true rfl) dX4_best_198 ?_
                refine J_istore (pc := 201) F (lv' := [(6, .int q32.1), (5, .int q30.1), (0, .ref (ad 0)), (1, .int a0), (2, .int a1), (3, .int a2), (4, .int q7.1), (7, .int b10.2.2.1), (10, .int q29.1)]) dX4_best_201 (by decide) rfl ?_
                obtain ⟨x33, ex33, hf⟩ := nm_elim hf
                refine J_iinc (pc := 203) F (lv' := [(7, .int x33), (6, .int q32.1), (5, .int q30.1), (0, .ref (ad 0)), (1, .int a0), (2, .int a1), (3, .int a2), (4, .int q7.1), (10, .int q29.1)]) dX4_best_203 7 rfl (ex33.trans (congrArg _ ki_1.symm)) (by decide) rfl ?_
                refine J_goto (pc := 206) F (tgt := 90) dX4_best_206 (by decide) ?_
                refine J_sub [3, 4, 5, 6, 7, 2, 1, 0] rfl ?_
                exact ih10 (q30.1, q32.1, x33, q32.2) hf
              clear hk30
              rcases ite_elim hf with ⟨c31, hf⟩ | ⟨c31, hf⟩
              · refine J_icmp_leT (pc := 182) F (tgt := 190) dX4_best_182 (by decide) c31 ?_
                refine J_iload (pc := 190) F dX4_best_190 6 rfl ?_
                refine J_sub [1, 2, 3, 4, 5, 7, 8, 0] rfl ?_
                exact hJk30 (b10.1, q29.2) hf
              · refine J_icmp_leF (pc := 182) F (tgt := 190) dX4_best_182 (by decide) c31 ?_
                refine J_iload (pc := 185) F dX4_best_185 8 rfl ?_
                refine J_goto (pc := 187) F (tgt := 192) dX4_best_187 (by decide) ?_
                refine J_sub [1, 2, 3, 4, 5, 7, 8, 0] rfl ?_
                exact hJk30 (b10.2.2.1, q29.2) hf
            · refine J_icmp_geF (pc := 119) F (tgt := 165) dX4_best_119 (by decide) c27 ?_
              refine J_iload (pc := 122) F dX4_best_122 8 rfl ?_
              refine J_aload_n (pc := 124) F dX4_best_124 rfl 0 rfl ?_
              refine gfX4_words (pc := 125) F ht wd_618 dX4_best_125 ?_
              obtain ⟨g34, hf⟩ := grd_elim hf
              refine J_idiv (pc := 128) F dX4_best_128 g34 ?_
              obtain ⟨x35, ex35, hf⟩ := nm_elim hf
              refine J_ti ex35 ?_
              refine J_istore (pc := 129) F (lv' := [(8, .int x35), (0, .ref (ad 0)), (1, .int a0), (2, .int a1), (3, .int a2), (4, .int q7.1), (5, .int b10.1), (6, .int b10.2.1), (7, .int b10.2.2.1), (9, .int b26.2.1), (10, .int b26.2.2.1)]) dX4_best_129 (by decide) rfl ?_
              refine J_aload_n (pc := 131) F dX4_best_131 rfl 1 rfl ?_
              refine J_sipush (pc := 132) F dX4_best_132 ks_1001 ?_
              refine J_iload_n (pc := 135) F dX4_best_135 rfl 2 rfl ?_
              refine J_iload (pc := 136) F dX4_best_136 9 rfl ?_
              refine J_iload (pc := 138) F dX4_best_138 0 rfl ?_
              obtain ⟨g36, hf⟩ := grd_elim hf
              refine J_idiv (pc := 140) F dX4_best_140 g36 ?_
              obtain ⟨q37, h37, hf⟩ := bind_elim hf
              refine J_callVU (pc := 141) F (c_X4_learns hI ht h37) (by omega) (by decide) (modN ht) (ht.2.1 _) rfl wc_X4_learns wd_788 rfl rfl (Nat.le_of_ble_eq_true rfl) dX4_best_141 ?_
              refine J_iload (pc := 144) F dX4_best_144 9 rfl ?_
              refine J_iload (pc := 146) F dX4_best_146 0 rfl ?_
              obtain ⟨g38, hf⟩ := grd_elim hf
              refine J_irem (pc := 148) F dX4_best_148 g38 ?_
              obtain ⟨x39, ex39, hf⟩ := nm_elim hf
              refine J_ti ex39 ?_
              refine J_istore (pc := 149) F (lv' := [(9, .int x39), (8, .int x35), (0, .ref (ad 0)), (1, .int a0), (2, .int a1), (3, .int a2), (4, .int q7.1), (5, .int b10.1), (6, .int b10.2.1), (7, .int b10.2.2.1), (10, .int b26.2.2.1)]) dX4_best_149 (by decide) rfl ?_
              refine J_aload_n (pc := 151) F dX4_best_151 rfl 2 rfl ?_
              refine J_sipush (pc := 152) F dX4_best_152 ks_1001 ?_
              refine J_iconst (pc := 155) F dX4_best_155 ki_0 ?_
              obtain ⟨q40, h40, hf⟩ := bind_elim hf
              refine J_callVU (pc := 156) F (c_X4_goesOn hI ht h40) (by omega) (by decide) (modN ht) (ht.2.1 _) rfl wc_X4_goesOn wd_809 rfl rfl (Nat.le_of_ble_eq_true rfl) dX4_best_156 ?_
              obtain ⟨x41, ex41, hf⟩ := nm_elim hf
              refine J_iinc (pc := 159) F (lv' := [(10, .int x41), (9, .int x39), (8, .int x35), (0, .ref (ad 0)), (1, .int a0), (2, .int a1), (3, .int a2), (4, .int q7.1), (5, .int b10.1), (6, .int b10.2.1), (7, .int b10.2.2.1)]) dX4_best_159 10 rfl (ex41.trans (congrArg _ ki_1.symm)) (by decide) rfl ?_
              refine J_goto (pc := 162) F (tgt := 116) dX4_best_162 (by decide) ?_
              refine J_sub [3, 4, 5, 6, 7, 8, 9, 10, 2, 1, 0] rfl ?_
              exact ih26 (x35, x39, x41, q40.2) hf
        clear hk7
        rcases ite_elim hf with ⟨c8, hf⟩ | ⟨c8, hf⟩
        · refine J_icmp_neT (pc := 38) F (tgt := 48) dX4_best_38 (by decide) c8 ?_
          refine J_iload_n (pc := 48) F dX4_best_48 rfl 2 rfl ?_
          refine J_iconst (pc := 49) F dX4_best_49 ki_2 ?_
          rcases ite_elim hf with ⟨c9, hf⟩ | ⟨c9, hf⟩
          · refine J_icmp_neT (pc := 50) F (tgt := 65) dX4_best_50 (by decide) c9 ?_
            refine J_aload_n (pc := 65) F dX4_best_65 rfl 0 rfl ?_
            refine gfX4_words (pc := 66) F ht wd_618 dX4_best_66 ?_
            refine J_aload_n (pc := 69) F dX4_best_69 rfl 0 rfl ?_
            refine gfX4_words (pc := 70) F ht wd_618 dX4_best_70 ?_
            refine J_imul (pc := 73) F dX4_best_73 ?_
            refine J_aload_n (pc := 74) F dX4_best_74 rfl 0 rfl ?_
            refine gfX4_words (pc := 75) F ht wd_618 dX4_best_75 ?_
            refine J_imul (pc := 78) F dX4_best_78 ?_
            exact hJk7 ((((q5.2 0 0) * (q5.2 0 0)) * (q5.2 0 0)), q5.2) hf
          · refine J_icmp_neF (pc := 50) F (tgt := 65) dX4_best_50 (by decide) c9 ?_
            refine J_aload_n (pc := 53) F dX4_best_53 rfl 0 rfl ?_
            refine gfX4_words (pc := 54) F ht wd_618 dX4_best_54 ?_
            refine J_aload_n (pc := 57) F dX4_best_57 rfl 0 rfl ?_
            refine gfX4_words (pc := 58) F ht wd_618 dX4_best_58 ?_
            refine J_imul (pc := 61) F dX4_best_61 ?_
            refine J_goto (pc := 62) F (tgt := 79) dX4_best_62 (by decide) ?_
            exact hJk7 (((q5.2 0 0) * (q5.2 0 0)), q5.2) hf
        · refine J_icmp_neF (pc := 38) F (tgt := 48) dX4_best_38 (by decide) c8 ?_
          refine J_aload_n (pc := 41) F dX4_best_41 rfl 0 rfl ?_
          refine gfX4_words (pc := 42) F ht wd_618 dX4_best_42 ?_
          refine J_goto (pc := 45) F (tgt := 79) dX4_best_45 (by decide) ?_
          exact hJk7 ((q5.2 0 0), q5.2) hf
      · refine J_if_neF (pc := 31) F (tgt := 36) dX4_best_31 (by decide) c6 ?_
        refine J_iconst (pc := 34) F dX4_best_34 ki_m1 ?_
        exact J_iret (pc := 35) F rfl dX4_best_35 hf
set_option maxHeartbeats 4000000 in
set_option maxRecDepth 100000 in
theorem c_X4_mends {l : Launch} {E : En} {ad : Nat → Nat} {G : Lay} {n : Nat} (hI : adI ad n) (ht : ModAt E ad G n) {a0 : Int32} {σ : St} {res : Int32 × St} (hf : f_X4_mends a0 σ = some res) : Ct l yX4_mends cX4_mends 8 (some .int) 4 E ad G n [.ref (ad 0), .int a0] σ (some (.int res.1)) res.2 := by
  unfold f_X4_mends at hf
  refine J_start (own := RX4) (lv := [(0, .ref (ad 0)), (1, .int a0)]) pnX4 rfl hI (Nat.le_of_ble_eq_true rfl) rfl (fun p e s m args below meth c F => ?_)
  refine J_iload_n (pc := 0) F dX4_mends_0 rfl 1 rfl ?_
  refine J_i2l (pc := 1) F dX4_mends_1 ?_
  refine J_lconst (pc := 2) F (v := 0) dX4_mends_2 (by decide +kernel) ?_
  refine J_lconst (pc := 3) F (v := 1) dX4_mends_3 (by decide +kernel) ?_
  obtain ⟨q1, h1, hf⟩ := bind_elim hf
  refine J_callSI (pc := 4) F (c_X4_in hI  h1) (by omega) (by decide) wc_X4_in wd_691 rfl rfl (Nat.le_of_ble_eq_true rfl) dX4_mends_4 ?_
  rcases ite_elim hf with ⟨c2, hf⟩ | ⟨c2, hf⟩
  · refine J_if_neT (pc := 7) F (tgt := 12) dX4_mends_7 (by decide) c2 ?_
    refine J_bipush (pc := 12) F dX4_mends_12 kb_m4 ?_
    refine J_istore_n (pc := 14) F (lv' := [(2, .int (-4 : Int32)), (0, .ref (ad 0)), (1, .int a0)]) dX4_mends_14 rfl (by decide) rfl ?_
    refine J_iconst (pc := 15) F dX4_mends_15 ki_m1 ?_
    refine J_istore_n (pc := 16) F (lv' := [(3, .int (-1 : Int32)), (2, .int (-4 : Int32)), (0, .ref (ad 0)), (1, .int a0)]) dX4_mends_16 rfl (by decide) rfl ?_
    refine J_iconst (pc := 17) F dX4_mends_17 ki_0 ?_
    refine J_istore (pc := 18) F (lv' := [(4, .int (0 : Int32)), (3, .int (-1 : Int32)), (2, .int (-4 : Int32)), (0, .ref (ad 0)), (1, .int a0)]) dX4_mends_18 (by decide) rfl ?_
    refine J_sub [3, 4, 2, 1, 0] rfl ?_
    refine lp_ind (P := fun (b3 : Int32 × Int32 × Int32 × St) => J p l e 4 s m args below meth c E ad G n (QI below E ad G n args s res) 8 b3.2.2.2 20 [(0, .ref (ad 0)), (1, .int a0), (2, .int b3.1), (3, .int b3.2.1), (4, .int b3.2.2.1)] []) (fun r3 ih3 b3 hf => ?_) FU ((-4 : Int32), (-1 : Int32), (0 : Int32), q1.2) hf
    show J p l e 4 s m args below meth c E ad G n (QI below E ad G n args s res) 8 b3.2.2.2 20 [(0, .ref (ad 0)), (1, .int a0), (2, .int b3.1), (3, .int b3.2.1), (4, .int b3.2.2.1)] []
    refine J_iload (pc := 20) F dX4_mends_20 4 rfl ?_
    refine J_aload_n (pc := 22) F dX4_mends_22 rfl 0 rfl ?_
    refine gfX4_many (pc := 23) F ht wd_620 dX4_mends_23 ?_
    refine J_aload_n (pc := 26) F dX4_mends_26 rfl 0 rfl ?_
    refine gfX4_words (pc := 27) F ht wd_618 dX4_mends_27 ?_
    refine J_imul (pc := 30) F dX4_mends_30 ?_
    rcases ite_elim hf with ⟨c4, hf⟩ | ⟨c4, hf⟩
    · refine J_icmp_geT (pc := 31) F (tgt := 139) dX4_mends_31 (by decide) c4 ?_
      refine J_iload_n (pc := 139) F dX4_mends_139 rfl 2 rfl ?_
      obtain ⟨k5, hk5, hf⟩ := jn_elim hf
      have hJk5 : ∀ (q5 : St), k5 q5 = some res → J p l e 4 s m args below meth c E ad G n (QI below E ad G n args s res) 8 q5 147 [(2, .int b3.1)] [] := by
        intro q5 hf
        replace hf := hk5 q5 hf
        refine J_iload_n (pc := 147) F dX4_mends_147 rfl 0 rfl ?_
        refine J_goto (pc := 148) F (tgt := 152) dX4_mends_148 (by decide) ?_
        exact J_iret (pc := 152) F rfl dX4_mends_152 hf
      clear hk5
      rcases ite_elim hf with ⟨c6, hf⟩ | ⟨c6, hf⟩
      · refine J_if_ltT (pc := 140) F (tgt := 147) dX4_mends_140 (by decide) c6 ?_
        refine J_sub [2] rfl ?_
        exact hJk5 b3.2.2.2 hf
      · refine J_if_ltF (pc := 140) F (tgt := 147) dX4_mends_140 (by decide) c6 ?_
        refine J_iload_n (pc := 143) F dX4_mends_143 rfl 1 rfl ?_
        rcases ite_elim hf with ⟨c7, hf⟩ | ⟨c7, hf⟩
        · refine J_if_neT (pc := 144) F (tgt := 151) dX4_mends_144 (by decide) c7 ?_
          refine J_iload_n (pc := 151) F dX4_mends_151 rfl 3 rfl ?_
          exact J_iret (pc := 152) F rfl dX4_mends_152 hf
        · refine J_if_neF (pc := 144) F (tgt := 151) dX4_mends_144 (by decide) c7 ?_
          refine J_sub [2] rfl ?_
          exact hJk5 b3.2.2.2 hf
    · refine J_icmp_geF (pc := 31) F (tgt := 139) dX4_mends_31 (by decide) c4 ?_
      refine J_iload (pc := 34) F dX4_mends_34 4 rfl ?_
      refine J_aload_n (pc := 36) F dX4_mends_36 rfl 0 rfl ?_
      refine gfX4_words (pc := 37) F ht wd_618 dX4_mends_37 ?_
      obtain ⟨g8, hf⟩ := grd_elim hf
      refine J_idiv (pc := 40) F dX4_mends_40 g8 ?_
      obtain ⟨x9, ex9, hf⟩ := nm_elim hf
      refine J_ti ex9 ?_
      refine J_istore (pc := 41) F (lv' := [(5, .int x9), (0, .ref (ad 0)), (1, .int a0), (2, .int b3.1), (3, .int b3.2.1), (4, .int b3.2.2.1)]) dX4_mends_41 (by decide) rfl ?_
      refine J_iload (pc := 43) F dX4_mends_43 5 rfl ?_
      refine J_aload_n (pc := 45) F dX4_mends_45 rfl 1 rfl ?_
      refine gfX4_words (pc := 46) F ht wd_618 dX4_mends_46 ?_
      obtain ⟨g10, hf⟩ := grd_elim hf
      refine J_irem (pc := 49) F dX4_mends_49 g10 ?_
      obtain ⟨x11, ex11, hf⟩ := nm_elim hf
      refine J_ti ex11 ?_
      refine J_istore (pc := 50) F (lv' := [(6, .int x11), (5, .int x9), (0, .ref (ad 0)), (1, .int a0), (2, .int b3.1), (3, .int b3.2.1), (4, .int b3.2.2.1)]) dX4_mends_50 (by decide) rfl ?_
      refine J_aload_n (pc := 52) F dX4_mends_52 rfl 2 rfl ?_
      refine J_iconst (pc := 53) F dX4_mends_53 ki_0 ?_
      refine J_iload (pc := 54) F dX4_mends_54 1 rfl ?_
      refine J_iload (pc := 56) F dX4_mends_56 0 rfl ?_
      obtain ⟨q12, h12, hf⟩ := bind_elim hf
      refine J_callVI (pc := 58) F (c_X4_canMend hI ht h12) (by omega) (by decide) (modN ht) (ht.2.1 _) rfl wc_X4_canMend wd_829 rfl rfl (Nat.le_of_ble_eq_true rfl) dX4_mends_58 ?_
      obtain ⟨k13, hk13, hf⟩ := jn_elim hf
      have hJk13 : ∀ (q13 : Int32 × Int32 × St), k13 q13 = some res → J p l e 4 s m args below meth c E ad G n (QI below E ad G n args s res) 8 q13.2.2 133 [(0, .ref (ad 0)), (1, .int a0), (2, .int q13.1), (3, .int q13.2.1), (4, .int b3.2.2.1)] [] := by
        intro q13 hf
        replace hf := hk13 q13 hf
        obtain ⟨x23, ex23, hf⟩ := nm_elim hf
        refine J_iinc (pc := 133) F (lv' := [(4, .int x23), (0, .ref (ad 0)), (1, .int a0), (2, .int q13.1), (3, .int q13.2.1)]) dX4_mends_133 4 rfl (ex23.trans (congrArg _ ki_1.symm)) (by decide) rfl ?_
        refine J_goto (pc := 136) F (tgt := 20) dX4_mends_136 (by decide) ?_
        refine J_sub [1, 2, 3, 4, 0] rfl ?_
        exact ih3 (q13.1, q13.2.1, x23, q13.2.2) hf
      clear hk13
      rcases ite_elim hf with ⟨c14, hf⟩ | ⟨c14, hf⟩
      · refine J_if_eqT (pc := 61) F (tgt := 133) dX4_mends_61 (by decide) c14 ?_
        refine J_sub [2, 3, 4, 5, 6] rfl ?_
        exact hJk13 (b3.1, b3.2.1, q12.2) hf
      · refine J_if_eqF (pc := 61) F (tgt := 133) dX4_mends_61 (by decide) c14 ?_
        refine J_aload_n (pc := 64) F dX4_mends_64 rfl 2 rfl ?_
        refine J_iconst (pc := 65) F dX4_mends_65 ki_0 ?_
        refine J_sipush (pc := 66) F dX4_mends_66 ks_1001 ?_
        obtain ⟨q15, h15, hf⟩ := bind_elim hf
        refine J_callVU (pc := 69) F (c_X4_copies hI ht h15) (by omega) (by decide) (modN ht) (ht.2.1 _) rfl wc_X4_copies wd_614 rfl rfl (Nat.le_of_ble_eq_true rfl) dX4_mends_69 ?_
        refine J_aload_n (pc := 72) F dX4_mends_72 rfl 2 rfl ?_
        refine J_sipush (pc := 73) F dX4_mends_73 ks_1001 ?_
        refine J_iload (pc := 76) F dX4_mends_76 1 rfl ?_
        refine J_iload (pc := 78) F dX4_mends_78 0 rfl ?_
        refine J_aload_n (pc := 80) F dX4_mends_80 rfl 2 rfl ?_
        refine gfX4_sounds (pc := 81) F ht wd_619 dX4_mends_81 ?_
        refine J_iload (pc := 84) F dX4_mends_84 0 rfl ?_
        obtain ⟨g16, hf⟩ := grd_elim hf
        refine J_iald (pc := 86) F ht.2.2.1 g16 dX4_mends_86 ?_
        obtain ⟨q17, h17, hf⟩ := bind_elim hf
        refine J_callVU (pc := 87) F (c_X4_gets hI ht h17) (by omega) (by decide) (modN ht) (ht.2.1 _) rfl wc_X4_gets wd_796 rfl rfl (Nat.le_of_ble_eq_true rfl) dX4_mends_87 ?_
        refine J_aload_n (pc := 90) F dX4_mends_90 rfl 2 rfl ?_
        refine J_sipush (pc := 91) F dX4_mends_91 ks_1001 ?_
        refine J_iconst (pc := 94) F dX4_mends_94 ki_5 ?_
        obtain ⟨q18, h18, hf⟩ := bind_elim hf
        refine J_callVU (pc := 95) F (c_X4_days hI ht h18) (by omega) (by decide) (modN ht) (ht.2.1 _) rfl wc_X4_days wd_805 rfl rfl (Nat.le_of_ble_eq_true rfl) dX4_mends_95 ?_
        refine J_aload_n (pc := 98) F dX4_mends_98 rfl 2 rfl ?_
        refine J_sipush (pc := 99) F dX4_mends_99 ks_1001 ?_
        obtain ⟨q19, h19, hf⟩ := bind_elim hf
        refine J_callVI (pc := 102) F (c_X4_rights hI ht h19) (by omega) (by decide) (modN ht) (ht.2.1 _) rfl wc_X4_rights wd_868 rfl rfl (Nat.le_of_ble_eq_true rfl) dX4_mends_102 ?_
        refine J_istore (pc := 105) F (lv' := [(7, .int q19.1), (6, .int x11), (5, .int x9), (0, .ref (ad 0)), (1, .int a0), (2, .int b3.1), (3, .int b3.2.1), (4, .int b3.2.2.1)]) dX4_mends_105 (by decide) rfl ?_
        refine J_iload (pc := 107) F dX4_mends_107 0 rfl ?_
        refine J_iload_n (pc := 109) F dX4_mends_109 rfl 6 rfl ?_
        obtain ⟨k20, hk20, hf⟩ := jn_elim hf
        have hJk20 : ∀ (q20 : Int32 × St), k20 q20 = some res → J p l e 4 s m args below meth c E ad G n (QI below E ad G n args s res) 8 q20.2 125 [(0, .ref (ad 0)), (1, .int a0), (3, .int b3.2.1), (4, .int b3.2.2.1), (7, .int q19.1)] [.int q20.1] := by
          intro q20 hf
          replace hf := hk20 q20 hf
          refine J_istore_n (pc := 125) F (lv' := [(2, .int q20.1), (0, .ref (ad 0)), (1, .int a0), (3, .int b3.2.1), (4, .int b3.2.2.1), (7, .int q19.1)]) dX4_mends_125 rfl (by decide) rfl ?_
          refine J_iload_n (pc := 126) F dX4_mends_126 rfl 3 rfl ?_
          refine J_iload (pc := 127) F dX4_mends_127 5 rfl ?_
          obtain ⟨q22, h22, hf⟩ := bind_elim hf
          refine J_callSI (pc := 129) F (c_X4_larger hI  h22) (by omega) (by decide) wc_X4_larger wd_861 rfl rfl (Nat.le_of_ble_eq_true rfl) dX4_mends_129 ?_
          refine J_istore_n (pc := 132) F (lv' := [(3, .int q22.1), (2, .int q20.1), (0, .ref (ad 0)), (1, .int a0), (4, .int b3.2.2.1), (7, .int q19.1)]) dX4_mends_132 rfl (by decide) rfl ?_
          refine J_sub [2, 3, 1, 0, 4] rfl ?_
          exact hJk13 (q20.1, q22.1, q22.2) hf
        clear hk20
        rcases ite_elim hf with ⟨c21, hf⟩ | ⟨c21, hf⟩
        · refine J_icmp_leT (pc := 110) F (tgt := 124) dX4_mends_110 (by decide) c21 ?_
          refine J_iload_n (pc := 124) F dX4_mends_124 rfl 5 rfl ?_
          refine J_sub [3, 4, 6, 7, 0] rfl ?_
          exact hJk20 (b3.1, q19.2) hf
        · refine J_icmp_leF (pc := 110) F (tgt := 124) dX4_mends_110 (by decide) c21 ?_
          refine J_bipush (pc := 113) F dX4_mends_113 kb_10 ?_
          refine J_iload (pc := 115) F dX4_mends_115 2 rfl ?_
          refine J_imul (pc := 117) F dX4_mends_117 ?_
          refine J_iload (pc := 118) F dX4_mends_118 1 rfl ?_
          refine J_iadd (pc := 120) F dX4_mends_120 ?_
          refine J_goto (pc := 121) F (tgt := 125) dX4_mends_121 (by decide) ?_
          refine J_sub [3, 4, 6, 7, 0] rfl ?_
          exact hJk20 ((((10 : Int32) * x9) + x11), q19.2) hf
  · refine J_if_neF (pc := 7) F (tgt := 12) dX4_mends_7 (by decide) c2 ?_
    refine J_iconst (pc := 10) F dX4_mends_10 ki_m1 ?_
    exact J_iret (pc := 11) F rfl dX4_mends_11 hf
set_option maxHeartbeats 4000000 in
set_option maxRecDepth 100000 in
theorem c_X4_two {l : Launch} {E : En} {ad : Nat → Nat} {G : Lay} {n : Nat} (hI : adI ad n) (ht : ModAt E ad G n) {a0 : Int32} {σ : St} {res : Int32 × St} (hf : f_X4_two a0 σ = some res) : Ct l yX4_two cX4_two 7 (some .int) 2 E ad G n [.ref (ad 0), .int a0] σ (some (.int res.1)) res.2 := by
  unfold f_X4_two at hf
  refine J_start (own := RX4) (lv := [(0, .ref (ad 0)), (1, .int a0)]) pnX4 rfl hI (Nat.le_of_ble_eq_true rfl) rfl (fun p e s m args below meth c F => ?_)
  refine J_iload_n (pc := 0) F dX4_two_0 rfl 1 rfl ?_
  refine J_i2l (pc := 1) F dX4_two_1 ?_
  refine J_lconst (pc := 2) F (v := 0) dX4_two_2 (by decide +kernel) ?_
  refine J_lconst (pc := 3) F (v := 1) dX4_two_3 (by decide +kernel) ?_
  obtain ⟨q1, h1, hf⟩ := bind_elim hf
  refine J_callSI (pc := 4) F (c_X4_in hI  h1) (by omega) (by decide) wc_X4_in wd_691 rfl rfl (Nat.le_of_ble_eq_true rfl) dX4_two_4 ?_
  rcases ite_elim hf with ⟨c2, hf⟩ | ⟨c2, hf⟩
  · refine J_if_neT (pc := 7) F (tgt := 12) dX4_two_7 (by decide) c2 ?_
    refine J_bipush (pc := 12) F dX4_two_12 kb_m4 ?_
    refine J_istore_n (pc := 14) F (lv' := [(2, .int (-4 : Int32)), (0, .ref (ad 0)), (1, .int a0)]) dX4_two_14 rfl (by decide) rfl ?_
    refine J_iconst (pc := 15) F dX4_two_15 ki_m1 ?_
    refine J_istore_n (pc := 16) F (lv' := [(3, .int (-1 : Int32)), (2, .int (-4 : Int32)), (0, .ref (ad 0)), (1, .int a0)]) dX4_two_16 rfl (by decide) rfl ?_
    refine J_iconst (pc := 17) F dX4_two_17 ki_0 ?_
    refine J_istore (pc := 18) F (lv' := [(4, .int (0 : Int32)), (3, .int (-1 : Int32)), (2, .int (-4 : Int32)), (0, .ref (ad 0)), (1, .int a0)]) dX4_two_18 (by decide) rfl ?_
    refine J_sub [3, 4, 2, 1, 0] rfl ?_
    refine lp_ind (P := fun (b3 : Int32 × Int32 × Int32 × St) => J p l e 2 s m args below meth c E ad G n (QI below E ad G n args s res) 7 b3.2.2.2 20 [(0, .ref (ad 0)), (1, .int a0), (2, .int b3.1), (3, .int b3.2.1), (4, .int b3.2.2.1)] []) (fun r3 ih3 b3 hf => ?_) FU ((-4 : Int32), (-1 : Int32), (0 : Int32), q1.2) hf
    show J p l e 2 s m args below meth c E ad G n (QI below E ad G n args s res) 7 b3.2.2.2 20 [(0, .ref (ad 0)), (1, .int a0), (2, .int b3.1), (3, .int b3.2.1), (4, .int b3.2.2.1)] []
    refine J_iload (pc := 20) F dX4_two_20 4 rfl ?_
    refine J_aload_n (pc := 22) F dX4_two_22 rfl 0 rfl ?_
    refine gfX4_many (pc := 23) F ht wd_620 dX4_two_23 ?_
    rcases ite_elim hf with ⟨c4, hf⟩ | ⟨c4, hf⟩
    · refine J_icmp_geT (pc := 26) F (tgt := 102) dX4_two_26 (by decide) c4 ?_
      refine J_iload_n (pc := 102) F dX4_two_102 rfl 2 rfl ?_
      obtain ⟨k5, hk5, hf⟩ := jn_elim hf
      have hJk5 : ∀ (q5 : St), k5 q5 = some res → J p l e 2 s m args below meth c E ad G n (QI below E ad G n args s res) 7 q5 110 [(2, .int b3.1)] [] := by
        intro q5 hf
        replace hf := hk5 q5 hf
        refine J_iload_n (pc := 110) F dX4_two_110 rfl 0 rfl ?_
        refine J_goto (pc := 111) F (tgt := 115) dX4_two_111 (by decide) ?_
        exact J_iret (pc := 115) F rfl dX4_two_115 hf
      clear hk5
      rcases ite_elim hf with ⟨c6, hf⟩ | ⟨c6, hf⟩
      · refine J_if_ltT (pc := 103) F (tgt := 110) dX4_two_103 (by decide) c6 ?_
        refine J_sub [2] rfl ?_
        exact hJk5 b3.2.2.2 hf
      · refine J_if_ltF (pc := 103) F (tgt := 110) dX4_two_103 (by decide) c6 ?_
        refine J_iload_n (pc := 106) F dX4_two_106 rfl 1 rfl ?_
        rcases ite_elim hf with ⟨c7, hf⟩ | ⟨c7, hf⟩
        · refine J_if_neT (pc := 107) F (tgt := 114) dX4_two_107 (by decide) c7 ?_
          refine J_iload_n (pc := 114) F dX4_two_114 rfl 3 rfl ?_
          exact J_iret (pc := 115) F rfl dX4_two_115 hf
        · refine J_if_neF (pc := 107) F (tgt := 114) dX4_two_107 (by decide) c7 ?_
          refine J_sub [2] rfl ?_
          exact hJk5 b3.2.2.2 hf
    · refine J_icmp_geF (pc := 26) F (tgt := 102) dX4_two_26 (by decide) c4 ?_
      refine J_iload (pc := 29) F dX4_two_29 4 rfl ?_
      refine J_iconst (pc := 31) F dX4_two_31 ki_1 ?_
      refine J_iadd (pc := 32) F dX4_two_32 ?_
      obtain ⟨x8, ex8, hf⟩ := nm_elim hf
      refine J_ti ex8 ?_
      refine J_istore (pc := 33) F (lv' := [(5, .int x8), (0, .ref (ad 0)), (1, .int a0), (2, .int b3.1), (3, .int b3.2.1), (4, .int b3.2.2.1)]) dX4_two_33 (by decide) rfl ?_
      refine J_sub [1, 2, 3, 4, 5, 0] rfl ?_
      refine lp_ind (P := fun (b9 : Int32 × Int32 × Int32 × St) => J p l e 2 s m args below meth c E ad G n (QI below E ad G n args s res) 7 b9.2.2.2 35 [(0, .ref (ad 0)), (1, .int a0), (2, .int b9.1), (3, .int b9.2.1), (4, .int b3.2.2.1), (5, .int b9.2.2.1)] []) (fun r9 ih9 b9 hf => ?_) FU (b3.1, b3.2.1, x8, b3.2.2.2) hf
      show J p l e 2 s m args below meth c E ad G n (QI below E ad G n args s res) 7 b9.2.2.2 35 [(0, .ref (ad 0)), (1, .int a0), (2, .int b9.1), (3, .int b9.2.1), (4, .int b3.2.2.1), (5, .int b9.2.2.1)] []
      refine J_iload (pc := 35) F dX4_two_35 5 rfl ?_
      refine J_aload_n (pc := 37) F dX4_two_37 rfl 0 rfl ?_
      refine gfX4_many (pc := 38) F ht wd_620 dX4_two_38 ?_
      rcases ite_elim hf with ⟨c10, hf⟩ | ⟨c10, hf⟩
      · refine J_icmp_geT (pc := 41) F (tgt := 96) dX4_two_41 (by decide) c10 ?_
        obtain ⟨x11, ex11, hf⟩ := nm_elim hf
        refine J_iinc (pc := 96) F (lv' := [(4, .int x11), (0, .ref (ad 0)), (1, .int a0), (2, .int b9.1), (3, .int b9.2.1), (5, .int b9.2.2.1)]) dX4_two_96 4 rfl (ex11.trans (congrArg _ ki_1.symm)) (by decide) rfl ?_
        refine J_goto (pc := 99) F (tgt := 20) dX4_two_99 (by decide) ?_
        refine J_sub [1, 2, 3, 4, 0] rfl ?_
        exact ih3 (b9.1, b9.2.1, x11, b9.2.2.2) hf
      · refine J_icmp_geF (pc := 41) F (tgt := 96) dX4_two_41 (by decide) c10 ?_
        refine J_aload_n (pc := 44) F dX4_two_44 rfl 0 rfl ?_
        refine J_iconst (pc := 45) F dX4_two_45 ki_0 ?_
        refine J_iload (pc := 46) F dX4_two_46 4 rfl ?_
        obtain ⟨q12, h12, hf⟩ := bind_elim hf
        refine J_callVI (pc := 48) F (c_X4_right hI ht h12) (by omega) (by decide) (modN ht) (ht.2.1 _) rfl wc_X4_right wd_765 rfl rfl (Nat.le_of_ble_eq_true rfl) dX4_two_48 ?_
        refine J_aload_n (pc := 51) F dX4_two_51 rfl 0 rfl ?_
        refine J_iconst (pc := 52) F dX4_two_52 ki_0 ?_
        refine J_iload (pc := 53) F dX4_two_53 5 rfl ?_
        obtain ⟨q13, h13, hf⟩ := bind_elim hf
        refine J_callVI (pc := 55) F (c_X4_right hI ht h13) (by omega) (by decide) (modN ht) (ht.2.1 _) rfl wc_X4_right wd_765 rfl rfl (Nat.le_of_ble_eq_true rfl) dX4_two_55 ?_
        refine J_ior (pc := 58) F dX4_two_58 ?_
        obtain ⟨q14, h14, hf⟩ := bind_elim hf
        refine J_callSI (pc := 59) F (c_X4_bits hI  h14) (by omega) (by decide) wc_X4_bits wd_773 rfl rfl (Nat.le_of_ble_eq_true rfl) dX4_two_59 ?_
        refine J_istore (pc := 62) F (lv' := [(6, .int q14.1), (0, .ref (ad 0)), (1, .int a0), (2, .int b9.1), (3, .int b9.2.1), (4, .int b3.2.2.1), (5, .int b9.2.2.1)]) dX4_two_62 (by decide) rfl ?_
        refine J_iload (pc := 64) F dX4_two_64 0 rfl ?_
        refine J_iload_n (pc := 66) F dX4_two_66 rfl 4 rfl ?_
        obtain ⟨k15, hk15, hf⟩ := jn_elim hf
        have hJk15 : ∀ (q15 : Int32 × St), k15 q15 = some res → J p l e 2 s m args below meth c E ad G n (QI below E ad G n args s res) 7 q15.2 82 [(0, .ref (ad 0)), (1, .int a0), (3, .int b9.2.1), (4, .int b3.2.2.1), (5, .int b9.2.2.1), (6, .int q14.1)] [.int q15.1] := by
          intro q15 hf
          replace hf := hk15 q15 hf
          refine J_istore_n (pc := 82) F (lv' := [(2, .int q15.1), (0, .ref (ad 0)), (1, .int a0), (3, .int b9.2.1), (4, .int b3.2.2.1), (5, .int b9.2.2.1), (6, .int q14.1)]) dX4_two_82 rfl (by decide) rfl ?_
          refine J_iload_n (pc := 83) F dX4_two_83 rfl 3 rfl ?_
          refine J_iload (pc := 84) F dX4_two_84 6 rfl ?_
          obtain ⟨q17, h17, hf⟩ := bind_elim hf
          refine J_callSI (pc := 86) F (c_X4_larger hI  h17) (by omega) (by decide) wc_X4_larger wd_861 rfl rfl (Nat.le_of_ble_eq_true rfl) dX4_two_86 ?_
          refine J_istore_n (pc := 89) F (lv' := [(3, .int q17.1), (2, .int q15.1), (0, .ref (ad 0)), (1, .int a0), (4, .int b3.2.2.1), (5, .int b9.2.2.1), (6, .int q14.1)]) dX4_two_89 rfl (by decide) rfl ?_
          obtain ⟨x18, ex18, hf⟩ := nm_elim hf
          refine J_iinc (pc := 90) F (lv' := [(5, .int x18), (3, .int q17.1), (2, .int q15.1), (0, .ref (ad 0)), (1, .int a0), (4, .int b3.2.2.1), (6, .int q14.1)]) dX4_two_90 5 rfl (ex18.trans (congrArg _ ki_1.symm)) (by decide) rfl ?_
          refine J_goto (pc := 93) F (tgt := 35) dX4_two_93 (by decide) ?_
          refine J_sub [3, 4, 2, 1, 5, 0] rfl ?_
          exact ih9 (q15.1, q17.1, x18, q17.2) hf
        clear hk15
        rcases ite_elim hf with ⟨c16, hf⟩ | ⟨c16, hf⟩
        · refine J_icmp_leT (pc := 67) F (tgt := 81) dX4_two_67 (by decide) c16 ?_
          refine J_iload_n (pc := 81) F dX4_two_81 rfl 3 rfl ?_
          refine J_sub [1, 2, 4, 5, 6, 0] rfl ?_
          exact hJk15 (b9.1, q14.2) hf
        · refine J_icmp_leF (pc := 67) F (tgt := 81) dX4_two_67 (by decide) c16 ?_
          refine J_bipush (pc := 70) F dX4_two_70 kb_10 ?_
          refine J_iload (pc := 72) F dX4_two_72 5 rfl ?_
          refine J_imul (pc := 74) F dX4_two_74 ?_
          refine J_iload (pc := 75) F dX4_two_75 6 rfl ?_
          refine J_iadd (pc := 77) F dX4_two_77 ?_
          refine J_goto (pc := 78) F (tgt := 82) dX4_two_78 (by decide) ?_
          refine J_sub [1, 2, 4, 5, 6, 0] rfl ?_
          exact hJk15 ((((10 : Int32) * b3.2.2.1) + b9.2.2.1), q14.2) hf
  · refine J_if_neF (pc := 7) F (tgt := 12) dX4_two_7 (by decide) c2 ?_
    refine J_iconst (pc := 10) F dX4_two_10 ki_m1 ?_
    exact J_iret (pc := 11) F rfl dX4_two_11 hf
set_option maxHeartbeats 4000000 in
set_option maxRecDepth 100000 in
theorem c_X4_isApart {l : Launch} {E : En} {ad : Nat → Nat} {G : Lay} {n : Nat} (hI : adI ad n) (ht : ModAt E ad G n) {a0 : Int32} {σ : St} {res : Int32 × St} (hf : f_X4_isApart a0 σ = some res) : Ct l yX4_isApart cX4_isApart 7 (some .boolean) 1 E ad G n [.ref (ad 0), .int a0] σ (some (.int res.1)) res.2 := by
  unfold f_X4_isApart at hf
  refine J_start (own := RX4) (lv := [(0, .ref (ad 0)), (1, .int a0)]) pnX4 rfl hI (Nat.le_of_ble_eq_true rfl) rfl (fun p e s m args below meth c F => ?_)
  refine J_iconst (pc := 0) F dX4_isApart_0 ki_1 ?_
  refine J_istore_n (pc := 1) F (lv' := [(2, .int (1 : Int32)), (0, .ref (ad 0)), (1, .int a0)]) dX4_isApart_1 rfl (by decide) rfl ?_
  refine J_iconst (pc := 2) F dX4_isApart_2 ki_0 ?_
  refine J_istore_n (pc := 3) F (lv' := [(3, .int (0 : Int32)), (2, .int (1 : Int32)), (0, .ref (ad 0)), (1, .int a0)]) dX4_isApart_3 rfl (by decide) rfl ?_
  refine J_sub [2, 3, 1, 0] rfl ?_
  refine lp_ind (P := fun (b1 : Int32 × Int32 × St) => J p l e 1 s m args below meth c E ad G n (QI below E ad G n args s res) 7 b1.2.2 4 [(0, .ref (ad 0)), (1, .int a0), (2, .int b1.1), (3, .int b1.2.1)] []) (fun r1 ih1 b1 hf => ?_) FU ((1 : Int32), (0 : Int32), σ) hf
  show J p l e 1 s m args below meth c E ad G n (QI below E ad G n args s res) 7 b1.2.2 4 [(0, .ref (ad 0)), (1, .int a0), (2, .int b1.1), (3, .int b1.2.1)] []
  refine J_iload_n (pc := 4) F dX4_isApart_4 rfl 3 rfl ?_
  refine J_aload_n (pc := 5) F dX4_isApart_5 rfl 0 rfl ?_
  refine gfX4_many (pc := 6) F ht wd_620 dX4_isApart_6 ?_
  rcases ite_elim hf with ⟨c2, hf⟩ | ⟨c2, hf⟩
  · refine J_icmp_geT (pc := 9) F (tgt := 111) dX4_isApart_9 (by decide) c2 ?_
    refine J_iload_n (pc := 111) F dX4_isApart_111 rfl 2 rfl ?_
    obtain ⟨g3, hf⟩ := grd_elim hf
    exact J_iret (pc := 112) F (narZ g3) dX4_isApart_112 hf
  · refine J_icmp_geF (pc := 9) F (tgt := 111) dX4_isApart_9 (by decide) c2 ?_
    refine J_iconst (pc := 12) F dX4_isApart_12 ki_0 ?_
    refine J_istore (pc := 13) F (lv' := [(4, .int (0 : Int32)), (0, .ref (ad 0)), (1, .int a0), (2, .int b1.1), (3, .int b1.2.1)]) dX4_isApart_13 (by decide) rfl ?_
    refine J_sub [1, 2, 3, 4, 0] rfl ?_
    refine lp_ind (P := fun (b4 : Int32 × Int32 × St) => J p l e 1 s m args below meth c E ad G n (QI below E ad G n args s res) 7 b4.2.2 15 [(0, .ref (ad 0)), (1, .int a0), (2, .int b4.1), (3, .int b1.2.1), (4, .int b4.2.1)] []) (fun r4 ih4 b4 hf => ?_) FU (b1.1, (0 : Int32), b1.2.2) hf
    show J p l e 1 s m args below meth c E ad G n (QI below E ad G n args s res) 7 b4.2.2 15 [(0, .ref (ad 0)), (1, .int a0), (2, .int b4.1), (3, .int b1.2.1), (4, .int b4.2.1)] []
    refine J_iload (pc := 15) F dX4_isApart_15 4 rfl ?_
    refine J_iload_n (pc := 17) F dX4_isApart_17 rfl 3 rfl ?_
    rcases ite_elim hf with ⟨c5, hf⟩ | ⟨c5, hf⟩
    · refine J_icmp_geT (pc := 18) F (tgt := 105) dX4_isApart_18 (by decide) c5 ?_
      obtain ⟨x6, ex6, hf⟩ := nm_elim hf
      refine J_iinc (pc := 105) F (lv' := [(3, .int x6), (0, .ref (ad 0)), (1, .int a0), (2, .int b4.1), (4, .int b4.2.1)]) dX4_isApart_105 3 rfl (ex6.trans (congrArg _ ki_1.symm)) (by decide) rfl ?_
      refine J_goto (pc := 108) F (tgt := 4) dX4_isApart_108 (by decide) ?_
      refine J_sub [1, 2, 3, 0] rfl ?_
      exact ih1 (b4.1, x6, b4.2.2) hf
    · refine J_icmp_geF (pc := 18) F (tgt := 105) dX4_isApart_18 (by decide) c5 ?_
      refine J_iconst (pc := 21) F dX4_isApart_21 ki_0 ?_
      refine J_istore (pc := 22) F (lv' := [(5, .int (0 : Int32)), (0, .ref (ad 0)), (1, .int a0), (2, .int b4.1), (3, .int b1.2.1), (4, .int b4.2.1)]) dX4_isApart_22 (by decide) rfl ?_
      refine J_iconst (pc := 24) F dX4_isApart_24 ki_0 ?_
      refine J_istore (pc := 25) F (lv' := [(6, .int (0 : Int32)), (5, .int (0 : Int32)), (0, .ref (ad 0)), (1, .int a0), (2, .int b4.1), (3, .int b1.2.1), (4, .int b4.2.1)]) dX4_isApart_25 (by decide) rfl ?_
      refine J_sub [2, 3, 4, 5, 6, 1, 0] rfl ?_
      refine lp_ind (P := fun (b7 : Int32 × Int32 × St) => J p l e 1 s m args below meth c E ad G n (QI below E ad G n args s res) 7 b7.2.2 27 [(0, .ref (ad 0)), (1, .int a0), (2, .int b4.1), (3, .int b1.2.1), (4, .int b4.2.1), (5, .int b7.1), (6, .int b7.2.1)] []) (fun r7 ih7 b7 hf => ?_) FU ((0 : Int32), (0 : Int32), b4.2.2) hf
      show J p l e 1 s m args below meth c E ad G n (QI below E ad G n args s res) 7 b7.2.2 27 [(0, .ref (ad 0)), (1, .int a0), (2, .int b4.1), (3, .int b1.2.1), (4, .int b4.2.1), (5, .int b7.1), (6, .int b7.2.1)] []
      refine J_iload (pc := 27) F dX4_isApart_27 6 rfl ?_
      refine J_aload_n (pc := 29) F dX4_isApart_29 rfl 0 rfl ?_
      refine gfX4_words (pc := 30) F ht wd_618 dX4_isApart_30 ?_
      rcases ite_elim hf with ⟨c8, hf⟩ | ⟨c8, hf⟩
      · refine J_icmp_geT (pc := 33) F (tgt := 84) dX4_isApart_33 (by decide) c8 ?_
        refine J_iload_n (pc := 84) F dX4_isApart_84 rfl 2 rfl ?_
        obtain ⟨k9, hk9, hf⟩ := jn_elim hf
        have hJk9 : ∀ (q9 : Int32 × St), k9 q9 = some res → J p l e 1 s m args below meth c E ad G n (QI below E ad G n args s res) 7 q9.2 98 [(0, .ref (ad 0)), (1, .int a0), (3, .int b1.2.1), (4, .int b4.2.1)] [.int q9.1] := by
          intro q9 hf
          replace hf := hk9 q9 hf
          refine J_istore_n (pc := 98) F (lv' := [(2, .int q9.1), (0, .ref (ad 0)), (1, .int a0), (3, .int b1.2.1), (4, .int b4.2.1)]) dX4_isApart_98 rfl (by decide) rfl ?_
          obtain ⟨x13, ex13, hf⟩ := nm_elim hf
          refine J_iinc (pc := 99) F (lv' := [(4, .int x13), (2, .int q9.1), (0, .ref (ad 0)), (1, .int a0), (3, .int b1.2.1)]) dX4_isApart_99 4 rfl (ex13.trans (congrArg _ ki_1.symm)) (by decide) rfl ?_
          refine J_goto (pc := 102) F (tgt := 15) dX4_isApart_102 (by decide) ?_
          refine J_sub [2, 3, 1, 4, 0] rfl ?_
          exact ih4 (q9.1, x13, q9.2) hf
        clear hk9
        obtain ⟨k10, hk10, hf⟩ := jn_elim hf
        have hJk10 : ∀ (q10 : St), k10 q10 = some res → J p l e 1 s m args below meth c E ad G n (QI below E ad G n args s res) 7 q10 97 [(0, .ref (ad 0)), (1, .int a0), (3, .int b1.2.1), (4, .int b4.2.1)] [] := by
          intro q10 hf
          replace hf := hk10 q10 hf
          refine J_iconst (pc := 97) F dX4_isApart_97 ki_0 ?_
          exact hJk9 ((0 : Int32), q10) hf
        clear hk10
        rcases ite_elim hf with ⟨c11, hf⟩ | ⟨c11, hf⟩
        · refine J_if_eqT (pc := 85) F (tgt := 97) dX4_isApart_85 (by decide) c11 ?_
          refine J_sub [0, 1, 3, 4] rfl ?_
          exact hJk10 b7.2.2 hf
        · refine J_if_eqF (pc := 85) F (tgt := 97) dX4_isApart_85 (by decide) c11 ?_
          refine J_iload (pc := 88) F dX4_isApart_88 5 rfl ?_
          rcases ite_elim hf with ⟨c12, hf⟩ | ⟨c12, hf⟩
          · refine J_if_eqT (pc := 90) F (tgt := 97) dX4_isApart_90 (by decide) c12 ?_
            refine J_sub [0, 1, 3, 4] rfl ?_
            exact hJk10 b7.2.2 hf
          · refine J_if_eqF (pc := 90) F (tgt := 97) dX4_isApart_90 (by decide) c12 ?_
            refine J_iconst (pc := 93) F dX4_isApart_93 ki_1 ?_
            refine J_goto (pc := 94) F (tgt := 98) dX4_isApart_94 (by decide) ?_
            refine J_sub [0, 1, 3, 4] rfl ?_
            exact hJk9 ((1 : Int32), b7.2.2) hf
      · refine J_icmp_geF (pc := 33) F (tgt := 84) dX4_isApart_33 (by decide) c8 ?_
        refine J_iload (pc := 36) F dX4_isApart_36 5 rfl ?_
        obtain ⟨k14, hk14, hf⟩ := jn_elim hf
        have hJk14 : ∀ (q14 : Int32 × St), k14 q14 = some res → J p l e 1 s m args below meth c E ad G n (QI below E ad G n args s res) 7 q14.2 76 [(0, .ref (ad 0)), (1, .int a0), (2, .int b4.1), (3, .int b1.2.1), (4, .int b4.2.1), (6, .int b7.2.1)] [.int q14.1] := by
          intro q14 hf
          replace hf := hk14 q14 hf
          refine J_istore (pc := 76) F (lv' := [(5, .int q14.1), (0, .ref (ad 0)), (1, .int a0), (2, .int b4.1), (3, .int b1.2.1), (4, .int b4.2.1), (6, .int b7.2.1)]) dX4_isApart_76 (by decide) rfl ?_
          obtain ⟨x22, ex22, hf⟩ := nm_elim hf
          refine J_iinc (pc := 78) F (lv' := [(6, .int x22), (5, .int q14.1), (0, .ref (ad 0)), (1, .int a0), (2, .int b4.1), (3, .int b1.2.1), (4, .int b4.2.1)]) dX4_isApart_78 6 rfl (ex22.trans (congrArg _ ki_1.symm)) (by decide) rfl ?_
          refine J_goto (pc := 81) F (tgt := 27) dX4_isApart_81 (by decide) ?_
          refine J_sub [2, 3, 4, 5, 6, 1, 0] rfl ?_
          exact ih7 (q14.1, x22, q14.2) hf
        clear hk14
        obtain ⟨k15, hk15, hf⟩ := jn_elim hf
        have hJk15 : ∀ (q15 : St), k15 q15 = some res → J p l e 1 s m args below meth c E ad G n (QI below E ad G n args s res) 7 q15 71 [(0, .ref (ad 0)), (1, .int a0), (2, .int b4.1), (3, .int b1.2.1), (4, .int b4.2.1), (6, .int b7.2.1)] [] := by
          intro q15 hf
          replace hf := hk15 q15 hf
          refine J_iconst (pc := 71) F dX4_isApart_71 ki_1 ?_
          refine J_goto (pc := 72) F (tgt := 76) dX4_isApart_72 (by decide) ?_
          exact hJk14 ((1 : Int32), q15) hf
        clear hk15
        rcases ite_elim hf with ⟨c16, hf⟩ | ⟨c16, hf⟩
        · refine J_if_neT (pc := 38) F (tgt := 71) dX4_isApart_38 (by decide) c16 ?_
          refine J_sub [0, 1, 2, 3, 4, 6] rfl ?_
          exact hJk15 b7.2.2 hf
        · refine J_if_neF (pc := 38) F (tgt := 71) dX4_isApart_38 (by decide) c16 ?_
          refine J_iload_n (pc := 41) F dX4_isApart_41 rfl 1 rfl ?_
          refine J_iload (pc := 42) F dX4_isApart_42 6 rfl ?_
          refine J_ishr (pc := 44) F dX4_isApart_44 ?_
          refine J_iconst (pc := 45) F dX4_isApart_45 ki_1 ?_
          refine J_iand (pc := 46) F dX4_isApart_46 ?_
          refine J_iconst (pc := 47) F dX4_isApart_47 ki_1 ?_
          obtain ⟨k17, hk17, hf⟩ := jn_elim hf
          have hJk17 : ∀ (q17 : St), k17 q17 = some res → J p l e 1 s m args below meth c E ad G n (QI below E ad G n args s res) 7 q17 75 [(0, .ref (ad 0)), (1, .int a0), (2, .int b4.1), (3, .int b1.2.1), (4, .int b4.2.1), (6, .int b7.2.1)] [] := by
            intro q17 hf
            replace hf := hk17 q17 hf
            refine J_iconst (pc := 75) F dX4_isApart_75 ki_0 ?_
            exact hJk14 ((0 : Int32), q17) hf
          clear hk17
          rcases ite_elim hf with ⟨c18, hf⟩ | ⟨c18, hf⟩
          · refine J_icmp_neT (pc := 48) F (tgt := 75) dX4_isApart_48 (by decide) c18 ?_
            refine J_sub [0, 1, 2, 3, 4, 6] rfl ?_
            exact hJk17 b7.2.2 hf
          · refine J_icmp_neF (pc := 48) F (tgt := 75) dX4_isApart_48 (by decide) c18 ?_
            refine J_aload_n (pc := 51) F dX4_isApart_51 rfl 0 rfl ?_
            refine J_iconst (pc := 52) F dX4_isApart_52 ki_0 ?_
            refine J_iload_n (pc := 53) F dX4_isApart_53 rfl 3 rfl ?_
            refine J_iload (pc := 54) F dX4_isApart_54 6 rfl ?_
            obtain ⟨q19, h19, hf⟩ := bind_elim hf
            refine J_callVI (pc := 56) F (c_X4_hasIt hI ht h19) (by omega) (by decide) (modN ht) (ht.2.1 _) rfl wc_X4_hasIt wd_761 rfl rfl (Nat.le_of_ble_eq_true rfl) dX4_isApart_56 ?_
            refine J_aload_n (pc := 59) F dX4_isApart_59 rfl 0 rfl ?_
            refine J_iconst (pc := 60) F dX4_isApart_60 ki_0 ?_
            refine J_iload (pc := 61) F dX4_isApart_61 4 rfl ?_
            refine J_iload (pc := 63) F dX4_isApart_63 6 rfl ?_
            obtain ⟨q20, h20, hf⟩ := bind_elim hf
            refine J_callVI (pc := 65) F (c_X4_hasIt hI ht h20) (by omega) (by decide) (modN ht) (ht.2.1 _) rfl wc_X4_hasIt wd_761 rfl rfl (Nat.le_of_ble_eq_true rfl) dX4_isApart_65 ?_
            rcases ite_elim hf with ⟨c21, hf⟩ | ⟨c21, hf⟩
            · refine J_icmp_eqT (pc := 68) F (tgt := 75) dX4_isApart_68 (by decide) c21 ?_
              refine J_sub [0, 1, 2, 3, 4, 6] rfl ?_
              exact hJk17 q20.2 hf
            · refine J_icmp_eqF (pc := 68) F (tgt := 75) dX4_isApart_68 (by decide) c21 ?_
              refine J_sub [0, 1, 2, 3, 4, 6] rfl ?_
              exact hJk15 q20.2 hf
set_option maxHeartbeats 4000000 in
set_option maxRecDepth 100000 in
theorem c_X4_tests {l : Launch} {E : En} {ad : Nat → Nat} {G : Lay} {n : Nat} (hI : adI ad n) (ht : ModAt E ad G n) {a0 : Int32} {σ : St} {res : Int32 × St} (hf : f_X4_tests a0 σ = some res) : Ct l yX4_tests cX4_tests 4 (some .int) 2 E ad G n [.ref (ad 0), .int a0] σ (some (.int res.1)) res.2 := by
  unfold f_X4_tests at hf
  refine J_start (own := RX4) (lv := [(0, .ref (ad 0)), (1, .int a0)]) pnX4 rfl hI (Nat.le_of_ble_eq_true rfl) rfl (fun p e s m args below meth c F => ?_)
  refine J_iload_n (pc := 0) F dX4_tests_0 rfl 1 rfl ?_
  refine J_i2l (pc := 1) F dX4_tests_1 ?_
  refine J_lconst (pc := 2) F (v := 0) dX4_tests_2 (by decide +kernel) ?_
  refine J_lconst (pc := 3) F (v := 1) dX4_tests_3 (by decide +kernel) ?_
  obtain ⟨q1, h1, hf⟩ := bind_elim hf
  refine J_callSI (pc := 4) F (c_X4_in hI  h1) (by omega) (by decide) wc_X4_in wd_691 rfl rfl (Nat.le_of_ble_eq_true rfl) dX4_tests_4 ?_
  rcases ite_elim hf with ⟨c2, hf⟩ | ⟨c2, hf⟩
  · refine J_if_neT (pc := 7) F (tgt := 12) dX4_tests_7 (by decide) c2 ?_
    refine J_bipush (pc := 12) F dX4_tests_12 kb_m4 ?_
    refine J_istore_n (pc := 14) F (lv' := [(2, .int (-4 : Int32)), (0, .ref (ad 0)), (1, .int a0)]) dX4_tests_14 rfl (by decide) rfl ?_
    refine J_iconst (pc := 15) F dX4_tests_15 ki_0 ?_
    refine J_istore_n (pc := 16) F (lv' := [(3, .int (0 : Int32)), (2, .int (-4 : Int32)), (0, .ref (ad 0)), (1, .int a0)]) dX4_tests_16 rfl (by decide) rfl ?_
    refine J_sub [2, 3, 1, 0] rfl ?_
    refine lp_ind (P := fun (b3 : Int32 × Int32 × St) => J p l e 2 s m args below meth c E ad G n (QI below E ad G n args s res) 4 b3.2.2 17 [(0, .ref (ad 0)), (1, .int a0), (2, .int b3.1), (3, .int b3.2.1)] []) (fun r3 ih3 b3 hf => ?_) FU ((-4 : Int32), (0 : Int32), q1.2) hf
    show J p l e 2 s m args below meth c E ad G n (QI below E ad G n args s res) 4 b3.2.2 17 [(0, .ref (ad 0)), (1, .int a0), (2, .int b3.1), (3, .int b3.2.1)] []
    refine J_iload_n (pc := 17) F dX4_tests_17 rfl 3 rfl ?_
    refine J_iconst (pc := 18) F dX4_tests_18 ki_1 ?_
    refine J_aload_n (pc := 19) F dX4_tests_19 rfl 0 rfl ?_
    refine gfX4_words (pc := 20) F ht wd_618 dX4_tests_20 ?_
    refine J_ishl (pc := 23) F dX4_tests_23 ?_
    rcases ite_elim hf with ⟨c4, hf⟩ | ⟨c4, hf⟩
    · refine J_icmp_geT (pc := 24) F (tgt := 58) dX4_tests_24 (by decide) c4 ?_
      refine J_iload_n (pc := 58) F dX4_tests_58 rfl 2 rfl ?_
      obtain ⟨k5, hk5, hf⟩ := jn_elim hf
      have hJk5 : ∀ (q5 : St), k5 q5 = some res → J p l e 2 s m args below meth c E ad G n (QI below E ad G n args s res) 4 q5 67 [(2, .int b3.1)] [] := by
        intro q5 hf
        replace hf := hk5 q5 hf
        refine J_iload_n (pc := 67) F dX4_tests_67 rfl 0 rfl ?_
        refine J_goto (pc := 68) F (tgt := 75) dX4_tests_68 (by decide) ?_
        exact J_iret (pc := 75) F rfl dX4_tests_75 hf
      clear hk5
      rcases ite_elim hf with ⟨c6, hf⟩ | ⟨c6, hf⟩
      · refine J_if_ltT (pc := 59) F (tgt := 67) dX4_tests_59 (by decide) c6 ?_
        refine J_sub [2] rfl ?_
        exact hJk5 b3.2.2 hf
      · refine J_if_ltF (pc := 59) F (tgt := 67) dX4_tests_59 (by decide) c6 ?_
        refine J_iload_n (pc := 62) F dX4_tests_62 rfl 1 rfl ?_
        refine J_iconst (pc := 63) F dX4_tests_63 ki_1 ?_
        rcases ite_elim hf with ⟨c7, hf⟩ | ⟨c7, hf⟩
        · refine J_icmp_neT (pc := 64) F (tgt := 71) dX4_tests_64 (by decide) c7 ?_
          refine J_iload_n (pc := 71) F dX4_tests_71 rfl 2 rfl ?_
          obtain ⟨q8, h8, hf⟩ := bind_elim hf
          refine J_callSI (pc := 72) F (c_X4_bits hI  h8) (by omega) (by decide) wc_X4_bits wd_773 rfl rfl (Nat.le_of_ble_eq_true rfl) dX4_tests_72 ?_
          exact J_iret (pc := 75) F rfl dX4_tests_75 hf
        · refine J_icmp_neF (pc := 64) F (tgt := 71) dX4_tests_64 (by decide) c7 ?_
          refine J_sub [2] rfl ?_
          exact hJk5 b3.2.2 hf
    · refine J_icmp_geF (pc := 24) F (tgt := 58) dX4_tests_24 (by decide) c4 ?_
      refine J_iload_n (pc := 27) F dX4_tests_27 rfl 2 rfl ?_
      obtain ⟨k9, hk9, hf⟩ := jn_elim hf
      have hJk9 : ∀ (q9 : Int32 × St), k9 q9 = some res → J p l e 2 s m args below meth c E ad G n (QI below E ad G n args s res) 4 q9.2 52 [(0, .ref (ad 0)), (1, .int a0), (2, .int q9.1), (3, .int b3.2.1)] [] := by
        intro q9 hf
        replace hf := hk9 q9 hf
        obtain ⟨x17, ex17, hf⟩ := nm_elim hf
        refine J_iinc (pc := 52) F (lv' := [(3, .int x17), (0, .ref (ad 0)), (1, .int a0), (2, .int q9.1)]) dX4_tests_52 3 rfl (ex17.trans (congrArg _ ki_1.symm)) (by decide) rfl ?_
        refine J_goto (pc := 55) F (tgt := 17) dX4_tests_55 (by decide) ?_
        refine J_sub [1, 2, 3, 0] rfl ?_
        exact ih3 (q9.1, x17, q9.2) hf
      clear hk9
      obtain ⟨k10, hk10, hf⟩ := jn_elim hf
      have hJk10 : ∀ (q10 : St), k10 q10 = some res → J p l e 2 s m args below meth c E ad G n (QI below E ad G n args s res) 4 q10 42 [(0, .ref (ad 0)), (1, .int a0), (2, .int b3.1), (3, .int b3.2.1)] [] := by
        intro q10 hf
        replace hf := hk10 q10 hf
        refine J_aload_n (pc := 42) F dX4_tests_42 rfl 0 rfl ?_
        refine J_iload_n (pc := 43) F dX4_tests_43 rfl 3 rfl ?_
        obtain ⟨q15, h15, hf⟩ := bind_elim hf
        refine J_callVI (pc := 44) F (c_X4_isApart hI ht h15) (by omega) (by decide) (modN ht) (ht.2.1 _) rfl wc_X4_isApart wd_880 rfl rfl (Nat.le_of_ble_eq_true rfl) dX4_tests_44 ?_
        rcases ite_elim hf with ⟨c16, hf⟩ | ⟨c16, hf⟩
        · refine J_if_eqT (pc := 47) F (tgt := 52) dX4_tests_47 (by decide) c16 ?_
          exact hJk9 (b3.1, q15.2) hf
        · refine J_if_eqF (pc := 47) F (tgt := 52) dX4_tests_47 (by decide) c16 ?_
          refine J_iload_n (pc := 50) F dX4_tests_50 rfl 3 rfl ?_
          refine J_istore_n (pc := 51) F (lv' := [(2, .int b3.2.1), (0, .ref (ad 0)), (1, .int a0), (3, .int b3.2.1)]) dX4_tests_51 rfl (by decide) rfl ?_
          refine J_sub [1, 2, 0, 3] rfl ?_
          exact hJk9 (b3.2.1, q15.2) hf
      clear hk10
      rcases ite_elim hf with ⟨c11, hf⟩ | ⟨c11, hf⟩
      · refine J_if_ltT (pc := 28) F (tgt := 42) dX4_tests_28 (by decide) c11 ?_
        exact hJk10 b3.2.2 hf
      · refine J_if_ltF (pc := 28) F (tgt := 42) dX4_tests_28 (by decide) c11 ?_
        refine J_iload_n (pc := 31) F dX4_tests_31 rfl 3 rfl ?_
        obtain ⟨q12, h12, hf⟩ := bind_elim hf
        refine J_callSI (pc := 32) F (c_X4_bits hI  h12) (by omega) (by decide) wc_X4_bits wd_773 rfl rfl (Nat.le_of_ble_eq_true rfl) dX4_tests_32 ?_
        refine J_iload_n (pc := 35) F dX4_tests_35 rfl 2 rfl ?_
        obtain ⟨q13, h13, hf⟩ := bind_elim hf
        refine J_callSI (pc := 36) F (c_X4_bits hI  h13) (by omega) (by decide) wc_X4_bits wd_773 rfl rfl (Nat.le_of_ble_eq_true rfl) dX4_tests_36 ?_
        rcases ite_elim hf with ⟨c14, hf⟩ | ⟨c14, hf⟩
        · refine J_icmp_geT (pc := 39) F (tgt := 52) dX4_tests_39 (by decide) c14 ?_
          exact hJk9 (b3.1, q13.2) hf
        · refine J_icmp_geF (pc := 39) F (tgt := 52) dX4_tests_39 (by decide) c14 ?_
          exact hJk10 q13.2 hf
  · refine J_if_neF (pc := 7) F (tgt := 12) dX4_tests_7 (by decide) c2 ?_
    refine J_iconst (pc := 10) F dX4_tests_10 ki_m1 ?_
    exact J_iret (pc := 11) F rfl dX4_tests_11 hf
set_option maxHeartbeats 4000000 in
set_option maxRecDepth 100000 in
theorem c_X4_manyHave {l : Launch} {E : En} {ad : Nat → Nat} {G : Lay} {n : Nat} (hI : adI ad n) (ht : ModAt E ad G n) {a0 : Int32} {a1 : Int32} {σ : St} {res : Int32 × St} (hf : f_X4_manyHave a0 a1 σ = some res) : Ct l yX4_manyHave cX4_manyHave 5 (some .int) 1 E ad G n [.ref (ad 0), .int a0, .int a1] σ (some (.int res.1)) res.2 := by
  unfold f_X4_manyHave at hf
  refine J_start (own := RX4) (lv := [(0, .ref (ad 0)), (1, .int a0), (2, .int a1)]) pnX4 rfl hI (Nat.le_of_ble_eq_true rfl) rfl (fun p e s m args below meth c F => ?_)
  refine J_iconst (pc := 0) F dX4_manyHave_0 ki_0 ?_
  refine J_istore_n (pc := 1) F (lv' := [(3, .int (0 : Int32)), (0, .ref (ad 0)), (1, .int a0), (2, .int a1)]) dX4_manyHave_1 rfl (by decide) rfl ?_
  refine J_iconst (pc := 2) F dX4_manyHave_2 ki_0 ?_
  refine J_istore (pc := 3) F (lv' := [(4, .int (0 : Int32)), (3, .int (0 : Int32)), (0, .ref (ad 0)), (1, .int a0), (2, .int a1)]) dX4_manyHave_3 (by decide) rfl ?_
  refine J_sub [2, 3, 4, 1, 0] rfl ?_
  refine lp_ind (P := fun (b1 : Int32 × Int32 × St) => J p l e 1 s m args below meth c E ad G n (QI below E ad G n args s res) 5 b1.2.2 5 [(0, .ref (ad 0)), (1, .int a0), (2, .int a1), (3, .int b1.1), (4, .int b1.2.1)] []) (fun r1 ih1 b1 hf => ?_) FU ((0 : Int32), (0 : Int32), σ) hf
  show J p l e 1 s m args below meth c E ad G n (QI below E ad G n args s res) 5 b1.2.2 5 [(0, .ref (ad 0)), (1, .int a0), (2, .int a1), (3, .int b1.1), (4, .int b1.2.1)] []
  refine J_iload (pc := 5) F dX4_manyHave_5 4 rfl ?_
  refine J_aload_n (pc := 7) F dX4_manyHave_7 rfl 0 rfl ?_
  refine gfX4_many (pc := 8) F ht wd_620 dX4_manyHave_8 ?_
  rcases ite_elim hf with ⟨c2, hf⟩ | ⟨c2, hf⟩
  · refine J_icmp_geT (pc := 11) F (tgt := 40) dX4_manyHave_11 (by decide) c2 ?_
    refine J_iload_n (pc := 40) F dX4_manyHave_40 rfl 3 rfl ?_
    exact J_iret (pc := 41) F rfl dX4_manyHave_41 hf
  · refine J_icmp_geF (pc := 11) F (tgt := 40) dX4_manyHave_11 (by decide) c2 ?_
    refine J_iload_n (pc := 14) F dX4_manyHave_14 rfl 3 rfl ?_
    refine J_aload_n (pc := 15) F dX4_manyHave_15 rfl 0 rfl ?_
    refine J_iconst (pc := 16) F dX4_manyHave_16 ki_0 ?_
    refine J_iload (pc := 17) F dX4_manyHave_17 4 rfl ?_
    refine J_iload_n (pc := 19) F dX4_manyHave_19 rfl 1 rfl ?_
    obtain ⟨q3, h3, hf⟩ := bind_elim hf
    refine J_callVI (pc := 20) F (c_X4_hasIt hI ht h3) (by omega) (by decide) (modN ht) (ht.2.1 _) rfl wc_X4_hasIt wd_761 rfl rfl (Nat.le_of_ble_eq_true rfl) dX4_manyHave_20 ?_
    refine J_iload_n (pc := 23) F dX4_manyHave_23 rfl 2 rfl ?_
    obtain ⟨k4, hk4, hf⟩ := jn_elim hf
    have hJk4 : ∀ (q4 : Int32 × St), k4 q4 = some res → J p l e 1 s m args below meth c E ad G n (QI below E ad G n args s res) 5 q4.2 32 [(0, .ref (ad 0)), (1, .int a0), (2, .int a1), (4, .int b1.2.1)] [.int q4.1, .int b1.1] := by
      intro q4 hf
      replace hf := hk4 q4 hf
      refine J_iadd (pc := 32) F dX4_manyHave_32 ?_
      obtain ⟨x6, ex6, hf⟩ := nm_elim hf
      refine J_ti ex6 ?_
      refine J_istore_n (pc := 33) F (lv' := [(3, .int x6), (0, .ref (ad 0)), (1, .int a0), (2, .int a1), (4, .int b1.2.1)]) dX4_manyHave_33 rfl (by decide) rfl ?_
      obtain ⟨x7, ex7, hf⟩ := nm_elim hf
      refine J_iinc (pc := 34) F (lv' := [(4, .int x7), (3, .int x6), (0, .ref (ad 0)), (1, .int a0), (2, .int a1)]) dX4_manyHave_34 4 rfl (ex7.trans (congrArg _ ki_1.symm)) (by decide) rfl ?_
      refine J_goto (pc := 37) F (tgt := 5) dX4_manyHave_37 (by decide) ?_
      refine J_sub [2, 3, 4, 1, 0] rfl ?_
      exact ih1 (x6, x7, q4.2) hf
    clear hk4
    rcases ite_elim hf with ⟨c5, hf⟩ | ⟨c5, hf⟩
    · refine J_icmp_neT (pc := 24) F (tgt := 31) dX4_manyHave_24 (by decide) c5 ?_
      refine J_iconst (pc := 31) F dX4_manyHave_31 ki_0 ?_
      refine J_sub [0, 1, 2, 4] rfl ?_
      exact hJk4 ((0 : Int32), q3.2) hf
    · refine J_icmp_neF (pc := 24) F (tgt := 31) dX4_manyHave_24 (by decide) c5 ?_
      refine J_iconst (pc := 27) F dX4_manyHave_27 ki_1 ?_
      refine J_goto (pc := 28) F (tgt := 32) dX4_manyHave_28 (by decide) ?_
      refine J_sub [0, 1, 2, 4] rfl ?_
      exact hJk4 ((1 : Int32), q3.2) hf
set_option maxHeartbeats 4000000 in
set_option maxRecDepth 100000 in
theorem c_X4_other {l : Launch} {E : En} {ad : Nat → Nat} {G : Lay} {n : Nat} (hI : adI ad n) (ht : ModAt E ad G n) {σ : St} {res : Int32 × St} (hf : f_X4_other  σ = some res) : Ct l yX4_other cX4_other 4 (some .int) 2 E ad G n [.ref (ad 0)] σ (some (.int res.1)) res.2 := by
  unfold f_X4_other at hf
  refine J_start (own := RX4) (lv := [(0, .ref (ad 0))]) pnX4 rfl hI (Nat.le_of_ble_eq_true rfl) rfl (fun p e s m args below meth c F => ?_)
  refine J_iconst (pc := 0) F dX4_other_0 ki_0 ?_
  refine J_istore_n (pc := 1) F (lv' := [(1, .int (0 : Int32)), (0, .ref (ad 0))]) dX4_other_1 rfl (by decide) rfl ?_
  refine J_iconst (pc := 2) F dX4_other_2 ki_0 ?_
  refine J_istore_n (pc := 3) F (lv' := [(2, .int (0 : Int32)), (1, .int (0 : Int32)), (0, .ref (ad 0))]) dX4_other_3 rfl (by decide) rfl ?_
  refine J_sub [2, 1, 0] rfl ?_
  refine lp_ind (P := fun (b1 : Int32 × Int32 × St) => J p l e 2 s m args below meth c E ad G n (QI below E ad G n args s res) 4 b1.2.2 4 [(0, .ref (ad 0)), (1, .int b1.1), (2, .int b1.2.1)] []) (fun r1 ih1 b1 hf => ?_) FU ((0 : Int32), (0 : Int32), σ) hf
  show J p l e 2 s m args below meth c E ad G n (QI below E ad G n args s res) 4 b1.2.2 4 [(0, .ref (ad 0)), (1, .int b1.1), (2, .int b1.2.1)] []
  refine J_iload_n (pc := 4) F dX4_other_4 rfl 2 rfl ?_
  refine J_aload_n (pc := 5) F dX4_other_5 rfl 0 rfl ?_
  refine gfX4_words (pc := 6) F ht wd_618 dX4_other_6 ?_
  rcases ite_elim hf with ⟨c2, hf⟩ | ⟨c2, hf⟩
  · refine J_icmp_geT (pc := 9) F (tgt := 72) dX4_other_9 (by decide) c2 ?_
    refine J_iload_n (pc := 72) F dX4_other_72 rfl 1 rfl ?_
    exact J_iret (pc := 73) F rfl dX4_other_73 hf
  · refine J_icmp_geF (pc := 9) F (tgt := 72) dX4_other_9 (by decide) c2 ?_
    refine J_iconst (pc := 12) F dX4_other_12 ki_0 ?_
    refine J_istore_n (pc := 13) F (lv' := [(3, .int (0 : Int32)), (0, .ref (ad 0)), (1, .int b1.1), (2, .int b1.2.1)]) dX4_other_13 rfl (by decide) rfl ?_
    refine J_sub [1, 2, 3, 0] rfl ?_
    refine lp_ind (P := fun (b3 : Int32 × Int32 × St) => J p l e 2 s m args below meth c E ad G n (QI below E ad G n args s res) 4 b3.2.2 14 [(0, .ref (ad 0)), (1, .int b3.1), (2, .int b1.2.1), (3, .int b3.2.1)] []) (fun r3 ih3 b3 hf => ?_) FU (b1.1, (0 : Int32), b1.2.2) hf
    show J p l e 2 s m args below meth c E ad G n (QI below E ad G n args s res) 4 b3.2.2 14 [(0, .ref (ad 0)), (1, .int b3.1), (2, .int b1.2.1), (3, .int b3.2.1)] []
    refine J_iload_n (pc := 14) F dX4_other_14 rfl 3 rfl ?_
    refine J_bipush (pc := 15) F dX4_other_15 kb_10 ?_
    rcases ite_elim hf with ⟨c4, hf⟩ | ⟨c4, hf⟩
    · refine J_icmp_geT (pc := 17) F (tgt := 66) dX4_other_17 (by decide) c4 ?_
      obtain ⟨x5, ex5, hf⟩ := nm_elim hf
      refine J_iinc (pc := 66) F (lv' := [(2, .int x5), (0, .ref (ad 0)), (1, .int b3.1), (3, .int b3.2.1)]) dX4_other_66 2 rfl (ex5.trans (congrArg _ ki_1.symm)) (by decide) rfl ?_
      refine J_goto (pc := 69) F (tgt := 4) dX4_other_69 (by decide) ?_
      refine J_sub [1, 2, 0] rfl ?_
      exact ih1 (b3.1, x5, b3.2.2) hf
    · refine J_icmp_geF (pc := 17) F (tgt := 66) dX4_other_17 (by decide) c4 ?_
      refine J_iload_n (pc := 20) F dX4_other_20 rfl 1 rfl ?_
      refine J_iload_n (pc := 21) F dX4_other_21 rfl 3 rfl ?_
      refine J_aload_n (pc := 22) F dX4_other_22 rfl 0 rfl ?_
      refine gfX4_sounds (pc := 23) F ht wd_619 dX4_other_23 ?_
      refine J_iload_n (pc := 26) F dX4_other_26 rfl 2 rfl ?_
      obtain ⟨g6, hf⟩ := grd_elim hf
      refine J_iald (pc := 27) F ht.2.2.1 g6 dX4_other_27 ?_
      obtain ⟨k7, hk7, hf⟩ := jn_elim hf
      have hJk7 : ∀ (q7 : Int32 × St), k7 q7 = some res → J p l e 2 s m args below meth c E ad G n (QI below E ad G n args s res) 4 q7.2 58 [(0, .ref (ad 0)), (2, .int b1.2.1), (3, .int b3.2.1)] [.int q7.1, .int b3.1] := by
        intro q7 hf
        replace hf := hk7 q7 hf
        refine J_ior (pc := 58) F dX4_other_58 ?_
        obtain ⟨x14, ex14, hf⟩ := nm_elim hf
        refine J_ti ex14 ?_
        refine J_istore_n (pc := 59) F (lv' := [(1, .int x14), (0, .ref (ad 0)), (2, .int b1.2.1), (3, .int b3.2.1)]) dX4_other_59 rfl (by decide) rfl ?_
        obtain ⟨x15, ex15, hf⟩ := nm_elim hf
        refine J_iinc (pc := 60) F (lv' := [(3, .int x15), (1, .int x14), (0, .ref (ad 0)), (2, .int b1.2.1)]) dX4_other_60 3 rfl (ex15.trans (congrArg _ ki_1.symm)) (by decide) rfl ?_
        refine J_goto (pc := 63) F (tgt := 14) dX4_other_63 (by decide) ?_
        refine J_sub [2, 1, 3, 0] rfl ?_
        exact ih3 (x14, x15, q7.2) hf
      clear hk7
      obtain ⟨k8, hk8, hf⟩ := jn_elim hf
      have hJk8 : ∀ (q8 : St), k8 q8 = some res → J p l e 2 s m args below meth c E ad G n (QI below E ad G n args s res) 4 q8 57 [(0, .ref (ad 0)), (2, .int b1.2.1), (3, .int b3.2.1)] [.int b3.1] := by
        intro q8 hf
        replace hf := hk8 q8 hf
        refine J_iconst (pc := 57) F dX4_other_57 ki_0 ?_
        exact hJk7 ((0 : Int32), q8) hf
      clear hk8
      rcases ite_elim hf with ⟨c9, hf⟩ | ⟨c9, hf⟩
      · refine J_icmp_eqT (pc := 28) F (tgt := 57) dX4_other_28 (by decide) c9 ?_
        refine J_sub [0, 2, 3] rfl ?_
        exact hJk8 b3.2.2 hf
      · refine J_icmp_eqF (pc := 28) F (tgt := 57) dX4_other_28 (by decide) c9 ?_
        refine J_aload_n (pc := 31) F dX4_other_31 rfl 0 rfl ?_
        refine J_iload_n (pc := 32) F dX4_other_32 rfl 2 rfl ?_
        refine J_iload_n (pc := 33) F dX4_other_33 rfl 3 rfl ?_
        obtain ⟨q10, h10, hf⟩ := bind_elim hf
        refine J_callVI (pc := 34) F (c_X4_manyHave hI ht h10) (by omega) (by decide) (modN ht) (ht.2.1 _) rfl wc_X4_manyHave wd_888 rfl rfl (Nat.le_of_ble_eq_true rfl) dX4_other_34 ?_
        refine J_aload_n (pc := 37) F dX4_other_37 rfl 0 rfl ?_
        refine J_iload_n (pc := 38) F dX4_other_38 rfl 2 rfl ?_
        refine J_aload_n (pc := 39) F dX4_other_39 rfl 0 rfl ?_
        refine gfX4_sounds (pc := 40) F ht wd_619 dX4_other_40 ?_
        refine J_iload_n (pc := 43) F dX4_other_43 rfl 2 rfl ?_
        obtain ⟨g11, hf⟩ := grd_elim hf
        refine J_iald (pc := 44) F ht.2.2.1 g11 dX4_other_44 ?_
        obtain ⟨q12, h12, hf⟩ := bind_elim hf
        refine J_callVI (pc := 45) F (c_X4_manyHave hI ht h12) (by omega) (by decide) (modN ht) (ht.2.1 _) rfl wc_X4_manyHave wd_888 rfl rfl (Nat.le_of_ble_eq_true rfl) dX4_other_45 ?_
        rcases ite_elim hf with ⟨c13, hf⟩ | ⟨c13, hf⟩
        · refine J_icmp_leT (pc := 48) F (tgt := 57) dX4_other_48 (by decide) c13 ?_
          refine J_sub [0, 2, 3] rfl ?_
          exact hJk8 q12.2 hf
        · refine J_icmp_leF (pc := 48) F (tgt := 57) dX4_other_48 (by decide) c13 ?_
          refine J_iconst (pc := 51) F dX4_other_51 ki_1 ?_
          refine J_iload_n (pc := 52) F dX4_other_52 rfl 2 rfl ?_
          refine J_ishl (pc := 53) F dX4_other_53 ?_
          refine J_goto (pc := 54) F (tgt := 58) dX4_other_54 (by decide) ?_
          refine J_sub [0, 2, 3] rfl ?_
          exact hJk7 (((1 : Int32) <<< (b1.2.1 &&& 31)), q12.2) hf
set_option maxHeartbeats 4000000 in
set_option maxRecDepth 100000 in
theorem c_X4_hear {l : Launch} {E : En} {ad : Nat → Nat} {G : Lay} {n : Nat} (hI : adI ad n) (ht : ModAt E ad G n) {a0 : Int32} {a1 : Int32} {a2 : Int32} {σ : St} {res : Int32 × St} (hf : f_X4_hear a0 a1 a2 σ = some res) : Ct l yX4_hear cX4_hear 4 (some .int) 2 E ad G n [.ref (ad 0), .int a0, .int a1, .int a2] σ (some (.int res.1)) res.2 := by
  unfold f_X4_hear at hf
  refine J_start (own := RX4) (lv := [(0, .ref (ad 0)), (1, .int a0), (2, .int a1), (3, .int a2)]) pnX4 rfl hI (Nat.le_of_ble_eq_true rfl) rfl (fun p e s m args below meth c F => ?_)
  refine J_aload_n (pc := 0) F dX4_hear_0 rfl 0 rfl ?_
  refine J_iload_n (pc := 1) F dX4_hear_1 rfl 1 rfl ?_
  obtain ⟨q1, h1, hf⟩ := bind_elim hf
  refine J_callVI (pc := 2) F (c_X4_isWord hI ht h1) (by omega) (by decide) (modN ht) (ht.2.1 _) rfl wc_X4_isWord wd_744 rfl rfl (Nat.le_of_ble_eq_true rfl) dX4_hear_2 ?_
  rcases ite_elim hf with ⟨c2, hf⟩ | ⟨c2, hf⟩
  · refine J_if_eqT (pc := 5) F (tgt := 32) dX4_hear_5 (by decide) c2 ?_
    refine J_iconst (pc := 32) F dX4_hear_32 ki_m1 ?_
    exact J_iret (pc := 33) F rfl dX4_hear_33 hf
  · refine J_if_eqF (pc := 5) F (tgt := 32) dX4_hear_5 (by decide) c2 ?_
    refine J_iload_n (pc := 8) F dX4_hear_8 rfl 2 rfl ?_
    refine J_i2l (pc := 9) F dX4_hear_9 ?_
    refine J_lconst (pc := 10) F (v := 0) dX4_hear_10 (by decide +kernel) ?_
    refine J_ldc2 (pc := 11) F wd_896 dX4_hear_11 ?_
    obtain ⟨q3, h3, hf⟩ := bind_elim hf
    refine J_callSI (pc := 14) F (c_X4_in hI  h3) (by omega) (by decide) wc_X4_in wd_691 rfl rfl (Nat.le_of_ble_eq_true rfl) dX4_hear_14 ?_
    rcases ite_elim hf with ⟨c4, hf⟩ | ⟨c4, hf⟩
    · refine J_if_eqT (pc := 17) F (tgt := 32) dX4_hear_17 (by decide) c4 ?_
      refine J_iconst (pc := 32) F dX4_hear_32 ki_m1 ?_
      exact J_iret (pc := 33) F rfl dX4_hear_33 hf
    · refine J_if_eqF (pc := 17) F (tgt := 32) dX4_hear_17 (by decide) c4 ?_
      refine J_iload_n (pc := 20) F dX4_hear_20 rfl 3 rfl ?_
      refine J_i2l (pc := 21) F dX4_hear_21 ?_
      refine J_lconst (pc := 22) F (v := 0) dX4_hear_22 (by decide +kernel) ?_
      refine J_ldc2 (pc := 23) F wd_897 dX4_hear_23 ?_
      obtain ⟨q5, h5, hf⟩ := bind_elim hf
      refine J_callSI (pc := 26) F (c_X4_in hI  h5) (by omega) (by decide) wc_X4_in wd_691 rfl rfl (Nat.le_of_ble_eq_true rfl) dX4_hear_26 ?_
      rcases ite_elim hf with ⟨c6, hf⟩ | ⟨c6, hf⟩
      · refine J_if_neT (pc := 29) F (tgt := 34) dX4_hear_29 (by decide) c6 ?_
        refine J_aload_n (pc := 34) F dX4_hear_34 rfl 0 rfl ?_
        refine gfX4_heards (pc := 35) F ht wd_634 dX4_hear_35 ?_
        refine J_bipush (pc := 38) F dX4_hear_38 kb_6 ?_
        rcases ite_elim hf with ⟨c7, hf⟩ | ⟨c7, hf⟩
        · refine J_icmp_neT (pc := 40) F (tgt := 46) dX4_hear_40 (by decide) c7 ?_
          refine J_aload_n (pc := 46) F dX4_hear_46 rfl 0 rfl ?_
          refine gfX4_heardWord (pc := 47) F ht wd_635 dX4_hear_47 ?_
          refine J_aload_n (pc := 50) F dX4_hear_50 rfl 0 rfl ?_
          refine gfX4_heards (pc := 51) F ht wd_634 dX4_hear_51 ?_
          refine J_iload_n (pc := 54) F dX4_hear_54 rfl 1 rfl ?_
          obtain ⟨g8, hf⟩ := grd_elim hf
          obtain ⟨σ9, eσ9, hf⟩ := nm_elim hf
          refine J_iast (pc := 55) F ht.2.2.2.2.2.2.1 g8 dX4_hear_55 eσ9 ?_
          refine J_aload_n (pc := 56) F dX4_hear_56 rfl 0 rfl ?_
          refine gfX4_heardSound (pc := 57) F ht wd_636 dX4_hear_57 ?_
          refine J_aload_n (pc := 60) F dX4_hear_60 rfl 0 rfl ?_
          refine gfX4_heards (pc := 61) F ht wd_634 dX4_hear_61 ?_
          refine J_iload_n (pc := 64) F dX4_hear_64 rfl 2 rfl ?_
          refine J_bipush (pc := 65) F dX4_hear_65 kb_10 ?_
          obtain ⟨k10, hk10, hf⟩ := jn_elim hf
          have hJk10 : ∀ (q10 : Int32 × St), k10 q10 = some res → J p l e 2 s m args below meth c E ad G n (QI below E ad G n args s res) 4 q10.2 75 [(0, .ref (ad 0)), (3, .int a2)] [.int q10.1, .int (σ9 0 12), .ref (ad 6)] := by
            intro q10 hf
            replace hf := hk10 q10 hf
            obtain ⟨g12, hf⟩ := grd_elim hf
            obtain ⟨σ13, eσ13, hf⟩ := nm_elim hf
            refine J_iast (pc := 75) F ht.2.2.2.2.2.2.2.1 g12 dX4_hear_75 eσ13 ?_
            refine J_aload_n (pc := 76) F dX4_hear_76 rfl 0 rfl ?_
            refine gfX4_heardDay (pc := 77) F ht wd_637 dX4_hear_77 ?_
            refine J_aload_n (pc := 80) F dX4_hear_80 rfl 0 rfl ?_
            refine gfX4_heards (pc := 81) F ht wd_634 dX4_hear_81 ?_
            refine J_iload_n (pc := 84) F dX4_hear_84 rfl 1 rfl ?_
            obtain ⟨g14, hf⟩ := grd_elim hf
            obtain ⟨σ15, eσ15, hf⟩ := nm_elim hf
            refine J_iast (pc := 85) F ht.2.2.2.2.2.2.2.2.1 g14 dX4_hear_85 eσ15 ?_
            refine J_aload_n (pc := 86) F dX4_hear_86 rfl 0 rfl ?_
            refine J_dup (pc := 87) F dX4_hear_87 rfl ?_
            refine gfX4_heards (pc := 88) F ht wd_634 dX4_hear_88 ?_
            refine J_iconst (pc := 91) F dX4_hear_91 ki_1 ?_
            refine J_iadd (pc := 92) F dX4_hear_92 ?_
            obtain ⟨σ16, eσ16, hf⟩ := nm_elim hf
            refine pfX4_heards (pc := 93) F ht wd_634 dX4_hear_93 eσ16 ?_
            refine J_aload_n (pc := 96) F dX4_hear_96 rfl 0 rfl ?_
            refine gfX4_heards (pc := 97) F ht wd_634 dX4_hear_97 ?_
            exact J_iret (pc := 100) F rfl dX4_hear_100 hf
          clear hk10
          rcases ite_elim hf with ⟨c11, hf⟩ | ⟨c11, hf⟩
          · refine J_icmp_neT (pc := 67) F (tgt := 74) dX4_hear_67 (by decide) c11 ?_
            refine J_iload_n (pc := 74) F dX4_hear_74 rfl 2 rfl ?_
            refine J_sub [0, 3] rfl ?_
            exact hJk10 (a1, σ9) hf
          · refine J_icmp_neF (pc := 67) F (tgt := 74) dX4_hear_67 (by decide) c11 ?_
            refine J_iconst (pc := 70) F dX4_hear_70 ki_m1 ?_
            refine J_goto (pc := 71) F (tgt := 75) dX4_hear_71 (by decide) ?_
            refine J_sub [0, 3] rfl ?_
            exact hJk10 ((-1 : Int32), σ9) hf
        · refine J_icmp_neF (pc := 40) F (tgt := 46) dX4_hear_40 (by decide) c7 ?_
          refine J_bipush (pc := 43) F dX4_hear_43 kb_m3 ?_
          exact J_iret (pc := 45) F rfl dX4_hear_45 hf
      · refine J_if_neF (pc := 29) F (tgt := 34) dX4_hear_29 (by decide) c6 ?_
        refine J_iconst (pc := 32) F dX4_hear_32 ki_m1 ?_
        exact J_iret (pc := 33) F rfl dX4_hear_33 hf
set_option maxHeartbeats 4000000 in
set_option maxRecDepth 100000 in
theorem c_X4_forget {l : Launch} {E : En} {ad : Nat → Nat} {G : Lay} {n : Nat} (hI : adI ad n) (ht : ModAt E ad G n) {σ : St} {res : Int32 × St} (hf : f_X4_forget  σ = some res) : Ct l yX4_forget cX4_forget 2 (some .int) 0 E ad G n [.ref (ad 0)] σ (some (.int res.1)) res.2 := by
  unfold f_X4_forget at hf
  refine J_start (own := RX4) (lv := [(0, .ref (ad 0))]) pnX4 rfl hI (Nat.le_of_ble_eq_true rfl) rfl (fun p e s m args below meth c F => ?_)
  refine J_aload_n (pc := 0) F dX4_forget_0 rfl 0 rfl ?_
  refine gfX4_heards (pc := 1) F ht wd_634 dX4_forget_1 ?_
  obtain ⟨x1, ex1, hf⟩ := nm_elim hf
  refine J_ti ex1 ?_
  refine J_istore_n (pc := 4) F (lv' := [(1, .int x1), (0, .ref (ad 0))]) dX4_forget_4 rfl (by decide) rfl ?_
  refine J_aload_n (pc := 5) F dX4_forget_5 rfl 1 rfl ?_
  refine J_iconst (pc := 6) F dX4_forget_6 ki_0 ?_
  obtain ⟨σ2, eσ2, hf⟩ := nm_elim hf
  refine pfX4_heards (pc := 7) F ht wd_634 dX4_forget_7 eσ2 ?_
  refine J_iload_n (pc := 10) F dX4_forget_10 rfl 0 rfl ?_
  exact J_iret (pc := 11) F rfl dX4_forget_11 hf
set_option maxHeartbeats 4000000 in
set_option maxRecDepth 100000 in
theorem c_X4_fits {l : Launch} {E : En} {ad : Nat → Nat} {G : Lay} {n : Nat} (hI : adI ad n) (ht : ModAt E ad G n) {σ : St} {res : Int32 × St} (hf : f_X4_fits  σ = some res) : Ct l yX4_fits cX4_fits 5 (some .int) 3 E ad G n [.ref (ad 0)] σ (some (.int res.1)) res.2 := by
  unfold f_X4_fits at hf
  refine J_start (own := RX4) (lv := [(0, .ref (ad 0))]) pnX4 rfl hI (Nat.le_of_ble_eq_true rfl) rfl (fun p e s m args below meth c F => ?_)
  refine J_iconst (pc := 0) F dX4_fits_0 ki_1 ?_
  refine J_aload_n (pc := 1) F dX4_fits_1 rfl 0 rfl ?_
  refine gfX4_many (pc := 2) F ht wd_620 dX4_fits_2 ?_
  refine J_ishl (pc := 5) F dX4_fits_5 ?_
  refine J_iconst (pc := 6) F dX4_fits_6 ki_1 ?_
  refine J_isub (pc := 7) F dX4_fits_7 ?_
  obtain ⟨x1, ex1, hf⟩ := nm_elim hf
  refine J_ti ex1 ?_
  refine J_istore_n (pc := 8) F (lv' := [(1, .int x1), (0, .ref (ad 0))]) dX4_fits_8 rfl (by decide) rfl ?_
  refine J_iconst (pc := 9) F dX4_fits_9 ki_0 ?_
  refine J_istore_n (pc := 10) F (lv' := [(2, .int (0 : Int32)), (1, .int x1), (0, .ref (ad 0))]) dX4_fits_10 rfl (by decide) rfl ?_
  refine J_sub [2, 1, 0] rfl ?_
  refine lp_ind (P := fun (b2 : Int32 × Int32 × St) => J p l e 3 s m args below meth c E ad G n (QI below E ad G n args s res) 5 b2.2.2 11 [(0, .ref (ad 0)), (1, .int b2.1), (2, .int b2.2.1)] []) (fun r2 ih2 b2 hf => ?_) FU (x1, (0 : Int32), σ) hf
  show J p l e 3 s m args below meth c E ad G n (QI below E ad G n args s res) 5 b2.2.2 11 [(0, .ref (ad 0)), (1, .int b2.1), (2, .int b2.2.1)] []
  refine J_iload_n (pc := 11) F dX4_fits_11 rfl 2 rfl ?_
  refine J_bipush (pc := 12) F dX4_fits_12 kb_20 ?_
  rcases ite_elim hf with ⟨c3, hf⟩ | ⟨c3, hf⟩
  · refine J_icmp_gtT (pc := 14) F (tgt := 112) dX4_fits_14 (by decide) c3 ?_
    refine J_iload_n (pc := 112) F dX4_fits_112 rfl 1 rfl ?_
    exact J_iret (pc := 113) F rfl dX4_fits_113 hf
  · refine J_icmp_gtF (pc := 14) F (tgt := 112) dX4_fits_14 (by decide) c3 ?_
    refine J_iconst (pc := 17) F dX4_fits_17 ki_0 ?_
    refine J_istore_n (pc := 18) F (lv' := [(3, .int (0 : Int32)), (0, .ref (ad 0)), (1, .int b2.1), (2, .int b2.2.1)]) dX4_fits_18 rfl (by decide) rfl ?_
    refine J_sub [1, 2, 3, 0] rfl ?_
    refine lp_ind (P := fun (b4 : Int32 × Int32 × St) => J p l e 3 s m args below meth c E ad G n (QI below E ad G n args s res) 5 b4.2.2 19 [(0, .ref (ad 0)), (1, .int b4.1), (2, .int b2.2.1), (3, .int b4.2.1)] []) (fun r4 ih4 b4 hf => ?_) FU (b2.1, (0 : Int32), b2.2.2) hf
    show J p l e 3 s m args below meth c E ad G n (QI below E ad G n args s res) 5 b4.2.2 19 [(0, .ref (ad 0)), (1, .int b4.1), (2, .int b2.2.1), (3, .int b4.2.1)] []
    refine J_iload_n (pc := 19) F dX4_fits_19 rfl 3 rfl ?_
    refine J_aload_n (pc := 20) F dX4_fits_20 rfl 0 rfl ?_
    refine gfX4_heards (pc := 21) F ht wd_634 dX4_fits_21 ?_
    rcases ite_elim hf with ⟨c5, hf⟩ | ⟨c5, hf⟩
    · refine J_icmp_geT (pc := 24) F (tgt := 98) dX4_fits_24 (by decide) c5 ?_
      refine J_aload_n (pc := 98) F dX4_fits_98 rfl 0 rfl ?_
      refine J_sipush (pc := 99) F dX4_fits_99 ks_1001 ?_
      refine J_iconst (pc := 102) F dX4_fits_102 ki_0 ?_
      obtain ⟨q6, h6, hf⟩ := bind_elim hf
      refine J_callVU (pc := 103) F (c_X4_goesOn hI ht h6) (by omega) (by decide) (modN ht) (ht.2.1 _) rfl wc_X4_goesOn wd_809 rfl rfl (Nat.le_of_ble_eq_true rfl) dX4_fits_103 ?_
      obtain ⟨x7, ex7, hf⟩ := nm_elim hf
      refine J_iinc (pc := 106) F (lv' := [(2, .int x7), (0, .ref (ad 0)), (1, .int b4.1), (3, .int b4.2.1)]) dX4_fits_106 2 rfl (ex7.trans (congrArg _ ki_1.symm)) (by decide) rfl ?_
      refine J_goto (pc := 109) F (tgt := 11) dX4_fits_109 (by decide) ?_
      refine J_sub [1, 2, 0] rfl ?_
      exact ih2 (b4.1, x7, q6.2) hf
    · refine J_icmp_geF (pc := 24) F (tgt := 98) dX4_fits_24 (by decide) c5 ?_
      refine J_iconst (pc := 27) F dX4_fits_27 ki_0 ?_
      refine J_istore (pc := 28) F (lv' := [(4, .int (0 : Int32)), (0, .ref (ad 0)), (1, .int b4.1), (2, .int b2.2.1), (3, .int b4.2.1)]) dX4_fits_28 (by decide) rfl ?_
      refine J_sub [1, 2, 3, 4, 0] rfl ?_
      refine lp_ind (P := fun (b8 : Int32 × Int32 × St) => J p l e 3 s m args below meth c E ad G n (QI below E ad G n args s res) 5 b8.2.2 30 [(0, .ref (ad 0)), (1, .int b8.1), (2, .int b2.2.1), (3, .int b4.2.1), (4, .int b8.2.1)] []) (fun r8 ih8 b8 hf => ?_) FU (b4.1, (0 : Int32), b4.2.2) hf
      show J p l e 3 s m args below meth c E ad G n (QI below E ad G n args s res) 5 b8.2.2 30 [(0, .ref (ad 0)), (1, .int b8.1), (2, .int b2.2.1), (3, .int b4.2.1), (4, .int b8.2.1)] []
      refine J_iload (pc := 30) F dX4_fits_30 4 rfl ?_
      refine J_aload_n (pc := 32) F dX4_fits_32 rfl 0 rfl ?_
      refine gfX4_many (pc := 33) F ht wd_620 dX4_fits_33 ?_
      obtain ⟨k9, hk9, hf⟩ := jn_elim hf
      have hJk9 : ∀ (q9 : St), k9 q9 = some res → J p l e 3 s m args below meth c E ad G n (QI below E ad G n args s res) 5 q9 92 [(0, .ref (ad 0)), (1, .int b8.1), (2, .int b2.2.1), (3, .int b4.2.1)] [] := by
        intro q9 hf
        replace hf := hk9 q9 hf
        obtain ⟨x20, ex20, hf⟩ := nm_elim hf
        refine J_iinc (pc := 92) F (lv' := [(3, .int x20), (0, .ref (ad 0)), (1, .int b8.1), (2, .int b2.2.1)]) dX4_fits_92 3 rfl (ex20.trans (congrArg _ ki_1.symm)) (by decide) rfl ?_
        refine J_goto (pc := 95) F (tgt := 19) dX4_fits_95 (by decide) ?_
        refine J_sub [1, 2, 3, 0] rfl ?_
        exact ih4 (b8.1, x20, q9) hf
      clear hk9
      rcases ite_elim hf with ⟨c10, hf⟩ | ⟨c10, hf⟩
      · refine J_icmp_geT (pc := 36) F (tgt := 92) dX4_fits_36 (by decide) c10 ?_
        refine J_sub [0, 1, 2, 3] rfl ?_
        exact hJk9 b8.2.2 hf
      · refine J_icmp_geF (pc := 36) F (tgt := 92) dX4_fits_36 (by decide) c10 ?_
        refine J_aload_n (pc := 39) F dX4_fits_39 rfl 0 rfl ?_
        refine gfX4_heardDay (pc := 40) F ht wd_637 dX4_fits_40 ?_
        refine J_iload_n (pc := 43) F dX4_fits_43 rfl 3 rfl ?_
        obtain ⟨g11, hf⟩ := grd_elim hf
        refine J_iald (pc := 44) F ht.2.2.2.2.2.2.2.2.1 g11 dX4_fits_44 ?_
        refine J_iload_n (pc := 45) F dX4_fits_45 rfl 2 rfl ?_
        rcases ite_elim hf with ⟨c12, hf⟩ | ⟨c12, hf⟩
        · refine J_icmp_neT (pc := 46) F (tgt := 92) dX4_fits_46 (by decide) c12 ?_
          refine J_sub [0, 1, 2, 3] rfl ?_
          exact hJk9 b8.2.2 hf
        · refine J_icmp_neF (pc := 46) F (tgt := 92) dX4_fits_46 (by decide) c12 ?_
          refine J_iload_n (pc := 49) F dX4_fits_49 rfl 1 rfl ?_
          refine J_aload_n (pc := 50) F dX4_fits_50 rfl 0 rfl ?_
          refine J_sipush (pc := 51) F dX4_fits_51 ks_1001 ?_
          refine J_iload (pc := 54) F dX4_fits_54 4 rfl ?_
          refine J_aload_n (pc := 56) F dX4_fits_56 rfl 0 rfl ?_
          refine gfX4_heardWord (pc := 57) F ht wd_635 dX4_fits_57 ?_
          refine J_iload_n (pc := 60) F dX4_fits_60 rfl 3 rfl ?_
          obtain ⟨g13, hf⟩ := grd_elim hf
          refine J_iald (pc := 61) F ht.2.2.2.2.2.2.1 g13 dX4_fits_61 ?_
          obtain ⟨q14, h14, hf⟩ := bind_elim hf
          refine J_callVI (pc := 62) F (c_X4_hasIt hI ht h14) (by omega) (by decide) (modN ht) (ht.2.1 _) rfl wc_X4_hasIt wd_761 rfl rfl (Nat.le_of_ble_eq_true rfl) dX4_fits_62 ?_
          refine J_aload_n (pc := 65) F dX4_fits_65 rfl 0 rfl ?_
          refine gfX4_heardSound (pc := 66) F ht wd_636 dX4_fits_66 ?_
          refine J_iload_n (pc := 69) F dX4_fits_69 rfl 3 rfl ?_
          obtain ⟨g15, hf⟩ := grd_elim hf
          refine J_iald (pc := 70) F ht.2.2.2.2.2.2.2.1 g15 dX4_fits_70 ?_
          obtain ⟨k16, hk16, hf⟩ := jn_elim hf
          have hJk16 : ∀ (q16 : Int32 × St), k16 q16 = some res → J p l e 3 s m args below meth c E ad G n (QI below E ad G n args s res) 5 q16.2 84 [(0, .ref (ad 0)), (2, .int b2.2.1), (3, .int b4.2.1), (4, .int b8.2.1)] [.int q16.1, .int b8.1] := by
            intro q16 hf
            replace hf := hk16 q16 hf
            refine J_iand (pc := 84) F dX4_fits_84 ?_
            obtain ⟨x18, ex18, hf⟩ := nm_elim hf
            refine J_ti ex18 ?_
            refine J_istore_n (pc := 85) F (lv' := [(1, .int x18), (0, .ref (ad 0)), (2, .int b2.2.1), (3, .int b4.2.1), (4, .int b8.2.1)]) dX4_fits_85 rfl (by decide) rfl ?_
            obtain ⟨x19, ex19, hf⟩ := nm_elim hf
            refine J_iinc (pc := 86) F (lv' := [(4, .int x19), (1, .int x18), (0, .ref (ad 0)), (2, .int b2.2.1), (3, .int b4.2.1)]) dX4_fits_86 4 rfl (ex19.trans (congrArg _ ki_1.symm)) (by decide) rfl ?_
            refine J_goto (pc := 89) F (tgt := 30) dX4_fits_89 (by decide) ?_
            refine J_sub [2, 1, 3, 4, 0] rfl ?_
            exact ih8 (x18, x19, q16.2) hf
          clear hk16
          rcases ite_elim hf with ⟨c17, hf⟩ | ⟨c17, hf⟩
          · refine J_icmp_neT (pc := 71) F (tgt := 78) dX4_fits_71 (by decide) c17 ?_
            refine J_iconst (pc := 78) F dX4_fits_78 ki_1 ?_
            refine J_iload (pc := 79) F dX4_fits_79 4 rfl ?_
            refine J_ishl (pc := 81) F dX4_fits_81 ?_
            refine J_iconst (pc := 82) F dX4_fits_82 ki_m1 ?_
            refine J_ixor (pc := 83) F dX4_fits_83 ?_
            refine J_sub [0, 2, 3, 4] rfl ?_
            exact hJk16 ((((1 : Int32) <<< (b8.2.1 &&& 31)) ^^^ (-1 : Int32)), q14.2) hf
          · refine J_icmp_neF (pc := 71) F (tgt := 78) dX4_fits_71 (by decide) c17 ?_
            refine J_iconst (pc := 74) F dX4_fits_74 ki_m1 ?_
            refine J_goto (pc := 75) F (tgt := 84) dX4_fits_75 (by decide) ?_
            refine J_sub [0, 2, 3, 4] rfl ?_
            exact hJk16 ((-1 : Int32), q14.2) hf
set_option maxHeartbeats 4000000 in
set_option maxRecDepth 100000 in
theorem c_X4_which {l : Launch} {E : En} {ad : Nat → Nat} {G : Lay} {n : Nat} (hI : adI ad n) (ht : ModAt E ad G n) {σ : St} {res : Int32 × St} (hf : f_X4_which  σ = some res) : Ct l yX4_which cX4_which 1 (some .int) 4 E ad G n [.ref (ad 0)] σ (some (.int res.1)) res.2 := by
  unfold f_X4_which at hf
  refine J_start (own := RX4) (lv := [(0, .ref (ad 0))]) pnX4 rfl hI (Nat.le_of_ble_eq_true rfl) rfl (fun p e s m args below meth c F => ?_)
  refine J_aload_n (pc := 0) F dX4_which_0 rfl 0 rfl ?_
  refine J_iconst (pc := 1) F dX4_which_1 ki_0 ?_
  refine J_sipush (pc := 2) F dX4_which_2 ks_1001 ?_
  obtain ⟨q1, h1, hf⟩ := bind_elim hf
  refine J_callVU (pc := 5) F (c_X4_copies hI ht h1) (by omega) (by decide) (modN ht) (ht.2.1 _) rfl wc_X4_copies wd_614 rfl rfl (Nat.le_of_ble_eq_true rfl) dX4_which_5 ?_
  refine J_aload_n (pc := 8) F dX4_which_8 rfl 0 rfl ?_
  obtain ⟨q2, h2, hf⟩ := bind_elim hf
  refine J_callVI (pc := 9) F (c_X4_fits hI ht h2) (by omega) (by decide) (modN ht) (ht.2.1 _) rfl wc_X4_fits wd_906 rfl rfl (Nat.le_of_ble_eq_true rfl) dX4_which_9 ?_
  exact J_iret (pc := 12) F rfl dX4_which_12 hf
set_option maxHeartbeats 4000000 in
set_option maxRecDepth 100000 in
theorem c_X4_kinds {l : Launch} {E : En} {ad : Nat → Nat} {G : Lay} {n : Nat} (hI : adI ad n) (ht : ModAt E ad G n) {a0 : Int32} {σ : St} {res : Int32 × St} (hf : f_X4_kinds a0 σ = some res) : Ct l yX4_kinds cX4_kinds 4 (some .int) 4 E ad G n [.ref (ad 0), .int a0] σ (some (.int res.1)) res.2 := by
  unfold f_X4_kinds at hf
  refine J_start (own := RX4) (lv := [(0, .ref (ad 0)), (1, .int a0)]) pnX4 rfl hI (Nat.le_of_ble_eq_true rfl) rfl (fun p e s m args below meth c F => ?_)
  refine J_aload_n (pc := 0) F dX4_kinds_0 rfl 0 rfl ?_
  refine J_iload_n (pc := 1) F dX4_kinds_1 rfl 1 rfl ?_
  obtain ⟨q1, h1, hf⟩ := bind_elim hf
  refine J_callVI (pc := 2) F (c_X4_isOne hI ht h1) (by omega) (by decide) (modN ht) (ht.2.1 _) rfl wc_X4_isOne wd_752 rfl rfl (Nat.le_of_ble_eq_true rfl) dX4_kinds_2 ?_
  rcases ite_elim hf with ⟨c2, hf⟩ | ⟨c2, hf⟩
  · refine J_if_neT (pc := 5) F (tgt := 10) dX4_kinds_5 (by decide) c2 ?_
    refine J_iconst (pc := 10) F dX4_kinds_10 ki_0 ?_
    refine J_istore_n (pc := 11) F (lv' := [(2, .int (0 : Int32)), (0, .ref (ad 0)), (1, .int a0)]) dX4_kinds_11 rfl (by decide) rfl ?_
    refine J_iconst (pc := 12) F dX4_kinds_12 ki_0 ?_
    refine J_istore_n (pc := 13) F (lv' := [(3, .int (0 : Int32)), (2, .int (0 : Int32)), (0, .ref (ad 0)), (1, .int a0)]) dX4_kinds_13 rfl (by decide) rfl ?_
    refine J_sub [2, 3, 1, 0] rfl ?_
    refine lp_ind (P := fun (b3 : Int32 × Int32 × St) => J p l e 4 s m args below meth c E ad G n (QI below E ad G n args s res) 4 b3.2.2 14 [(0, .ref (ad 0)), (1, .int a0), (2, .int b3.1), (3, .int b3.2.1)] []) (fun r3 ih3 b3 hf => ?_) FU ((0 : Int32), (0 : Int32), q1.2) hf
    show J p l e 4 s m args below meth c E ad G n (QI below E ad G n args s res) 4 b3.2.2 14 [(0, .ref (ad 0)), (1, .int a0), (2, .int b3.1), (3, .int b3.2.1)] []
    refine J_iload_n (pc := 14) F dX4_kinds_14 rfl 3 rfl ?_
    refine J_iconst (pc := 15) F dX4_kinds_15 ki_4 ?_
    rcases ite_elim hf with ⟨c4, hf⟩ | ⟨c4, hf⟩
    · refine J_icmp_geT (pc := 16) F (tgt := 69) dX4_kinds_16 (by decide) c4 ?_
      refine J_iload_n (pc := 69) F dX4_kinds_69 rfl 2 rfl ?_
      exact J_iret (pc := 70) F rfl dX4_kinds_70 hf
    · refine J_icmp_geF (pc := 16) F (tgt := 69) dX4_kinds_16 (by decide) c4 ?_
      refine J_aload_n (pc := 19) F dX4_kinds_19 rfl 0 rfl ?_
      refine J_iconst (pc := 20) F dX4_kinds_20 ki_0 ?_
      refine J_sipush (pc := 21) F dX4_kinds_21 ks_1001 ?_
      obtain ⟨q5, h5, hf⟩ := bind_elim hf
      refine J_callVU (pc := 24) F (c_X4_copies hI ht h5) (by omega) (by decide) (modN ht) (ht.2.1 _) rfl wc_X4_copies wd_614 rfl rfl (Nat.le_of_ble_eq_true rfl) dX4_kinds_24 ?_
      refine J_aload_n (pc := 27) F dX4_kinds_27 rfl 0 rfl ?_
      refine gfX4_slot (pc := 28) F ht wd_626 dX4_kinds_28 ?_
      refine J_sipush (pc := 31) F dX4_kinds_31 ks_1001 ?_
      refine J_bipush (pc := 34) F dX4_kinds_34 kb_18 ?_
      refine J_iload_n (pc := 36) F dX4_kinds_36 rfl 1 rfl ?_
      refine J_imul (pc := 37) F dX4_kinds_37 ?_
      refine J_iadd (pc := 38) F dX4_kinds_38 ?_
      refine J_iload_n (pc := 39) F dX4_kinds_39 rfl 3 rfl ?_
      obtain ⟨g6, hf⟩ := grd_elim hf
      obtain ⟨σ7, eσ7, hf⟩ := nm_elim hf
      refine J_iast (pc := 40) F ht.2.2.2.2.1 g6 dX4_kinds_40 eσ7 ?_
      refine J_iload_n (pc := 41) F dX4_kinds_41 rfl 2 rfl ?_
      refine J_aload_n (pc := 42) F dX4_kinds_42 rfl 0 rfl ?_
      obtain ⟨q8, h8, hf⟩ := bind_elim hf
      refine J_callVI (pc := 43) F (c_X4_fits hI ht h8) (by omega) (by decide) (modN ht) (ht.2.1 _) rfl wc_X4_fits wd_906 rfl rfl (Nat.le_of_ble_eq_true rfl) dX4_kinds_43 ?_
      refine J_iload_n (pc := 46) F dX4_kinds_46 rfl 1 rfl ?_
      refine J_ishr (pc := 47) F dX4_kinds_47 ?_
      refine J_iconst (pc := 48) F dX4_kinds_48 ki_1 ?_
      refine J_iand (pc := 49) F dX4_kinds_49 ?_
      refine J_iconst (pc := 50) F dX4_kinds_50 ki_1 ?_
      obtain ⟨k9, hk9, hf⟩ := jn_elim hf
      have hJk9 : ∀ (q9 : Int32 × St), k9 q9 = some res → J p l e 4 s m args below meth c E ad G n (QI below E ad G n args s res) 4 q9.2 61 [(0, .ref (ad 0)), (1, .int a0), (3, .int b3.2.1)] [.int q9.1, .int b3.1] := by
        intro q9 hf
        replace hf := hk9 q9 hf
        refine J_ior (pc := 61) F dX4_kinds_61 ?_
        obtain ⟨x11, ex11, hf⟩ := nm_elim hf
        refine J_ti ex11 ?_
        refine J_istore_n (pc := 62) F (lv' := [(2, .int x11), (0, .ref (ad 0)), (1, .int a0), (3, .int b3.2.1)]) dX4_kinds_62 rfl (by decide) rfl ?_
        obtain ⟨x12, ex12, hf⟩ := nm_elim hf
        refine J_iinc (pc := 63) F (lv' := [(3, .int x12), (2, .int x11), (0, .ref (ad 0)), (1, .int a0)]) dX4_kinds_63 3 rfl (ex12.trans (congrArg _ ki_1.symm)) (by decide) rfl ?_
        refine J_goto (pc := 66) F (tgt := 14) dX4_kinds_66 (by decide) ?_
        refine J_sub [2, 3, 1, 0] rfl ?_
        exact ih3 (x11, x12, q9.2) hf
      clear hk9
      rcases ite_elim hf with ⟨c10, hf⟩ | ⟨c10, hf⟩
      · refine J_icmp_neT (pc := 51) F (tgt := 60) dX4_kinds_51 (by decide) c10 ?_
        refine J_iconst (pc := 60) F dX4_kinds_60 ki_0 ?_
        refine J_sub [0, 1, 3] rfl ?_
        exact hJk9 ((0 : Int32), q8.2) hf
      · refine J_icmp_neF (pc := 51) F (tgt := 60) dX4_kinds_51 (by decide) c10 ?_
        refine J_iconst (pc := 54) F dX4_kinds_54 ki_1 ?_
        refine J_iload_n (pc := 55) F dX4_kinds_55 rfl 3 rfl ?_
        refine J_ishl (pc := 56) F dX4_kinds_56 ?_
        refine J_goto (pc := 57) F (tgt := 61) dX4_kinds_57 (by decide) ?_
        refine J_sub [0, 1, 3] rfl ?_
        exact hJk9 (((1 : Int32) <<< (b3.2.1 &&& 31)), q8.2) hf
  · refine J_if_neF (pc := 5) F (tgt := 10) dX4_kinds_5 (by decide) c2 ?_
    refine J_iconst (pc := 8) F dX4_kinds_8 ki_m1 ?_
    exact J_iret (pc := 9) F rfl dX4_kinds_9 hf
set_option maxHeartbeats 4000000 in
set_option maxRecDepth 100000 in
theorem c_X4_hail {l : Launch} {E : En} {ad : Nat → Nat} {G : Lay} {n : Nat} (hI : adI ad n) (ht : ModAt E ad G n) {a0 : Int32} {a1 : Int32} {a2 : Int32} {a3 : Int32} {σ : St} {res : Int32 × St} (hf : f_X4_hail a0 a1 a2 a3 σ = some res) : Ct l yX4_hail cX4_hail 11 (some .int) 3 E ad G n [.ref (ad 0), .int a0, .int a1, .int a2, .int a3] σ (some (.int res.1)) res.2 := by
  unfold f_X4_hail at hf
  refine J_start (own := RX4) (lv := [(0, .ref (ad 0)), (1, .int a0), (2, .int a1), (3, .int a2), (4, .int a3)]) pnX4 rfl hI (Nat.le_of_ble_eq_true rfl) rfl (fun p e s m args below meth c F => ?_)
  refine J_aload_n (pc := 0) F dX4_hail_0 rfl 0 rfl ?_
  refine J_iload_n (pc := 1) F dX4_hail_1 rfl 1 rfl ?_
  obtain ⟨q1, h1, hf⟩ := bind_elim hf
  refine J_callVI (pc := 2) F (c_X4_isOne hI ht h1) (by omega) (by decide) (modN ht) (ht.2.1 _) rfl wc_X4_isOne wd_752 rfl rfl (Nat.le_of_ble_eq_true rfl) dX4_hail_2 ?_
  rcases ite_elim hf with ⟨c2, hf⟩ | ⟨c2, hf⟩
  · refine J_if_eqT (pc := 5) F (tgt := 43) dX4_hail_5 (by decide) c2 ?_
    refine J_iconst (pc := 43) F dX4_hail_43 ki_m1 ?_
    exact J_iret (pc := 44) F rfl dX4_hail_44 hf
  · refine J_if_eqF (pc := 5) F (tgt := 43) dX4_hail_5 (by decide) c2 ?_
    refine J_iload_n (pc := 8) F dX4_hail_8 rfl 2 rfl ?_
    refine J_i2l (pc := 9) F dX4_hail_9 ?_
    refine J_lconst (pc := 10) F (v := 0) dX4_hail_10 (by decide +kernel) ?_
    refine J_ldc2 (pc := 11) F wd_723 dX4_hail_11 ?_
    obtain ⟨q3, h3, hf⟩ := bind_elim hf
    refine J_callSI (pc := 14) F (c_X4_in hI  h3) (by omega) (by decide) wc_X4_in wd_691 rfl rfl (Nat.le_of_ble_eq_true rfl) dX4_hail_14 ?_
    rcases ite_elim hf with ⟨c4, hf⟩ | ⟨c4, hf⟩
    · refine J_if_eqT (pc := 17) F (tgt := 43) dX4_hail_17 (by decide) c4 ?_
      refine J_iconst (pc := 43) F dX4_hail_43 ki_m1 ?_
      exact J_iret (pc := 44) F rfl dX4_hail_44 hf
    · refine J_if_eqF (pc := 17) F (tgt := 43) dX4_hail_17 (by decide) c4 ?_
      refine J_iload_n (pc := 20) F dX4_hail_20 rfl 3 rfl ?_
      refine J_i2l (pc := 21) F dX4_hail_21 ?_
      refine J_lconst (pc := 22) F (v := 0) dX4_hail_22 (by decide +kernel) ?_
      refine J_ldc2 (pc := 23) F wd_896 dX4_hail_23 ?_
      obtain ⟨q5, h5, hf⟩ := bind_elim hf
      refine J_callSI (pc := 26) F (c_X4_in hI  h5) (by omega) (by decide) wc_X4_in wd_691 rfl rfl (Nat.le_of_ble_eq_true rfl) dX4_hail_26 ?_
      rcases ite_elim hf with ⟨c6, hf⟩ | ⟨c6, hf⟩
      · refine J_if_eqT (pc := 29) F (tgt := 43) dX4_hail_29 (by decide) c6 ?_
        refine J_iconst (pc := 43) F dX4_hail_43 ki_m1 ?_
        exact J_iret (pc := 44) F rfl dX4_hail_44 hf
      · refine J_if_eqF (pc := 29) F (tgt := 43) dX4_hail_29 (by decide) c6 ?_
        refine J_iload (pc := 32) F dX4_hail_32 4 rfl ?_
        refine J_i2l (pc := 34) F dX4_hail_34 ?_
        refine J_lconst (pc := 35) F (v := 0) dX4_hail_35 (by decide +kernel) ?_
        refine J_lconst (pc := 36) F (v := 1) dX4_hail_36 (by decide +kernel) ?_
        obtain ⟨q7, h7, hf⟩ := bind_elim hf
        refine J_callSI (pc := 37) F (c_X4_in hI  h7) (by omega) (by decide) wc_X4_in wd_691 rfl rfl (Nat.le_of_ble_eq_true rfl) dX4_hail_37 ?_
        rcases ite_elim hf with ⟨c8, hf⟩ | ⟨c8, hf⟩
        · refine J_if_neT (pc := 40) F (tgt := 45) dX4_hail_40 (by decide) c8 ?_
          refine J_iconst (pc := 45) F dX4_hail_45 ki_0 ?_
          refine J_istore (pc := 46) F (lv' := [(5, .int (0 : Int32)), (0, .ref (ad 0)), (1, .int a0), (2, .int a1), (3, .int a2), (4, .int a3)]) dX4_hail_46 (by decide) rfl ?_
          refine J_iconst (pc := 48) F dX4_hail_48 ki_0 ?_
          refine J_istore (pc := 49) F (lv' := [(6, .int (0 : Int32)), (5, .int (0 : Int32)), (0, .ref (ad 0)), (1, .int a0), (2, .int a1), (3, .int a2), (4, .int a3)]) dX4_hail_49 (by decide) rfl ?_
          refine J_iconst (pc := 51) F dX4_hail_51 ki_0 ?_
          refine J_istore (pc := 52) F (lv' := [(7, .int (0 : Int32)), (6, .int (0 : Int32)), (5, .int (0 : Int32)), (0, .ref (ad 0)), (1, .int a0), (2, .int a1), (3, .int a2), (4, .int a3)]) dX4_hail_52 (by decide) rfl ?_
          refine J_sub [3, 4, 5, 6, 7, 2, 1, 0] rfl ?_
          refine lp_ind (P := fun (b9 : Int32 × Int32 × Int32 × St) => J p l e 3 s m args below meth c E ad G n (QI below E ad G n args s res) 11 b9.2.2.2 54 [(0, .ref (ad 0)), (1, .int a0), (2, .int a1), (3, .int a2), (4, .int a3), (5, .int b9.1), (6, .int b9.2.1), (7, .int b9.2.2.1)] []) (fun r9 ih9 b9 hf => ?_) FU ((0 : Int32), (0 : Int32), (0 : Int32), q7.2) hf
          show J p l e 3 s m args below meth c E ad G n (QI below E ad G n args s res) 11 b9.2.2.2 54 [(0, .ref (ad 0)), (1, .int a0), (2, .int a1), (3, .int a2), (4, .int a3), (5, .int b9.1), (6, .int b9.2.1), (7, .int b9.2.2.1)] []
          refine J_iload (pc := 54) F dX4_hail_54 7 rfl ?_
          refine J_iconst (pc := 56) F dX4_hail_56 ki_1 ?_
          refine J_iload_n (pc := 57) F dX4_hail_57 rfl 2 rfl ?_
          refine J_ishl (pc := 58) F dX4_hail_58 ?_
          rcases ite_elim hf with ⟨c10, hf⟩ | ⟨c10, hf⟩
          · refine J_icmp_geT (pc := 59) F (tgt := 168) dX4_hail_59 (by decide) c10 ?_
            refine J_iload (pc := 168) F dX4_hail_168 5 rfl ?_
            refine J_istore (pc := 170) F (lv' := [(7, .int b9.1), (0, .ref (ad 0)), (1, .int a0), (2, .int a1), (3, .int a2), (4, .int a3), (5, .int b9.1), (6, .int b9.2.1)]) dX4_hail_170 (by decide) rfl ?_
            refine J_iload (pc := 172) F dX4_hail_172 7 rfl ?_
            refine J_istore (pc := 174) F (lv' := [(8, .int b9.2.1), (7, .int b9.1), (0, .ref (ad 0)), (1, .int a0), (2, .int a1), (3, .int a2), (4, .int a3), (5, .int b9.1), (6, .int b9.2.1)]) dX4_hail_174 (by decide) rfl ?_
            refine J_sub [6, 7, 8, 1, 0] rfl ?_
            refine lp_ind (P := fun (b11 : Int32 × Int32 × St) => J p l e 3 s m args below meth c E ad G n (QI below E ad G n args s res) 11 b11.2.2 176 [(4, .int a3), (5, .int b9.1), (6, .int b9.2.1), (7, .int b11.1), (8, .int b11.2.1)] []) (fun r11 ih11 b11 hf => ?_) FU (b9.1, b9.2.1, b9.2.2.2) hf
            show J p l e 3 s m args below meth c E ad G n (QI below E ad G n args s res) 11 b11.2.2 176 [(4, .int a3), (5, .int b9.1), (6, .int b9.2.1), (7, .int b11.1), (8, .int b11.2.1)] []
            refine J_iload (pc := 176) F dX4_hail_176 4 rfl ?_
            rcases ite_elim hf with ⟨c12, hf⟩ | ⟨c12, hf⟩
            · refine J_if_eqT (pc := 178) F (tgt := 199) dX4_hail_178 (by decide) c12 ?_
              refine J_iload (pc := 199) F dX4_hail_199 0 rfl ?_
              rcases ite_elim hf with ⟨c13, hf⟩ | ⟨c13, hf⟩
              · refine J_if_neT (pc := 201) F (tgt := 212) dX4_hail_201 (by decide) c13 ?_
                refine J_iload (pc := 212) F dX4_hail_212 2 rfl ?_
                refine J_iload (pc := 214) F dX4_hail_214 3 rfl ?_
                obtain ⟨g14, hf⟩ := grd_elim hf
                refine J_idiv (pc := 216) F dX4_hail_216 g14 ?_
                exact J_iret (pc := 217) F rfl dX4_hail_217 hf
              · refine J_if_neF (pc := 201) F (tgt := 212) dX4_hail_201 (by decide) c13 ?_
                refine J_iload (pc := 204) F dX4_hail_204 1 rfl ?_
                refine J_iload (pc := 206) F dX4_hail_206 3 rfl ?_
                obtain ⟨g15, hf⟩ := grd_elim hf
                refine J_idiv (pc := 208) F dX4_hail_208 g15 ?_
                refine J_goto (pc := 209) F (tgt := 217) dX4_hail_209 (by decide) ?_
                exact J_iret (pc := 217) F rfl dX4_hail_217 hf
            · refine J_if_eqF (pc := 178) F (tgt := 199) dX4_hail_178 (by decide) c12 ?_
              refine J_iload (pc := 181) F dX4_hail_181 3 rfl ?_
              refine J_iload (pc := 183) F dX4_hail_183 4 rfl ?_
              obtain ⟨g16, hf⟩ := grd_elim hf
              refine J_irem (pc := 185) F dX4_hail_185 g16 ?_
              obtain ⟨x17, ex17, hf⟩ := nm_elim hf
              refine J_ti ex17 ?_
              refine J_istore (pc := 186) F (lv' := [(9, .int x17), (4, .int a3), (5, .int b9.1), (6, .int b9.2.1), (7, .int b11.1), (8, .int b11.2.1)]) dX4_hail_186 (by decide) rfl ?_
              refine J_iload (pc := 188) F dX4_hail_188 5 rfl ?_
              refine J_istore (pc := 190) F (lv' := [(7, .int b11.2.1), (9, .int x17), (4, .int a3), (5, .int b9.1), (6, .int b9.2.1), (8, .int b11.2.1)]) dX4_hail_190 (by decide) rfl ?_
              refine J_iload (pc := 192) F dX4_hail_192 1 rfl ?_
              refine J_istore (pc := 194) F (lv' := [(8, .int x17), (7, .int b11.2.1), (9, .int x17), (4, .int a3), (5, .int b9.1), (6, .int b9.2.1)]) dX4_hail_194 (by decide) rfl ?_
              refine J_goto (pc := 196) F (tgt := 176) dX4_hail_196 (by decide) ?_
              refine J_sub [3, 4, 5, 1, 0] rfl ?_
              exact ih11 (b11.2.1, x17, b11.2.2) hf
          · refine J_icmp_geF (pc := 59) F (tgt := 168) dX4_hail_59 (by decide) c10 ?_
            refine J_aload_n (pc := 62) F dX4_hail_62 rfl 0 rfl ?_
            refine J_iconst (pc := 63) F dX4_hail_63 ki_0 ?_
            refine J_sipush (pc := 64) F dX4_hail_64 ks_1001 ?_
            obtain ⟨q18, h18, hf⟩ := bind_elim hf
            refine J_callVU (pc := 67) F (c_X4_copies hI ht h18) (by omega) (by decide) (modN ht) (ht.2.1 _) rfl wc_X4_copies wd_614 rfl rfl (Nat.le_of_ble_eq_true rfl) dX4_hail_67 ?_
            refine J_iconst (pc := 70) F dX4_hail_70 ki_1 ?_
            refine J_istore (pc := 71) F (lv' := [(8, .int (1 : Int32)), (0, .ref (ad 0)), (1, .int a0), (2, .int a1), (3, .int a2), (4, .int a3), (5, .int b9.1), (6, .int b9.2.1), (7, .int b9.2.2.1)]) dX4_hail_71 (by decide) rfl ?_
            refine J_iconst (pc := 73) F dX4_hail_73 ki_0 ?_
            refine J_istore (pc := 74) F (lv' := [(9, .int (0 : Int32)), (8, .int (1 : Int32)), (0, .ref (ad 0)), (1, .int a0), (2, .int a1), (3, .int a2), (4, .int a3), (5, .int b9.1), (6, .int b9.2.1), (7, .int b9.2.2.1)]) dX4_hail_74 (by decide) rfl ?_
            refine J_sub [2, 3, 4, 5, 6, 7, 8, 9, 1, 0] rfl ?_
            refine lp_ind (P := fun (b19 : Int32 × Int32 × St) => J p l e 3 s m args below meth c E ad G n (QI below E ad G n args s res) 11 b19.2.2 76 [(0, .ref (ad 0)), (1, .int a0), (2, .int a1), (3, .int a2), (4, .int a3), (5, .int b9.1), (6, .int b9.2.1), (7, .int b9.2.2.1), (8, .int b19.1), (9, .int b19.2.1)] []) (fun r19 ih19 b19 hf => ?_) FU ((1 : Int32), (0 : Int32), q18.2) hf
            show J p l e 3 s m args below meth c E ad G n (QI below E ad G n args s res) 11 b19.2.2 76 [(0, .ref (ad 0)), (1, .int a0), (2, .int a1), (3, .int a2), (4, .int a3), (5, .int b9.1), (6, .int b9.2.1), (7, .int b9.2.2.1), (8, .int b19.1), (9, .int b19.2.1)] []
            refine J_iload (pc := 76) F dX4_hail_76 9 rfl ?_
            refine J_iload_n (pc := 78) F dX4_hail_78 rfl 2 rfl ?_
            rcases ite_elim hf with ⟨c20, hf⟩ | ⟨c20, hf⟩
            · refine J_icmp_geT (pc := 79) F (tgt := 133) dX4_hail_79 (by decide) c20 ?_
              refine J_iload (pc := 133) F dX4_hail_133 6 rfl ?_
              refine J_iload (pc := 135) F dX4_hail_135 8 rfl ?_
              refine J_iadd (pc := 137) F dX4_hail_137 ?_
              obtain ⟨x21, ex21, hf⟩ := nm_elim hf
              refine J_ti ex21 ?_
              refine J_istore (pc := 138) F (lv' := [(6, .int x21), (0, .ref (ad 0)), (1, .int a0), (2, .int a1), (3, .int a2), (4, .int a3), (5, .int b9.1), (7, .int b9.2.2.1), (8, .int b19.1), (9, .int b19.2.1)]) dX4_hail_138 (by decide) rfl ?_
              refine J_iload (pc := 140) F dX4_hail_140 6 rfl ?_
              refine J_aload_n (pc := 142) F dX4_hail_142 rfl 1 rfl ?_
              refine J_sipush (pc := 143) F dX4_hail_143 ks_1001 ?_
              refine J_iload_n (pc := 146) F dX4_hail_146 rfl 2 rfl ?_
              obtain ⟨q22, h22, hf⟩ := bind_elim hf
              refine J_callVI (pc := 147) F (c_X4_isSpeaker hI ht h22) (by omega) (by decide) (modN ht) (ht.2.1 _) rfl wc_X4_isSpeaker wd_769 rfl rfl (Nat.le_of_ble_eq_true rfl) dX4_hail_147 ?_
              obtain ⟨k23, hk23, hf⟩ := jn_elim hf
              have hJk23 : ∀ (q23 : Int32 × St), k23 q23 = some res → J p l e 3 s m args below meth c E ad G n (QI below E ad G n args s res) 11 q23.2 159 [(0, .ref (ad 0)), (1, .int a0), (2, .int a1), (3, .int a2), (4, .int a3), (6, .int x21), (7, .int b9.2.2.1)] [.int q23.1, .int b9.1] := by
                intro q23 hf
                replace hf := hk23 q23 hf
                refine J_iadd (pc := 159) F dX4_hail_159 ?_
                obtain ⟨x25, ex25, hf⟩ := nm_elim hf
                refine J_ti ex25 ?_
                refine J_istore (pc := 160) F (lv' := [(5, .int x25), (0, .ref (ad 0)), (1, .int a0), (2, .int a1), (3, .int a2), (4, .int a3), (6, .int x21), (7, .int b9.2.2.1)]) dX4_hail_160 (by decide) rfl ?_
                obtain ⟨x26, ex26, hf⟩ := nm_elim hf
                refine J_iinc (pc := 162) F (lv' := [(7, .int x26), (5, .int x25), (0, .ref (ad 0)), (1, .int a0), (2, .int a1), (3, .int a2), (4, .int a3), (6, .int x21)]) dX4_hail_162 7 rfl (ex26.trans (congrArg _ ki_1.symm)) (by decide) rfl ?_
                refine J_goto (pc := 165) F (tgt := 54) dX4_hail_165 (by decide) ?_
                refine J_sub [2, 3, 4, 5, 6, 1, 7, 0] rfl ?_
                exact ih9 (x25, x21, x26, q23.2) hf
              clear hk23
              rcases ite_elim hf with ⟨c24, hf⟩ | ⟨c24, hf⟩
              · refine J_if_eqT (pc := 150) F (tgt := 158) dX4_hail_150 (by decide) c24 ?_
                refine J_iconst (pc := 158) F dX4_hail_158 ki_0 ?_
                refine J_sub [1, 2, 3, 4, 5, 0, 7] rfl ?_
                exact hJk23 ((0 : Int32), q22.2) hf
              · refine J_if_eqF (pc := 150) F (tgt := 158) dX4_hail_150 (by decide) c24 ?_
                refine J_iload (pc := 153) F dX4_hail_153 8 rfl ?_
                refine J_goto (pc := 155) F (tgt := 159) dX4_hail_155 (by decide) ?_
                refine J_sub [1, 2, 3, 4, 5, 0, 7] rfl ?_
                exact hJk23 (b19.1, q22.2) hf
            · refine J_icmp_geF (pc := 79) F (tgt := 133) dX4_hail_79 (by decide) c20 ?_
              refine J_iload (pc := 82) F dX4_hail_82 7 rfl ?_
              refine J_iload (pc := 84) F dX4_hail_84 9 rfl ?_
              refine J_ishr (pc := 86) F dX4_hail_86 ?_
              refine J_iconst (pc := 87) F dX4_hail_87 ki_1 ?_
              refine J_iand (pc := 88) F dX4_hail_88 ?_
              refine J_iconst (pc := 89) F dX4_hail_89 ki_1 ?_
              obtain ⟨k27, hk27, hf⟩ := jn_elim hf
              have hJk27 : ∀ (q27 : Int32 × St), k27 q27 = some res → J p l e 3 s m args below meth c E ad G n (QI below E ad G n args s res) 11 q27.2 98 [(0, .ref (ad 0)), (1, .int a0), (2, .int a1), (3, .int a2), (4, .int a3), (5, .int b9.1), (6, .int b9.2.1), (7, .int b9.2.2.1), (8, .int b19.1), (9, .int b19.2.1)] [.int q27.1] := by
                intro q27 hf
                replace hf := hk27 q27 hf
                refine J_istore (pc := 98) F (lv' := [(10, .int q27.1), (0, .ref (ad 0)), (1, .int a0), (2, .int a1), (3, .int a2), (4, .int a3), (5, .int b9.1), (6, .int b9.2.1), (7, .int b9.2.2.1), (8, .int b19.1), (9, .int b19.2.1)]) dX4_hail_98 (by decide) rfl ?_
                refine J_iload (pc := 100) F dX4_hail_100 9 rfl ?_
                refine J_iload (pc := 102) F dX4_hail_102 0 rfl ?_
                obtain ⟨k29, hk29, hf⟩ := jn_elim hf
                have hJk29 : ∀ (q29 : Int32 × St), k29 q29 = some res → J p l e 3 s m args below meth c E ad G n (QI below E ad G n args s res) 11 q29.2 115 [(0, .ref (ad 0)), (1, .int a0), (2, .int a1), (3, .int a2), (4, .int a3), (5, .int b9.1), (6, .int b9.2.1), (7, .int b9.2.2.1), (9, .int b19.2.1), (10, .int q27.1)] [.int q29.1, .int b19.1] := by
                  intro q29 hf
                  replace hf := hk29 q29 hf
                  refine J_imul (pc := 115) F dX4_hail_115 ?_
                  obtain ⟨x31, ex31, hf⟩ := nm_elim hf
                  refine J_ti ex31 ?_
                  refine J_istore (pc := 116) F (lv' := [(8, .int x31), (0, .ref (ad 0)), (1, .int a0), (2, .int a1), (3, .int a2), (4, .int a3), (5, .int b9.1), (6, .int b9.2.1), (7, .int b9.2.2.1), (9, .int b19.2.1), (10, .int q27.1)]) dX4_hail_116 (by decide) rfl ?_
                  refine J_aload_n (pc := 118) F dX4_hail_118 rfl 1 rfl ?_
                  refine J_sipush (pc := 119) F dX4_hail_119 ks_1001 ?_
                  refine J_iload (pc := 122) F dX4_hail_122 10 rfl ?_
                  obtain ⟨q32, h32, hf⟩ := bind_elim hf
                  refine J_callVU (pc := 124) F (c_X4_goesOn hI ht h32) (by omega) (by decide) (modN ht) (ht.2.1 _) rfl wc_X4_goesOn wd_809 rfl rfl (Nat.le_of_ble_eq_true rfl) dX4_hail_124 ?_
                  obtain ⟨x33, ex33, hf⟩ := nm_elim hf
                  refine J_iinc (pc := 127) F (lv' := [(9, .int x33), (8, .int x31), (0, .ref (ad 0)), (1, .int a0), (2, .int a1), (3, .int a2), (4, .int a3), (5, .int b9.1), (6, .int b9.2.1), (7, .int b9.2.2.1), (10, .int q27.1)]) dX4_hail_127 9 rfl (ex33.trans (congrArg _ ki_1.symm)) (by decide) rfl ?_
                  refine J_goto (pc := 130) F (tgt := 76) dX4_hail_130 (by decide) ?_
                  refine J_sub [2, 3, 4, 5, 6, 7, 8, 9, 1, 0] rfl ?_
                  exact ih19 (x31, x33, q32.2) hf
                clear hk29
                rcases ite_elim hf with ⟨c30, hf⟩ | ⟨c30, hf⟩
                · refine J_if_eqT (pc := 104) F (tgt := 111) dX4_hail_104 (by decide) c30 ?_
                  refine J_bipush (pc := 111) F dX4_hail_111 kb_10 ?_
                  refine J_iload_n (pc := 113) F dX4_hail_113 rfl 4 rfl ?_
                  refine J_isub (pc := 114) F dX4_hail_114 ?_
                  refine J_sub [1, 2, 3, 4, 5, 6, 7, 8, 10, 0] rfl ?_
                  exact hJk29 (((10 : Int32) - a2), q27.2) hf
                · refine J_if_eqF (pc := 104) F (tgt := 111) dX4_hail_104 (by decide) c30 ?_
                  refine J_iload_n (pc := 107) F dX4_hail_107 rfl 4 rfl ?_
                  refine J_goto (pc := 108) F (tgt := 115) dX4_hail_108 (by decide) ?_
                  refine J_sub [1, 2, 3, 4, 5, 6, 7, 8, 10, 0] rfl ?_
                  exact hJk29 (a2, q27.2) hf
              clear hk27
              rcases ite_elim hf with ⟨c28, hf⟩ | ⟨c28, hf⟩
              · refine J_icmp_neT (pc := 90) F (tgt := 97) dX4_hail_90 (by decide) c28 ?_
                refine J_iconst (pc := 97) F dX4_hail_97 ki_0 ?_
                exact hJk27 ((0 : Int32), b19.2.2) hf
              · refine J_icmp_neF (pc := 90) F (tgt := 97) dX4_hail_90 (by decide) c28 ?_
                refine J_iconst (pc := 93) F dX4_hail_93 ki_1 ?_
                refine J_goto (pc := 94) F (tgt := 98) dX4_hail_94 (by decide) ?_
                exact hJk27 ((1 : Int32), b19.2.2) hf
        · refine J_if_neF (pc := 40) F (tgt := 45) dX4_hail_40 (by decide) c8 ?_
          refine J_iconst (pc := 43) F dX4_hail_43 ki_m1 ?_
          exact J_iret (pc := 44) F rfl dX4_hail_44 hf
