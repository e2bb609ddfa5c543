set_option maxHeartbeats 4000000 in
set_option maxRecDepth 100000 in
theorem c_X4_does {l : Launch} {E : En} {ad : Nat → Nat} {G : Lay} {n : Nat} (hI : adI ad n) (ht : ModAt E ad G n) {a0 : Int32} {a1 : Int32} {σ : St} {res : Unit × St} (hf : f_X4_does a0 a1 σ = some res) : Ct l yX4_does cX4_does 7 none 2 E ad G n [.ref (ad 0), .int a0, .int a1] σ none res.2 := by
  unfold f_X4_does at hf
  refine J_start (own := RX4) (lv := [(0, .ref (ad 0)), (1, .int a0), (2, .int a1)]) pnX4 rfl hI (Nat.le_of_ble_eq_true rfl) rfl (fun p e s m args below meth c F => ?_)
  refine J_iload_n (pc := 0) F dX4_does_0 rfl 2 rfl ?_
  refine J_bipush (pc := 1) F dX4_does_1 kb_8 ?_
  refine J_irem (pc := 3) F dX4_does_3 (by decide +kernel) ?_
  obtain ⟨x1, ex1, hf⟩ := nm_elim hf
  refine J_ti ex1 ?_
  refine J_istore_n (pc := 4) F (lv' := [(3, .int x1), (0, .ref (ad 0)), (1, .int a0), (2, .int a1)]) dX4_does_4 rfl (by decide) rfl ?_
  refine J_iload_n (pc := 5) F dX4_does_5 rfl 3 rfl ?_
  refine J_bipush (pc := 6) F dX4_does_6 kb_8 ?_
  refine J_idiv (pc := 8) F dX4_does_8 (by decide +kernel) ?_
  refine J_aload_n (pc := 9) F dX4_does_9 rfl 1 rfl ?_
  refine gfX4_many (pc := 10) F ht wd_620 dX4_does_10 ?_
  obtain ⟨g2, hf⟩ := grd_elim hf
  refine J_irem (pc := 13) F dX4_does_13 g2 ?_
  obtain ⟨x3, ex3, hf⟩ := nm_elim hf
  refine J_ti ex3 ?_
  refine J_istore (pc := 14) F (lv' := [(4, .int x3), (3, .int x1), (0, .ref (ad 0)), (1, .int a0), (2, .int a1)]) dX4_does_14 (by decide) rfl ?_
  refine J_iload_n (pc := 16) F dX4_does_16 rfl 4 rfl ?_
  refine J_bipush (pc := 17) F dX4_does_17 kb_64 ?_
  refine J_idiv (pc := 19) F dX4_does_19 (by decide +kernel) ?_
  refine J_aload_n (pc := 20) F dX4_does_20 rfl 2 rfl ?_
  refine gfX4_words (pc := 21) F ht wd_618 dX4_does_21 ?_
  obtain ⟨g4, hf⟩ := grd_elim hf
  refine J_irem (pc := 24) F dX4_does_24 g4 ?_
  obtain ⟨x5, ex5, hf⟩ := nm_elim hf
  refine J_ti ex5 ?_
  refine J_istore (pc := 25) F (lv' := [(5, .int x5), (4, .int x3), (3, .int x1), (0, .ref (ad 0)), (1, .int a0), (2, .int a1)]) dX4_does_25 (by decide) rfl ?_
  refine J_iload_n (pc := 27) F dX4_does_27 rfl 5 rfl ?_
  refine J_bipush (pc := 28) F dX4_does_28 kb_64 ?_
  refine J_idiv (pc := 30) F dX4_does_30 (by decide +kernel) ?_
  refine J_aload_n (pc := 31) F dX4_does_31 rfl 3 rfl ?_
  refine gfX4_many (pc := 32) F ht wd_620 dX4_does_32 ?_
  obtain ⟨g6, hf⟩ := grd_elim hf
  refine J_irem (pc := 35) F dX4_does_35 g6 ?_
  obtain ⟨x7, ex7, hf⟩ := nm_elim hf
  refine J_ti ex7 ?_
  refine J_istore (pc := 36) F (lv' := [(6, .int x7), (5, .int x5), (4, .int x3), (3, .int x1), (0, .ref (ad 0)), (1, .int a0), (2, .int a1)]) dX4_does_36 (by decide) rfl ?_
  refine J_iload_n (pc := 38) F dX4_does_38 rfl 3 rfl ?_
  refine J_iconst (pc := 39) F dX4_does_39 ki_4 ?_
  rcases ite_elim hf with ⟨c8, hf⟩ | ⟨c8, hf⟩
  · refine J_icmp_geT (pc := 40) F (tgt := 55) dX4_does_40 (by decide) c8 ?_
    refine J_iload_n (pc := 55) F dX4_does_55 rfl 3 rfl ?_
    refine J_iconst (pc := 56) F dX4_does_56 ki_4 ?_
    obtain ⟨k9, hk9, hf⟩ := jn_elim hf
    have hJk9 : ∀ (q9 : St), k9 q9 = some res → J p l e 2 s m args below meth c E ad G n (QU below E ad G n args s res) 7 q9 91 [(0, .ref (ad 0)), (1, .int a0), (3, .int x1), (4, .int x3), (6, .int x7)] [] := by
      intro q9 hf
      replace hf := hk9 q9 hf
      refine J_iload_n (pc := 91) F dX4_does_91 rfl 2 rfl ?_
      refine J_iconst (pc := 92) F dX4_does_92 ki_5 ?_
      rcases ite_elim hf with ⟨c15, hf⟩ | ⟨c15, hf⟩
      · refine J_icmp_neT (pc := 93) F (tgt := 112) dX4_does_93 (by decide) c15 ?_
        exact J_vret (pc := 112) F dX4_does_112 hf
      · refine J_icmp_neF (pc := 93) F (tgt := 112) dX4_does_93 (by decide) c15 ?_
        refine J_iload (pc := 96) F dX4_does_96 3 rfl ?_
        refine J_iload (pc := 98) F dX4_does_98 4 rfl ?_
        rcases ite_elim hf with ⟨c16, hf⟩ | ⟨c16, hf⟩
        · refine J_icmp_eqT (pc := 100) F (tgt := 112) dX4_does_100 (by decide) c16 ?_
          exact J_vret (pc := 112) F dX4_does_112 hf
        · refine J_icmp_eqF (pc := 100) F (tgt := 112) dX4_does_100 (by decide) c16 ?_
          refine J_aload_n (pc := 103) F dX4_does_103 rfl 0 rfl ?_
          refine J_iload_n (pc := 104) F dX4_does_104 rfl 1 rfl ?_
          refine J_iload (pc := 105) F dX4_does_105 3 rfl ?_
          refine J_iload (pc := 107) F dX4_does_107 4 rfl ?_
          obtain ⟨q17, h17, hf⟩ := bind_elim hf
          refine J_callVU (pc := 109) F (c_X4_swaps hI ht h17) (by omega) (by decide) (modN ht) (ht.2.1 _) rfl wc_X4_swaps wd_837 rfl rfl (Nat.le_of_ble_eq_true rfl) dX4_does_109 ?_
          exact J_vret (pc := 112) F dX4_does_112 hf
    clear hk9
    rcases ite_elim hf with ⟨c10, hf⟩ | ⟨c10, hf⟩
    · refine J_icmp_neT (pc := 57) F (tgt := 91) dX4_does_57 (by decide) c10 ?_
      refine J_sub [4, 5, 3, 2, 0] rfl ?_
      exact hJk9 σ hf
    · refine J_icmp_neF (pc := 57) F (tgt := 91) dX4_does_57 (by decide) c10 ?_
      refine J_aload_n (pc := 60) F dX4_does_60 rfl 4 rfl ?_
      refine J_iload_n (pc := 61) F dX4_does_61 rfl 5 rfl ?_
      refine J_iload (pc := 62) F dX4_does_62 2 rfl ?_
      refine J_iload (pc := 64) F dX4_does_64 1 rfl ?_
      obtain ⟨q11, h11, hf⟩ := bind_elim hf
      refine J_callVI (pc := 66) F (c_X4_canMend hI ht h11) (by omega) (by decide) (modN ht) (ht.2.1 _) rfl wc_X4_canMend wd_829 rfl rfl (Nat.le_of_ble_eq_true rfl) dX4_does_66 ?_
      rcases ite_elim hf with ⟨c12, hf⟩ | ⟨c12, hf⟩
      · refine J_if_eqT (pc := 69) F (tgt := 91) dX4_does_69 (by decide) c12 ?_
        refine J_sub [4, 5, 3, 2, 0] rfl ?_
        exact hJk9 q11.2 hf
      · refine J_if_eqF (pc := 69) F (tgt := 91) dX4_does_69 (by decide) c12 ?_
        refine J_aload_n (pc := 72) F dX4_does_72 rfl 4 rfl ?_
        refine J_iload_n (pc := 73) F dX4_does_73 rfl 5 rfl ?_
        refine J_iload (pc := 74) F dX4_does_74 2 rfl ?_
        refine J_iload (pc := 76) F dX4_does_76 1 rfl ?_
        refine J_aload_n (pc := 78) F dX4_does_78 rfl 4 rfl ?_
        refine gfX4_sounds (pc := 79) F ht wd_619 dX4_does_79 ?_
        refine J_iload (pc := 82) F dX4_does_82 1 rfl ?_
        obtain ⟨g13, hf⟩ := grd_elim hf
        refine J_iald (pc := 84) F ht.2.2.1 g13 dX4_does_84 ?_
        obtain ⟨q14, h14, hf⟩ := bind_elim hf
        refine J_callVU (pc := 85) F (c_X4_gets hI ht h14) (by omega) (by decide) (modN ht) (ht.2.1 _) rfl wc_X4_gets wd_796 rfl rfl (Nat.le_of_ble_eq_true rfl) dX4_does_85 ?_
        refine J_goto (pc := 88) F (tgt := 112) dX4_does_88 (by decide) ?_
        exact J_vret (pc := 112) F dX4_does_112 hf
  · refine J_icmp_geF (pc := 40) F (tgt := 55) dX4_does_40 (by decide) c8 ?_
    refine J_aload_n (pc := 43) F dX4_does_43 rfl 4 rfl ?_
    refine J_iload_n (pc := 44) F dX4_does_44 rfl 5 rfl ?_
    refine J_iload (pc := 45) F dX4_does_45 2 rfl ?_
    refine J_iload (pc := 47) F dX4_does_47 1 rfl ?_
    obtain ⟨q18, h18, hf⟩ := bind_elim hf
    refine J_callVU (pc := 49) F (c_X4_learns hI ht h18) (by omega) (by decide) (modN ht) (ht.2.1 _) rfl wc_X4_learns wd_788 rfl rfl (Nat.le_of_ble_eq_true rfl) dX4_does_49 ?_
    refine J_goto (pc := 52) F (tgt := 112) dX4_does_52 (by decide) ?_
    exact J_vret (pc := 112) F dX4_does_112 hf
set_option maxHeartbeats 4000000 in
set_option maxRecDepth 100000 in
theorem c_X4_year {l : Launch} {E : En} {ad : Nat → Nat} {G : Lay} {n : Nat} (hI : adI ad n) (ht : ModAt E ad G n) {a0 : Int32} {a1 : Int32} {a2 : Int32} {σ : St} {res : Int32 × St} (hf : f_X4_year a0 a1 a2 σ = some res) : Ct l yX4_year cX4_year 7 (some .int) 4 E ad G n [.ref (ad 0), .int a0, .int a1, .int a2] σ (some (.int res.1)) res.2 := by
  unfold f_X4_year at hf
  refine J_start (own := RX4) (lv := [(0, .ref (ad 0)), (1, .int a0), (2, .int a1), (3, .int a2)]) pnX4 rfl hI (Nat.le_of_ble_eq_true rfl) rfl (fun p e s m args below meth c F => ?_)
  refine J_iload_n (pc := 0) F dX4_year_0 rfl 1 rfl ?_
  refine J_i2l (pc := 1) F dX4_year_1 ?_
  refine J_lconst (pc := 2) F (v := 0) dX4_year_2 (by decide +kernel) ?_
  refine J_ldc2 (pc := 3) F wd_922 dX4_year_3 ?_
  obtain ⟨q1, h1, hf⟩ := bind_elim hf
  refine J_callSI (pc := 6) F (c_X4_in hI  h1) (by omega) (by decide) wc_X4_in wd_691 rfl rfl (Nat.le_of_ble_eq_true rfl) dX4_year_6 ?_
  rcases ite_elim hf with ⟨c2, hf⟩ | ⟨c2, hf⟩
  · refine J_if_eqT (pc := 9) F (tgt := 34) dX4_year_9 (by decide) c2 ?_
    refine J_iconst (pc := 34) F dX4_year_34 ki_m1 ?_
    exact J_iret (pc := 35) F rfl dX4_year_35 hf
  · refine J_if_eqF (pc := 9) F (tgt := 34) dX4_year_9 (by decide) c2 ?_
    refine J_iload_n (pc := 12) F dX4_year_12 rfl 2 rfl ?_
    refine J_i2l (pc := 13) F dX4_year_13 ?_
    refine J_lconst (pc := 14) F (v := 1) dX4_year_14 (by decide +kernel) ?_
    refine J_ldc2 (pc := 15) F wd_923 dX4_year_15 ?_
    obtain ⟨q3, h3, hf⟩ := bind_elim hf
    refine J_callSI (pc := 18) F (c_X4_in hI  h3) (by omega) (by decide) wc_X4_in wd_691 rfl rfl (Nat.le_of_ble_eq_true rfl) dX4_year_18 ?_
    rcases ite_elim hf with ⟨c4, hf⟩ | ⟨c4, hf⟩
    · refine J_if_eqT (pc := 21) F (tgt := 34) dX4_year_21 (by decide) c4 ?_
      refine J_iconst (pc := 34) F dX4_year_34 ki_m1 ?_
      exact J_iret (pc := 35) F rfl dX4_year_35 hf
    · refine J_if_eqF (pc := 21) F (tgt := 34) dX4_year_21 (by decide) c4 ?_
      refine J_iload_n (pc := 24) F dX4_year_24 rfl 3 rfl ?_
      refine J_i2l (pc := 25) F dX4_year_25 ?_
      refine J_lconst (pc := 26) F (v := 0) dX4_year_26 (by decide +kernel) ?_
      refine J_lconst (pc := 27) F (v := 1) dX4_year_27 (by decide +kernel) ?_
      obtain ⟨q5, h5, hf⟩ := bind_elim hf
      refine J_callSI (pc := 28) F (c_X4_in hI  h5) (by omega) (by decide) wc_X4_in wd_691 rfl rfl (Nat.le_of_ble_eq_true rfl) dX4_year_28 ?_
      rcases ite_elim hf with ⟨c6, hf⟩ | ⟨c6, hf⟩
      · refine J_if_neT (pc := 31) F (tgt := 36) dX4_year_31 (by decide) c6 ?_
        refine J_aload_n (pc := 36) F dX4_year_36 rfl 0 rfl ?_
        refine J_iconst (pc := 37) F dX4_year_37 ki_0 ?_
        refine J_sipush (pc := 38) F dX4_year_38 ks_1001 ?_
        obtain ⟨q7, h7, hf⟩ := bind_elim hf
        refine J_callVU (pc := 41) F (c_X4_copies hI ht h7) (by omega) (by decide) (modN ht) (ht.2.1 _) rfl wc_X4_copies wd_614 rfl rfl (Nat.le_of_ble_eq_true rfl) dX4_year_41 ?_
        refine J_iconst (pc := 44) F dX4_year_44 ki_0 ?_
        refine J_istore (pc := 45) F (lv' := [(4, .int (0 : Int32)), (0, .ref (ad 0)), (1, .int a0), (2, .int a1), (3, .int a2)]) dX4_year_45 (by decide) rfl ?_
        refine J_sub [1, 2, 3, 4, 0] rfl ?_
        refine lp_ind (P := fun (b8 : Int32 × St) => J p l e 4 s m args below meth c E ad G n (QI below E ad G n args s res) 7 b8.2 47 [(0, .ref (ad 0)), (1, .int a0), (2, .int a1), (3, .int a2), (4, .int b8.1)] []) (fun r8 ih8 b8 hf => ?_) FU ((0 : Int32), q7.2) hf
        show J p l e 4 s m args below meth c E ad G n (QI below E ad G n args s res) 7 b8.2 47 [(0, .ref (ad 0)), (1, .int a0), (2, .int a1), (3, .int a2), (4, .int b8.1)] []
        refine J_iload (pc := 47) F dX4_year_47 4 rfl ?_
        refine J_iload_n (pc := 49) F dX4_year_49 rfl 2 rfl ?_
        rcases ite_elim hf with ⟨c9, hf⟩ | ⟨c9, hf⟩
        · refine J_icmp_geT (pc := 50) F (tgt := 102) dX4_year_50 (by decide) c9 ?_
          refine J_iload_n (pc := 102) F dX4_year_102 rfl 3 rfl ?_
          rcases ite_elim hf with ⟨c10, hf⟩ | ⟨c10, hf⟩
          · refine J_if_neT (pc := 103) F (tgt := 116) dX4_year_103 (by decide) c10 ?_
            refine J_aload_n (pc := 116) F dX4_year_116 rfl 0 rfl ?_
            refine J_sipush (pc := 117) F dX4_year_117 ks_1001 ?_
            obtain ⟨q11, h11, hf⟩ := bind_elim hf
            refine J_callVI (pc := 120) F (c_X4_rights hI ht h11) (by omega) (by decide) (modN ht) (ht.2.1 _) rfl wc_X4_rights wd_868 rfl rfl (Nat.le_of_ble_eq_true rfl) dX4_year_120 ?_
            exact J_iret (pc := 123) F rfl dX4_year_123 hf
          · refine J_if_neF (pc := 103) F (tgt := 116) dX4_year_103 (by decide) c10 ?_
            refine J_aload_n (pc := 106) F dX4_year_106 rfl 0 rfl ?_
            refine J_sipush (pc := 107) F dX4_year_107 ks_1001 ?_
            obtain ⟨q12, h12, hf⟩ := bind_elim hf
            refine J_callVI (pc := 110) F (c_X4_speakers hI ht h12) (by omega) (by decide) (modN ht) (ht.2.1 _) rfl wc_X4_speakers wd_821 rfl rfl (Nat.le_of_ble_eq_true rfl) dX4_year_110 ?_
            refine J_goto (pc := 113) F (tgt := 123) dX4_year_113 (by decide) ?_
            exact J_iret (pc := 123) F rfl dX4_year_123 hf
        · refine J_icmp_geF (pc := 50) F (tgt := 102) dX4_year_50 (by decide) c9 ?_
          refine J_ldc2 (pc := 53) F wd_924 dX4_year_53 ?_
          refine J_iload_n (pc := 56) F dX4_year_56 rfl 1 rfl ?_
          refine J_i2l (pc := 57) F dX4_year_57 ?_
          refine J_lmul (pc := 58) F dX4_year_58 ?_
          refine J_ldc2 (pc := 59) F wd_925 dX4_year_59 ?_
          refine J_iload (pc := 62) F dX4_year_62 4 rfl ?_
          refine J_i2l (pc := 64) F dX4_year_64 ?_
          refine J_lmul (pc := 65) F dX4_year_65 ?_
          refine J_ladd (pc := 66) F dX4_year_66 ?_
          refine J_lconst (pc := 67) F (v := 1) dX4_year_67 (by decide +kernel) ?_
          refine J_ladd (pc := 68) F dX4_year_68 ?_
          obtain ⟨x13, ex13, hf⟩ := nm_elim hf
          refine J_tl ex13 ?_
          refine J_lstore (pc := 69) F (lv' := [(5, .long x13), (0, .ref (ad 0)), (1, .int a0), (2, .int a1), (3, .int a2), (4, .int b8.1)]) dX4_year_69 (by decide) rfl ?_
          refine J_aload_n (pc := 71) F dX4_year_71 rfl 1 rfl ?_
          refine J_sipush (pc := 72) F dX4_year_72 ks_1001 ?_
          refine J_lload (pc := 75) F dX4_year_75 0 rfl ?_
          refine J_lload (pc := 77) F dX4_year_77 0 rfl ?_
          refine J_lmul (pc := 79) F dX4_year_79 ?_
          refine J_ldc2 (pc := 80) F wd_926 dX4_year_80 ?_
          refine J_lrem (pc := 83) F dX4_year_83 (by decide +kernel) ?_
          refine J_l2i (pc := 84) F dX4_year_84 ?_
          obtain ⟨q14, h14, hf⟩ := bind_elim hf
          refine J_callVU (pc := 85) F (c_X4_does hI ht h14) (by omega) (by decide) (modN ht) (ht.2.1 _) rfl wc_X4_does wd_927 rfl rfl (Nat.le_of_ble_eq_true rfl) dX4_year_85 ?_
          refine J_aload_n (pc := 88) F dX4_year_88 rfl 1 rfl ?_
          refine J_sipush (pc := 89) F dX4_year_89 ks_1001 ?_
          refine J_iconst (pc := 92) F dX4_year_92 ki_0 ?_
          obtain ⟨q15, h15, hf⟩ := bind_elim hf
          refine J_callVU (pc := 93) F (c_X4_goesOn hI ht h15) (by omega) (by decide) (modN ht) (ht.2.1 _) rfl wc_X4_goesOn wd_809 rfl rfl (Nat.le_of_ble_eq_true rfl) dX4_year_93 ?_
          obtain ⟨x16, ex16, hf⟩ := nm_elim hf
          refine J_iinc (pc := 96) F (lv' := [(4, .int x16), (5, .long x13), (0, .ref (ad 0)), (1, .int a0), (2, .int a1), (3, .int a2)]) dX4_year_96 5 rfl (ex16.trans (congrArg _ ki_1.symm)) (by decide) rfl ?_
          refine J_goto (pc := 99) F (tgt := 47) dX4_year_99 (by decide) ?_
          refine J_sub [2, 3, 4, 5, 0] rfl ?_
          exact ih8 (x16, q15.2) hf
      · refine J_if_neF (pc := 31) F (tgt := 36) dX4_year_31 (by decide) c6 ?_
        refine J_iconst (pc := 34) F dX4_year_34 ki_m1 ?_
        exact J_iret (pc := 35) F rfl dX4_year_35 hf
set_option maxHeartbeats 4000000 in
set_option maxRecDepth 100000 in
theorem c_X4_keep {l : Launch} {E : En} {ad : Nat → Nat} {G : Lay} {n : Nat} (hI : adI ad n) (ht : ModAt E ad G n) {σ : St} {res : Int32 × St} (hf : f_X4_keep  σ = some res) : Ct l yX4_keep cX4_keep 1 (some .int) 1 E ad G n [.ref (ad 0)] σ (some (.int res.1)) res.2 := by
  unfold f_X4_keep at hf
  refine J_start (own := RX4) (lv := [(0, .ref (ad 0))]) pnX4 rfl hI (Nat.le_of_ble_eq_true rfl) rfl (fun p e s m args below meth c F => ?_)
  refine J_aload_n (pc := 0) F dX4_keep_0 rfl 0 rfl ?_
  refine gfX4_keeps (pc := 1) F ht wd_628 dX4_keep_1 ?_
  refine J_iconst (pc := 4) F dX4_keep_4 ki_2 ?_
  rcases ite_elim hf with ⟨c1, hf⟩ | ⟨c1, hf⟩
  · refine J_icmp_neT (pc := 5) F (tgt := 11) dX4_keep_5 (by decide) c1 ?_
    refine J_aload_n (pc := 11) F dX4_keep_11 rfl 0 rfl ?_
    refine J_iconst (pc := 12) F dX4_keep_12 ki_0 ?_
    refine J_bipush (pc := 13) F dX4_keep_13 kb_9 ?_
    refine J_aload_n (pc := 15) F dX4_keep_15 rfl 0 rfl ?_
    refine gfX4_keeps (pc := 16) F ht wd_628 dX4_keep_16 ?_
    refine J_iadd (pc := 19) F dX4_keep_19 ?_
    refine J_bipush (pc := 20) F dX4_keep_20 kb_91 ?_
    refine J_imul (pc := 22) F dX4_keep_22 ?_
    obtain ⟨q2, h2, hf⟩ := bind_elim hf
    refine J_callVU (pc := 23) F (c_X4_copies hI ht h2) (by omega) (by decide) (modN ht) (ht.2.1 _) rfl wc_X4_copies wd_614 rfl rfl (Nat.le_of_ble_eq_true rfl) dX4_keep_23 ?_
    refine J_aload_n (pc := 26) F dX4_keep_26 rfl 0 rfl ?_
    refine J_dup (pc := 27) F dX4_keep_27 rfl ?_
    refine gfX4_keeps (pc := 28) F ht wd_628 dX4_keep_28 ?_
    refine J_iconst (pc := 31) F dX4_keep_31 ki_1 ?_
    refine J_iadd (pc := 32) F dX4_keep_32 ?_
    obtain ⟨σ3, eσ3, hf⟩ := nm_elim hf
    refine pfX4_keeps (pc := 33) F ht wd_628 dX4_keep_33 eσ3 ?_
    refine J_aload_n (pc := 36) F dX4_keep_36 rfl 0 rfl ?_
    refine gfX4_keeps (pc := 37) F ht wd_628 dX4_keep_37 ?_
    exact J_iret (pc := 40) F rfl dX4_keep_40 hf
  · refine J_icmp_neF (pc := 5) F (tgt := 11) dX4_keep_5 (by decide) c1 ?_
    refine J_bipush (pc := 8) F dX4_keep_8 kb_m3 ?_
    exact J_iret (pc := 10) F rfl dX4_keep_10 hf
set_option maxHeartbeats 4000000 in
set_option maxRecDepth 100000 in
theorem c_X4_back {l : Launch} {E : En} {ad : Nat → Nat} {G : Lay} {n : Nat} (hI : adI ad n) (ht : ModAt E ad G n) {σ : St} {res : Int32 × St} (hf : f_X4_back  σ = some res) : Ct l yX4_back cX4_back 1 (some .int) 1 E ad G n [.ref (ad 0)] σ (some (.int res.1)) res.2 := by
  unfold f_X4_back at hf
  refine J_start (own := RX4) (lv := [(0, .ref (ad 0))]) pnX4 rfl hI (Nat.le_of_ble_eq_true rfl) rfl (fun p e s m args below meth c F => ?_)
  refine J_aload_n (pc := 0) F dX4_back_0 rfl 0 rfl ?_
  refine gfX4_keeps (pc := 1) F ht wd_628 dX4_back_1 ?_
  rcases ite_elim hf with ⟨c1, hf⟩ | ⟨c1, hf⟩
  · refine J_if_neT (pc := 4) F (tgt := 10) dX4_back_4 (by decide) c1 ?_
    refine J_aload_n (pc := 10) F dX4_back_10 rfl 0 rfl ?_
    refine J_dup (pc := 11) F dX4_back_11 rfl ?_
    refine gfX4_keeps (pc := 12) F ht wd_628 dX4_back_12 ?_
    refine J_iconst (pc := 15) F dX4_back_15 ki_1 ?_
    refine J_isub (pc := 16) F dX4_back_16 ?_
    obtain ⟨σ2, eσ2, hf⟩ := nm_elim hf
    refine pfX4_keeps (pc := 17) F ht wd_628 dX4_back_17 eσ2 ?_
    refine J_aload_n (pc := 20) F dX4_back_20 rfl 0 rfl ?_
    refine J_bipush (pc := 21) F dX4_back_21 kb_9 ?_
    refine J_aload_n (pc := 23) F dX4_back_23 rfl 0 rfl ?_
    refine gfX4_keeps (pc := 24) F ht wd_628 dX4_back_24 ?_
    refine J_iadd (pc := 27) F dX4_back_27 ?_
    refine J_bipush (pc := 28) F dX4_back_28 kb_91 ?_
    refine J_imul (pc := 30) F dX4_back_30 ?_
    refine J_iconst (pc := 31) F dX4_back_31 ki_0 ?_
    obtain ⟨q3, h3, hf⟩ := bind_elim hf
    refine J_callVU (pc := 32) F (c_X4_copies hI ht h3) (by omega) (by decide) (modN ht) (ht.2.1 _) rfl wc_X4_copies wd_614 rfl rfl (Nat.le_of_ble_eq_true rfl) dX4_back_32 ?_
    refine J_aload_n (pc := 35) F dX4_back_35 rfl 0 rfl ?_
    refine J_iconst (pc := 36) F dX4_back_36 ki_0 ?_
    obtain ⟨σ4, eσ4, hf⟩ := nm_elim hf
    refine pfX4_acts (pc := 37) F ht wd_627 dX4_back_37 eσ4 ?_
    refine J_aload_n (pc := 40) F dX4_back_40 rfl 0 rfl ?_
    refine gfX4_keeps (pc := 41) F ht wd_628 dX4_back_41 ?_
    exact J_iret (pc := 44) F rfl dX4_back_44 hf
  · refine J_if_neF (pc := 4) F (tgt := 10) dX4_back_4 (by decide) c1 ?_
    refine J_bipush (pc := 7) F dX4_back_7 kb_m2 ?_
    exact J_iret (pc := 9) F rfl dX4_back_9 hf
set_option maxHeartbeats 4000000 in
set_option maxRecDepth 100000 in
theorem c_X4_allHad {l : Launch} {E : En} {ad : Nat → Nat} {G : Lay} {n : Nat} (hI : adI ad n) (ht : ModAt E ad G n) {σ : St} {res : Int32 × St} (hf : f_X4_allHad  σ = some res) : Ct l yX4_allHad cX4_allHad 3 (some .int) 2 E ad G n [.ref (ad 0)] σ (some (.int res.1)) res.2 := by
  unfold f_X4_allHad at hf
  refine J_start (own := RX4) (lv := [(0, .ref (ad 0))]) pnX4 rfl hI (Nat.le_of_ble_eq_true rfl) rfl (fun p e s m args below meth c F => ?_)
  refine J_iconst (pc := 0) F dX4_allHad_0 ki_0 ?_
  refine J_istore_n (pc := 1) F (lv' := [(1, .int (0 : Int32)), (0, .ref (ad 0))]) dX4_allHad_1 rfl (by decide) rfl ?_
  refine J_iconst (pc := 2) F dX4_allHad_2 ki_0 ?_
  refine J_istore_n (pc := 3) F (lv' := [(2, .int (0 : Int32)), (1, .int (0 : Int32)), (0, .ref (ad 0))]) dX4_allHad_3 rfl (by decide) rfl ?_
  refine J_sub [2, 1, 0] rfl ?_
  refine lp_ind (P := fun (b1 : Int32 × Int32 × St) => J p l e 2 s m args below meth c E ad G n (QI below E ad G n args s res) 3 b1.2.2 4 [(0, .ref (ad 0)), (1, .int b1.1), (2, .int b1.2.1)] []) (fun r1 ih1 b1 hf => ?_) FU ((0 : Int32), (0 : Int32), σ) hf
  show J p l e 2 s m args below meth c E ad G n (QI below E ad G n args s res) 3 b1.2.2 4 [(0, .ref (ad 0)), (1, .int b1.1), (2, .int b1.2.1)] []
  refine J_iload_n (pc := 4) F dX4_allHad_4 rfl 2 rfl ?_
  refine J_aload_n (pc := 5) F dX4_allHad_5 rfl 0 rfl ?_
  refine gfX4_many (pc := 6) F ht wd_620 dX4_allHad_6 ?_
  rcases ite_elim hf with ⟨c2, hf⟩ | ⟨c2, hf⟩
  · refine J_icmp_geT (pc := 9) F (tgt := 30) dX4_allHad_9 (by decide) c2 ?_
    refine J_iload_n (pc := 30) F dX4_allHad_30 rfl 1 rfl ?_
    exact J_iret (pc := 31) F rfl dX4_allHad_31 hf
  · refine J_icmp_geF (pc := 9) F (tgt := 30) dX4_allHad_9 (by decide) c2 ?_
    refine J_iload_n (pc := 12) F dX4_allHad_12 rfl 1 rfl ?_
    refine J_aload_n (pc := 13) F dX4_allHad_13 rfl 0 rfl ?_
    refine J_iconst (pc := 14) F dX4_allHad_14 ki_0 ?_
    refine J_iload_n (pc := 15) F dX4_allHad_15 rfl 2 rfl ?_
    obtain ⟨q3, h3, hf⟩ := bind_elim hf
    refine J_callVI (pc := 16) F (c_X4_had hI ht h3) (by omega) (by decide) (modN ht) (ht.2.1 _) rfl wc_X4_had wd_757 rfl rfl (Nat.le_of_ble_eq_true rfl) dX4_allHad_16 ?_
    obtain ⟨q4, h4, hf⟩ := bind_elim hf
    refine J_callSI (pc := 19) F (c_X4_bits hI  h4) (by omega) (by decide) wc_X4_bits wd_773 rfl rfl (Nat.le_of_ble_eq_true rfl) dX4_allHad_19 ?_
    refine J_iadd (pc := 22) F dX4_allHad_22 ?_
    obtain ⟨x5, ex5, hf⟩ := nm_elim hf
    refine J_ti ex5 ?_
    refine J_istore_n (pc := 23) F (lv' := [(1, .int x5), (0, .ref (ad 0)), (2, .int b1.2.1)]) dX4_allHad_23 rfl (by decide) rfl ?_
    obtain ⟨x6, ex6, hf⟩ := nm_elim hf
    refine J_iinc (pc := 24) F (lv' := [(2, .int x6), (1, .int x5), (0, .ref (ad 0))]) dX4_allHad_24 2 rfl (ex6.trans (congrArg _ ki_1.symm)) (by decide) rfl ?_
    refine J_goto (pc := 27) F (tgt := 4) dX4_allHad_27 (by decide) ?_
    refine J_sub [2, 1, 0] rfl ?_
    exact ih1 (x5, x6, q4.2) hf
set_option maxHeartbeats 4000000 in
set_option maxRecDepth 100000 in
theorem c_X4_count {l : Launch} {E : En} {ad : Nat → Nat} {G : Lay} {n : Nat} (hI : adI ad n) (ht : ModAt E ad G n) {a0 : Int32} {σ : St} {res : Int32 × St} (hf : f_X4_count a0 σ = some res) : Ct l yX4_count cX4_count 2 (some .int) 4 E ad G n [.ref (ad 0), .int a0] σ (some (.int res.1)) res.2 := by
  unfold f_X4_count at hf
  refine J_start (own := RX4) (lv := [(0, .ref (ad 0)), (1, .int a0)]) pnX4 rfl hI (Nat.le_of_ble_eq_true rfl) rfl (fun p e s m args below meth c F => ?_)
  refine J_iload_n (pc := 0) F dX4_count_0 rfl 1 rfl ?_
  rcases ite_elim hf with ⟨c1, hf⟩ | ⟨c1, hf⟩
  · refine J_if_neT (pc := 1) F (tgt := 11) dX4_count_1 (by decide) c1 ?_
    refine J_iload_n (pc := 11) F dX4_count_11 rfl 1 rfl ?_
    refine J_iconst (pc := 12) F dX4_count_12 ki_1 ?_
    rcases ite_elim hf with ⟨c2, hf⟩ | ⟨c2, hf⟩
    · refine J_icmp_neT (pc := 13) F (tgt := 23) dX4_count_13 (by decide) c2 ?_
      refine J_iload_n (pc := 23) F dX4_count_23 rfl 1 rfl ?_
      refine J_iconst (pc := 24) F dX4_count_24 ki_2 ?_
      rcases ite_elim hf with ⟨c3, hf⟩ | ⟨c3, hf⟩
      · refine J_icmp_neT (pc := 25) F (tgt := 35) dX4_count_25 (by decide) c3 ?_
        refine J_iload_n (pc := 35) F dX4_count_35 rfl 1 rfl ?_
        refine J_iconst (pc := 36) F dX4_count_36 ki_3 ?_
        rcases ite_elim hf with ⟨c4, hf⟩ | ⟨c4, hf⟩
        · refine J_icmp_neT (pc := 37) F (tgt := 50) dX4_count_37 (by decide) c4 ?_
          refine J_iload_n (pc := 50) F dX4_count_50 rfl 1 rfl ?_
          refine J_iconst (pc := 51) F dX4_count_51 ki_4 ?_
          rcases ite_elim hf with ⟨c5, hf⟩ | ⟨c5, hf⟩
          · refine J_icmp_neT (pc := 52) F (tgt := 63) dX4_count_52 (by decide) c5 ?_
            refine J_iload_n (pc := 63) F dX4_count_63 rfl 1 rfl ?_
            refine J_iconst (pc := 64) F dX4_count_64 ki_5 ?_
            rcases ite_elim hf with ⟨c6, hf⟩ | ⟨c6, hf⟩
            · refine J_icmp_neT (pc := 65) F (tgt := 76) dX4_count_65 (by decide) c6 ?_
              refine J_iload_n (pc := 76) F dX4_count_76 rfl 1 rfl ?_
              refine J_bipush (pc := 77) F dX4_count_77 kb_6 ?_
              rcases ite_elim hf with ⟨c7, hf⟩ | ⟨c7, hf⟩
              · refine J_icmp_neT (pc := 79) F (tgt := 89) dX4_count_79 (by decide) c7 ?_
                refine J_iload_n (pc := 89) F dX4_count_89 rfl 1 rfl ?_
                refine J_bipush (pc := 90) F dX4_count_90 kb_7 ?_
                rcases ite_elim hf with ⟨c8, hf⟩ | ⟨c8, hf⟩
                · refine J_icmp_neT (pc := 92) F (tgt := 102) dX4_count_92 (by decide) c8 ?_
                  refine J_iload_n (pc := 102) F dX4_count_102 rfl 1 rfl ?_
                  refine J_bipush (pc := 103) F dX4_count_103 kb_8 ?_
                  rcases ite_elim hf with ⟨c9, hf⟩ | ⟨c9, hf⟩
                  · refine J_icmp_neT (pc := 105) F (tgt := 115) dX4_count_105 (by decide) c9 ?_
                    refine J_iload_n (pc := 115) F dX4_count_115 rfl 1 rfl ?_
                    refine J_bipush (pc := 116) F dX4_count_116 kb_9 ?_
                    rcases ite_elim hf with ⟨c10, hf⟩ | ⟨c10, hf⟩
                    · refine J_icmp_neT (pc := 118) F (tgt := 128) dX4_count_118 (by decide) c10 ?_
                      refine J_iload_n (pc := 128) F dX4_count_128 rfl 1 rfl ?_
                      refine J_bipush (pc := 129) F dX4_count_129 kb_10 ?_
                      rcases ite_elim hf with ⟨c11, hf⟩ | ⟨c11, hf⟩
                      · refine J_icmp_neT (pc := 131) F (tgt := 141) dX4_count_131 (by decide) c11 ?_
                        refine J_iconst (pc := 141) F dX4_count_141 ki_m1 ?_
                        exact J_iret (pc := 142) F rfl dX4_count_142 hf
                      · refine J_icmp_neF (pc := 131) F (tgt := 141) dX4_count_131 (by decide) c11 ?_
                        refine J_aload_n (pc := 134) F dX4_count_134 rfl 0 rfl ?_
                        refine gfX4_length (pc := 135) F ht wd_629 dX4_count_135 ?_
                        refine J_goto (pc := 138) F (tgt := 142) dX4_count_138 (by decide) ?_
                        exact J_iret (pc := 142) F rfl dX4_count_142 hf
                    · refine J_icmp_neF (pc := 118) F (tgt := 128) dX4_count_118 (by decide) c10 ?_
                      refine J_aload_n (pc := 121) F dX4_count_121 rfl 0 rfl ?_
                      refine gfX4_keeps (pc := 122) F ht wd_628 dX4_count_122 ?_
                      refine J_goto (pc := 125) F (tgt := 142) dX4_count_125 (by decide) ?_
                      exact J_iret (pc := 142) F rfl dX4_count_142 hf
                  · refine J_icmp_neF (pc := 105) F (tgt := 115) dX4_count_105 (by decide) c9 ?_
                    refine J_aload_n (pc := 108) F dX4_count_108 rfl 0 rfl ?_
                    refine gfX4_acts (pc := 109) F ht wd_627 dX4_count_109 ?_
                    refine J_goto (pc := 112) F (tgt := 142) dX4_count_112 (by decide) ?_
                    exact J_iret (pc := 142) F rfl dX4_count_142 hf
                · refine J_icmp_neF (pc := 92) F (tgt := 102) dX4_count_92 (by decide) c8 ?_
                  refine J_aload_n (pc := 95) F dX4_count_95 rfl 0 rfl ?_
                  refine gfX4_heards (pc := 96) F ht wd_634 dX4_count_96 ?_
                  refine J_goto (pc := 99) F (tgt := 142) dX4_count_99 (by decide) ?_
                  exact J_iret (pc := 142) F rfl dX4_count_142 hf
              · refine J_icmp_neF (pc := 79) F (tgt := 89) dX4_count_79 (by decide) c7 ?_
                refine J_aload_n (pc := 82) F dX4_count_82 rfl 0 rfl ?_
                obtain ⟨q12, h12, hf⟩ := bind_elim hf
                refine J_callVI (pc := 83) F (c_X4_allHad hI ht h12) (by omega) (by decide) (modN ht) (ht.2.1 _) rfl wc_X4_allHad wd_943 rfl rfl (Nat.le_of_ble_eq_true rfl) dX4_count_83 ?_
                refine J_goto (pc := 86) F (tgt := 142) dX4_count_86 (by decide) ?_
                exact J_iret (pc := 142) F rfl dX4_count_142 hf
            · refine J_icmp_neF (pc := 65) F (tgt := 76) dX4_count_65 (by decide) c6 ?_
              refine J_aload_n (pc := 68) F dX4_count_68 rfl 0 rfl ?_
              refine J_iconst (pc := 69) F dX4_count_69 ki_0 ?_
              obtain ⟨q13, h13, hf⟩ := bind_elim hf
              refine J_callVI (pc := 70) F (c_X4_rights hI ht h13) (by omega) (by decide) (modN ht) (ht.2.1 _) rfl wc_X4_rights wd_868 rfl rfl (Nat.le_of_ble_eq_true rfl) dX4_count_70 ?_
              refine J_goto (pc := 73) F (tgt := 142) dX4_count_73 (by decide) ?_
              exact J_iret (pc := 142) F rfl dX4_count_142 hf
          · refine J_icmp_neF (pc := 52) F (tgt := 63) dX4_count_52 (by decide) c5 ?_
            refine J_aload_n (pc := 55) F dX4_count_55 rfl 0 rfl ?_
            refine J_iconst (pc := 56) F dX4_count_56 ki_0 ?_
            obtain ⟨q14, h14, hf⟩ := bind_elim hf
            refine J_callVI (pc := 57) F (c_X4_speakers hI ht h14) (by omega) (by decide) (modN ht) (ht.2.1 _) rfl wc_X4_speakers wd_821 rfl rfl (Nat.le_of_ble_eq_true rfl) dX4_count_57 ?_
            refine J_goto (pc := 60) F (tgt := 142) dX4_count_60 (by decide) ?_
            exact J_iret (pc := 142) F rfl dX4_count_142 hf
        · refine J_icmp_neF (pc := 37) F (tgt := 50) dX4_count_37 (by decide) c4 ?_
          refine J_aload_n (pc := 40) F dX4_count_40 rfl 0 rfl ?_
          refine gfX4_slot (pc := 41) F ht wd_626 dX4_count_41 ?_
          refine J_bipush (pc := 44) F dX4_count_44 kb_90 ?_
          obtain ⟨g15, hf⟩ := grd_elim hf
          refine J_iald (pc := 46) F ht.2.2.2.2.1 g15 dX4_count_46 ?_
          refine J_goto (pc := 47) F (tgt := 142) dX4_count_47 (by decide) ?_
          exact J_iret (pc := 142) F rfl dX4_count_142 hf
      · refine J_icmp_neF (pc := 25) F (tgt := 35) dX4_count_25 (by decide) c3 ?_
        refine J_aload_n (pc := 28) F dX4_count_28 rfl 0 rfl ?_
        refine gfX4_enough (pc := 29) F ht wd_621 dX4_count_29 ?_
        refine J_goto (pc := 32) F (tgt := 142) dX4_count_32 (by decide) ?_
        exact J_iret (pc := 142) F rfl dX4_count_142 hf
    · refine J_icmp_neF (pc := 13) F (tgt := 23) dX4_count_13 (by decide) c2 ?_
      refine J_aload_n (pc := 16) F dX4_count_16 rfl 0 rfl ?_
      refine gfX4_many (pc := 17) F ht wd_620 dX4_count_17 ?_
      refine J_goto (pc := 20) F (tgt := 142) dX4_count_20 (by decide) ?_
      exact J_iret (pc := 142) F rfl dX4_count_142 hf
  · refine J_if_neF (pc := 1) F (tgt := 11) dX4_count_1 (by decide) c1 ?_
    refine J_aload_n (pc := 4) F dX4_count_4 rfl 0 rfl ?_
    refine gfX4_words (pc := 5) F ht wd_618 dX4_count_5 ?_
    refine J_goto (pc := 8) F (tgt := 142) dX4_count_8 (by decide) ?_
    exact J_iret (pc := 142) F rfl dX4_count_142 hf
