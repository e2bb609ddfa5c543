set_option maxHeartbeats 4000000 in
set_option maxRecDepth 100000 in
theorem c_X3_draw {l : Launch} {E : En} {ad : Nat → Nat} {G : Lay} {n : Nat} (hI : adI ad n) {a0 : Int32} {a1 : Int32} {σ : St} {res : Int32 × St} (hf : f_X3_draw a0 a1 σ = some res) : Ct l yX3_draw cX3_draw 4 (some .int) 0 E ad G n [.int a0, .int a1] σ (some (.int res.1)) res.2 := by
  unfold f_X3_draw at hf
  refine J_start (own := RX3) (lv := [(0, .int a0), (1, .int a1)]) pnX3 rfl hI (Nat.le_of_ble_eq_true rfl) rfl (fun p e s m args below meth c F => ?_)
  refine J_ldc2 (pc := 0) F wd_566 dX3_draw_0 ?_
  refine J_iload_n (pc := 3) F dX3_draw_3 rfl 0 rfl ?_
  refine J_i2l (pc := 4) F dX3_draw_4 ?_
  refine J_lmul (pc := 5) F dX3_draw_5 ?_
  refine J_ldc2 (pc := 6) F wd_567 dX3_draw_6 ?_
  refine J_iload_n (pc := 9) F dX3_draw_9 rfl 1 rfl ?_
  refine J_i2l (pc := 10) F dX3_draw_10 ?_
  refine J_lmul (pc := 11) F dX3_draw_11 ?_
  refine J_ladd (pc := 12) F dX3_draw_12 ?_
  refine J_lconst (pc := 13) F (v := 1) dX3_draw_13 (by decide +kernel) ?_
  refine J_ladd (pc := 14) F dX3_draw_14 ?_
  obtain ⟨x1, ex1, hf⟩ := nm_elim hf
  refine J_tl ex1 ?_
  refine J_lstore_n (pc := 15) F (lv' := [(2, .long x1), (0, .int a0), (1, .int a1)]) dX3_draw_15 rfl (by decide) rfl ?_
  refine J_lload_n (pc := 16) F dX3_draw_16 rfl 0 rfl ?_
  refine J_lload_n (pc := 17) F dX3_draw_17 rfl 0 rfl ?_
  refine J_lmul (pc := 18) F dX3_draw_18 ?_
  refine J_ldc2 (pc := 19) F wd_568 dX3_draw_19 ?_
  refine J_lrem (pc := 22) F dX3_draw_22 (by decide +kernel) ?_
  refine J_l2i (pc := 23) F dX3_draw_23 ?_
  exact J_iret (pc := 24) F rfl dX3_draw_24 hf
set_option maxHeartbeats 4000000 in
set_option maxRecDepth 100000 in
theorem c_X3_year {l : Launch} {E : En} {ad : Nat → Nat} {G : Lay} {n : Nat} (hI : adI ad n) (ht : RooAt E ad G n) {a0 : Int32} {a1 : Int32} {a2 : Int32} {σ : St} {res : Int32 × St} (hf : f_X3_year a0 a1 a2 σ = some res) : Ct l yX3_year cX3_year 5 (some .int) 4 E ad G n [.ref (ad 208), .int a0, .int a1, .int a2] σ (some (.int res.1)) res.2 := by
  unfold f_X3_year at hf
  refine J_start (own := RX3) (lv := [(0, .ref (ad 208)), (1, .int a0), (2, .int a1), (3, .int a2)]) pnX3 rfl hI (Nat.le_of_ble_eq_true rfl) rfl (fun p e s m args below meth c F => ?_)
  refine J_iload_n (pc := 0) F dX3_year_0 rfl 1 rfl ?_
  rcases ite_elim hf with ⟨c1, hf⟩ | ⟨c1, hf⟩
  · refine J_if_ltT (pc := 1) F (tgt := 31) dX3_year_1 (by decide) c1 ?_
    refine J_iconst (pc := 31) F dX3_year_31 ki_m1 ?_
    exact J_iret (pc := 32) F rfl dX3_year_32 hf
  · refine J_if_ltF (pc := 1) F (tgt := 31) dX3_year_1 (by decide) c1 ?_
    refine J_iload_n (pc := 4) F dX3_year_4 rfl 1 rfl ?_
    refine J_sipush (pc := 5) F dX3_year_5 ks_9999 ?_
    rcases ite_elim hf with ⟨c2, hf⟩ | ⟨c2, hf⟩
    · refine J_icmp_gtT (pc := 8) F (tgt := 31) dX3_year_8 (by decide) c2 ?_
      refine J_iconst (pc := 31) F dX3_year_31 ki_m1 ?_
      exact J_iret (pc := 32) F rfl dX3_year_32 hf
    · refine J_icmp_gtF (pc := 8) F (tgt := 31) dX3_year_8 (by decide) c2 ?_
      refine J_iload_n (pc := 11) F dX3_year_11 rfl 2 rfl ?_
      refine J_iconst (pc := 12) F dX3_year_12 ki_1 ?_
      rcases ite_elim hf with ⟨c3, hf⟩ | ⟨c3, hf⟩
      · refine J_icmp_ltT (pc := 13) F (tgt := 31) dX3_year_13 (by decide) c3 ?_
        refine J_iconst (pc := 31) F dX3_year_31 ki_m1 ?_
        exact J_iret (pc := 32) F rfl dX3_year_32 hf
      · refine J_icmp_ltF (pc := 13) F (tgt := 31) dX3_year_13 (by decide) c3 ?_
        refine J_iload_n (pc := 16) F dX3_year_16 rfl 2 rfl ?_
        refine J_bipush (pc := 17) F dX3_year_17 kb_60 ?_
        rcases ite_elim hf with ⟨c4, hf⟩ | ⟨c4, hf⟩
        · refine J_icmp_gtT (pc := 19) F (tgt := 31) dX3_year_19 (by decide) c4 ?_
          refine J_iconst (pc := 31) F dX3_year_31 ki_m1 ?_
          exact J_iret (pc := 32) F rfl dX3_year_32 hf
        · refine J_icmp_gtF (pc := 19) F (tgt := 31) dX3_year_19 (by decide) c4 ?_
          refine J_iload_n (pc := 22) F dX3_year_22 rfl 3 rfl ?_
          rcases ite_elim hf with ⟨c5, hf⟩ | ⟨c5, hf⟩
          · refine J_if_ltT (pc := 23) F (tgt := 31) dX3_year_23 (by decide) c5 ?_
            refine J_iconst (pc := 31) F dX3_year_31 ki_m1 ?_
            exact J_iret (pc := 32) F rfl dX3_year_32 hf
          · refine J_if_ltF (pc := 23) F (tgt := 31) dX3_year_23 (by decide) c5 ?_
            refine J_iload_n (pc := 26) F dX3_year_26 rfl 3 rfl ?_
            refine J_iconst (pc := 27) F dX3_year_27 ki_1 ?_
            rcases ite_elim hf with ⟨c6, hf⟩ | ⟨c6, hf⟩
            · refine J_icmp_leT (pc := 28) F (tgt := 33) dX3_year_28 (by decide) c6 ?_
              refine J_aload_n (pc := 33) F dX3_year_33 rfl 0 rfl ?_
              refine gfX3_trial (pc := 34) F ht wd_239 dX3_year_34 ?_
              refine J_aload_n (pc := 37) F dX3_year_37 rfl 0 rfl ?_
              refine gfX3_now (pc := 38) F ht wd_237 dX3_year_38 ?_
              obtain ⟨q7, h7, hf⟩ := bind_elim hf
              refine J_callVU (pc := 41) F (c_X1_copy hI ht.2.2.2.2.2.1 (optTab ht.2.2.2.1) h7) (by omega) (by decide) (tabN ht.2.2.2.2.2.1) (ht.2.2.2.2.2.1.2.1 _) rfl wc_X1_copy wd_290 rfl rfl (Nat.le_of_ble_eq_true rfl) dX3_year_41 ?_
              refine J_iconst (pc := 44) F dX3_year_44 ki_0 ?_
              refine J_istore (pc := 45) F (lv' := [(4, .int (0 : Int32)), (0, .ref (ad 208)), (1, .int a0), (2, .int a1), (3, .int a2)]) dX3_year_45 (by decide) rfl ?_
              refine J_sub [1, 2, 3, 4, 0] rfl ?_
              refine lp_ind (P := fun (b8 : Int32 × St) => J p l e 4 s m args below meth c E ad G n (QI below E ad G n args s res) 5 b8.2 47 [(0, .ref (ad 208)), (1, .int a0), (2, .int a1), (3, .int a2), (4, .int b8.1)] []) (fun r8 ih8 b8 hf => ?_) FU ((0 : Int32), q7.2) hf
              show J p l e 4 s m args below meth c E ad G n (QI below E ad G n args s res) 5 b8.2 47 [(0, .ref (ad 208)), (1, .int a0), (2, .int a1), (3, .int a2), (4, .int b8.1)] []
              refine J_iload (pc := 47) F dX3_year_47 4 rfl ?_
              refine J_iload_n (pc := 49) F dX3_year_49 rfl 2 rfl ?_
              rcases ite_elim hf with ⟨c9, hf⟩ | ⟨c9, hf⟩
              · refine J_icmp_geT (pc := 50) F (tgt := 80) dX3_year_50 (by decide) c9 ?_
                refine J_iload_n (pc := 80) F dX3_year_80 rfl 3 rfl ?_
                rcases ite_elim hf with ⟨c10, hf⟩ | ⟨c10, hf⟩
                · refine J_if_neT (pc := 81) F (tgt := 94) dX3_year_81 (by decide) c10 ?_
                  refine J_aload_n (pc := 94) F dX3_year_94 rfl 0 rfl ?_
                  refine gfX3_trial (pc := 95) F ht wd_239 dX3_year_95 ?_
                  obtain ⟨q11, h11, hf⟩ := bind_elim hf
                  refine J_callVI (pc := 98) F (c_X1_allRight hI ht.2.2.2.2.2.1 h11) (by omega) (by decide) (tabN ht.2.2.2.2.2.1) (ht.2.2.2.2.2.1.2.1 _) rfl wc_X1_allRight wd_475 rfl rfl (Nat.le_of_ble_eq_true rfl) dX3_year_98 ?_
                  exact J_iret (pc := 101) F rfl dX3_year_101 hf
                · refine J_if_neF (pc := 81) F (tgt := 94) dX3_year_81 (by decide) c10 ?_
                  refine J_aload_n (pc := 84) F dX3_year_84 rfl 0 rfl ?_
                  refine gfX3_trial (pc := 85) F ht wd_239 dX3_year_85 ?_
                  obtain ⟨q12, h12, hf⟩ := bind_elim hf
                  refine J_callVI (pc := 88) F (c_X1_speakers hI ht.2.2.2.2.2.1 h12) (by omega) (by decide) (tabN ht.2.2.2.2.2.1) (ht.2.2.2.2.2.1.2.1 _) rfl wc_X1_speakers wd_409 rfl rfl (Nat.le_of_ble_eq_true rfl) dX3_year_88 ?_
                  refine J_goto (pc := 91) F (tgt := 101) dX3_year_91 (by decide) ?_
                  exact J_iret (pc := 101) F rfl dX3_year_101 hf
              · refine J_icmp_geF (pc := 50) F (tgt := 80) dX3_year_50 (by decide) c9 ?_
                refine J_aload_n (pc := 53) F dX3_year_53 rfl 0 rfl ?_
                refine gfX3_trial (pc := 54) F ht wd_239 dX3_year_54 ?_
                refine J_iload_n (pc := 57) F dX3_year_57 rfl 1 rfl ?_
                refine J_iload (pc := 58) F dX3_year_58 4 rfl ?_
                obtain ⟨q13, h13, hf⟩ := bind_elim hf
                refine J_callSI (pc := 60) F (c_X3_draw hI  h13) (by omega) (by decide) wc_X3_draw wd_563 rfl rfl (Nat.le_of_ble_eq_true rfl) dX3_year_60 ?_
                obtain ⟨q14, h14, hf⟩ := bind_elim hf
                refine J_callVU (pc := 63) F (c_X1_befall hI ht.2.2.2.2.2.1 h14) (by omega) (by decide) (tabN ht.2.2.2.2.2.1) (ht.2.2.2.2.2.1.2.1 _) rfl wc_X1_befall wd_569 rfl rfl (Nat.le_of_ble_eq_true rfl) dX3_year_63 ?_
                refine J_aload_n (pc := 66) F dX3_year_66 rfl 0 rfl ?_
                refine gfX3_trial (pc := 67) F ht wd_239 dX3_year_67 ?_
                refine J_iconst (pc := 70) F dX3_year_70 ki_1 ?_
                obtain ⟨q15, h15, hf⟩ := bind_elim hf
                refine J_callVU (pc := 71) F (c_X1_spendDay hI ht.2.2.2.2.2.1 h15) (by omega) (by decide) (tabN ht.2.2.2.2.2.1) (ht.2.2.2.2.2.1.2.1 _) rfl wc_X1_spendDay wd_455 rfl rfl (Nat.le_of_ble_eq_true rfl) dX3_year_71 ?_
                obtain ⟨x16, ex16, hf⟩ := nm_elim hf
                refine J_iinc (pc := 74) F (lv' := [(4, .int x16), (0, .ref (ad 208)), (1, .int a0), (2, .int a1), (3, .int a2)]) dX3_year_74 4 rfl (ex16.trans (congrArg _ ki_1.symm)) (by decide) rfl ?_
                refine J_goto (pc := 77) F (tgt := 47) dX3_year_77 (by decide) ?_
                refine J_sub [1, 2, 3, 4, 0] rfl ?_
                exact ih8 (x16, q15.2) hf
            · refine J_icmp_leF (pc := 28) F (tgt := 33) dX3_year_28 (by decide) c6 ?_
              refine J_iconst (pc := 31) F dX3_year_31 ki_m1 ?_
              exact J_iret (pc := 32) F rfl dX3_year_32 hf
set_option maxHeartbeats 4000000 in
set_option maxRecDepth 100000 in
theorem c_X3_keep {l : Launch} {E : En} {ad : Nat → Nat} {G : Lay} {n : Nat} (hI : adI ad n) (ht : RooAt E ad G n) {σ : St} {res : Int32 × St} (hf : f_X3_keep  σ = some res) : Ct l yX3_keep cX3_keep 1 (some .int) 5 E ad G n [.ref (ad 208)] σ (some (.int res.1)) res.2 := by
  unfold f_X3_keep at hf
  refine J_start (own := RX3) (lv := [(0, .ref (ad 208))]) pnX3 rfl hI (Nat.le_of_ble_eq_true rfl) rfl (fun p e s m args below meth c F => ?_)
  refine J_aload_n (pc := 0) F dX3_keep_0 rfl 0 rfl ?_
  refine gfX3_keeps (pc := 1) F ht wd_247 dX3_keep_1 ?_
  refine J_iconst (pc := 4) F dX3_keep_4 ki_2 ?_
  rcases ite_elim hf with ⟨c1, hf⟩ | ⟨c1, hf⟩
  · refine J_icmp_ltT (pc := 5) F (tgt := 11) dX3_keep_5 (by decide) c1 ?_
    refine J_aload_n (pc := 11) F dX3_keep_11 rfl 0 rfl ?_
    refine J_aload_n (pc := 12) F dX3_keep_12 rfl 0 rfl ?_
    refine gfX3_stored (pc := 13) F ht wd_242 dX3_keep_13 ?_
    refine J_aload_n (pc := 16) F dX3_keep_16 rfl 0 rfl ?_
    refine gfX3_keeps (pc := 17) F ht wd_247 dX3_keep_17 ?_
    obtain ⟨q2, h2, hf⟩ := bind_elim hf
    refine J_callSR (pc := 20) F (c_X3_tableAt hI ht.2.2.2.2.2.2.2.2.1 h2) (by omega) (by decide) wc_X3_tableAt wd_358 rfl rfl (Nat.le_of_ble_eq_true rfl) dX3_keep_20 ?_
    obtain ⟨q3, h3, hf⟩ := bind_elim hf
    refine J_callVU (pc := 23) F (c_X3_copyInto hI ht (tableAt_tab ht.2.2.2.2.2.2.2.2.1 h2) h3) (by omega) (by decide) (rooN ht) (ht.2.1 _) rfl wc_X3_copyInto wd_361 rfl rfl (Nat.le_of_ble_eq_true rfl) dX3_keep_23 ?_
    refine J_aload_n (pc := 26) F dX3_keep_26 rfl 0 rfl ?_
    refine J_dup (pc := 27) F dX3_keep_27 rfl ?_
    refine gfX3_keeps (pc := 28) F ht wd_247 dX3_keep_28 ?_
    refine J_iconst (pc := 31) F dX3_keep_31 ki_1 ?_
    refine J_iadd (pc := 32) F dX3_keep_32 ?_
    obtain ⟨σ4, eσ4, hf⟩ := nm_elim hf
    refine pfX3_keeps (pc := 33) F ht wd_247 dX3_keep_33 eσ4 ?_
    refine J_aload_n (pc := 36) F dX3_keep_36 rfl 0 rfl ?_
    refine gfX3_keeps (pc := 37) F ht wd_247 dX3_keep_37 ?_
    exact J_iret (pc := 40) F rfl dX3_keep_40 hf
  · refine J_icmp_ltF (pc := 5) F (tgt := 11) dX3_keep_5 (by decide) c1 ?_
    refine J_bipush (pc := 8) F dX3_keep_8 kb_m3 ?_
    exact J_iret (pc := 10) F rfl dX3_keep_10 hf
set_option maxHeartbeats 4000000 in
set_option maxRecDepth 100000 in
theorem c_X3_back {l : Launch} {E : En} {ad : Nat → Nat} {G : Lay} {n : Nat} (hI : adI ad n) (ht : RooAt E ad G n) {σ : St} {res : Int32 × St} (hf : f_X3_back  σ = some res) : Ct l yX3_back cX3_back 1 (some .int) 4 E ad G n [.ref (ad 208)] σ (some (.int res.1)) res.2 := by
  unfold f_X3_back at hf
  refine J_start (own := RX3) (lv := [(0, .ref (ad 208))]) pnX3 rfl hI (Nat.le_of_ble_eq_true rfl) rfl (fun p e s m args below meth c F => ?_)
  refine J_aload_n (pc := 0) F dX3_back_0 rfl 0 rfl ?_
  refine gfX3_keeps (pc := 1) F ht wd_247 dX3_back_1 ?_
  rcases ite_elim hf with ⟨c1, hf⟩ | ⟨c1, hf⟩
  · refine J_if_gtT (pc := 4) F (tgt := 10) dX3_back_4 (by decide) c1 ?_
    refine J_aload_n (pc := 10) F dX3_back_10 rfl 0 rfl ?_
    refine J_dup (pc := 11) F dX3_back_11 rfl ?_
    refine gfX3_keeps (pc := 12) F ht wd_247 dX3_back_12 ?_
    refine J_iconst (pc := 15) F dX3_back_15 ki_1 ?_
    refine J_isub (pc := 16) F dX3_back_16 ?_
    obtain ⟨σ2, eσ2, hf⟩ := nm_elim hf
    refine pfX3_keeps (pc := 17) F ht wd_247 dX3_back_17 eσ2 ?_
    refine J_aload_n (pc := 20) F dX3_back_20 rfl 0 rfl ?_
    refine gfX3_now (pc := 21) F ht wd_237 dX3_back_21 ?_
    refine J_aload_n (pc := 24) F dX3_back_24 rfl 0 rfl ?_
    refine gfX3_stored (pc := 25) F ht wd_242 dX3_back_25 ?_
    refine J_aload_n (pc := 28) F dX3_back_28 rfl 0 rfl ?_
    refine gfX3_keeps (pc := 29) F ht wd_247 dX3_back_29 ?_
    obtain ⟨q3, h3, hf⟩ := bind_elim hf
    refine J_callSR (pc := 32) F (c_X3_tableAt hI ht.2.2.2.2.2.2.2.2.1 h3) (by omega) (by decide) wc_X3_tableAt wd_358 rfl rfl (Nat.le_of_ble_eq_true rfl) dX3_back_32 ?_
    obtain ⟨q4, h4, hf⟩ := bind_elim hf
    refine J_callVU (pc := 35) F (c_X1_copy hI ht.2.2.2.1 (tableAt_tab ht.2.2.2.2.2.2.2.2.1 h3) h4) (by omega) (by decide) (tabN ht.2.2.2.1) (ht.2.2.2.1.2.1 _) rfl wc_X1_copy wd_290 rfl rfl (Nat.le_of_ble_eq_true rfl) dX3_back_35 ?_
    refine J_aload_n (pc := 38) F dX3_back_38 rfl 0 rfl ?_
    refine J_iconst (pc := 39) F dX3_back_39 ki_0 ?_
    obtain ⟨σ5, eσ5, hf⟩ := nm_elim hf
    refine pfX3_undos (pc := 40) F ht wd_245 dX3_back_40 eσ5 ?_
    refine J_aload_n (pc := 43) F dX3_back_43 rfl 0 rfl ?_
    refine gfX3_keeps (pc := 44) F ht wd_247 dX3_back_44 ?_
    exact J_iret (pc := 47) F rfl dX3_back_47 hf
  · refine J_if_gtF (pc := 4) F (tgt := 10) dX3_back_4 (by decide) c1 ?_
    refine J_bipush (pc := 7) F dX3_back_7 kb_m2 ?_
    exact J_iret (pc := 9) F rfl dX3_back_9 hf
set_option maxHeartbeats 4000000 in
set_option maxRecDepth 100000 in
theorem c_X3_count {l : Launch} {E : En} {ad : Nat → Nat} {G : Lay} {n : Nat} (hI : adI ad n) (ht : RooAt E ad G n) {a0 : Int32} {σ : St} {res : Int32 × St} (hf : f_X3_count a0 σ = some res) : Ct l yX3_count cX3_count 2 (some .int) 4 E ad G n [.ref (ad 208), .int a0] σ (some (.int res.1)) res.2 := by
  unfold f_X3_count at hf
  refine J_start (own := RX3) (lv := [(0, .ref (ad 208)), (1, .int a0)]) pnX3 rfl hI (Nat.le_of_ble_eq_true rfl) rfl (fun p e s m args below meth c F => ?_)
  refine J_iload_n (pc := 0) F dX3_count_0 rfl 1 rfl ?_
  rcases ite_elim hf with ⟨c1, hf⟩ | ⟨c1, hf⟩
  · refine J_tableIn (pc := 1) F (tgt := 60) (off := 59) dX3_count_1 (by rw [c1]; decide) (by rw [c1]; decide) (by rw [c1]; rfl) (by decide) ?_
    refine J_aload_n (pc := 60) F dX3_count_60 rfl 0 rfl ?_
    refine gfX3_now (pc := 61) F ht wd_237 dX3_count_61 ?_
    refine gfX1_words (pc := 64) F ht.2.2.2.1 wd_63 dX3_count_64 ?_
    exact J_iret (pc := 67) F rfl dX3_count_67 hf
  rcases ite_elim hf with ⟨c2, hf⟩ | ⟨c2, hf⟩
  · refine J_tableIn (pc := 1) F (tgt := 68) (off := 67) dX3_count_1 (by rw [c2]; decide) (by rw [c2]; decide) (by rw [c2]; rfl) (by decide) ?_
    refine J_aload_n (pc := 68) F dX3_count_68 rfl 0 rfl ?_
    refine gfX3_now (pc := 69) F ht wd_237 dX3_count_69 ?_
    refine gfX1_wooers (pc := 72) F ht.2.2.2.1 wd_67 dX3_count_72 ?_
    exact J_iret (pc := 75) F rfl dX3_count_75 hf
  rcases ite_elim hf with ⟨c3, hf⟩ | ⟨c3, hf⟩
  · refine J_tableIn (pc := 1) F (tgt := 76) (off := 75) dX3_count_1 (by rw [c3]; decide) (by rw [c3]; decide) (by rw [c3]; rfl) (by decide) ?_
    refine J_aload_n (pc := 76) F dX3_count_76 rfl 0 rfl ?_
    refine gfX3_now (pc := 77) F ht wd_237 dX3_count_77 ?_
    refine gfX1_need (pc := 80) F ht.2.2.2.1 wd_71 dX3_count_80 ?_
    exact J_iret (pc := 83) F rfl dX3_count_83 hf
  rcases ite_elim hf with ⟨c4, hf⟩ | ⟨c4, hf⟩
  · refine J_tableIn (pc := 1) F (tgt := 84) (off := 83) dX3_count_1 (by rw [c4]; decide) (by rw [c4]; decide) (by rw [c4]; rfl) (by decide) ?_
    refine J_aload_n (pc := 84) F dX3_count_84 rfl 0 rfl ?_
    refine gfX3_now (pc := 85) F ht wd_237 dX3_count_85 ?_
    refine gfX1_days (pc := 88) F ht.2.2.2.1 wd_73 dX3_count_88 ?_
    exact J_iret (pc := 91) F rfl dX3_count_91 hf
  rcases ite_elim hf with ⟨c5, hf⟩ | ⟨c5, hf⟩
  · refine J_tableIn (pc := 1) F (tgt := 92) (off := 91) dX3_count_1 (by rw [c5]; decide) (by rw [c5]; decide) (by rw [c5]; rfl) (by decide) ?_
    refine J_aload_n (pc := 92) F dX3_count_92 rfl 0 rfl ?_
    refine gfX3_now (pc := 93) F ht wd_237 dX3_count_93 ?_
    obtain ⟨q6, h6, hf⟩ := bind_elim hf
    refine J_callVI (pc := 96) F (c_X1_speakers hI ht.2.2.2.1 h6) (by omega) (by decide) (tabN ht.2.2.2.1) (ht.2.2.2.1.2.1 _) rfl wc_X1_speakers wd_409 rfl rfl (Nat.le_of_ble_eq_true rfl) dX3_count_96 ?_
    exact J_iret (pc := 99) F rfl dX3_count_99 hf
  rcases ite_elim hf with ⟨c7, hf⟩ | ⟨c7, hf⟩
  · refine J_tableIn (pc := 1) F (tgt := 100) (off := 99) dX3_count_1 (by rw [c7]; decide) (by rw [c7]; decide) (by rw [c7]; rfl) (by decide) ?_
    refine J_aload_n (pc := 100) F dX3_count_100 rfl 0 rfl ?_
    refine gfX3_now (pc := 101) F ht wd_237 dX3_count_101 ?_
    obtain ⟨q8, h8, hf⟩ := bind_elim hf
    refine J_callVI (pc := 104) F (c_X1_allRight hI ht.2.2.2.1 h8) (by omega) (by decide) (tabN ht.2.2.2.1) (ht.2.2.2.1.2.1 _) rfl wc_X1_allRight wd_475 rfl rfl (Nat.le_of_ble_eq_true rfl) dX3_count_104 ?_
    exact J_iret (pc := 107) F rfl dX3_count_107 hf
  rcases ite_elim hf with ⟨c9, hf⟩ | ⟨c9, hf⟩
  · refine J_tableIn (pc := 1) F (tgt := 108) (off := 107) dX3_count_1 (by rw [c9]; decide) (by rw [c9]; decide) (by rw [c9]; rfl) (by decide) ?_
    refine J_aload_n (pc := 108) F dX3_count_108 rfl 0 rfl ?_
    refine gfX3_now (pc := 109) F ht wd_237 dX3_count_109 ?_
    obtain ⟨q10, h10, hf⟩ := bind_elim hf
    refine J_callVI (pc := 112) F (c_X1_allHad hI ht.2.2.2.1 h10) (by omega) (by decide) (tabN ht.2.2.2.1) (ht.2.2.2.1.2.1 _) rfl wc_X1_allHad wd_588 rfl rfl (Nat.le_of_ble_eq_true rfl) dX3_count_112 ?_
    exact J_iret (pc := 115) F rfl dX3_count_115 hf
  rcases ite_elim hf with ⟨c11, hf⟩ | ⟨c11, hf⟩
  · refine J_tableIn (pc := 1) F (tgt := 116) (off := 115) dX3_count_1 (by rw [c11]; decide) (by rw [c11]; decide) (by rw [c11]; rfl) (by decide) ?_
    refine J_aload_n (pc := 116) F dX3_count_116 rfl 0 rfl ?_
    refine gfX3_heard (pc := 117) F ht wd_243 dX3_count_117 ?_
    refine gfX0_count (pc := 120) F ht.2.2.2.2.2.2.2.2.2.1 wd_225 dX3_count_120 ?_
    exact J_iret (pc := 123) F rfl dX3_count_123 hf
  rcases ite_elim hf with ⟨c12, hf⟩ | ⟨c12, hf⟩
  · refine J_tableIn (pc := 1) F (tgt := 124) (off := 123) dX3_count_1 (by rw [c12]; decide) (by rw [c12]; decide) (by rw [c12]; rfl) (by decide) ?_
    refine J_aload_n (pc := 124) F dX3_count_124 rfl 0 rfl ?_
    refine gfX3_undos (pc := 125) F ht wd_245 dX3_count_125 ?_
    exact J_iret (pc := 128) F rfl dX3_count_128 hf
  rcases ite_elim hf with ⟨c13, hf⟩ | ⟨c13, hf⟩
  · refine J_tableIn (pc := 1) F (tgt := 129) (off := 128) dX3_count_1 (by rw [c13]; decide) (by rw [c13]; decide) (by rw [c13]; rfl) (by decide) ?_
    refine J_aload_n (pc := 129) F dX3_count_129 rfl 0 rfl ?_
    refine gfX3_keeps (pc := 130) F ht wd_247 dX3_count_130 ?_
    exact J_iret (pc := 133) F rfl dX3_count_133 hf
  rcases ite_elim hf with ⟨c14, hf⟩ | ⟨c14, hf⟩
  · refine J_tableIn (pc := 1) F (tgt := 134) (off := 133) dX3_count_1 (by rw [c14]; decide) (by rw [c14]; decide) (by rw [c14]; rfl) (by decide) ?_
    refine J_aload_n (pc := 134) F dX3_count_134 rfl 0 rfl ?_
    refine gfX3_text (pc := 135) F ht wd_236 dX3_count_135 ?_
    refine gfX2_length (pc := 138) F ht.2.2.1 wd_29 dX3_count_138 ?_
    exact J_iret (pc := 141) F rfl dX3_count_141 hf
  refine J_tableOut (pc := 1) F (tgt := 142) dX3_count_1 (by have g0 := i32ne (z := 0) (by decide +kernel) c1; have g1 := i32ne (z := 1) (by decide +kernel) c2; have g2 := i32ne (z := 2) (by decide +kernel) c3; have g3 := i32ne (z := 3) (by decide +kernel) c4; have g4 := i32ne (z := 4) (by decide +kernel) c5; have g5 := i32ne (z := 5) (by decide +kernel) c7; have g6 := i32ne (z := 6) (by decide +kernel) c9; have g7 := i32ne (z := 7) (by decide +kernel) c11; have g8 := i32ne (z := 8) (by decide +kernel) c12; have g9 := i32ne (z := 9) (by decide +kernel) c13; have g10 := i32ne (z := 10) (by decide +kernel) c14; omega) (by decide) ?_
  refine J_iconst (pc := 142) F dX3_count_142 ki_m1 ?_
  exact J_iret (pc := 143) F rfl dX3_count_143 hf
set_option maxHeartbeats 4000000 in
set_option maxRecDepth 100000 in
theorem c_X4_in {l : Launch} {E : En} {ad : Nat → Nat} {G : Lay} {n : Nat} (hI : adI ad n) {a0 : Int64} {a1 : Int64} {a2 : Int64} {σ : St} {res : Int32 × St} (hf : f_X4_in a0 a1 a2 σ = some res) : Ct l yX4_in cX4_in 6 (some .boolean) 0 E ad G n [.long a0, .long a1, .long a2] σ (some (.int res.1)) res.2 := by
  unfold f_X4_in at hf
  refine J_start (own := RX4) (lv := [(0, .long a0), (2, .long a1), (4, .long a2)]) pnX4 rfl hI (Nat.le_of_ble_eq_true rfl) rfl (fun p e s m args below meth c F => ?_)
  refine J_lload_n (pc := 0) F dX4_in_0 rfl 0 rfl ?_
  refine J_lload_n (pc := 1) F dX4_in_1 rfl 1 rfl ?_
  refine J_lcmp (pc := 2) F dX4_in_2 ?_
  obtain ⟨k1, hk1, hf⟩ := jn_elim hf
  have hJk1 : ∀ (q1 : St), k1 q1 = some res → J p l e 0 s m args below meth c E ad G n (QI below E ad G n args s res) 6 q1 17 [] [] := by
    intro q1 hf
    replace hf := hk1 q1 hf
    refine J_iconst (pc := 17) F dX4_in_17 ki_0 ?_
    exact J_iret (pc := 18) F rfl dX4_in_18 hf
  clear hk1
  rcases ite_elim hf with ⟨c2, hf⟩ | ⟨c2, hf⟩
  · refine J_if_ltT (pc := 3) F (tgt := 17) dX4_in_3 (by decide) c2 ?_
    refine J_sub [] rfl ?_
    exact hJk1 σ hf
  · refine J_if_ltF (pc := 3) F (tgt := 17) dX4_in_3 (by decide) c2 ?_
    refine J_lload_n (pc := 6) F dX4_in_6 rfl 0 rfl ?_
    refine J_lload (pc := 7) F dX4_in_7 2 rfl ?_
    refine J_lcmp (pc := 9) F dX4_in_9 ?_
    rcases ite_elim hf with ⟨c3, hf⟩ | ⟨c3, hf⟩
    · refine J_if_gtT (pc := 10) F (tgt := 17) dX4_in_10 (by decide) c3 ?_
      refine J_sub [] rfl ?_
      exact hJk1 σ hf
    · refine J_if_gtF (pc := 10) F (tgt := 17) dX4_in_10 (by decide) c3 ?_
      refine J_iconst (pc := 13) F dX4_in_13 ki_1 ?_
      refine J_goto (pc := 14) F (tgt := 18) dX4_in_14 (by decide) ?_
      exact J_iret (pc := 18) F rfl dX4_in_18 hf
set_option maxHeartbeats 4000000 in
set_option maxRecDepth 100000 in
theorem c_X4_smaller {l : Launch} {E : En} {ad : Nat → Nat} {G : Lay} {n : Nat} (hI : adI ad n) {a0 : Int32} {a1 : Int32} {σ : St} {res : Int32 × St} (hf : f_X4_smaller a0 a1 σ = some res) : Ct l yX4_smaller cX4_smaller 2 (some .int) 0 E ad G n [.int a0, .int a1] σ (some (.int res.1)) res.2 := by
  unfold f_X4_smaller at hf
  refine J_start (own := RX4) (lv := [(0, .int a0), (1, .int a1)]) pnX4 rfl hI (Nat.le_of_ble_eq_true rfl) rfl (fun p e s m args below meth c F => ?_)
  refine J_iload_n (pc := 0) F dX4_smaller_0 rfl 0 rfl ?_
  refine J_iload_n (pc := 1) F dX4_smaller_1 rfl 1 rfl ?_
  rcases ite_elim hf with ⟨c1, hf⟩ | ⟨c1, hf⟩
  · refine J_icmp_geT (pc := 2) F (tgt := 9) dX4_smaller_2 (by decide) c1 ?_
    refine J_iload_n (pc := 9) F dX4_smaller_9 rfl 1 rfl ?_
    exact J_iret (pc := 10) F rfl dX4_smaller_10 hf
  · refine J_icmp_geF (pc := 2) F (tgt := 9) dX4_smaller_2 (by decide) c1 ?_
    refine J_iload_n (pc := 5) F dX4_smaller_5 rfl 0 rfl ?_
    refine J_goto (pc := 6) F (tgt := 10) dX4_smaller_6 (by decide) ?_
    exact J_iret (pc := 10) F rfl dX4_smaller_10 hf
set_option maxHeartbeats 4000000 in
set_option maxRecDepth 100000 in
theorem c_X4_larger {l : Launch} {E : En} {ad : Nat → Nat} {G : Lay} {n : Nat} (hI : adI ad n) {a0 : Int32} {a1 : Int32} {σ : St} {res : Int32 × St} (hf : f_X4_larger a0 a1 σ = some res) : Ct l yX4_larger cX4_larger 2 (some .int) 0 E ad G n [.int a0, .int a1] σ (some (.int res.1)) res.2 := by
  unfold f_X4_larger at hf
  refine J_start (own := RX4) (lv := [(0, .int a0), (1, .int a1)]) pnX4 rfl hI (Nat.le_of_ble_eq_true rfl) rfl (fun p e s m args below meth c F => ?_)
  refine J_iload_n (pc := 0) F dX4_larger_0 rfl 0 rfl ?_
  refine J_iload_n (pc := 1) F dX4_larger_1 rfl 1 rfl ?_
  rcases ite_elim hf with ⟨c1, hf⟩ | ⟨c1, hf⟩
  · refine J_icmp_geT (pc := 2) F (tgt := 9) dX4_larger_2 (by decide) c1 ?_
    refine J_iload_n (pc := 9) F dX4_larger_9 rfl 0 rfl ?_
    exact J_iret (pc := 10) F rfl dX4_larger_10 hf
  · refine J_icmp_geF (pc := 2) F (tgt := 9) dX4_larger_2 (by decide) c1 ?_
    refine J_iload_n (pc := 5) F dX4_larger_5 rfl 1 rfl ?_
    refine J_goto (pc := 6) F (tgt := 10) dX4_larger_6 (by decide) ?_
    exact J_iret (pc := 10) F rfl dX4_larger_10 hf
set_option maxHeartbeats 4000000 in
set_option maxRecDepth 100000 in
theorem c_X4_bits {l : Launch} {E : En} {ad : Nat → Nat} {G : Lay} {n : Nat} (hI : adI ad n) {a0 : Int32} {σ : St} {res : Int32 × St} (hf : f_X4_bits a0 σ = some res) : Ct l yX4_bits cX4_bits 3 (some .int) 0 E ad G n [.int a0] σ (some (.int res.1)) res.2 := by
  unfold f_X4_bits at hf
  refine J_start (own := RX4) (lv := [(0, .int a0)]) pnX4 rfl hI (Nat.le_of_ble_eq_true rfl) rfl (fun p e s m args below meth c F => ?_)
  refine J_iconst (pc := 0) F dX4_bits_0 ki_0 ?_
  refine J_istore_n (pc := 1) F (lv' := [(1, .int (0 : Int32)), (0, .int a0)]) dX4_bits_1 rfl (by decide) rfl ?_
  refine J_iconst (pc := 2) F dX4_bits_2 ki_0 ?_
  refine J_istore_n (pc := 3) F (lv' := [(2, .int (0 : Int32)), (1, .int (0 : Int32)), (0, .int a0)]) dX4_bits_3 rfl (by decide) rfl ?_
  refine J_sub [2, 1, 0] rfl ?_
  refine lp_ind (P := fun (b1 : Int32 × Int32 × St) => J p l e 0 s m args below meth c E ad G n (QI below E ad G n args s res) 3 b1.2.2 4 [(0, .int a0), (1, .int b1.1), (2, .int b1.2.1)] []) (fun r1 ih1 b1 hf => ?_) FU ((0 : Int32), (0 : Int32), σ) hf
  show J p l e 0 s m args below meth c E ad G n (QI below E ad G n args s res) 3 b1.2.2 4 [(0, .int a0), (1, .int b1.1), (2, .int b1.2.1)] []
  refine J_iload_n (pc := 4) F dX4_bits_4 rfl 2 rfl ?_
  refine J_bipush (pc := 5) F dX4_bits_5 kb_8 ?_
  rcases ite_elim hf with ⟨c2, hf⟩ | ⟨c2, hf⟩
  · refine J_icmp_geT (pc := 7) F (tgt := 24) dX4_bits_7 (by decide) c2 ?_
    refine J_iload_n (pc := 24) F dX4_bits_24 rfl 1 rfl ?_
    exact J_iret (pc := 25) F rfl dX4_bits_25 hf
  · refine J_icmp_geF (pc := 7) F (tgt := 24) dX4_bits_7 (by decide) c2 ?_
    refine J_iload_n (pc := 10) F dX4_bits_10 rfl 1 rfl ?_
    refine J_iload_n (pc := 11) F dX4_bits_11 rfl 0 rfl ?_
    refine J_iload_n (pc := 12) F dX4_bits_12 rfl 2 rfl ?_
    refine J_ishr (pc := 13) F dX4_bits_13 ?_
    refine J_iconst (pc := 14) F dX4_bits_14 ki_1 ?_
    refine J_iand (pc := 15) F dX4_bits_15 ?_
    refine J_iadd (pc := 16) F dX4_bits_16 ?_
    obtain ⟨x3, ex3, hf⟩ := nm_elim hf
    refine J_ti ex3 ?_
    refine J_istore_n (pc := 17) F (lv' := [(1, .int x3), (0, .int a0), (2, .int b1.2.1)]) dX4_bits_17 rfl (by decide) rfl ?_
    obtain ⟨x4, ex4, hf⟩ := nm_elim hf
    refine J_iinc (pc := 18) F (lv' := [(2, .int x4), (1, .int x3), (0, .int a0)]) dX4_bits_18 2 rfl (ex4.trans (congrArg _ ki_1.symm)) (by decide) rfl ?_
    refine J_goto (pc := 21) F (tgt := 4) dX4_bits_21 (by decide) ?_
    refine J_sub [2, 1, 0] rfl ?_
    exact ih1 (x3, x4, b1.2.2) hf
set_option maxHeartbeats 4000000 in
set_option maxRecDepth 100000 in
theorem c_X4_clears {l : Launch} {E : En} {ad : Nat → Nat} {G : Lay} {n : Nat} (hI : adI ad n) (ht : ModAt E ad G n) {σ : St} {res : Unit × St} (hf : f_X4_clears  σ = some res) : Ct l yX4_clears cX4_clears 2 none 0 E ad G n [.ref (ad 0)] σ none res.2 := by
  unfold f_X4_clears at hf
  refine J_start (own := RX4) (lv := [(0, .ref (ad 0))]) pnX4 rfl hI (Nat.le_of_ble_eq_true rfl) rfl (fun p e s m args below meth c F => ?_)
  refine J_aload_n (pc := 0) F dX4_clears_0 rfl 0 rfl ?_
  refine J_iconst (pc := 1) F dX4_clears_1 ki_0 ?_
  obtain ⟨σ1, eσ1, hf⟩ := nm_elim hf
  refine pfX4_newWords (pc := 2) F ht wd_622 dX4_clears_2 eσ1 ?_
  refine J_aload_n (pc := 5) F dX4_clears_5 rfl 0 rfl ?_
  refine J_iconst (pc := 6) F dX4_clears_6 ki_0 ?_
  obtain ⟨σ2, eσ2, hf⟩ := nm_elim hf
  refine pfX4_newMany (pc := 7) F ht wd_624 dX4_clears_7 eσ2 ?_
  refine J_aload_n (pc := 10) F dX4_clears_10 rfl 0 rfl ?_
  refine J_iconst (pc := 11) F dX4_clears_11 ki_3 ?_
  obtain ⟨σ3, eσ3, hf⟩ := nm_elim hf
  refine pfX4_newEnough (pc := 12) F ht wd_625 dX4_clears_12 eσ3 ?_
  refine J_iconst (pc := 15) F dX4_clears_15 ki_0 ?_
  refine J_istore_n (pc := 16) F (lv' := [(1, .int (0 : Int32)), (0, .ref (ad 0))]) dX4_clears_16 rfl (by decide) rfl ?_
  refine J_sub [1, 0] rfl ?_
  refine lp_ind (P := fun (b4 : Int32 × St) => J p l e 0 s m args below meth c E ad G n (QU below E ad G n args s res) 2 b4.2 17 [(0, .ref (ad 0)), (1, .int b4.1)] []) (fun r4 ih4 b4 hf => ?_) FU ((0 : Int32), σ3) hf
  show J p l e 0 s m args below meth c E ad G n (QU below E ad G n args s res) 2 b4.2 17 [(0, .ref (ad 0)), (1, .int b4.1)] []
  refine J_iload_n (pc := 17) F dX4_clears_17 rfl 1 rfl ?_
  refine J_bipush (pc := 18) F dX4_clears_18 kb_91 ?_
  rcases ite_elim hf with ⟨c5, hf⟩ | ⟨c5, hf⟩
  · refine J_icmp_geT (pc := 20) F (tgt := 67) dX4_clears_20 (by decide) c5 ?_
    exact J_vret (pc := 67) F dX4_clears_67 hf
  · refine J_icmp_geF (pc := 20) F (tgt := 67) dX4_clears_20 (by decide) c5 ?_
    refine J_aload_n (pc := 23) F dX4_clears_23 rfl 0 rfl ?_
    refine gfX4_slot (pc := 24) F ht wd_626 dX4_clears_24 ?_
    refine J_sipush (pc := 27) F dX4_clears_27 ks_1001 ?_
    refine J_iload_n (pc := 30) F dX4_clears_30 rfl 1 rfl ?_
    refine J_iadd (pc := 31) F dX4_clears_31 ?_
    refine J_iload_n (pc := 32) F dX4_clears_32 rfl 1 rfl ?_
    refine J_bipush (pc := 33) F dX4_clears_33 kb_90 ?_
    obtain ⟨k6, hk6, hf⟩ := jn_elim hf
    have hJk6 : ∀ (q6 : Int32 × St), k6 q6 = some res → J p l e 0 s m args below meth c E ad G n (QU below E ad G n args s res) 2 q6.2 60 [(0, .ref (ad 0)), (1, .int b4.1)] [.int q6.1, .int ((1001 : Int32) + b4.1), .ref (ad 3)] := by
      intro q6 hf
      replace hf := hk6 q6 hf
      obtain ⟨g11, hf⟩ := grd_elim hf
      obtain ⟨σ12, eσ12, hf⟩ := nm_elim hf
      refine J_iast (pc := 60) F ht.2.2.2.2.1 g11 dX4_clears_60 eσ12 ?_
      obtain ⟨x13, ex13, hf⟩ := nm_elim hf
      refine J_iinc (pc := 61) F (lv' := [(1, .int x13), (0, .ref (ad 0))]) dX4_clears_61 1 rfl (ex13.trans (congrArg _ ki_1.symm)) (by decide) rfl ?_
      refine J_goto (pc := 64) F (tgt := 17) dX4_clears_64 (by decide) ?_
      refine J_sub [1, 0] rfl ?_
      exact ih4 (x13, σ12) hf
    clear hk6
    obtain ⟨k7, hk7, hf⟩ := jn_elim hf
    have hJk7 : ∀ (q7 : St), k7 q7 = some res → J p l e 0 s m args below meth c E ad G n (QU below E ad G n args s res) 2 q7 59 [(0, .ref (ad 0)), (1, .int b4.1)] [.int ((1001 : Int32) + b4.1), .ref (ad 3)] := by
      intro q7 hf
      replace hf := hk7 q7 hf
      refine J_iconst (pc := 59) F dX4_clears_59 ki_0 ?_
      exact hJk6 ((0 : Int32), q7) hf
    clear hk7
    rcases ite_elim hf with ⟨c8, hf⟩ | ⟨c8, hf⟩
    · refine J_icmp_geT (pc := 35) F (tgt := 59) dX4_clears_35 (by decide) c8 ?_
      exact hJk7 b4.2 hf
    · refine J_icmp_geF (pc := 35) F (tgt := 59) dX4_clears_35 (by decide) c8 ?_
      refine J_iload_n (pc := 38) F dX4_clears_38 rfl 1 rfl ?_
      refine J_bipush (pc := 39) F dX4_clears_39 kb_18 ?_
      refine J_irem (pc := 41) F dX4_clears_41 (by decide +kernel) ?_
      refine J_iconst (pc := 42) F dX4_clears_42 ki_2 ?_
      rcases ite_elim hf with ⟨c9, hf⟩ | ⟨c9, hf⟩
      · refine J_icmp_ltT (pc := 43) F (tgt := 59) dX4_clears_43 (by decide) c9 ?_
        exact hJk7 b4.2 hf
      · refine J_icmp_ltF (pc := 43) F (tgt := 59) dX4_clears_43 (by decide) c9 ?_
        refine J_iload_n (pc := 46) F dX4_clears_46 rfl 1 rfl ?_
        refine J_bipush (pc := 47) F dX4_clears_47 kb_18 ?_
        refine J_irem (pc := 49) F dX4_clears_49 (by decide +kernel) ?_
        refine J_bipush (pc := 50) F dX4_clears_50 kb_10 ?_
        rcases ite_elim hf with ⟨c10, hf⟩ | ⟨c10, hf⟩
        · refine J_icmp_geT (pc := 52) F (tgt := 59) dX4_clears_52 (by decide) c10 ?_
          exact hJk7 b4.2 hf
        · refine J_icmp_geF (pc := 52) F (tgt := 59) dX4_clears_52 (by decide) c10 ?_
          refine J_iconst (pc := 55) F dX4_clears_55 ki_m1 ?_
          refine J_goto (pc := 56) F (tgt := 60) dX4_clears_56 (by decide) ?_
          exact hJk6 ((-1 : Int32), b4.2) hf
set_option maxHeartbeats 4000000 in
set_option maxRecDepth 100000 in
theorem c_X4_sits {l : Launch} {E : En} {ad : Nat → Nat} {G : Lay} {n : Nat} (hI : adI ad n) (ht : ModAt E ad G n) {a0 : Int32} {a1 : Int32} {σ : St} {res : Unit × St} (hf : f_X4_sits a0 a1 σ = some res) : Ct l yX4_sits cX4_sits 3 none 0 E ad G n [.ref (ad 0), .int a0, .int a1] σ none res.2 := by
  unfold f_X4_sits at hf
  refine J_start (own := RX4) (lv := [(0, .ref (ad 0)), (1, .int a0), (2, .int a1)]) pnX4 rfl hI (Nat.le_of_ble_eq_true rfl) rfl (fun p e s m args below meth c F => ?_)
  refine J_aload_n (pc := 0) F dX4_sits_0 rfl 0 rfl ?_
  refine gfX4_slot (pc := 1) F ht wd_626 dX4_sits_1 ?_
  refine J_sipush (pc := 4) F dX4_sits_4 ks_1001 ?_
  refine J_bipush (pc := 7) F dX4_sits_7 kb_18 ?_
  refine J_aload_n (pc := 9) F dX4_sits_9 rfl 0 rfl ?_
  refine gfX4_newMany (pc := 10) F ht wd_624 dX4_sits_10 ?_
  refine J_imul (pc := 13) F dX4_sits_13 ?_
  refine J_iadd (pc := 14) F dX4_sits_14 ?_
  refine J_iload_n (pc := 15) F dX4_sits_15 rfl 1 rfl ?_
  obtain ⟨g1, hf⟩ := grd_elim hf
  obtain ⟨σ2, eσ2, hf⟩ := nm_elim hf
  refine J_iast (pc := 16) F ht.2.2.2.2.1 g1 dX4_sits_16 eσ2 ?_
  refine J_aload_n (pc := 17) F dX4_sits_17 rfl 0 rfl ?_
  refine gfX4_slot (pc := 18) F ht wd_626 dX4_sits_18 ?_
  refine J_sipush (pc := 21) F dX4_sits_21 ks_1001 ?_
  refine J_bipush (pc := 24) F dX4_sits_24 kb_18 ?_
  refine J_aload_n (pc := 26) F dX4_sits_26 rfl 0 rfl ?_
  refine gfX4_newMany (pc := 27) F ht wd_624 dX4_sits_27 ?_
  refine J_imul (pc := 30) F dX4_sits_30 ?_
  refine J_iadd (pc := 31) F dX4_sits_31 ?_
  refine J_iconst (pc := 32) F dX4_sits_32 ki_1 ?_
  refine J_iadd (pc := 33) F dX4_sits_33 ?_
  refine J_iload_n (pc := 34) F dX4_sits_34 rfl 2 rfl ?_
  obtain ⟨g3, hf⟩ := grd_elim hf
  obtain ⟨σ4, eσ4, hf⟩ := nm_elim hf
  refine J_iast (pc := 35) F ht.2.2.2.2.1 g3 dX4_sits_35 eσ4 ?_
  refine J_aload_n (pc := 36) F dX4_sits_36 rfl 0 rfl ?_
  refine J_dup (pc := 37) F dX4_sits_37 rfl ?_
  refine gfX4_newMany (pc := 38) F ht wd_624 dX4_sits_38 ?_
  refine J_iconst (pc := 41) F dX4_sits_41 ki_1 ?_
  refine J_iadd (pc := 42) F dX4_sits_42 ?_
  obtain ⟨σ5, eσ5, hf⟩ := nm_elim hf
  refine pfX4_newMany (pc := 43) F ht wd_624 dX4_sits_43 eσ5 ?_
  exact J_vret (pc := 46) F dX4_sits_46 hf
set_option maxHeartbeats 4000000 in
set_option maxRecDepth 100000 in
theorem c_X4_has {l : Launch} {E : En} {ad : Nat → Nat} {G : Lay} {n : Nat} (hI : adI ad n) (ht : ModAt E ad G n) {a0 : Int32} {a1 : Int32} {σ : St} {res : Unit × St} (hf : f_X4_has a0 a1 σ = some res) : Ct l yX4_has cX4_has 3 none 0 E ad G n [.ref (ad 0), .int a0, .int a1] σ none res.2 := by
  unfold f_X4_has at hf
  refine J_start (own := RX4) (lv := [(0, .ref (ad 0)), (1, .int a0), (2, .int a1)]) pnX4 rfl hI (Nat.le_of_ble_eq_true rfl) rfl (fun p e s m args below meth c F => ?_)
  refine J_aload_n (pc := 0) F dX4_has_0 rfl 0 rfl ?_
  refine gfX4_slot (pc := 1) F ht wd_626 dX4_has_1 ?_
  refine J_sipush (pc := 4) F dX4_has_4 ks_1001 ?_
  refine J_bipush (pc := 7) F dX4_has_7 kb_18 ?_
  refine J_aload_n (pc := 9) F dX4_has_9 rfl 0 rfl ?_
  refine gfX4_newMany (pc := 10) F ht wd_624 dX4_has_10 ?_
  refine J_iconst (pc := 13) F dX4_has_13 ki_1 ?_
  refine J_isub (pc := 14) F dX4_has_14 ?_
  refine J_imul (pc := 15) F dX4_has_15 ?_
  refine J_iadd (pc := 16) F dX4_has_16 ?_
  refine J_iconst (pc := 17) F dX4_has_17 ki_2 ?_
  refine J_iadd (pc := 18) F dX4_has_18 ?_
  refine J_iload_n (pc := 19) F dX4_has_19 rfl 1 rfl ?_
  refine J_iadd (pc := 20) F dX4_has_20 ?_
  refine J_iload_n (pc := 21) F dX4_has_21 rfl 2 rfl ?_
  obtain ⟨g1, hf⟩ := grd_elim hf
  obtain ⟨σ2, eσ2, hf⟩ := nm_elim hf
  refine J_iast (pc := 22) F ht.2.2.2.2.1 g1 dX4_has_22 eσ2 ?_
  exact J_vret (pc := 23) F dX4_has_23 hf
set_option maxHeartbeats 4000000 in
set_option maxRecDepth 100000 in
theorem c_X4_copies {l : Launch} {E : En} {ad : Nat → Nat} {G : Lay} {n : Nat} (hI : adI ad n) (ht : ModAt E ad G n) {a0 : Int32} {a1 : Int32} {σ : St} {res : Unit × St} (hf : f_X4_copies a0 a1 σ = some res) : Ct l yX4_copies cX4_copies 4 none 0 E ad G n [.ref (ad 0), .int a0, .int a1] σ none res.2 := by
  unfold f_X4_copies at hf
  refine J_start (own := RX4) (lv := [(0, .ref (ad 0)), (1, .int a0), (2, .int a1)]) pnX4 rfl hI (Nat.le_of_ble_eq_true rfl) rfl (fun p e s m args below meth c F => ?_)
  refine J_iconst (pc := 0) F dX4_copies_0 ki_0 ?_
  refine J_istore_n (pc := 1) F (lv' := [(3, .int (0 : Int32)), (0, .ref (ad 0)), (1, .int a0), (2, .int a1)]) dX4_copies_1 rfl (by decide) rfl ?_
  refine J_sub [1, 2, 3, 0] rfl ?_
  refine lp_ind (P := fun (b1 : Int32 × St) => J p l e 0 s m args below meth c E ad G n (QU below E ad G n args s res) 4 b1.2 2 [(0, .ref (ad 0)), (1, .int a0), (2, .int a1), (3, .int b1.1)] []) (fun r1 ih1 b1 hf => ?_) FU ((0 : Int32), σ) hf
  show J p l e 0 s m args below meth c E ad G n (QU below E ad G n args s res) 4 b1.2 2 [(0, .ref (ad 0)), (1, .int a0), (2, .int a1), (3, .int b1.1)] []
  refine J_iload_n (pc := 2) F dX4_copies_2 rfl 3 rfl ?_
  refine J_bipush (pc := 3) F dX4_copies_3 kb_91 ?_
  rcases ite_elim hf with ⟨c2, hf⟩ | ⟨c2, hf⟩
  · refine J_icmp_geT (pc := 5) F (tgt := 30) dX4_copies_5 (by decide) c2 ?_
    exact J_vret (pc := 30) F dX4_copies_30 hf
  · refine J_icmp_geF (pc := 5) F (tgt := 30) dX4_copies_5 (by decide) c2 ?_
    refine J_aload_n (pc := 8) F dX4_copies_8 rfl 0 rfl ?_
    refine gfX4_slot (pc := 9) F ht wd_626 dX4_copies_9 ?_
    refine J_iload_n (pc := 12) F dX4_copies_12 rfl 2 rfl ?_
    refine J_iload_n (pc := 13) F dX4_copies_13 rfl 3 rfl ?_
    refine J_iadd (pc := 14) F dX4_copies_14 ?_
    refine J_aload_n (pc := 15) F dX4_copies_15 rfl 0 rfl ?_
    refine gfX4_slot (pc := 16) F ht wd_626 dX4_copies_16 ?_
    refine J_iload_n (pc := 19) F dX4_copies_19 rfl 1 rfl ?_
    refine J_iload_n (pc := 20) F dX4_copies_20 rfl 3 rfl ?_
    refine J_iadd (pc := 21) F dX4_copies_21 ?_
    obtain ⟨g3, hf⟩ := grd_elim hf
    refine J_iald (pc := 22) F ht.2.2.2.2.1 g3 dX4_copies_22 ?_
    obtain ⟨g4, hf⟩ := grd_elim hf
    obtain ⟨σ5, eσ5, hf⟩ := nm_elim hf
    refine J_iast (pc := 23) F ht.2.2.2.2.1 g4 dX4_copies_23 eσ5 ?_
    obtain ⟨x6, ex6, hf⟩ := nm_elim hf
    refine J_iinc (pc := 24) F (lv' := [(3, .int x6), (0, .ref (ad 0)), (1, .int a0), (2, .int a1)]) dX4_copies_24 3 rfl (ex6.trans (congrArg _ ki_1.symm)) (by decide) rfl ?_
    refine J_goto (pc := 27) F (tgt := 2) dX4_copies_27 (by decide) ?_
    refine J_sub [1, 2, 3, 0] rfl ?_
    exact ih1 (x6, σ5) hf
set_option maxHeartbeats 4000000 in
set_option maxRecDepth 100000 in
theorem c_X4_settles {l : Launch} {E : En} {ad : Nat → Nat} {G : Lay} {n : Nat} (hI : adI ad n) (ht : ModAt E ad G n) {σ : St} {res : Unit × St} (hf : f_X4_settles  σ = some res) : Ct l yX4_settles cX4_settles 2 none 1 E ad G n [.ref (ad 0)] σ none res.2 := by
  unfold f_X4_settles at hf
  refine J_start (own := RX4) (lv := [(0, .ref (ad 0))]) pnX4 rfl hI (Nat.le_of_ble_eq_true rfl) rfl (fun p e s m args below meth c F => ?_)
  refine J_aload_n (pc := 0) F dX4_settles_0 rfl 0 rfl ?_
  refine J_aload_n (pc := 1) F dX4_settles_1 rfl 0 rfl ?_
  refine gfX4_newWords (pc := 2) F ht wd_622 dX4_settles_2 ?_
  obtain ⟨σ1, eσ1, hf⟩ := nm_elim hf
  refine pfX4_words (pc := 5) F ht wd_618 dX4_settles_5 eσ1 ?_
  refine J_aload_n (pc := 8) F dX4_settles_8 rfl 0 rfl ?_
  refine J_aload_n (pc := 9) F dX4_settles_9 rfl 0 rfl ?_
  refine gfX4_newMany (pc := 10) F ht wd_624 dX4_settles_10 ?_
  obtain ⟨σ2, eσ2, hf⟩ := nm_elim hf
  refine pfX4_many (pc := 13) F ht wd_620 dX4_settles_13 eσ2 ?_
  refine J_aload_n (pc := 16) F dX4_settles_16 rfl 0 rfl ?_
  refine J_aload_n (pc := 17) F dX4_settles_17 rfl 0 rfl ?_
  refine gfX4_newEnough (pc := 18) F ht wd_625 dX4_settles_18 ?_
  obtain ⟨σ3, eσ3, hf⟩ := nm_elim hf
  refine pfX4_enough (pc := 21) F ht wd_621 dX4_settles_21 eσ3 ?_
  refine J_iconst (pc := 24) F dX4_settles_24 ki_0 ?_
  refine J_istore_n (pc := 25) F (lv' := [(1, .int (0 : Int32)), (0, .ref (ad 0))]) dX4_settles_25 rfl (by decide) rfl ?_
  refine J_sub [1, 0] rfl ?_
  refine lp_ind (P := fun (b4 : Int32 × St) => J p l e 1 s m args below meth c E ad G n (QU below E ad G n args s res) 2 b4.2 26 [(0, .ref (ad 0)), (1, .int b4.1)] []) (fun r4 ih4 b4 hf => ?_) FU ((0 : Int32), σ3) hf
  show J p l e 1 s m args below meth c E ad G n (QU below E ad G n args s res) 2 b4.2 26 [(0, .ref (ad 0)), (1, .int b4.1)] []
  refine J_iload_n (pc := 26) F dX4_settles_26 rfl 1 rfl ?_
  refine J_bipush (pc := 27) F dX4_settles_27 kb_8 ?_
  rcases ite_elim hf with ⟨c5, hf⟩ | ⟨c5, hf⟩
  · refine J_icmp_geT (pc := 29) F (tgt := 50) dX4_settles_29 (by decide) c5 ?_
    refine J_aload_n (pc := 50) F dX4_settles_50 rfl 0 rfl ?_
    refine J_sipush (pc := 51) F dX4_settles_51 ks_1001 ?_
    refine J_iconst (pc := 54) F dX4_settles_54 ki_0 ?_
    obtain ⟨q6, h6, hf⟩ := bind_elim hf
    refine J_callVU (pc := 55) F (c_X4_copies hI ht h6) (by omega) (by decide) (modN ht) (ht.2.1 _) rfl wc_X4_copies wd_614 rfl rfl (Nat.le_of_ble_eq_true rfl) dX4_settles_55 ?_
    exact J_vret (pc := 58) F dX4_settles_58 hf
  · refine J_icmp_geF (pc := 29) F (tgt := 50) dX4_settles_29 (by decide) c5 ?_
    refine J_aload_n (pc := 32) F dX4_settles_32 rfl 0 rfl ?_
    refine gfX4_sounds (pc := 33) F ht wd_619 dX4_settles_33 ?_
    refine J_iload_n (pc := 36) F dX4_settles_36 rfl 1 rfl ?_
    refine J_aload_n (pc := 37) F dX4_settles_37 rfl 0 rfl ?_
    refine gfX4_newSounds (pc := 38) F ht wd_623 dX4_settles_38 ?_
    refine J_iload_n (pc := 41) F dX4_settles_41 rfl 1 rfl ?_
    obtain ⟨g7, hf⟩ := grd_elim hf
    refine J_iald (pc := 42) F ht.2.2.2.1 g7 dX4_settles_42 ?_
    obtain ⟨g8, hf⟩ := grd_elim hf
    obtain ⟨σ9, eσ9, hf⟩ := nm_elim hf
    refine J_iast (pc := 43) F ht.2.2.1 g8 dX4_settles_43 eσ9 ?_
    obtain ⟨x10, ex10, hf⟩ := nm_elim hf
    refine J_iinc (pc := 44) F (lv' := [(1, .int x10), (0, .ref (ad 0))]) dX4_settles_44 1 rfl (ex10.trans (congrArg _ ki_1.symm)) (by decide) rfl ?_
    refine J_goto (pc := 47) F (tgt := 26) dX4_settles_47 (by decide) ?_
    refine J_sub [1, 0] rfl ?_
    exact ih4 (x10, σ9) hf
set_option maxHeartbeats 4000000 in
set_option maxRecDepth 100000 in
theorem c_X4_isWord {l : Launch} {E : En} {ad : Nat → Nat} {G : Lay} {n : Nat} (hI : adI ad n) (ht : ModAt E ad G n) {a0 : Int32} {σ : St} {res : Int32 × St} (hf : f_X4_isWord a0 σ = some res) : Ct l yX4_isWord cX4_isWord 2 (some .boolean) 1 E ad G n [.ref (ad 0), .int a0] σ (some (.int res.1)) res.2 := by
  unfold f_X4_isWord at hf
  refine J_start (own := RX4) (lv := [(0, .ref (ad 0)), (1, .int a0)]) pnX4 rfl hI (Nat.le_of_ble_eq_true rfl) rfl (fun p e s m args below meth c F => ?_)
  refine J_iload_n (pc := 0) F dX4_isWord_0 rfl 1 rfl ?_
  refine J_i2l (pc := 1) F dX4_isWord_1 ?_
  refine J_lconst (pc := 2) F (v := 0) dX4_isWord_2 (by decide +kernel) ?_
  refine J_aload_n (pc := 3) F dX4_isWord_3 rfl 0 rfl ?_
  refine gfX4_words (pc := 4) F ht wd_618 dX4_isWord_4 ?_
  refine J_iconst (pc := 7) F dX4_isWord_7 ki_1 ?_
  refine J_isub (pc := 8) F dX4_isWord_8 ?_
  refine J_i2l (pc := 9) F dX4_isWord_9 ?_
  obtain ⟨q1, h1, hf⟩ := bind_elim hf
  refine J_callSI (pc := 10) F (c_X4_in hI  h1) (by omega) (by decide) wc_X4_in wd_691 rfl rfl (Nat.le_of_ble_eq_true rfl) dX4_isWord_10 ?_
  obtain ⟨g2, hf⟩ := grd_elim hf
  exact J_iret (pc := 13) F (narZ g2) dX4_isWord_13 hf
set_option maxHeartbeats 4000000 in
set_option maxRecDepth 100000 in
theorem c_X4_isOne {l : Launch} {E : En} {ad : Nat → Nat} {G : Lay} {n : Nat} (hI : adI ad n) (ht : ModAt E ad G n) {a0 : Int32} {σ : St} {res : Int32 × St} (hf : f_X4_isOne a0 σ = some res) : Ct l yX4_isOne cX4_isOne 2 (some .boolean) 1 E ad G n [.ref (ad 0), .int a0] σ (some (.int res.1)) res.2 := by
  unfold f_X4_isOne at hf
  refine J_start (own := RX4) (lv := [(0, .ref (ad 0)), (1, .int a0)]) pnX4 rfl hI (Nat.le_of_ble_eq_true rfl) rfl (fun p e s m args below meth c F => ?_)
  refine J_iload_n (pc := 0) F dX4_isOne_0 rfl 1 rfl ?_
  refine J_i2l (pc := 1) F dX4_isOne_1 ?_
  refine J_lconst (pc := 2) F (v := 0) dX4_isOne_2 (by decide +kernel) ?_
  refine J_aload_n (pc := 3) F dX4_isOne_3 rfl 0 rfl ?_
  refine gfX4_many (pc := 4) F ht wd_620 dX4_isOne_4 ?_
  refine J_iconst (pc := 7) F dX4_isOne_7 ki_1 ?_
  refine J_isub (pc := 8) F dX4_isOne_8 ?_
  refine J_i2l (pc := 9) F dX4_isOne_9 ?_
  obtain ⟨q1, h1, hf⟩ := bind_elim hf
  refine J_callSI (pc := 10) F (c_X4_in hI  h1) (by omega) (by decide) wc_X4_in wd_691 rfl rfl (Nat.le_of_ble_eq_true rfl) dX4_isOne_10 ?_
  obtain ⟨g2, hf⟩ := grd_elim hf
  exact J_iret (pc := 13) F (narZ g2) dX4_isOne_13 hf
set_option maxHeartbeats 4000000 in
set_option maxRecDepth 100000 in
theorem c_X4_write {l : Launch} {E : En} {ad : Nat → Nat} {G : Lay} {n : Nat} (hI : adI ad n) (ht : ModAt E ad G n) {a0 : Int32} {σ : St} {res : Int32 × St} (hf : f_X4_write a0 σ = some res) : Ct l yX4_write cX4_write 2 (some .int) 1 E ad G n [.ref (ad 0), .int a0] σ (some (.int res.1)) res.2 := by
  unfold f_X4_write at hf
  refine J_start (own := RX4) (lv := [(0, .ref (ad 0)), (1, .int a0)]) pnX4 rfl hI (Nat.le_of_ble_eq_true rfl) rfl (fun p e s m args below meth c F => ?_)
  refine J_iload_n (pc := 0) F dX4_write_0 rfl 1 rfl ?_
  refine J_i2l (pc := 1) F dX4_write_1 ?_
  refine J_ldc2 (pc := 2) F wd_689 dX4_write_2 ?_
  refine J_ldc2 (pc := 5) F wd_690 dX4_write_5 ?_
  obtain ⟨q1, h1, hf⟩ := bind_elim hf
  refine J_callSI (pc := 8) F (c_X4_in hI  h1) (by omega) (by decide) wc_X4_in wd_691 rfl rfl (Nat.le_of_ble_eq_true rfl) dX4_write_8 ?_
  rcases ite_elim hf with ⟨c2, hf⟩ | ⟨c2, hf⟩
  · refine J_if_neT (pc := 11) F (tgt := 16) dX4_write_11 (by decide) c2 ?_
    refine J_aload_n (pc := 16) F dX4_write_16 rfl 0 rfl ?_
    refine gfX4_length (pc := 17) F ht wd_629 dX4_write_17 ?_
    refine J_sipush (pc := 20) F dX4_write_20 ks_200 ?_
    rcases ite_elim hf with ⟨c3, hf⟩ | ⟨c3, hf⟩
    · refine J_icmp_neT (pc := 23) F (tgt := 29) dX4_write_23 (by decide) c3 ?_
      refine J_aload_n (pc := 29) F dX4_write_29 rfl 0 rfl ?_
      refine gfX4_text (pc := 30) F ht wd_630 dX4_write_30 ?_
      refine J_aload_n (pc := 33) F dX4_write_33 rfl 0 rfl ?_
      refine gfX4_length (pc := 34) F ht wd_629 dX4_write_34 ?_
      refine J_iload_n (pc := 37) F dX4_write_37 rfl 1 rfl ?_
      refine J_i2b (pc := 38) F dX4_write_38 ?_
      obtain ⟨g4, hf⟩ := grd_elim hf
      obtain ⟨σ5, eσ5, hf⟩ := nm_elim hf
      refine J_bast (pc := 39) F ht.2.2.2.2.2.1 g4 dX4_write_39 eσ5 ?_
      refine J_aload_n (pc := 40) F dX4_write_40 rfl 0 rfl ?_
      refine J_dup (pc := 41) F dX4_write_41 rfl ?_
      refine gfX4_length (pc := 42) F ht wd_629 dX4_write_42 ?_
      refine J_iconst (pc := 45) F dX4_write_45 ki_1 ?_
      refine J_iadd (pc := 46) F dX4_write_46 ?_
      obtain ⟨σ6, eσ6, hf⟩ := nm_elim hf
      refine pfX4_length (pc := 47) F ht wd_629 dX4_write_47 eσ6 ?_
      refine J_aload_n (pc := 50) F dX4_write_50 rfl 0 rfl ?_
      refine gfX4_length (pc := 51) F ht wd_629 dX4_write_51 ?_
      exact J_iret (pc := 54) F rfl dX4_write_54 hf
    · refine J_icmp_neF (pc := 23) F (tgt := 29) dX4_write_23 (by decide) c3 ?_
      refine J_bipush (pc := 26) F dX4_write_26 kb_m3 ?_
      exact J_iret (pc := 28) F rfl dX4_write_28 hf
  · refine J_if_neF (pc := 11) F (tgt := 16) dX4_write_11 (by decide) c2 ?_
    refine J_iconst (pc := 14) F dX4_write_14 ki_m1 ?_
    exact J_iret (pc := 15) F rfl dX4_write_15 hf
set_option maxHeartbeats 4000000 in
set_option maxRecDepth 100000 in
theorem c_X4_wipe {l : Launch} {E : En} {ad : Nat → Nat} {G : Lay} {n : Nat} (hI : adI ad n) (ht : ModAt E ad G n) {σ : St} {res : Int32 × St} (hf : f_X4_wipe  σ = some res) : Ct l yX4_wipe cX4_wipe 2 (some .int) 0 E ad G n [.ref (ad 0)] σ (some (.int res.1)) res.2 := by
  unfold f_X4_wipe at hf
  refine J_start (own := RX4) (lv := [(0, .ref (ad 0))]) pnX4 rfl hI (Nat.le_of_ble_eq_true rfl) rfl (fun p e s m args below meth c F => ?_)
  refine J_aload_n (pc := 0) F dX4_wipe_0 rfl 0 rfl ?_
  refine gfX4_length (pc := 1) F ht wd_629 dX4_wipe_1 ?_
  obtain ⟨x1, ex1, hf⟩ := nm_elim hf
  refine J_ti ex1 ?_
  refine J_istore_n (pc := 4) F (lv' := [(1, .int x1), (0, .ref (ad 0))]) dX4_wipe_4 rfl (by decide) rfl ?_
  refine J_aload_n (pc := 5) F dX4_wipe_5 rfl 1 rfl ?_
  refine J_iconst (pc := 6) F dX4_wipe_6 ki_0 ?_
  obtain ⟨σ2, eσ2, hf⟩ := nm_elim hf
  refine pfX4_length (pc := 7) F ht wd_629 dX4_wipe_7 eσ2 ?_
  refine J_iload_n (pc := 10) F dX4_wipe_10 rfl 0 rfl ?_
  exact J_iret (pc := 11) F rfl dX4_wipe_11 hf
set_option maxHeartbeats 4000000 in
set_option maxRecDepth 100000 in
theorem c_X4_next {l : Launch} {E : En} {ad : Nat → Nat} {G : Lay} {n : Nat} (hI : adI ad n) (ht : ModAt E ad G n) {σ : St} {res : Int32 × St} (hf : f_X4_next  σ = some res) : Ct l yX4_next cX4_next 1 (some .int) 0 E ad G n [.ref (ad 0)] σ (some (.int res.1)) res.2 := by
  unfold f_X4_next at hf
  refine J_start (own := RX4) (lv := [(0, .ref (ad 0))]) pnX4 rfl hI (Nat.le_of_ble_eq_true rfl) rfl (fun p e s m args below meth c F => ?_)
  refine J_aload_n (pc := 0) F dX4_next_0 rfl 0 rfl ?_
  refine gfX4_at (pc := 1) F ht wd_631 dX4_next_1 ?_
  refine J_aload_n (pc := 4) F dX4_next_4 rfl 0 rfl ?_
  refine gfX4_length (pc := 5) F ht wd_629 dX4_next_5 ?_
  rcases ite_elim hf with ⟨c1, hf⟩ | ⟨c1, hf⟩
  · refine J_icmp_geT (pc := 8) F (tgt := 23) dX4_next_8 (by decide) c1 ?_
    refine J_iconst (pc := 23) F dX4_next_23 ki_m1 ?_
    exact J_iret (pc := 24) F rfl dX4_next_24 hf
  · refine J_icmp_geF (pc := 8) F (tgt := 23) dX4_next_8 (by decide) c1 ?_
    refine J_aload_n (pc := 11) F dX4_next_11 rfl 0 rfl ?_
    refine gfX4_text (pc := 12) F ht wd_630 dX4_next_12 ?_
    refine J_aload_n (pc := 15) F dX4_next_15 rfl 0 rfl ?_
    refine gfX4_at (pc := 16) F ht wd_631 dX4_next_16 ?_
    obtain ⟨g2, hf⟩ := grd_elim hf
    refine J_bald (pc := 19) F ht.2.2.2.2.2.1 g2 dX4_next_19 ?_
    refine J_goto (pc := 20) F (tgt := 24) dX4_next_20 (by decide) ?_
    exact J_iret (pc := 24) F rfl dX4_next_24 hf
set_option maxHeartbeats 4000000 in
set_option maxRecDepth 100000 in
theorem c_X4_number {l : Launch} {E : En} {ad : Nat → Nat} {G : Lay} {n : Nat} (hI : adI ad n) (ht : ModAt E ad G n) {a0 : Int32} {a1 : Int32} {σ : St} {res : Int32 × St} (hf : f_X4_number a0 a1 σ = some res) : Ct l yX4_number cX4_number 5 (some .int) 1 E ad G n [.ref (ad 0), .int a0, .int a1] σ (some (.int res.1)) res.2 := by
  unfold f_X4_number at hf
  refine J_start (own := RX4) (lv := [(0, .ref (ad 0)), (1, .int a0), (2, .int a1)]) pnX4 rfl hI (Nat.le_of_ble_eq_true rfl) rfl (fun p e s m args below meth c F => ?_)
  refine J_iconst (pc := 0) F dX4_number_0 ki_0 ?_
  refine J_istore_n (pc := 1) F (lv' := [(3, .int (0 : Int32)), (0, .ref (ad 0)), (1, .int a0), (2, .int a1)]) dX4_number_1 rfl (by decide) rfl ?_
  refine J_iconst (pc := 2) F dX4_number_2 ki_0 ?_
  refine J_istore (pc := 3) F (lv' := [(4, .int (0 : Int32)), (3, .int (0 : Int32)), (0, .ref (ad 0)), (1, .int a0), (2, .int a1)]) dX4_number_3 (by decide) rfl ?_
  refine J_sub [2, 3, 4, 1, 0] rfl ?_
  refine lp_ind (P := fun (b1 : Int32 × Int32 × St) => J p l e 1 s m args below meth c E ad G n (QI below E ad G n args s res) 5 b1.2.2 5 [(0, .ref (ad 0)), (1, .int a0), (2, .int a1), (3, .int b1.1), (4, .int b1.2.1)] []) (fun r1 ih1 b1 hf => ?_) FU ((0 : Int32), (0 : Int32), σ) hf
  show J p l e 1 s m args below meth c E ad G n (QI below E ad G n args s res) 5 b1.2.2 5 [(0, .ref (ad 0)), (1, .int a0), (2, .int a1), (3, .int b1.1), (4, .int b1.2.1)] []
  refine J_aload_n (pc := 5) F dX4_number_5 rfl 0 rfl ?_
  obtain ⟨q2, h2, hf⟩ := bind_elim hf
  refine J_callVI (pc := 6) F (c_X4_next hI ht h2) (by omega) (by decide) (modN ht) (ht.2.1 _) rfl wc_X4_next wd_706 rfl rfl (Nat.le_of_ble_eq_true rfl) dX4_number_6 ?_
  refine J_i2l (pc := 9) F dX4_number_9 ?_
  refine J_ldc2 (pc := 10) F wd_718 dX4_number_10 ?_
  refine J_ldc2 (pc := 13) F wd_719 dX4_number_13 ?_
  obtain ⟨q3, h3, hf⟩ := bind_elim hf
  refine J_callSI (pc := 16) F (c_X4_in hI  h3) (by omega) (by decide) wc_X4_in wd_691 rfl rfl (Nat.le_of_ble_eq_true rfl) dX4_number_16 ?_
  obtain ⟨k4, hk4, hf⟩ := jn_elim hf
  have hJk4 : ∀ (q4 : St), k4 q4 = some res → J p l e 1 s m args below meth c E ad G n (QI below E ad G n args s res) 5 q4 57 [(0, .ref (ad 0)), (1, .int a0), (2, .int a1), (3, .int b1.1), (4, .int b1.2.1)] [] := by
    intro q4 hf
    replace hf := hk4 q4 hf
    refine J_aload_n (pc := 57) F dX4_number_57 rfl 0 rfl ?_
    refine J_aload_n (pc := 58) F dX4_number_58 rfl 0 rfl ?_
    refine gfX4_isWrong (pc := 59) F ht wd_633 dX4_number_59 ?_
    obtain ⟨k11, hk11, hf⟩ := jn_elim hf
    have hJk11 : ∀ (q11 : Int32 × St), k11 q11 = some res → J p l e 1 s m args below meth c E ad G n (QI below E ad G n args s res) 5 q11.2 93 [(0, .ref (ad 0)), (3, .int b1.1)] [.int q11.1, .ref (ad 0)] := by
      intro q11 hf
      replace hf := hk11 q11 hf
      obtain ⟨g20, hf⟩ := grd_elim hf
      obtain ⟨σ18, eσ18, hf⟩ := nm_elim hf
      refine pfX4_isWrong (pc := 93) F ht (Classical.not_not.mp g20) wd_633 dX4_number_93 eσ18 ?_
      refine J_aload_n (pc := 96) F dX4_number_96 rfl 0 rfl ?_
      refine gfX4_isWrong (pc := 97) F ht wd_633 dX4_number_97 ?_
      rcases ite_elim hf with ⟨c19, hf⟩ | ⟨c19, hf⟩
      · refine J_if_eqT (pc := 100) F (tgt := 107) dX4_number_100 (by decide) c19 ?_
        refine J_iload_n (pc := 107) F dX4_number_107 rfl 1 rfl ?_
        exact J_iret (pc := 108) F rfl dX4_number_108 hf
      · refine J_if_eqF (pc := 100) F (tgt := 107) dX4_number_100 (by decide) c19 ?_
        refine J_iconst (pc := 103) F dX4_number_103 ki_0 ?_
        refine J_goto (pc := 104) F (tgt := 108) dX4_number_104 (by decide) ?_
        exact J_iret (pc := 108) F rfl dX4_number_108 hf
    clear hk11
    obtain ⟨k12, hk12, hf⟩ := jn_elim hf
    have hJk12 : ∀ (q12 : St), k12 q12 = some res → J p l e 1 s m args below meth c E ad G n (QI below E ad G n args s res) 5 q12 88 [(0, .ref (ad 0)), (3, .int b1.1)] [.ref (ad 0)] := by
      intro q12 hf
      replace hf := hk12 q12 hf
      refine J_iconst (pc := 88) F dX4_number_88 ki_1 ?_
      refine J_goto (pc := 89) F (tgt := 93) dX4_number_89 (by decide) ?_
      exact hJk11 ((1 : Int32), q12) hf
    clear hk12
    rcases ite_elim hf with ⟨c13, hf⟩ | ⟨c13, hf⟩
    · refine J_if_neT (pc := 62) F (tgt := 88) dX4_number_62 (by decide) c13 ?_
      refine J_sub [0, 3] rfl ?_
      exact hJk12 q4 hf
    · refine J_if_neF (pc := 62) F (tgt := 88) dX4_number_62 (by decide) c13 ?_
      refine J_iload (pc := 65) F dX4_number_65 4 rfl ?_
      rcases ite_elim hf with ⟨c14, hf⟩ | ⟨c14, hf⟩
      · refine J_if_eqT (pc := 67) F (tgt := 88) dX4_number_67 (by decide) c14 ?_
        refine J_sub [0, 3] rfl ?_
        exact hJk12 q4 hf
      · refine J_if_eqF (pc := 67) F (tgt := 88) dX4_number_67 (by decide) c14 ?_
        refine J_iload (pc := 70) F dX4_number_70 4 rfl ?_
        refine J_iconst (pc := 72) F dX4_number_72 ki_2 ?_
        rcases ite_elim hf with ⟨c15, hf⟩ | ⟨c15, hf⟩
        · refine J_icmp_gtT (pc := 73) F (tgt := 88) dX4_number_73 (by decide) c15 ?_
          refine J_sub [0, 3] rfl ?_
          exact hJk12 q4 hf
        · refine J_icmp_gtF (pc := 73) F (tgt := 88) dX4_number_73 (by decide) c15 ?_
          refine J_iload_n (pc := 76) F dX4_number_76 rfl 3 rfl ?_
          refine J_i2l (pc := 77) F dX4_number_77 ?_
          refine J_iload_n (pc := 78) F dX4_number_78 rfl 1 rfl ?_
          refine J_i2l (pc := 79) F dX4_number_79 ?_
          refine J_iload_n (pc := 80) F dX4_number_80 rfl 2 rfl ?_
          refine J_i2l (pc := 81) F dX4_number_81 ?_
          obtain ⟨q16, h16, hf⟩ := bind_elim hf
          refine J_callSI (pc := 82) F (c_X4_in hI  h16) (by omega) (by decide) wc_X4_in wd_691 rfl rfl (Nat.le_of_ble_eq_true rfl) dX4_number_82 ?_
          rcases ite_elim hf with ⟨c17, hf⟩ | ⟨c17, hf⟩
          · refine J_if_neT (pc := 85) F (tgt := 92) dX4_number_85 (by decide) c17 ?_
            refine J_iconst (pc := 92) F dX4_number_92 ki_0 ?_
            refine J_sub [0, 3] rfl ?_
            exact hJk11 ((0 : Int32), q16.2) hf
          · refine J_if_neF (pc := 85) F (tgt := 92) dX4_number_85 (by decide) c17 ?_
            refine J_sub [0, 3] rfl ?_
            exact hJk12 q16.2 hf
  clear hk4
  rcases ite_elim hf with ⟨c5, hf⟩ | ⟨c5, hf⟩
  · refine J_if_eqT (pc := 19) F (tgt := 57) dX4_number_19 (by decide) c5 ?_
    exact hJk4 q3.2 hf
  · refine J_if_eqF (pc := 19) F (tgt := 57) dX4_number_19 (by decide) c5 ?_
    refine J_iload (pc := 22) F dX4_number_22 4 rfl ?_
    refine J_iconst (pc := 24) F dX4_number_24 ki_3 ?_
    rcases ite_elim hf with ⟨c6, hf⟩ | ⟨c6, hf⟩
    · refine J_icmp_geT (pc := 25) F (tgt := 57) dX4_number_25 (by decide) c6 ?_
      exact hJk4 q3.2 hf
    · refine J_icmp_geF (pc := 25) F (tgt := 57) dX4_number_25 (by decide) c6 ?_
      refine J_bipush (pc := 28) F dX4_number_28 kb_10 ?_
      refine J_iload_n (pc := 30) F dX4_number_30 rfl 3 rfl ?_
      refine J_imul (pc := 31) F dX4_number_31 ?_
      refine J_aload_n (pc := 32) F dX4_number_32 rfl 0 rfl ?_
      obtain ⟨q7, h7, hf⟩ := bind_elim hf
      refine J_callVI (pc := 33) F (c_X4_next hI ht h7) (by omega) (by decide) (modN ht) (ht.2.1 _) rfl wc_X4_next wd_706 rfl rfl (Nat.le_of_ble_eq_true rfl) dX4_number_33 ?_
      refine J_iadd (pc := 36) F dX4_number_36 ?_
      refine J_bipush (pc := 37) F dX4_number_37 kb_48 ?_
      refine J_isub (pc := 39) F dX4_number_39 ?_
      obtain ⟨x8, ex8, hf⟩ := nm_elim hf
      refine J_ti ex8 ?_
      refine J_istore_n (pc := 40) F (lv' := [(3, .int x8), (0, .ref (ad 0)), (1, .int a0), (2, .int a1), (4, .int b1.2.1)]) dX4_number_40 rfl (by decide) rfl ?_
      obtain ⟨x9, ex9, hf⟩ := nm_elim hf
      refine J_iinc (pc := 41) F (lv' := [(4, .int x9), (3, .int x8), (0, .ref (ad 0)), (1, .int a0), (2, .int a1)]) dX4_number_41 4 rfl (ex9.trans (congrArg _ ki_1.symm)) (by decide) rfl ?_
      refine J_aload_n (pc := 44) F dX4_number_44 rfl 2 rfl ?_
      refine J_dup (pc := 45) F dX4_number_45 rfl ?_
      refine gfX4_at (pc := 46) F ht wd_631 dX4_number_46 ?_
      refine J_iconst (pc := 49) F dX4_number_49 ki_1 ?_
      refine J_iadd (pc := 50) F dX4_number_50 ?_
      obtain ⟨σ10, eσ10, hf⟩ := nm_elim hf
      refine pfX4_at (pc := 51) F ht wd_631 dX4_number_51 eσ10 ?_
      refine J_goto (pc := 54) F (tgt := 5) dX4_number_54 (by decide) ?_
      refine J_sub [2, 3, 4, 1, 0] rfl ?_
      exact ih1 (x8, x9, σ10) hf
set_option maxHeartbeats 4000000 in
set_option maxRecDepth 100000 in
theorem c_X4_more {l : Launch} {E : En} {ad : Nat → Nat} {G : Lay} {n : Nat} (hI : adI ad n) (ht : ModAt E ad G n) {a0 : Int32} {a1 : Int32} {σ : St} {res : Int32 × St} (hf : f_X4_more a0 a1 σ = some res) : Ct l yX4_more cX4_more 3 (some .int) 2 E ad G n [.ref (ad 0), .int a0, .int a1] σ (some (.int res.1)) res.2 := by
  unfold f_X4_more at hf
  refine J_start (own := RX4) (lv := [(0, .ref (ad 0)), (1, .int a0), (2, .int a1)]) pnX4 rfl hI (Nat.le_of_ble_eq_true rfl) rfl (fun p e s m args below meth c F => ?_)
  refine J_aload_n (pc := 0) F dX4_more_0 rfl 0 rfl ?_
  refine J_aload_n (pc := 1) F dX4_more_1 rfl 0 rfl ?_
  refine gfX4_isWrong (pc := 2) F ht wd_633 dX4_more_2 ?_
  obtain ⟨k1, hk1, hf⟩ := jn_elim hf
  have hJk1 : ∀ (q1 : Int32 × St), k1 q1 = some res → J p l e 2 s m args below meth c E ad G n (QI below E ad G n args s res) 3 q1.2 22 [(0, .ref (ad 0)), (1, .int a0), (2, .int a1)] [.int q1.1, .ref (ad 0)] := by
    intro q1 hf
    replace hf := hk1 q1 hf
    obtain ⟨g10, hf⟩ := grd_elim hf
    obtain ⟨σ6, eσ6, hf⟩ := nm_elim hf
    refine pfX4_isWrong (pc := 22) F ht (Classical.not_not.mp g10) wd_633 dX4_more_22 eσ6 ?_
    refine J_aload_n (pc := 25) F dX4_more_25 rfl 0 rfl ?_
    refine J_dup (pc := 26) F dX4_more_26 rfl ?_
    refine gfX4_at (pc := 27) F ht wd_631 dX4_more_27 ?_
    refine J_iconst (pc := 30) F dX4_more_30 ki_1 ?_
    refine J_iadd (pc := 31) F dX4_more_31 ?_
    obtain ⟨σ7, eσ7, hf⟩ := nm_elim hf
    refine pfX4_at (pc := 32) F ht wd_631 dX4_more_32 eσ7 ?_
    refine J_aload_n (pc := 35) F dX4_more_35 rfl 0 rfl ?_
    refine gfX4_isWrong (pc := 36) F ht wd_633 dX4_more_36 ?_
    rcases ite_elim hf with ⟨c8, hf⟩ | ⟨c8, hf⟩
    · refine J_if_eqT (pc := 39) F (tgt := 46) dX4_more_39 (by decide) c8 ?_
      refine J_aload_n (pc := 46) F dX4_more_46 rfl 0 rfl ?_
      refine J_iload_n (pc := 47) F dX4_more_47 rfl 1 rfl ?_
      refine J_iload_n (pc := 48) F dX4_more_48 rfl 2 rfl ?_
      obtain ⟨q9, h9, hf⟩ := bind_elim hf
      refine J_callVI (pc := 49) F (c_X4_number hI ht h9) (by omega) (by decide) (modN ht) (ht.2.1 _) rfl wc_X4_number wd_728 rfl rfl (Nat.le_of_ble_eq_true rfl) dX4_more_49 ?_
      exact J_iret (pc := 52) F rfl dX4_more_52 hf
    · refine J_if_eqF (pc := 39) F (tgt := 46) dX4_more_39 (by decide) c8 ?_
      refine J_iconst (pc := 42) F dX4_more_42 ki_0 ?_
      refine J_goto (pc := 43) F (tgt := 52) dX4_more_43 (by decide) ?_
      exact J_iret (pc := 52) F rfl dX4_more_52 hf
  clear hk1
  obtain ⟨k2, hk2, hf⟩ := jn_elim hf
  have hJk2 : ∀ (q2 : St), k2 q2 = some res → J p l e 2 s m args below meth c E ad G n (QI below E ad G n args s res) 3 q2 17 [(0, .ref (ad 0)), (1, .int a0), (2, .int a1)] [.ref (ad 0)] := by
    intro q2 hf
    replace hf := hk2 q2 hf
    refine J_iconst (pc := 17) F dX4_more_17 ki_1 ?_
    refine J_goto (pc := 18) F (tgt := 22) dX4_more_18 (by decide) ?_
    exact hJk1 ((1 : Int32), q2) hf
  clear hk2
  rcases ite_elim hf with ⟨c3, hf⟩ | ⟨c3, hf⟩
  · refine J_if_neT (pc := 5) F (tgt := 17) dX4_more_5 (by decide) c3 ?_
    exact hJk2 σ hf
  · refine J_if_neF (pc := 5) F (tgt := 17) dX4_more_5 (by decide) c3 ?_
    refine J_aload_n (pc := 8) F dX4_more_8 rfl 0 rfl ?_
    obtain ⟨q4, h4, hf⟩ := bind_elim hf
    refine J_callVI (pc := 9) F (c_X4_next hI ht h4) (by omega) (by decide) (modN ht) (ht.2.1 _) rfl wc_X4_next wd_706 rfl rfl (Nat.le_of_ble_eq_true rfl) dX4_more_9 ?_
    refine J_bipush (pc := 12) F dX4_more_12 kb_44 ?_
    rcases ite_elim hf with ⟨c5, hf⟩ | ⟨c5, hf⟩
    · refine J_icmp_eqT (pc := 14) F (tgt := 21) dX4_more_14 (by decide) c5 ?_
      refine J_iconst (pc := 21) F dX4_more_21 ki_0 ?_
      exact hJk1 ((0 : Int32), q4.2) hf
    · refine J_icmp_eqF (pc := 14) F (tgt := 21) dX4_more_14 (by decide) c5 ?_
      exact hJk2 q4.2 hf
set_option maxHeartbeats 4000000 in
set_option maxRecDepth 100000 in
theorem c_X4_tongueItem {l : Launch} {E : En} {ad : Nat → Nat} {G : Lay} {n : Nat} (hI : adI ad n) (ht : ModAt E ad G n) {σ : St} {res : Unit × St} (hf : f_X4_tongueItem  σ = some res) : Ct l yX4_tongueItem cX4_tongueItem 2 none 1 E ad G n [.ref (ad 0)] σ none res.2 := by
  unfold f_X4_tongueItem at hf
  refine J_start (own := RX4) (lv := [(0, .ref (ad 0))]) pnX4 rfl hI (Nat.le_of_ble_eq_true rfl) rfl (fun p e s m args below meth c F => ?_)
  refine J_iconst (pc := 0) F dX4_tongueItem_0 ki_0 ?_
  refine J_istore_n (pc := 1) F (lv' := [(1, .int (0 : Int32)), (0, .ref (ad 0))]) dX4_tongueItem_1 rfl (by decide) rfl ?_
  refine J_sub [1, 0] rfl ?_
  refine lp_ind (P := fun (b1 : Int32 × St) => J p l e 1 s m args below meth c E ad G n (QU below E ad G n args s res) 2 b1.2 2 [(0, .ref (ad 0)), (1, .int b1.1)] []) (fun r1 ih1 b1 hf => ?_) FU ((0 : Int32), σ) hf
  show J p l e 1 s m args below meth c E ad G n (QU below E ad G n args s res) 2 b1.2 2 [(0, .ref (ad 0)), (1, .int b1.1)] []
  refine J_aload_n (pc := 2) F dX4_tongueItem_2 rfl 0 rfl ?_
  obtain ⟨q2, h2, hf⟩ := bind_elim hf
  refine J_callVI (pc := 3) F (c_X4_next hI ht h2) (by omega) (by decide) (modN ht) (ht.2.1 _) rfl wc_X4_next wd_706 rfl rfl (Nat.le_of_ble_eq_true rfl) dX4_tongueItem_3 ?_
  refine J_i2l (pc := 6) F dX4_tongueItem_6 ?_
  refine J_ldc2 (pc := 7) F wd_718 dX4_tongueItem_7 ?_
  refine J_ldc2 (pc := 10) F wd_719 dX4_tongueItem_10 ?_
  obtain ⟨q3, h3, hf⟩ := bind_elim hf
  refine J_callSI (pc := 13) F (c_X4_in hI  h3) (by omega) (by decide) wc_X4_in wd_691 rfl rfl (Nat.le_of_ble_eq_true rfl) dX4_tongueItem_13 ?_
  obtain ⟨k4, hk4, hf⟩ := jn_elim hf
  have hJk4 : ∀ (q4 : St), k4 q4 = some res → J p l e 1 s m args below meth c E ad G n (QU below E ad G n args s res) 2 q4 59 [(0, .ref (ad 0)), (1, .int b1.1)] [] := by
    intro q4 hf
    replace hf := hk4 q4 hf
    refine J_aload_n (pc := 59) F dX4_tongueItem_59 rfl 0 rfl ?_
    refine J_iload_n (pc := 60) F dX4_tongueItem_60 rfl 1 rfl ?_
    refine J_i2l (pc := 61) F dX4_tongueItem_61 ?_
    refine J_lconst (pc := 62) F (v := 1) dX4_tongueItem_62 (by decide +kernel) ?_
    refine J_ldc2 (pc := 63) F wd_723 dX4_tongueItem_63 ?_
    obtain ⟨q13, h13, hf⟩ := bind_elim hf
    refine J_callSI (pc := 66) F (c_X4_in hI  h13) (by omega) (by decide) wc_X4_in wd_691 rfl rfl (Nat.le_of_ble_eq_true rfl) dX4_tongueItem_66 ?_
    obtain ⟨k14, hk14, hf⟩ := jn_elim hf
    have hJk14 : ∀ (q14 : Int32 × St), k14 q14 = some res → J p l e 1 s m args below meth c E ad G n (QU below E ad G n args s res) 2 q14.2 77 [(0, .ref (ad 0)), (1, .int b1.1)] [.int q14.1, .ref (ad 0)] := by
      intro q14 hf
      replace hf := hk14 q14 hf
      obtain ⟨g18, hf⟩ := grd_elim hf
      obtain ⟨σ16, eσ16, hf⟩ := nm_elim hf
      refine pfX4_isWrong (pc := 77) F ht (Classical.not_not.mp g18) wd_633 dX4_tongueItem_77 eσ16 ?_
      refine J_aload_n (pc := 80) F dX4_tongueItem_80 rfl 0 rfl ?_
      refine J_iload_n (pc := 81) F dX4_tongueItem_81 rfl 1 rfl ?_
      obtain ⟨σ17, eσ17, hf⟩ := nm_elim hf
      refine pfX4_newWords (pc := 82) F ht wd_622 dX4_tongueItem_82 eσ17 ?_
      exact J_vret (pc := 85) F dX4_tongueItem_85 hf
    clear hk14
    rcases ite_elim hf with ⟨c15, hf⟩ | ⟨c15, hf⟩
    · refine J_if_neT (pc := 69) F (tgt := 76) dX4_tongueItem_69 (by decide) c15 ?_
      refine J_iconst (pc := 76) F dX4_tongueItem_76 ki_0 ?_
      exact hJk14 ((0 : Int32), q13.2) hf
    · refine J_if_neF (pc := 69) F (tgt := 76) dX4_tongueItem_69 (by decide) c15 ?_
      refine J_iconst (pc := 72) F dX4_tongueItem_72 ki_1 ?_
      refine J_goto (pc := 73) F (tgt := 77) dX4_tongueItem_73 (by decide) ?_
      exact hJk14 ((1 : Int32), q13.2) hf
  clear hk4
  rcases ite_elim hf with ⟨c5, hf⟩ | ⟨c5, hf⟩
  · refine J_if_eqT (pc := 16) F (tgt := 59) dX4_tongueItem_16 (by decide) c5 ?_
    exact hJk4 q3.2 hf
  · refine J_if_eqF (pc := 16) F (tgt := 59) dX4_tongueItem_16 (by decide) c5 ?_
    refine J_iload_n (pc := 19) F dX4_tongueItem_19 rfl 1 rfl ?_
    refine J_bipush (pc := 20) F dX4_tongueItem_20 kb_9 ?_
    rcases ite_elim hf with ⟨c6, hf⟩ | ⟨c6, hf⟩
    · refine J_icmp_geT (pc := 22) F (tgt := 59) dX4_tongueItem_22 (by decide) c6 ?_
      exact hJk4 q3.2 hf
    · refine J_icmp_geF (pc := 22) F (tgt := 59) dX4_tongueItem_22 (by decide) c6 ?_
      refine J_aload_n (pc := 25) F dX4_tongueItem_25 rfl 0 rfl ?_
      refine gfX4_newSounds (pc := 26) F ht wd_623 dX4_tongueItem_26 ?_
      refine J_bipush (pc := 29) F dX4_tongueItem_29 kb_7 ?_
      refine J_iload_n (pc := 31) F dX4_tongueItem_31 rfl 1 rfl ?_
      obtain ⟨q7, h7, hf⟩ := bind_elim hf
      refine J_callSI (pc := 32) F (c_X4_smaller hI  h7) (by omega) (by decide) wc_X4_smaller wd_720 rfl rfl (Nat.le_of_ble_eq_true rfl) dX4_tongueItem_32 ?_
      refine J_aload_n (pc := 35) F dX4_tongueItem_35 rfl 0 rfl ?_
      obtain ⟨q8, h8, hf⟩ := bind_elim hf
      refine J_callVI (pc := 36) F (c_X4_next hI ht h8) (by omega) (by decide) (modN ht) (ht.2.1 _) rfl wc_X4_next wd_706 rfl rfl (Nat.le_of_ble_eq_true rfl) dX4_tongueItem_36 ?_
      refine J_bipush (pc := 39) F dX4_tongueItem_39 kb_48 ?_
      refine J_isub (pc := 41) F dX4_tongueItem_41 ?_
      obtain ⟨g9, hf⟩ := grd_elim hf
      obtain ⟨σ10, eσ10, hf⟩ := nm_elim hf
      refine J_iast (pc := 42) F ht.2.2.2.1 g9 dX4_tongueItem_42 eσ10 ?_
      obtain ⟨x11, ex11, hf⟩ := nm_elim hf
      refine J_iinc (pc := 43) F (lv' := [(1, .int x11), (0, .ref (ad 0))]) dX4_tongueItem_43 1 rfl (ex11.trans (congrArg _ ki_1.symm)) (by decide) rfl ?_
      refine J_aload_n (pc := 46) F dX4_tongueItem_46 rfl 1 rfl ?_
      refine J_dup (pc := 47) F dX4_tongueItem_47 rfl ?_
      refine gfX4_at (pc := 48) F ht wd_631 dX4_tongueItem_48 ?_
      refine J_iconst (pc := 51) F dX4_tongueItem_51 ki_1 ?_
      refine J_iadd (pc := 52) F dX4_tongueItem_52 ?_
      obtain ⟨σ12, eσ12, hf⟩ := nm_elim hf
      refine pfX4_at (pc := 53) F ht wd_631 dX4_tongueItem_53 eσ12 ?_
      refine J_goto (pc := 56) F (tgt := 2) dX4_tongueItem_56 (by decide) ?_
      refine J_sub [1, 0] rfl ?_
      exact ih1 (x11, σ12) hf
set_option maxHeartbeats 4000000 in
set_option maxRecDepth 100000 in
theorem c_X4_wooerItem {l : Launch} {E : En} {ad : Nat → Nat} {G : Lay} {n : Nat} (hI : adI ad n) (ht : ModAt E ad G n) {σ : St} {res : Unit × St} (hf : f_X4_wooerItem  σ = some res) : Ct l yX4_wooerItem cX4_wooerItem 4 none 3 E ad G n [.ref (ad 0)] σ none res.2 := by
  unfold f_X4_wooerItem at hf
  refine J_start (own := RX4) (lv := [(0, .ref (ad 0))]) pnX4 rfl hI (Nat.le_of_ble_eq_true rfl) rfl (fun p e s m args below meth c F => ?_)
  refine J_aload_n (pc := 0) F dX4_wooerItem_0 rfl 0 rfl ?_
  refine J_aload_n (pc := 1) F dX4_wooerItem_1 rfl 0 rfl ?_
  refine gfX4_newMany (pc := 2) F ht wd_624 dX4_wooerItem_2 ?_
  refine J_iconst (pc := 5) F dX4_wooerItem_5 ki_5 ?_
  obtain ⟨k1, hk1, hf⟩ := jn_elim hf
  have hJk1 : ∀ (q1 : Int32 × St), k1 q1 = some res → J p l e 3 s m args below meth c E ad G n (QU below E ad G n args s res) 4 q1.2 21 [(0, .ref (ad 0))] [.int q1.1, .ref (ad 0)] := by
    intro q1 hf
    replace hf := hk1 q1 hf
    obtain ⟨g42, hf⟩ := grd_elim hf
    obtain ⟨σ5, eσ5, hf⟩ := nm_elim hf
    refine pfX4_isWrong (pc := 21) F ht (Classical.not_not.mp g42) wd_633 dX4_wooerItem_21 eσ5 ?_
    refine J_aload_n (pc := 24) F dX4_wooerItem_24 rfl 0 rfl ?_
    refine gfX4_isWrong (pc := 25) F ht wd_633 dX4_wooerItem_25 ?_
    obtain ⟨k6, hk6, hf⟩ := jn_elim hf
    have hJk6 : ∀ (q6 : Int32 × St), k6 q6 = some res → J p l e 3 s m args below meth c E ad G n (QU below E ad G n args s res) 4 q6.2 41 [(0, .ref (ad 0))] [.int q6.1] := by
      intro q6 hf
      replace hf := hk6 q6 hf
      refine J_istore_n (pc := 41) F (lv' := [(1, .int q6.1), (0, .ref (ad 0))]) dX4_wooerItem_41 rfl (by decide) rfl ?_
      refine J_aload_n (pc := 42) F dX4_wooerItem_42 rfl 1 rfl ?_
      refine J_iconst (pc := 43) F dX4_wooerItem_43 ki_1 ?_
      refine J_bipush (pc := 44) F dX4_wooerItem_44 kb_30 ?_
      obtain ⟨q9, h9, hf⟩ := bind_elim hf
      refine J_callVI (pc := 46) F (c_X4_more hI ht h9) (by omega) (by decide) (modN ht) (ht.2.1 _) rfl wc_X4_more wd_732 rfl rfl (Nat.le_of_ble_eq_true rfl) dX4_wooerItem_46 ?_
      refine J_istore_n (pc := 49) F (lv' := [(2, .int q9.1), (1, .int q6.1), (0, .ref (ad 0))]) dX4_wooerItem_49 rfl (by decide) rfl ?_
      refine J_aload_n (pc := 50) F dX4_wooerItem_50 rfl 2 rfl ?_
      refine J_aload_n (pc := 51) F dX4_wooerItem_51 rfl 2 rfl ?_
      refine gfX4_isWrong (pc := 52) F ht wd_633 dX4_wooerItem_52 ?_
      obtain ⟨k10, hk10, hf⟩ := jn_elim hf
      have hJk10 : ∀ (q10 : Int32 × St), k10 q10 = some res → J p l e 3 s m args below meth c E ad G n (QU below E ad G n args s res) 4 q10.2 72 [(0, .ref (ad 0)), (1, .int q6.1), (2, .int q9.1)] [.int q10.1, .ref (ad 0)] := by
        intro q10 hf
        replace hf := hk10 q10 hf
        obtain ⟨g41, hf⟩ := grd_elim hf
        obtain ⟨σ15, eσ15, hf⟩ := nm_elim hf
        refine pfX4_isWrong (pc := 72) F ht (Classical.not_not.mp g41) wd_633 dX4_wooerItem_72 eσ15 ?_
        refine J_aload_n (pc := 75) F dX4_wooerItem_75 rfl 0 rfl ?_
        refine J_dup (pc := 76) F dX4_wooerItem_76 rfl ?_
        refine gfX4_at (pc := 77) F ht wd_631 dX4_wooerItem_77 ?_
        refine J_iconst (pc := 80) F dX4_wooerItem_80 ki_1 ?_
        refine J_iadd (pc := 81) F dX4_wooerItem_81 ?_
        obtain ⟨σ16, eσ16, hf⟩ := nm_elim hf
        refine pfX4_at (pc := 82) F ht wd_631 dX4_wooerItem_82 eσ16 ?_
        refine J_aload_n (pc := 85) F dX4_wooerItem_85 rfl 0 rfl ?_
        refine gfX4_isWrong (pc := 86) F ht wd_633 dX4_wooerItem_86 ?_
        rcases ite_elim hf with ⟨c17, hf⟩ | ⟨c17, hf⟩
        · refine J_if_neT (pc := 89) F (tgt := 198) dX4_wooerItem_89 (by decide) c17 ?_
          exact J_vret (pc := 198) F dX4_wooerItem_198 hf
        · refine J_if_neF (pc := 89) F (tgt := 198) dX4_wooerItem_89 (by decide) c17 ?_
          refine J_aload_n (pc := 92) F dX4_wooerItem_92 rfl 0 rfl ?_
          refine J_iload_n (pc := 93) F dX4_wooerItem_93 rfl 1 rfl ?_
          refine J_iload_n (pc := 94) F dX4_wooerItem_94 rfl 2 rfl ?_
          obtain ⟨q18, h18, hf⟩ := bind_elim hf
          refine J_callVU (pc := 95) F (c_X4_sits hI ht h18) (by omega) (by decide) (modN ht) (ht.2.1 _) rfl wc_X4_sits wd_602 rfl rfl (Nat.le_of_ble_eq_true rfl) dX4_wooerItem_95 ?_
          refine J_iconst (pc := 98) F dX4_wooerItem_98 ki_0 ?_
          refine J_istore_n (pc := 99) F (lv' := [(3, .int (0 : Int32)), (0, .ref (ad 0)), (1, .int q6.1), (2, .int q9.1)]) dX4_wooerItem_99 rfl (by decide) rfl ?_
          refine J_sub [1, 0] rfl ?_
          refine lp_ind (P := fun (b19 : Int32 × St) => J p l e 3 s m args below meth c E ad G n (QU below E ad G n args s res) 4 b19.2 100 [(0, .ref (ad 0)), (3, .int b19.1)] []) (fun r19 ih19 b19 hf => ?_) FU ((0 : Int32), q18.2) hf
          show J p l e 3 s m args below meth c E ad G n (QU below E ad G n args s res) 4 b19.2 100 [(0, .ref (ad 0)), (3, .int b19.1)] []
          refine J_iload_n (pc := 100) F dX4_wooerItem_100 rfl 1 rfl ?_
          refine J_aload_n (pc := 101) F dX4_wooerItem_101 rfl 0 rfl ?_
          refine gfX4_newWords (pc := 102) F ht wd_622 dX4_wooerItem_102 ?_
          rcases ite_elim hf with ⟨c20, hf⟩ | ⟨c20, hf⟩
          · refine J_icmp_geT (pc := 105) F (tgt := 198) dX4_wooerItem_105 (by decide) c20 ?_
            exact J_vret (pc := 198) F dX4_wooerItem_198 hf
          · refine J_icmp_geF (pc := 105) F (tgt := 198) dX4_wooerItem_105 (by decide) c20 ?_
            refine J_aload_n (pc := 108) F dX4_wooerItem_108 rfl 0 rfl ?_
            refine J_aload_n (pc := 109) F dX4_wooerItem_109 rfl 0 rfl ?_
            refine gfX4_isWrong (pc := 110) F ht wd_633 dX4_wooerItem_110 ?_
            obtain ⟨k21, hk21, hf⟩ := jn_elim hf
            have hJk21 : ∀ (q21 : Int32 × St), k21 q21 = some res → J p l e 3 s m args below meth c E ad G n (QU below E ad G n args s res) 4 q21.2 147 [(0, .ref (ad 0)), (3, .int b19.1)] [.int q21.1, .ref (ad 0)] := by
              intro q21 hf
              replace hf := hk21 q21 hf
              obtain ⟨g40, hf⟩ := grd_elim hf
              obtain ⟨σ30, eσ30, hf⟩ := nm_elim hf
              refine pfX4_isWrong (pc := 147) F ht (Classical.not_not.mp g40) wd_633 dX4_wooerItem_147 eσ30 ?_
              refine J_aload_n (pc := 150) F dX4_wooerItem_150 rfl 0 rfl ?_
              refine J_iload_n (pc := 151) F dX4_wooerItem_151 rfl 1 rfl ?_
              refine J_aload_n (pc := 152) F dX4_wooerItem_152 rfl 0 rfl ?_
              refine gfX4_isWrong (pc := 153) F ht wd_633 dX4_wooerItem_153 ?_
              obtain ⟨k31, hk31, hf⟩ := jn_elim hf
              have hJk31 : ∀ (q31 : Int32 × St), k31 q31 = some res → J p l e 3 s m args below meth c E ad G n (QU below E ad G n args s res) 4 q31.2 179 [(0, .ref (ad 0)), (3, .int b19.1)] [.int q31.1, .int b19.1, .ref (ad 0)] := by
                intro q31 hf
                replace hf := hk31 q31 hf
                obtain ⟨q37, h37, hf⟩ := bind_elim hf
                refine J_callVU (pc := 179) F (c_X4_has hI ht h37) (by omega) (by decide) (modN ht) (ht.2.1 _) rfl wc_X4_has wd_606 rfl rfl (Nat.le_of_ble_eq_true rfl) dX4_wooerItem_179 ?_
                refine J_aload_n (pc := 182) F dX4_wooerItem_182 rfl 0 rfl ?_
                refine J_dup (pc := 183) F dX4_wooerItem_183 rfl ?_
                refine gfX4_at (pc := 184) F ht wd_631 dX4_wooerItem_184 ?_
                refine J_iconst (pc := 187) F dX4_wooerItem_187 ki_1 ?_
                refine J_iadd (pc := 188) F dX4_wooerItem_188 ?_
                obtain ⟨σ38, eσ38, hf⟩ := nm_elim hf
                refine pfX4_at (pc := 189) F ht wd_631 dX4_wooerItem_189 eσ38 ?_
                obtain ⟨x39, ex39, hf⟩ := nm_elim hf
                refine J_iinc (pc := 192) F (lv' := [(3, .int x39), (0, .ref (ad 0))]) dX4_wooerItem_192 1 rfl (ex39.trans (congrArg _ ki_1.symm)) (by decide) rfl ?_
                refine J_goto (pc := 195) F (tgt := 100) dX4_wooerItem_195 (by decide) ?_
                refine J_sub [1, 0] rfl ?_
                exact ih19 (x39, σ38) hf
              clear hk31
              obtain ⟨k32, hk32, hf⟩ := jn_elim hf
              have hJk32 : ∀ (q32 : St), k32 q32 = some res → J p l e 3 s m args below meth c E ad G n (QU below E ad G n args s res) 4 q32 168 [(0, .ref (ad 0)), (3, .int b19.1)] [.int b19.1, .ref (ad 0)] := by
                intro q32 hf
                replace hf := hk32 q32 hf
                refine J_iconst (pc := 168) F dX4_wooerItem_168 ki_m1 ?_
                refine J_goto (pc := 169) F (tgt := 179) dX4_wooerItem_169 (by decide) ?_
                exact hJk31 ((-1 : Int32), q32) hf
              clear hk32
              rcases ite_elim hf with ⟨c33, hf⟩ | ⟨c33, hf⟩
              · refine J_if_neT (pc := 156) F (tgt := 168) dX4_wooerItem_156 (by decide) c33 ?_
                exact hJk32 σ30 hf
              · refine J_if_neF (pc := 156) F (tgt := 168) dX4_wooerItem_156 (by decide) c33 ?_
                refine J_aload_n (pc := 159) F dX4_wooerItem_159 rfl 0 rfl ?_
                obtain ⟨q34, h34, hf⟩ := bind_elim hf
                refine J_callVI (pc := 160) F (c_X4_next hI ht h34) (by omega) (by decide) (modN ht) (ht.2.1 _) rfl wc_X4_next wd_706 rfl rfl (Nat.le_of_ble_eq_true rfl) dX4_wooerItem_160 ?_
                refine J_bipush (pc := 163) F dX4_wooerItem_163 kb_45 ?_
                rcases ite_elim hf with ⟨c35, hf⟩ | ⟨c35, hf⟩
                · refine J_icmp_neT (pc := 165) F (tgt := 172) dX4_wooerItem_165 (by decide) c35 ?_
                  refine J_aload_n (pc := 172) F dX4_wooerItem_172 rfl 0 rfl ?_
                  obtain ⟨q36, h36, hf⟩ := bind_elim hf
                  refine J_callVI (pc := 173) F (c_X4_next hI ht h36) (by omega) (by decide) (modN ht) (ht.2.1 _) rfl wc_X4_next wd_706 rfl rfl (Nat.le_of_ble_eq_true rfl) dX4_wooerItem_173 ?_
                  refine J_bipush (pc := 176) F dX4_wooerItem_176 kb_48 ?_
                  refine J_isub (pc := 178) F dX4_wooerItem_178 ?_
                  exact hJk31 ((q36.1 - (48 : Int32)), q36.2) hf
                · refine J_icmp_neF (pc := 165) F (tgt := 172) dX4_wooerItem_165 (by decide) c35 ?_
                  exact hJk32 q34.2 hf
            clear hk21
            obtain ⟨k22, hk22, hf⟩ := jn_elim hf
            have hJk22 : ∀ (q22 : St), k22 q22 = some res → J p l e 3 s m args below meth c E ad G n (QU below E ad G n args s res) 4 q22 142 [(0, .ref (ad 0)), (3, .int b19.1)] [.ref (ad 0)] := by
              intro q22 hf
              replace hf := hk22 q22 hf
              refine J_iconst (pc := 142) F dX4_wooerItem_142 ki_1 ?_
              refine J_goto (pc := 143) F (tgt := 147) dX4_wooerItem_143 (by decide) ?_
              exact hJk21 ((1 : Int32), q22) hf
            clear hk22
            rcases ite_elim hf with ⟨c23, hf⟩ | ⟨c23, hf⟩
            · refine J_if_neT (pc := 113) F (tgt := 142) dX4_wooerItem_113 (by decide) c23 ?_
              exact hJk22 b19.2 hf
            · refine J_if_neF (pc := 113) F (tgt := 142) dX4_wooerItem_113 (by decide) c23 ?_
              refine J_aload_n (pc := 116) F dX4_wooerItem_116 rfl 0 rfl ?_
              obtain ⟨q24, h24, hf⟩ := bind_elim hf
              refine J_callVI (pc := 117) F (c_X4_next hI ht h24) (by omega) (by decide) (modN ht) (ht.2.1 _) rfl wc_X4_next wd_706 rfl rfl (Nat.le_of_ble_eq_true rfl) dX4_wooerItem_117 ?_
              refine J_bipush (pc := 120) F dX4_wooerItem_120 kb_45 ?_
              obtain ⟨k25, hk25, hf⟩ := jn_elim hf
              have hJk25 : ∀ (q25 : St), k25 q25 = some res → J p l e 3 s m args below meth c E ad G n (QU below E ad G n args s res) 4 q25 146 [(0, .ref (ad 0)), (3, .int b19.1)] [.ref (ad 0)] := by
                intro q25 hf
                replace hf := hk25 q25 hf
                refine J_iconst (pc := 146) F dX4_wooerItem_146 ki_0 ?_
                exact hJk21 ((0 : Int32), q25) hf
              clear hk25
              rcases ite_elim hf with ⟨c26, hf⟩ | ⟨c26, hf⟩
              · refine J_icmp_eqT (pc := 122) F (tgt := 146) dX4_wooerItem_122 (by decide) c26 ?_
                exact hJk25 q24.2 hf
              · refine J_icmp_eqF (pc := 122) F (tgt := 146) dX4_wooerItem_122 (by decide) c26 ?_
                refine J_aload_n (pc := 125) F dX4_wooerItem_125 rfl 0 rfl ?_
                obtain ⟨q27, h27, hf⟩ := bind_elim hf
                refine J_callVI (pc := 126) F (c_X4_next hI ht h27) (by omega) (by decide) (modN ht) (ht.2.1 _) rfl wc_X4_next wd_706 rfl rfl (Nat.le_of_ble_eq_true rfl) dX4_wooerItem_126 ?_
                refine J_i2l (pc := 129) F dX4_wooerItem_129 ?_
                refine J_ldc2 (pc := 130) F wd_718 dX4_wooerItem_130 ?_
                refine J_ldc2 (pc := 133) F wd_719 dX4_wooerItem_133 ?_
                obtain ⟨q28, h28, hf⟩ := bind_elim hf
                refine J_callSI (pc := 136) F (c_X4_in hI  h28) (by omega) (by decide) wc_X4_in wd_691 rfl rfl (Nat.le_of_ble_eq_true rfl) dX4_wooerItem_136 ?_
                rcases ite_elim hf with ⟨c29, hf⟩ | ⟨c29, hf⟩
                · refine J_if_neT (pc := 139) F (tgt := 146) dX4_wooerItem_139 (by decide) c29 ?_
                  exact hJk25 q28.2 hf
                · refine J_if_neF (pc := 139) F (tgt := 146) dX4_wooerItem_139 (by decide) c29 ?_
                  exact hJk22 q28.2 hf
      clear hk10
      obtain ⟨k11, hk11, hf⟩ := jn_elim hf
      have hJk11 : ∀ (q11 : St), k11 q11 = some res → J p l e 3 s m args below meth c E ad G n (QU below E ad G n args s res) 4 q11 67 [(0, .ref (ad 0)), (1, .int q6.1), (2, .int q9.1)] [.ref (ad 0)] := by
        intro q11 hf
        replace hf := hk11 q11 hf
        refine J_iconst (pc := 67) F dX4_wooerItem_67 ki_1 ?_
        refine J_goto (pc := 68) F (tgt := 72) dX4_wooerItem_68 (by decide) ?_
        exact hJk10 ((1 : Int32), q11) hf
      clear hk11
      rcases ite_elim hf with ⟨c12, hf⟩ | ⟨c12, hf⟩
      · refine J_if_neT (pc := 55) F (tgt := 67) dX4_wooerItem_55 (by decide) c12 ?_
        refine J_sub [2, 1, 0] rfl ?_
        exact hJk11 q9.2 hf
      · refine J_if_neF (pc := 55) F (tgt := 67) dX4_wooerItem_55 (by decide) c12 ?_
        refine J_aload_n (pc := 58) F dX4_wooerItem_58 rfl 2 rfl ?_
        obtain ⟨q13, h13, hf⟩ := bind_elim hf
        refine J_callVI (pc := 59) F (c_X4_next hI ht h13) (by omega) (by decide) (modN ht) (ht.2.1 _) rfl wc_X4_next wd_706 rfl rfl (Nat.le_of_ble_eq_true rfl) dX4_wooerItem_59 ?_
        refine J_bipush (pc := 62) F dX4_wooerItem_62 kb_44 ?_
        rcases ite_elim hf with ⟨c14, hf⟩ | ⟨c14, hf⟩
        · refine J_icmp_eqT (pc := 64) F (tgt := 71) dX4_wooerItem_64 (by decide) c14 ?_
          refine J_iconst (pc := 71) F dX4_wooerItem_71 ki_0 ?_
          refine J_sub [2, 1, 0] rfl ?_
          exact hJk10 ((0 : Int32), q13.2) hf
        · refine J_icmp_eqF (pc := 64) F (tgt := 71) dX4_wooerItem_64 (by decide) c14 ?_
          refine J_sub [2, 1, 0] rfl ?_
          exact hJk11 q13.2 hf
    clear hk6
    rcases ite_elim hf with ⟨c7, hf⟩ | ⟨c7, hf⟩
    · refine J_if_eqT (pc := 28) F (tgt := 35) dX4_wooerItem_28 (by decide) c7 ?_
      refine J_aload_n (pc := 35) F dX4_wooerItem_35 rfl 0 rfl ?_
      refine J_iconst (pc := 36) F dX4_wooerItem_36 ki_0 ?_
      refine J_iconst (pc := 37) F dX4_wooerItem_37 ki_3 ?_
      obtain ⟨q8, h8, hf⟩ := bind_elim hf
      refine J_callVI (pc := 38) F (c_X4_number hI ht h8) (by omega) (by decide) (modN ht) (ht.2.1 _) rfl wc_X4_number wd_728 rfl rfl (Nat.le_of_ble_eq_true rfl) dX4_wooerItem_38 ?_
      exact hJk6 (q8.1, q8.2) hf
    · refine J_if_eqF (pc := 28) F (tgt := 35) dX4_wooerItem_28 (by decide) c7 ?_
      refine J_iconst (pc := 31) F dX4_wooerItem_31 ki_0 ?_
      refine J_goto (pc := 32) F (tgt := 41) dX4_wooerItem_32 (by decide) ?_
      exact hJk6 ((0 : Int32), σ5) hf
  clear hk1
  obtain ⟨k2, hk2, hf⟩ := jn_elim hf
  have hJk2 : ∀ (q2 : St), k2 q2 = some res → J p l e 3 s m args below meth c E ad G n (QU below E ad G n args s res) 4 q2 16 [(0, .ref (ad 0))] [.ref (ad 0)] := by
    intro q2 hf
    replace hf := hk2 q2 hf
    refine J_iconst (pc := 16) F dX4_wooerItem_16 ki_1 ?_
    refine J_goto (pc := 17) F (tgt := 21) dX4_wooerItem_17 (by decide) ?_
    exact hJk1 ((1 : Int32), q2) hf
  clear hk2
  rcases ite_elim hf with ⟨c3, hf⟩ | ⟨c3, hf⟩
  · refine J_icmp_eqT (pc := 6) F (tgt := 16) dX4_wooerItem_6 (by decide) c3 ?_
    exact hJk2 σ hf
  · refine J_icmp_eqF (pc := 6) F (tgt := 16) dX4_wooerItem_6 (by decide) c3 ?_
    refine J_aload_n (pc := 9) F dX4_wooerItem_9 rfl 0 rfl ?_
    refine gfX4_newWords (pc := 10) F ht wd_622 dX4_wooerItem_10 ?_
    rcases ite_elim hf with ⟨c4, hf⟩ | ⟨c4, hf⟩
    · refine J_if_neT (pc := 13) F (tgt := 20) dX4_wooerItem_13 (by decide) c4 ?_
      refine J_iconst (pc := 20) F dX4_wooerItem_20 ki_0 ?_
      exact hJk1 ((0 : Int32), σ) hf
    · refine J_if_neF (pc := 13) F (tgt := 20) dX4_wooerItem_13 (by decide) c4 ?_
      exact hJk2 σ hf
set_option maxHeartbeats 4000000 in
set_option maxRecDepth 100000 in
theorem c_X4_item {l : Launch} {E : En} {ad : Nat → Nat} {G : Lay} {n : Nat} (hI : adI ad n) (ht : ModAt E ad G n) {a0 : Int32} {a1 : Int32} {σ : St} {res : Int32 × St} (hf : f_X4_item a0 a1 σ = some res) : Ct l yX4_item cX4_item 4 (some .boolean) 4 E ad G n [.ref (ad 0), .int a0, .int a1] σ (some (.int res.1)) res.2 := by
  unfold f_X4_item at hf
  refine J_start (own := RX4) (lv := [(0, .ref (ad 0)), (1, .int a0), (2, .int a1)]) pnX4 rfl hI (Nat.le_of_ble_eq_true rfl) rfl (fun p e s m args below meth c F => ?_)
  refine J_iload_n (pc := 0) F dX4_item_0 rfl 1 rfl ?_
  refine J_bipush (pc := 1) F dX4_item_1 kb_116 ?_
  rcases ite_elim hf with ⟨c1, hf⟩ | ⟨c1, hf⟩
  · refine J_icmp_neT (pc := 3) F (tgt := 32) dX4_item_3 (by decide) c1 ?_
    refine J_iload_n (pc := 32) F dX4_item_32 rfl 1 rfl ?_
    refine J_bipush (pc := 33) F dX4_item_33 kb_119 ?_
    rcases ite_elim hf with ⟨c2, hf⟩ | ⟨c2, hf⟩
    · refine J_icmp_neT (pc := 35) F (tgt := 45) dX4_item_35 (by decide) c2 ?_
      refine J_iload_n (pc := 45) F dX4_item_45 rfl 1 rfl ?_
      refine J_bipush (pc := 46) F dX4_item_46 kb_115 ?_
      rcases ite_elim hf with ⟨c3, hf⟩ | ⟨c3, hf⟩
      · refine J_icmp_neT (pc := 48) F (tgt := 81) dX4_item_48 (by decide) c3 ?_
        refine J_aload_n (pc := 81) F dX4_item_81 rfl 0 rfl ?_
        refine J_iconst (pc := 82) F dX4_item_82 ki_1 ?_
        obtain ⟨σ4, eσ4, hf⟩ := nm_elim hf
        refine pfX4_isWrong (pc := 83) F ht (Or.inr rfl) wd_633 dX4_item_83 eσ4 ?_
        refine J_iconst (pc := 86) F dX4_item_86 ki_0 ?_
        exact J_iret (pc := 87) F rfl dX4_item_87 hf
      · refine J_icmp_neF (pc := 48) F (tgt := 81) dX4_item_48 (by decide) c3 ?_
        refine J_aload_n (pc := 51) F dX4_item_51 rfl 0 rfl ?_
        refine J_iconst (pc := 52) F dX4_item_52 ki_1 ?_
        refine J_bipush (pc := 53) F dX4_item_53 kb_8 ?_
        obtain ⟨q5, h5, hf⟩ := bind_elim hf
        refine J_callVI (pc := 55) F (c_X4_number hI ht h5) (by omega) (by decide) (modN ht) (ht.2.1 _) rfl wc_X4_number wd_728 rfl rfl (Nat.le_of_ble_eq_true rfl) dX4_item_55 ?_
        refine J_istore_n (pc := 58) F (lv' := [(3, .int q5.1), (0, .ref (ad 0)), (1, .int a0), (2, .int a1)]) dX4_item_58 rfl (by decide) rfl ?_
        refine J_aload_n (pc := 59) F dX4_item_59 rfl 1 rfl ?_
        refine J_aload_n (pc := 60) F dX4_item_60 rfl 1 rfl ?_
        refine gfX4_isWrong (pc := 61) F ht wd_633 dX4_item_61 ?_
        obtain ⟨k6, hk6, hf⟩ := jn_elim hf
        have hJk6 : ∀ (q6 : Int32 × St), k6 q6 = some res → J p l e 4 s m args below meth c E ad G n (QI below E ad G n args s res) 4 q6.2 75 [] [.int q6.1, .ref (ad 0)] := by
          intro q6 hf
          replace hf := hk6 q6 hf
          obtain ⟨σ8, eσ8, hf⟩ := nm_elim hf
          refine pfX4_newEnough (pc := 75) F ht wd_625 dX4_item_75 eσ8 ?_
          refine J_goto (pc := 78) F (tgt := 86) dX4_item_78 (by decide) ?_
          refine J_iconst (pc := 86) F dX4_item_86 ki_0 ?_
          exact J_iret (pc := 87) F rfl dX4_item_87 hf
        clear hk6
        rcases ite_elim hf with ⟨c7, hf⟩ | ⟨c7, hf⟩
        · refine J_if_eqT (pc := 64) F (tgt := 74) dX4_item_64 (by decide) c7 ?_
          refine J_iload_n (pc := 74) F dX4_item_74 rfl 0 rfl ?_
          refine J_sub [] rfl ?_
          exact hJk6 (q5.1, q5.2) hf
        · refine J_if_eqF (pc := 64) F (tgt := 74) dX4_item_64 (by decide) c7 ?_
          refine J_aload_n (pc := 67) F dX4_item_67 rfl 1 rfl ?_
          refine gfX4_newEnough (pc := 68) F ht wd_625 dX4_item_68 ?_
          refine J_goto (pc := 71) F (tgt := 75) dX4_item_71 (by decide) ?_
          refine J_sub [] rfl ?_
          exact hJk6 ((q5.2 0 5), q5.2) hf
    · refine J_icmp_neF (pc := 35) F (tgt := 45) dX4_item_35 (by decide) c2 ?_
      refine J_aload_n (pc := 38) F dX4_item_38 rfl 0 rfl ?_
      obtain ⟨q9, h9, hf⟩ := bind_elim hf
      refine J_callVU (pc := 39) F (c_X4_wooerItem hI ht h9) (by omega) (by decide) (modN ht) (ht.2.1 _) rfl wc_X4_wooerItem wd_724 rfl rfl (Nat.le_of_ble_eq_true rfl) dX4_item_39 ?_
      refine J_goto (pc := 42) F (tgt := 86) dX4_item_42 (by decide) ?_
      refine J_iconst (pc := 86) F dX4_item_86 ki_0 ?_
      exact J_iret (pc := 87) F rfl dX4_item_87 hf
  · refine J_icmp_neF (pc := 3) F (tgt := 32) dX4_item_3 (by decide) c1 ?_
    refine J_aload_n (pc := 6) F dX4_item_6 rfl 0 rfl ?_
    refine J_iload_n (pc := 7) F dX4_item_7 rfl 2 rfl ?_
    obtain ⟨k10, hk10, hf⟩ := jn_elim hf
    have hJk10 : ∀ (q10 : Int32 × St), k10 q10 = some res → J p l e 4 s m args below meth c E ad G n (QI below E ad G n args s res) 4 q10.2 16 [(0, .ref (ad 0))] [.int q10.1, .ref (ad 0)] := by
      intro q10 hf
      replace hf := hk10 q10 hf
      obtain ⟨g15, hf⟩ := grd_elim hf
      obtain ⟨σ12, eσ12, hf⟩ := nm_elim hf
      refine pfX4_isWrong (pc := 16) F ht (Classical.not_not.mp g15) wd_633 dX4_item_16 eσ12 ?_
      refine J_aload_n (pc := 19) F dX4_item_19 rfl 0 rfl ?_
      refine gfX4_isWrong (pc := 20) F ht wd_633 dX4_item_20 ?_
      rcases ite_elim hf with ⟨c13, hf⟩ | ⟨c13, hf⟩
      · refine J_if_neT (pc := 23) F (tgt := 30) dX4_item_23 (by decide) c13 ?_
        refine J_iconst (pc := 30) F dX4_item_30 ki_1 ?_
        exact J_iret (pc := 31) F rfl dX4_item_31 hf
      · refine J_if_neF (pc := 23) F (tgt := 30) dX4_item_23 (by decide) c13 ?_
        refine J_aload_n (pc := 26) F dX4_item_26 rfl 0 rfl ?_
        obtain ⟨q14, h14, hf⟩ := bind_elim hf
        refine J_callVU (pc := 27) F (c_X4_tongueItem hI ht h14) (by omega) (by decide) (modN ht) (ht.2.1 _) rfl wc_X4_tongueItem wd_714 rfl rfl (Nat.le_of_ble_eq_true rfl) dX4_item_27 ?_
        refine J_iconst (pc := 30) F dX4_item_30 ki_1 ?_
        exact J_iret (pc := 31) F rfl dX4_item_31 hf
    clear hk10
    rcases ite_elim hf with ⟨c11, hf⟩ | ⟨c11, hf⟩
    · refine J_if_neT (pc := 8) F (tgt := 15) dX4_item_8 (by decide) c11 ?_
      refine J_iconst (pc := 15) F dX4_item_15 ki_0 ?_
      refine J_sub [0] rfl ?_
      exact hJk10 ((0 : Int32), σ) hf
    · refine J_if_neF (pc := 8) F (tgt := 15) dX4_item_8 (by decide) c11 ?_
      refine J_iconst (pc := 11) F dX4_item_11 ki_1 ?_
      refine J_goto (pc := 12) F (tgt := 16) dX4_item_12 (by decide) ?_
      refine J_sub [0] rfl ?_
      exact hJk10 ((1 : Int32), σ) hf
set_option maxHeartbeats 4000000 in
set_option maxRecDepth 100000 in
theorem c_X4_reads {l : Launch} {E : En} {ad : Nat → Nat} {G : Lay} {n : Nat} (hI : adI ad n) (ht : ModAt E ad G n) {σ : St} {res : Int32 × St} (hf : f_X4_reads  σ = some res) : Ct l yX4_reads cX4_reads 3 (some .boolean) 5 E ad G n [.ref (ad 0)] σ (some (.int res.1)) res.2 := by
  unfold f_X4_reads at hf
  refine J_start (own := RX4) (lv := [(0, .ref (ad 0))]) pnX4 rfl hI (Nat.le_of_ble_eq_true rfl) rfl (fun p e s m args below meth c F => ?_)
  refine J_aload_n (pc := 0) F dX4_reads_0 rfl 0 rfl ?_
  obtain ⟨q1, h1, hf⟩ := bind_elim hf
  refine J_callVU (pc := 1) F (c_X4_clears hI ht h1) (by omega) (by decide) (modN ht) (ht.2.1 _) rfl wc_X4_clears wd_598 rfl rfl (Nat.le_of_ble_eq_true rfl) dX4_reads_1 ?_
  refine J_aload_n (pc := 4) F dX4_reads_4 rfl 0 rfl ?_
  refine J_iconst (pc := 5) F dX4_reads_5 ki_0 ?_
  obtain ⟨σ2, eσ2, hf⟩ := nm_elim hf
  refine pfX4_at (pc := 6) F ht wd_631 dX4_reads_6 eσ2 ?_
  refine J_aload_n (pc := 9) F dX4_reads_9 rfl 0 rfl ?_
  refine J_iconst (pc := 10) F dX4_reads_10 ki_0 ?_
  obtain ⟨σ3, eσ3, hf⟩ := nm_elim hf
  refine pfX4_isWrong (pc := 11) F ht (Or.inl rfl) wd_633 dX4_reads_11 eσ3 ?_
  refine J_iconst (pc := 14) F dX4_reads_14 ki_1 ?_
  refine J_istore_n (pc := 15) F (lv' := [(1, .int (1 : Int32)), (0, .ref (ad 0))]) dX4_reads_15 rfl (by decide) rfl ?_
  refine J_sub [1, 0] rfl ?_
  refine lp_ind (P := fun (b4 : Int32 × St) => J p l e 5 s m args below meth c E ad G n (QI below E ad G n args s res) 3 b4.2 16 [(0, .ref (ad 0)), (1, .int b4.1)] []) (fun r4 ih4 b4 hf => ?_) FU ((1 : Int32), σ3) hf
  show J p l e 5 s m args below meth c E ad G n (QI below E ad G n args s res) 3 b4.2 16 [(0, .ref (ad 0)), (1, .int b4.1)] []
  refine J_aload_n (pc := 16) F dX4_reads_16 rfl 0 rfl ?_
  refine gfX4_at (pc := 17) F ht wd_631 dX4_reads_17 ?_
  refine J_aload_n (pc := 20) F dX4_reads_20 rfl 0 rfl ?_
  refine gfX4_length (pc := 21) F ht wd_629 dX4_reads_21 ?_
  obtain ⟨k5, hk5, hf⟩ := jn_elim hf
  have hJk5 : ∀ (q5 : St), k5 q5 = some res → J p l e 5 s m args below meth c E ad G n (QI below E ad G n args s res) 3 q5 114 [(0, .ref (ad 0))] [] := by
    intro q5 hf
    replace hf := hk5 q5 hf
    refine J_aload_n (pc := 114) F dX4_reads_114 rfl 0 rfl ?_
    refine gfX4_isWrong (pc := 115) F ht wd_633 dX4_reads_115 ?_
    rcases ite_elim hf with ⟨c24, hf⟩ | ⟨c24, hf⟩
    · refine J_if_neT (pc := 118) F (tgt := 125) dX4_reads_118 (by decide) c24 ?_
      refine J_iconst (pc := 125) F dX4_reads_125 ki_0 ?_
      exact J_iret (pc := 126) F rfl dX4_reads_126 hf
    · refine J_if_neF (pc := 118) F (tgt := 125) dX4_reads_118 (by decide) c24 ?_
      refine J_iconst (pc := 121) F dX4_reads_121 ki_1 ?_
      refine J_goto (pc := 122) F (tgt := 126) dX4_reads_122 (by decide) ?_
      exact J_iret (pc := 126) F rfl dX4_reads_126 hf
  clear hk5
  rcases ite_elim hf with ⟨c6, hf⟩ | ⟨c6, hf⟩
  · refine J_icmp_geT (pc := 24) F (tgt := 114) dX4_reads_24 (by decide) c6 ?_
    refine J_sub [0] rfl ?_
    exact hJk5 b4.2 hf
  · refine J_icmp_geF (pc := 24) F (tgt := 114) dX4_reads_24 (by decide) c6 ?_
    refine J_aload_n (pc := 27) F dX4_reads_27 rfl 0 rfl ?_
    refine gfX4_isWrong (pc := 28) F ht wd_633 dX4_reads_28 ?_
    rcases ite_elim hf with ⟨c7, hf⟩ | ⟨c7, hf⟩
    · refine J_if_neT (pc := 31) F (tgt := 114) dX4_reads_31 (by decide) c7 ?_
      refine J_sub [0] rfl ?_
      exact hJk5 b4.2 hf
    · refine J_if_neF (pc := 31) F (tgt := 114) dX4_reads_31 (by decide) c7 ?_
      refine J_aload_n (pc := 34) F dX4_reads_34 rfl 0 rfl ?_
      refine J_aload_n (pc := 35) F dX4_reads_35 rfl 0 rfl ?_
      refine gfX4_at (pc := 36) F ht wd_631 dX4_reads_36 ?_
      obtain ⟨σ8, eσ8, hf⟩ := nm_elim hf
      refine pfX4_begin (pc := 39) F ht wd_632 dX4_reads_39 eσ8 ?_
      refine J_aload_n (pc := 42) F dX4_reads_42 rfl 0 rfl ?_
      obtain ⟨q9, h9, hf⟩ := bind_elim hf
      refine J_callVI (pc := 43) F (c_X4_next hI ht h9) (by omega) (by decide) (modN ht) (ht.2.1 _) rfl wc_X4_next wd_706 rfl rfl (Nat.le_of_ble_eq_true rfl) dX4_reads_43 ?_
      refine J_istore_n (pc := 46) F (lv' := [(2, .int q9.1), (0, .ref (ad 0)), (1, .int b4.1)]) dX4_reads_46 rfl (by decide) rfl ?_
      refine J_aload_n (pc := 47) F dX4_reads_47 rfl 1 rfl ?_
      refine J_dup (pc := 48) F dX4_reads_48 rfl ?_
      refine gfX4_at (pc := 49) F ht wd_631 dX4_reads_49 ?_
      refine J_iconst (pc := 52) F dX4_reads_52 ki_1 ?_
      refine J_iadd (pc := 53) F dX4_reads_53 ?_
      obtain ⟨σ10, eσ10, hf⟩ := nm_elim hf
      refine pfX4_at (pc := 54) F ht wd_631 dX4_reads_54 eσ10 ?_
      refine J_aload_n (pc := 57) F dX4_reads_57 rfl 1 rfl ?_
      refine J_iload_n (pc := 58) F dX4_reads_58 rfl 0 rfl ?_
      refine J_iload_n (pc := 59) F dX4_reads_59 rfl 2 rfl ?_
      obtain ⟨q11, h11, hf⟩ := bind_elim hf
      refine J_callVI (pc := 60) F (c_X4_item hI ht h11) (by omega) (by decide) (modN ht) (ht.2.1 _) rfl wc_X4_item wd_710 rfl rfl (Nat.le_of_ble_eq_true rfl) dX4_reads_60 ?_
      obtain ⟨k12, hk12, hf⟩ := jn_elim hf
      have hJk12 : ∀ (q12 : Int32 × St), k12 q12 = some res → J p l e 5 s m args below meth c E ad G n (QI below E ad G n args s res) 3 q12.2 75 [(0, .ref (ad 0))] [.int q12.1] := by
        intro q12 hf
        replace hf := hk12 q12 hf
        refine J_istore_n (pc := 75) F (lv' := [(1, .int q12.1), (0, .ref (ad 0))]) dX4_reads_75 rfl (by decide) rfl ?_
        refine J_aload_n (pc := 76) F dX4_reads_76 rfl 1 rfl ?_
        refine J_aload_n (pc := 77) F dX4_reads_77 rfl 1 rfl ?_
        refine gfX4_isWrong (pc := 78) F ht wd_633 dX4_reads_78 ?_
        obtain ⟨k16, hk16, hf⟩ := jn_elim hf
        have hJk16 : ∀ (q16 : Int32 × St), k16 q16 = some res → J p l e 5 s m args below meth c E ad G n (QI below E ad G n args s res) 3 q16.2 98 [(0, .ref (ad 0)), (1, .int q12.1)] [.int q16.1, .ref (ad 0)] := by
          intro q16 hf
          replace hf := hk16 q16 hf
          obtain ⟨g23, hf⟩ := grd_elim hf
          obtain ⟨σ21, eσ21, hf⟩ := nm_elim hf
          refine pfX4_isWrong (pc := 98) F ht (Classical.not_not.mp g23) wd_633 dX4_reads_98 eσ21 ?_
          refine J_aload_n (pc := 101) F dX4_reads_101 rfl 0 rfl ?_
          refine J_dup (pc := 102) F dX4_reads_102 rfl ?_
          refine gfX4_at (pc := 103) F ht wd_631 dX4_reads_103 ?_
          refine J_iconst (pc := 106) F dX4_reads_106 ki_1 ?_
          refine J_iadd (pc := 107) F dX4_reads_107 ?_
          obtain ⟨σ22, eσ22, hf⟩ := nm_elim hf
          refine pfX4_at (pc := 108) F ht wd_631 dX4_reads_108 eσ22 ?_
          refine J_goto (pc := 111) F (tgt := 16) dX4_reads_111 (by decide) ?_
          exact ih4 (q12.1, σ22) hf
        clear hk16
        obtain ⟨k17, hk17, hf⟩ := jn_elim hf
        have hJk17 : ∀ (q17 : St), k17 q17 = some res → J p l e 5 s m args below meth c E ad G n (QI below E ad G n args s res) 3 q17 93 [(0, .ref (ad 0)), (1, .int q12.1)] [.ref (ad 0)] := by
          intro q17 hf
          replace hf := hk17 q17 hf
          refine J_iconst (pc := 93) F dX4_reads_93 ki_1 ?_
          refine J_goto (pc := 94) F (tgt := 98) dX4_reads_94 (by decide) ?_
          exact hJk16 ((1 : Int32), q17) hf
        clear hk17
        rcases ite_elim hf with ⟨c18, hf⟩ | ⟨c18, hf⟩
        · refine J_if_neT (pc := 81) F (tgt := 93) dX4_reads_81 (by decide) c18 ?_
          refine J_sub [1, 0] rfl ?_
          exact hJk17 q12.2 hf
        · refine J_if_neF (pc := 81) F (tgt := 93) dX4_reads_81 (by decide) c18 ?_
          refine J_aload_n (pc := 84) F dX4_reads_84 rfl 1 rfl ?_
          obtain ⟨q19, h19, hf⟩ := bind_elim hf
          refine J_callVI (pc := 85) F (c_X4_next hI ht h19) (by omega) (by decide) (modN ht) (ht.2.1 _) rfl wc_X4_next wd_706 rfl rfl (Nat.le_of_ble_eq_true rfl) dX4_reads_85 ?_
          refine J_bipush (pc := 88) F dX4_reads_88 kb_59 ?_
          rcases ite_elim hf with ⟨c20, hf⟩ | ⟨c20, hf⟩
          · refine J_icmp_eqT (pc := 90) F (tgt := 97) dX4_reads_90 (by decide) c20 ?_
            refine J_iconst (pc := 97) F dX4_reads_97 ki_0 ?_
            refine J_sub [1, 0] rfl ?_
            exact hJk16 ((0 : Int32), q19.2) hf
          · refine J_icmp_eqF (pc := 90) F (tgt := 97) dX4_reads_90 (by decide) c20 ?_
            refine J_sub [1, 0] rfl ?_
            exact hJk17 q19.2 hf
      clear hk12
      obtain ⟨k13, hk13, hf⟩ := jn_elim hf
      have hJk13 : ∀ (q13 : St), k13 q13 = some res → J p l e 5 s m args below meth c E ad G n (QI below E ad G n args s res) 3 q13 74 [(0, .ref (ad 0))] [] := by
        intro q13 hf
        replace hf := hk13 q13 hf
        refine J_iconst (pc := 74) F dX4_reads_74 ki_0 ?_
        exact hJk12 ((0 : Int32), q13) hf
      clear hk13
      rcases ite_elim hf with ⟨c14, hf⟩ | ⟨c14, hf⟩
      · refine J_if_eqT (pc := 63) F (tgt := 74) dX4_reads_63 (by decide) c14 ?_
        refine J_sub [1] rfl ?_
        exact hJk13 q11.2 hf
      · refine J_if_eqF (pc := 63) F (tgt := 74) dX4_reads_63 (by decide) c14 ?_
        refine J_iload_n (pc := 66) F dX4_reads_66 rfl 2 rfl ?_
        rcases ite_elim hf with ⟨c15, hf⟩ | ⟨c15, hf⟩
        · refine J_if_eqT (pc := 67) F (tgt := 74) dX4_reads_67 (by decide) c15 ?_
          refine J_sub [1] rfl ?_
          exact hJk13 q11.2 hf
        · refine J_if_eqF (pc := 67) F (tgt := 74) dX4_reads_67 (by decide) c15 ?_
          refine J_iconst (pc := 70) F dX4_reads_70 ki_1 ?_
          refine J_goto (pc := 71) F (tgt := 75) dX4_reads_71 (by decide) ?_
          refine J_sub [1] rfl ?_
          exact hJk12 ((1 : Int32), q11.2) hf
