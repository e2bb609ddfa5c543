set_option maxHeartbeats 4000000 in
set_option maxRecDepth 100000 in
theorem c_X1_repair {l : Launch} {E : En} {ad : Nat → Nat} {G : Lay} {n : Nat} (hI : adI ad n) {t : Nat} (ht : TabAt E ad G n t) {a0 : Int32} {a1 : Int32} {σ : St} {res : Unit × St} (hf : f_X1_repair t a0 a1 σ = some res) : Ct l yX1_repair cX1_repair 3 none 2 E ad G n [.ref (ad t), .int a0, .int a1] σ none res.2 := by
  unfold f_X1_repair at hf
  refine J_start (own := RX1) (lv := [(0, .ref (ad t)), (1, .int a0), (2, .int a1)]) pnX1 rfl hI (Nat.le_of_ble_eq_true rfl) rfl (fun p e s m args below meth c F => ?_)
  refine J_aload_n (pc := 0) F dX1_repair_0 rfl 0 rfl ?_
  refine J_iload_n (pc := 1) F dX1_repair_1 rfl 1 rfl ?_
  refine J_iload_n (pc := 2) F dX1_repair_2 rfl 2 rfl ?_
  refine J_aload_n (pc := 3) F dX1_repair_3 rfl 0 rfl ?_
  refine gfX1_sounds (pc := 4) F ht wd_48 dX1_repair_4 ?_
  refine J_iload_n (pc := 7) F dX1_repair_7 rfl 2 rfl ?_
  obtain ⟨q1, h1, hf⟩ := bind_elim hf
  refine J_callNI (pc := 8) F (host := RX3) (c_X3_at hI (tabA1 ht) h1) (by omega) (by decide) wc_X3_at (by simp [nestL]) rfl rfl (Nat.le_of_ble_eq_true rfl) dX1_repair_8 ?_
  obtain ⟨q2, h2, hf⟩ := bind_elim hf
  refine J_callVU (pc := 11) F (c_X1_give hI ht h2) (by omega) (by decide) (tabN ht) (ht.2.1 _) rfl wc_X1_give wd_371 rfl rfl (Nat.le_of_ble_eq_true rfl) dX1_repair_11 ?_
  exact J_vret (pc := 14) F dX1_repair_14 hf
set_option maxHeartbeats 4000000 in
set_option maxRecDepth 100000 in
theorem c_X3_swap {l : Launch} {E : En} {ad : Nat → Nat} {G : Lay} {n : Nat} (hI : adI ad n) {a0 a0L : Nat} (ha0 : ArrI E G n a0 a0L) {a1 : Int32} {a2 : Int32} {σ : St} {res : Unit × St} (hf : f_X3_swap a0 a0L a1 a2 σ = some res) : Ct l yX3_swap cX3_swap 4 none 1 E ad G n [.ref (ad a0), .int a1, .int a2] σ none res.2 := by
  unfold f_X3_swap at hf
  refine J_start (own := RX3) (lv := [(0, .ref (ad a0)), (1, .int a1), (2, .int a2)]) pnX3 rfl hI (Nat.le_of_ble_eq_true rfl) rfl (fun p e s m args below meth c F => ?_)
  refine J_aload_n (pc := 0) F dX3_swap_0 rfl 0 rfl ?_
  refine J_iload_n (pc := 1) F dX3_swap_1 rfl 1 rfl ?_
  obtain ⟨q1, h1, hf⟩ := bind_elim hf
  refine J_callSI (pc := 2) F (c_X3_at hI ha0 h1) (by omega) (by decide) wc_X3_at wd_311 rfl rfl (Nat.le_of_ble_eq_true rfl) dX3_swap_2 ?_
  refine J_istore_n (pc := 5) F (lv' := [(3, .int q1.1), (0, .ref (ad a0)), (1, .int a1), (2, .int a2)]) dX3_swap_5 rfl (by decide) rfl ?_
  refine J_aload_n (pc := 6) F dX3_swap_6 rfl 1 rfl ?_
  refine J_iload_n (pc := 7) F dX3_swap_7 rfl 2 rfl ?_
  refine J_aload_n (pc := 8) F dX3_swap_8 rfl 1 rfl ?_
  refine J_iload_n (pc := 9) F dX3_swap_9 rfl 3 rfl ?_
  obtain ⟨q2, h2, hf⟩ := bind_elim hf
  refine J_callSI (pc := 10) F (c_X3_at hI ha0 h2) (by omega) (by decide) wc_X3_at wd_311 rfl rfl (Nat.le_of_ble_eq_true rfl) dX3_swap_10 ?_
  obtain ⟨q3, h3, hf⟩ := bind_elim hf
  refine J_callSU (pc := 13) F (c_X3_put hI ha0 h3) (by omega) (by decide) wc_X3_put wd_441 rfl rfl (Nat.le_of_ble_eq_true rfl) dX3_swap_13 ?_
  refine J_aload_n (pc := 16) F dX3_swap_16 rfl 1 rfl ?_
  refine J_iload_n (pc := 17) F dX3_swap_17 rfl 3 rfl ?_
  refine J_iload_n (pc := 18) F dX3_swap_18 rfl 0 rfl ?_
  obtain ⟨q4, h4, hf⟩ := bind_elim hf
  refine J_callSU (pc := 19) F (c_X3_put hI ha0 h4) (by omega) (by decide) wc_X3_put wd_441 rfl rfl (Nat.le_of_ble_eq_true rfl) dX3_swap_19 ?_
  exact J_vret (pc := 22) F dX3_swap_22 hf
set_option maxHeartbeats 4000000 in
set_option maxRecDepth 100000 in
theorem c_X1_swapSeats {l : Launch} {E : En} {ad : Nat → Nat} {G : Lay} {n : Nat} (hI : adI ad n) {t : Nat} (ht : TabAt E ad G n t) {a0 : Int32} {a1 : Int32} {σ : St} {res : Unit × St} (hf : f_X1_swapSeats t a0 a1 σ = some res) : Ct l yX1_swapSeats cX1_swapSeats 4 none 2 E ad G n [.ref (ad t), .int a0, .int a1] σ none res.2 := by
  unfold f_X1_swapSeats at hf
  refine J_start (own := RX1) (lv := [(0, .ref (ad t)), (1, .int a0), (2, .int a1)]) pnX1 rfl hI (Nat.le_of_ble_eq_true rfl) rfl (fun p e s m args below meth c F => ?_)
  refine J_aload_n (pc := 0) F dX1_swapSeats_0 rfl 0 rfl ?_
  refine gfX1_kind (pc := 1) F ht wd_51 dX1_swapSeats_1 ?_
  refine J_iload_n (pc := 4) F dX1_swapSeats_4 rfl 1 rfl ?_
  refine J_iload_n (pc := 5) F dX1_swapSeats_5 rfl 2 rfl ?_
  obtain ⟨q1, h1, hf⟩ := bind_elim hf
  refine J_callNU (pc := 6) F (host := RX3) (c_X3_swap hI (tabA2 ht) h1) (by omega) (by decide) wc_X3_swap (by simp [nestL]) rfl rfl (Nat.le_of_ble_eq_true rfl) dX1_swapSeats_6 ?_
  refine J_aload_n (pc := 9) F dX1_swapSeats_9 rfl 0 rfl ?_
  refine gfX1_memory (pc := 10) F ht wd_53 dX1_swapSeats_10 ?_
  refine J_iload_n (pc := 13) F dX1_swapSeats_13 rfl 1 rfl ?_
  refine J_iload_n (pc := 14) F dX1_swapSeats_14 rfl 2 rfl ?_
  obtain ⟨q2, h2, hf⟩ := bind_elim hf
  refine J_callNU (pc := 15) F (host := RX3) (c_X3_swap hI (tabA3 ht) h2) (by omega) (by decide) wc_X3_swap (by simp [nestL]) rfl rfl (Nat.le_of_ble_eq_true rfl) dX1_swapSeats_15 ?_
  refine J_aload_n (pc := 18) F dX1_swapSeats_18 rfl 0 rfl ?_
  refine gfX1_has (pc := 19) F ht wd_55 dX1_swapSeats_19 ?_
  refine J_iload_n (pc := 22) F dX1_swapSeats_22 rfl 1 rfl ?_
  refine J_iload_n (pc := 23) F dX1_swapSeats_23 rfl 2 rfl ?_
  obtain ⟨q3, h3, hf⟩ := bind_elim hf
  refine J_callNU (pc := 24) F (host := RX3) (c_X3_swap hI (tabA4 ht) h3) (by omega) (by decide) wc_X3_swap (by simp [nestL]) rfl rfl (Nat.le_of_ble_eq_true rfl) dX1_swapSeats_24 ?_
  refine J_aload_n (pc := 27) F dX1_swapSeats_27 rfl 0 rfl ?_
  refine gfX1_right (pc := 28) F ht wd_57 dX1_swapSeats_28 ?_
  refine J_iload_n (pc := 31) F dX1_swapSeats_31 rfl 1 rfl ?_
  refine J_iload_n (pc := 32) F dX1_swapSeats_32 rfl 2 rfl ?_
  obtain ⟨q4, h4, hf⟩ := bind_elim hf
  refine J_callNU (pc := 33) F (host := RX3) (c_X3_swap hI (tabA5 ht) h4) (by omega) (by decide) wc_X3_swap (by simp [nestL]) rfl rfl (Nat.le_of_ble_eq_true rfl) dX1_swapSeats_33 ?_
  refine J_iconst (pc := 36) F dX1_swapSeats_36 ki_0 ?_
  refine J_istore_n (pc := 37) F (lv' := [(3, .int (0 : Int32)), (0, .ref (ad t)), (1, .int a0), (2, .int a1)]) dX1_swapSeats_37 rfl (by decide) rfl ?_
  refine J_sub [1, 2, 3, 0] rfl ?_
  refine lp_ind (P := fun (b5 : Int32 × St) => J p l e 2 s m args below meth c E ad G n (QU below E ad G n args s res) 4 b5.2 38 [(0, .ref (ad t)), (1, .int a0), (2, .int a1), (3, .int b5.1)] []) (fun r5 ih5 b5 hf => ?_) FU ((0 : Int32), q4.2) hf
  show J p l e 2 s m args below meth c E ad G n (QU below E ad G n args s res) 4 b5.2 38 [(0, .ref (ad t)), (1, .int a0), (2, .int a1), (3, .int b5.1)] []
  refine J_iload_n (pc := 38) F dX1_swapSeats_38 rfl 3 rfl ?_
  refine J_aload_n (pc := 39) F dX1_swapSeats_39 rfl 0 rfl ?_
  refine gfX1_words (pc := 40) F ht wd_62 dX1_swapSeats_40 ?_
  rcases ite_elim hf with ⟨c6, hf⟩ | ⟨c6, hf⟩
  · refine J_icmp_geT (pc := 43) F (tgt := 90) dX1_swapSeats_43 (by decide) c6 ?_
    exact J_vret (pc := 90) F dX1_swapSeats_90 hf
  · refine J_icmp_geF (pc := 43) F (tgt := 90) dX1_swapSeats_43 (by decide) c6 ?_
    refine J_aload_n (pc := 46) F dX1_swapSeats_46 rfl 0 rfl ?_
    refine gfX1_way (pc := 47) F ht wd_59 dX1_swapSeats_47 ?_
    refine J_bipush (pc := 50) F dX1_swapSeats_50 kb_8 ?_
    refine J_iload_n (pc := 52) F dX1_swapSeats_52 rfl 1 rfl ?_
    refine J_imul (pc := 53) F dX1_swapSeats_53 ?_
    refine J_iload_n (pc := 54) F dX1_swapSeats_54 rfl 3 rfl ?_
    refine J_iadd (pc := 55) F dX1_swapSeats_55 ?_
    refine J_bipush (pc := 56) F dX1_swapSeats_56 kb_8 ?_
    refine J_iload_n (pc := 58) F dX1_swapSeats_58 rfl 2 rfl ?_
    refine J_imul (pc := 59) F dX1_swapSeats_59 ?_
    refine J_iload_n (pc := 60) F dX1_swapSeats_60 rfl 3 rfl ?_
    refine J_iadd (pc := 61) F dX1_swapSeats_61 ?_
    obtain ⟨q7, h7, hf⟩ := bind_elim hf
    refine J_callNU (pc := 62) F (host := RX3) (c_X3_swap hI (tabA6 ht) h7) (by omega) (by decide) wc_X3_swap (by simp [nestL]) rfl rfl (Nat.le_of_ble_eq_true rfl) dX1_swapSeats_62 ?_
    refine J_aload_n (pc := 65) F dX1_swapSeats_65 rfl 0 rfl ?_
    refine gfX1_age (pc := 66) F ht wd_60 dX1_swapSeats_66 ?_
    refine J_bipush (pc := 69) F dX1_swapSeats_69 kb_8 ?_
    refine J_iload_n (pc := 71) F dX1_swapSeats_71 rfl 1 rfl ?_
    refine J_imul (pc := 72) F dX1_swapSeats_72 ?_
    refine J_iload_n (pc := 73) F dX1_swapSeats_73 rfl 3 rfl ?_
    refine J_iadd (pc := 74) F dX1_swapSeats_74 ?_
    refine J_bipush (pc := 75) F dX1_swapSeats_75 kb_8 ?_
    refine J_iload_n (pc := 77) F dX1_swapSeats_77 rfl 2 rfl ?_
    refine J_imul (pc := 78) F dX1_swapSeats_78 ?_
    refine J_iload_n (pc := 79) F dX1_swapSeats_79 rfl 3 rfl ?_
    refine J_iadd (pc := 80) F dX1_swapSeats_80 ?_
    obtain ⟨q8, h8, hf⟩ := bind_elim hf
    refine J_callNU (pc := 81) F (host := RX3) (c_X3_swap hI (tabA7 ht) h8) (by omega) (by decide) wc_X3_swap (by simp [nestL]) rfl rfl (Nat.le_of_ble_eq_true rfl) dX1_swapSeats_81 ?_
    obtain ⟨x9, ex9, hf⟩ := nm_elim hf
    refine J_iinc (pc := 84) F (lv' := [(3, .int x9), (0, .ref (ad t)), (1, .int a0), (2, .int a1)]) dX1_swapSeats_84 3 rfl (ex9.trans (congrArg _ ki_1.symm)) (by decide) rfl ?_
    refine J_goto (pc := 87) F (tgt := 38) dX1_swapSeats_87 (by decide) ?_
    refine J_sub [1, 2, 3, 0] rfl ?_
    exact ih5 (x9, q8.2) hf
set_option maxHeartbeats 4000000 in
set_option maxRecDepth 100000 in
theorem c_X1_spend {l : Launch} {E : En} {ad : Nat → Nat} {G : Lay} {n : Nat} (hI : adI ad n) {t : Nat} (ht : TabAt E ad G n t) {a0 : Int32} {σ : St} {res : Unit × St} (hf : f_X1_spend t a0 σ = some res) : Ct l yX1_spend cX1_spend 3 none 4 E ad G n [.ref (ad t), .int a0] σ none res.2 := by
  unfold f_X1_spend at hf
  refine J_start (own := RX1) (lv := [(0, .ref (ad t)), (1, .int a0)]) pnX1 rfl hI (Nat.le_of_ble_eq_true rfl) rfl (fun p e s m args below meth c F => ?_)
  refine J_iconst (pc := 0) F dX1_spend_0 ki_0 ?_
  refine J_istore_n (pc := 1) F (lv' := [(2, .int (0 : Int32)), (0, .ref (ad t)), (1, .int a0)]) dX1_spend_1 rfl (by decide) rfl ?_
  refine J_sub [1, 2, 0] rfl ?_
  refine lp_ind (P := fun (b1 : Int32 × St) => J p l e 4 s m args below meth c E ad G n (QU below E ad G n args s res) 3 b1.2 2 [(0, .ref (ad t)), (1, .int a0), (2, .int b1.1)] []) (fun r1 ih1 b1 hf => ?_) FU ((0 : Int32), σ) hf
  show J p l e 4 s m args below meth c E ad G n (QU below E ad G n args s res) 3 b1.2 2 [(0, .ref (ad t)), (1, .int a0), (2, .int b1.1)] []
  refine J_iload_n (pc := 2) F dX1_spend_2 rfl 2 rfl ?_
  refine J_iload_n (pc := 3) F dX1_spend_3 rfl 1 rfl ?_
  rcases ite_elim hf with ⟨c2, hf⟩ | ⟨c2, hf⟩
  · refine J_icmp_geT (pc := 4) F (tgt := 18) dX1_spend_4 (by decide) c2 ?_
    exact J_vret (pc := 18) F dX1_spend_18 hf
  · refine J_icmp_geF (pc := 4) F (tgt := 18) dX1_spend_4 (by decide) c2 ?_
    refine J_aload_n (pc := 7) F dX1_spend_7 rfl 0 rfl ?_
    refine J_iconst (pc := 8) F dX1_spend_8 ki_1 ?_
    obtain ⟨q3, h3, hf⟩ := bind_elim hf
    refine J_callVU (pc := 9) F (c_X1_spendDay hI ht h3) (by omega) (by decide) (tabN ht) (ht.2.1 _) rfl wc_X1_spendDay wd_384 rfl rfl (Nat.le_of_ble_eq_true rfl) dX1_spend_9 ?_
    obtain ⟨x4, ex4, hf⟩ := nm_elim hf
    refine J_iinc (pc := 12) F (lv' := [(2, .int x4), (0, .ref (ad t)), (1, .int a0)]) dX1_spend_12 2 rfl (ex4.trans (congrArg _ ki_1.symm)) (by decide) rfl ?_
    refine J_goto (pc := 15) F (tgt := 2) dX1_spend_15 (by decide) ?_
    refine J_sub [1, 2, 0] rfl ?_
    exact ih1 (x4, q3.2) hf
set_option maxHeartbeats 4000000 in
set_option maxRecDepth 100000 in
theorem c_X1_befall {l : Launch} {E : En} {ad : Nat → Nat} {G : Lay} {n : Nat} (hI : adI ad n) {t : Nat} (ht : TabAt E ad G n t) {a0 : Int32} {σ : St} {res : Unit × St} (hf : f_X1_befall t a0 σ = some res) : Ct l yX1_befall cX1_befall 6 none 3 E ad G n [.ref (ad t), .int a0] σ none res.2 := by
  unfold f_X1_befall at hf
  refine J_start (own := RX1) (lv := [(0, .ref (ad t)), (1, .int a0)]) pnX1 rfl hI (Nat.le_of_ble_eq_true rfl) rfl (fun p e s m args below meth c F => ?_)
  refine J_aload_n (pc := 0) F dX1_befall_0 rfl 0 rfl ?_
  refine gfX1_wooers (pc := 1) F ht wd_65 dX1_befall_1 ?_
  rcases ite_elim hf with ⟨c1, hf⟩ | ⟨c1, hf⟩
  · refine J_if_leT (pc := 4) F (tgt := 14) dX1_befall_4 (by decide) c1 ?_
    exact J_vret (pc := 14) F dX1_befall_14 hf
  · refine J_if_leF (pc := 4) F (tgt := 14) dX1_befall_4 (by decide) c1 ?_
    refine J_aload_n (pc := 7) F dX1_befall_7 rfl 0 rfl ?_
    refine gfX1_words (pc := 8) F ht wd_62 dX1_befall_8 ?_
    rcases ite_elim hf with ⟨c2, hf⟩ | ⟨c2, hf⟩
    · refine J_if_gtT (pc := 11) F (tgt := 15) dX1_befall_11 (by decide) c2 ?_
      refine J_iload_n (pc := 15) F dX1_befall_15 rfl 1 rfl ?_
      refine J_bipush (pc := 16) F dX1_befall_16 kb_8 ?_
      refine J_idiv (pc := 18) F dX1_befall_18 (by decide +kernel) ?_
      refine J_aload_n (pc := 19) F dX1_befall_19 rfl 0 rfl ?_
      refine gfX1_wooers (pc := 20) F ht wd_65 dX1_befall_20 ?_
      obtain ⟨g3, hf⟩ := grd_elim hf
      refine J_irem (pc := 23) F dX1_befall_23 g3 ?_
      obtain ⟨x4, ex4, hf⟩ := nm_elim hf
      refine J_ti ex4 ?_
      refine J_istore_n (pc := 24) F (lv' := [(2, .int x4), (0, .ref (ad t)), (1, .int a0)]) dX1_befall_24 rfl (by decide) rfl ?_
      refine J_iload_n (pc := 25) F dX1_befall_25 rfl 2 rfl ?_
      refine J_bipush (pc := 26) F dX1_befall_26 kb_64 ?_
      refine J_idiv (pc := 28) F dX1_befall_28 (by decide +kernel) ?_
      refine J_aload_n (pc := 29) F dX1_befall_29 rfl 1 rfl ?_
      refine gfX1_words (pc := 30) F ht wd_62 dX1_befall_30 ?_
      obtain ⟨g5, hf⟩ := grd_elim hf
      refine J_irem (pc := 33) F dX1_befall_33 g5 ?_
      obtain ⟨x6, ex6, hf⟩ := nm_elim hf
      refine J_ti ex6 ?_
      refine J_istore_n (pc := 34) F (lv' := [(3, .int x6), (2, .int x4), (0, .ref (ad t)), (1, .int a0)]) dX1_befall_34 rfl (by decide) rfl ?_
      refine J_iload_n (pc := 35) F dX1_befall_35 rfl 3 rfl ?_
      refine J_bipush (pc := 36) F dX1_befall_36 kb_64 ?_
      refine J_idiv (pc := 38) F dX1_befall_38 (by decide +kernel) ?_
      refine J_aload_n (pc := 39) F dX1_befall_39 rfl 2 rfl ?_
      refine gfX1_wooers (pc := 40) F ht wd_65 dX1_befall_40 ?_
      obtain ⟨g7, hf⟩ := grd_elim hf
      refine J_irem (pc := 43) F dX1_befall_43 g7 ?_
      obtain ⟨x8, ex8, hf⟩ := nm_elim hf
      refine J_ti ex8 ?_
      refine J_istore (pc := 44) F (lv' := [(4, .int x8), (3, .int x6), (2, .int x4), (0, .ref (ad t)), (1, .int a0)]) dX1_befall_44 (by decide) rfl ?_
      refine J_iload_n (pc := 46) F dX1_befall_46 rfl 4 rfl ?_
      refine J_bipush (pc := 47) F dX1_befall_47 kb_8 ?_
      refine J_irem (pc := 49) F dX1_befall_49 (by decide +kernel) ?_
      obtain ⟨x9, ex9, hf⟩ := nm_elim hf
      refine J_ti ex9 ?_
      refine J_istore (pc := 50) F (lv' := [(5, .int x9), (4, .int x8), (3, .int x6), (2, .int x4), (0, .ref (ad t)), (1, .int a0)]) dX1_befall_50 (by decide) rfl ?_
      refine J_iload (pc := 52) F dX1_befall_52 0 rfl ?_
      refine J_iconst (pc := 54) F dX1_befall_54 ki_3 ?_
      rcases ite_elim hf with ⟨c10, hf⟩ | ⟨c10, hf⟩
      · refine J_icmp_gtT (pc := 55) F (tgt := 67) dX1_befall_55 (by decide) c10 ?_
        refine J_iload (pc := 67) F dX1_befall_67 0 rfl ?_
        refine J_iconst (pc := 69) F dX1_befall_69 ki_4 ?_
        obtain ⟨k11, hk11, hf⟩ := jn_elim hf
        have hJk11 : ∀ (q11 : St), k11 q11 = some res → J p l e 3 s m args below meth c E ad G n (QU below E ad G n args s res) 6 q11 91 [(0, .ref (ad t)), (2, .int x4), (4, .int x8), (5, .int x9)] [] := by
          intro q11 hf
          replace hf := hk11 q11 hf
          refine J_iload (pc := 91) F dX1_befall_91 3 rfl ?_
          refine J_iconst (pc := 93) F dX1_befall_93 ki_5 ?_
          rcases ite_elim hf with ⟨c16, hf⟩ | ⟨c16, hf⟩
          · refine J_icmp_neT (pc := 94) F (tgt := 110) dX1_befall_94 (by decide) c16 ?_
            exact J_vret (pc := 110) F dX1_befall_110 hf
          · refine J_icmp_neF (pc := 94) F (tgt := 110) dX1_befall_94 (by decide) c16 ?_
            refine J_iload_n (pc := 97) F dX1_befall_97 rfl 1 rfl ?_
            refine J_iload (pc := 98) F dX1_befall_98 2 rfl ?_
            rcases ite_elim hf with ⟨c17, hf⟩ | ⟨c17, hf⟩
            · refine J_icmp_eqT (pc := 100) F (tgt := 110) dX1_befall_100 (by decide) c17 ?_
              exact J_vret (pc := 110) F dX1_befall_110 hf
            · refine J_icmp_eqF (pc := 100) F (tgt := 110) dX1_befall_100 (by decide) c17 ?_
              refine J_aload_n (pc := 103) F dX1_befall_103 rfl 0 rfl ?_
              refine J_iload_n (pc := 104) F dX1_befall_104 rfl 1 rfl ?_
              refine J_iload (pc := 105) F dX1_befall_105 2 rfl ?_
              obtain ⟨q18, h18, hf⟩ := bind_elim hf
              refine J_callVU (pc := 107) F (c_X1_swapSeats hI ht h18) (by omega) (by decide) (tabN ht) (ht.2.1 _) rfl wc_X1_swapSeats wd_575 rfl rfl (Nat.le_of_ble_eq_true rfl) dX1_befall_107 ?_
              exact J_vret (pc := 110) F dX1_befall_110 hf
        clear hk11
        rcases ite_elim hf with ⟨c12, hf⟩ | ⟨c12, hf⟩
        · refine J_icmp_neT (pc := 70) F (tgt := 91) dX1_befall_70 (by decide) c12 ?_
          refine J_sub [4, 3, 1, 0] rfl ?_
          exact hJk11 σ hf
        · refine J_icmp_neF (pc := 70) F (tgt := 91) dX1_befall_70 (by decide) c12 ?_
          refine J_aload_n (pc := 73) F dX1_befall_73 rfl 4 rfl ?_
          refine J_iload_n (pc := 74) F dX1_befall_74 rfl 3 rfl ?_
          refine J_iload_n (pc := 75) F dX1_befall_75 rfl 2 rfl ?_
          obtain ⟨q13, h13, hf⟩ := bind_elim hf
          refine J_callVI (pc := 76) F (c_X1_canRepair hI ht h13) (by omega) (by decide) (tabN ht) (ht.2.1 _) rfl wc_X1_canRepair wd_512 rfl rfl (Nat.le_of_ble_eq_true rfl) dX1_befall_76 ?_
          rcases ite_elim hf with ⟨c14, hf⟩ | ⟨c14, hf⟩
          · refine J_if_eqT (pc := 79) F (tgt := 91) dX1_befall_79 (by decide) c14 ?_
            refine J_sub [4, 3, 1, 0] rfl ?_
            exact hJk11 q13.2 hf
          · refine J_if_eqF (pc := 79) F (tgt := 91) dX1_befall_79 (by decide) c14 ?_
            refine J_aload_n (pc := 82) F dX1_befall_82 rfl 4 rfl ?_
            refine J_iload_n (pc := 83) F dX1_befall_83 rfl 3 rfl ?_
            refine J_iload_n (pc := 84) F dX1_befall_84 rfl 2 rfl ?_
            obtain ⟨q15, h15, hf⟩ := bind_elim hf
            refine J_callVU (pc := 85) F (c_X1_repair hI ht h15) (by omega) (by decide) (tabN ht) (ht.2.1 _) rfl wc_X1_repair wd_574 rfl rfl (Nat.le_of_ble_eq_true rfl) dX1_befall_85 ?_
            refine J_goto (pc := 88) F (tgt := 110) dX1_befall_88 (by decide) ?_
            exact J_vret (pc := 110) F dX1_befall_110 hf
      · refine J_icmp_gtF (pc := 55) F (tgt := 67) dX1_befall_55 (by decide) c10 ?_
        refine J_aload_n (pc := 58) F dX1_befall_58 rfl 4 rfl ?_
        refine J_iload_n (pc := 59) F dX1_befall_59 rfl 3 rfl ?_
        refine J_iload_n (pc := 60) F dX1_befall_60 rfl 2 rfl ?_
        obtain ⟨q19, h19, hf⟩ := bind_elim hf
        refine J_callVU (pc := 61) F (c_X1_teach hI ht h19) (by omega) (by decide) (tabN ht) (ht.2.1 _) rfl wc_X1_teach wd_573 rfl rfl (Nat.le_of_ble_eq_true rfl) dX1_befall_61 ?_
        refine J_goto (pc := 64) F (tgt := 110) dX1_befall_64 (by decide) ?_
        exact J_vret (pc := 110) F dX1_befall_110 hf
    · refine J_if_gtF (pc := 11) F (tgt := 15) dX1_befall_11 (by decide) c2 ?_
      exact J_vret (pc := 14) F dX1_befall_14 hf
set_option maxHeartbeats 4000000 in
set_option maxRecDepth 100000 in
theorem c_X1_differing {l : Launch} {E : En} {ad : Nat → Nat} {G : Lay} {n : Nat} (hI : adI ad n) {t : Nat} (ht : TabAt E ad G n t) {a0 : Int32} {a1 : Int32} {σ : St} {res : Int32 × St} (hf : f_X1_differing t a0 a1 σ = some res) : Ct l yX1_differing cX1_differing 6 (some .int) 2 E ad G n [.ref (ad t), .int a0, .int a1] σ (some (.int res.1)) res.2 := by
  unfold f_X1_differing at hf
  refine J_start (own := RX1) (lv := [(0, .ref (ad t)), (1, .int a0), (2, .int a1)]) pnX1 rfl hI (Nat.le_of_ble_eq_true rfl) rfl (fun p e s m args below meth c F => ?_)
  refine J_aload_n (pc := 0) F dX1_differing_0 rfl 0 rfl ?_
  refine gfX1_has (pc := 1) F ht wd_55 dX1_differing_1 ?_
  refine J_iload_n (pc := 4) F dX1_differing_4 rfl 1 rfl ?_
  obtain ⟨q1, h1, hf⟩ := bind_elim hf
  refine J_callNI (pc := 5) F (host := RX3) (c_X3_at hI (tabA4 ht) h1) (by omega) (by decide) wc_X3_at (by simp [nestL]) rfl rfl (Nat.le_of_ble_eq_true rfl) dX1_differing_5 ?_
  refine J_aload_n (pc := 8) F dX1_differing_8 rfl 0 rfl ?_
  refine gfX1_has (pc := 9) F ht wd_55 dX1_differing_9 ?_
  refine J_iload_n (pc := 12) F dX1_differing_12 rfl 2 rfl ?_
  obtain ⟨q2, h2, hf⟩ := bind_elim hf
  refine J_callNI (pc := 13) F (host := RX3) (c_X3_at hI (tabA4 ht) h2) (by omega) (by decide) wc_X3_at (by simp [nestL]) rfl rfl (Nat.le_of_ble_eq_true rfl) dX1_differing_13 ?_
  refine J_ixor (pc := 16) F dX1_differing_16 ?_
  obtain ⟨x3, ex3, hf⟩ := nm_elim hf
  refine J_ti ex3 ?_
  refine J_istore_n (pc := 17) F (lv' := [(3, .int x3), (0, .ref (ad t)), (1, .int a0), (2, .int a1)]) dX1_differing_17 rfl (by decide) rfl ?_
  refine J_aload_n (pc := 18) F dX1_differing_18 rfl 1 rfl ?_
  refine gfX1_has (pc := 19) F ht wd_55 dX1_differing_19 ?_
  refine J_iload_n (pc := 22) F dX1_differing_22 rfl 2 rfl ?_
  obtain ⟨q4, h4, hf⟩ := bind_elim hf
  refine J_callNI (pc := 23) F (host := RX3) (c_X3_at hI (tabA4 ht) h4) (by omega) (by decide) wc_X3_at (by simp [nestL]) rfl rfl (Nat.le_of_ble_eq_true rfl) dX1_differing_23 ?_
  refine J_aload_n (pc := 26) F dX1_differing_26 rfl 1 rfl ?_
  refine gfX1_has (pc := 27) F ht wd_55 dX1_differing_27 ?_
  refine J_iload_n (pc := 30) F dX1_differing_30 rfl 3 rfl ?_
  obtain ⟨q5, h5, hf⟩ := bind_elim hf
  refine J_callNI (pc := 31) F (host := RX3) (c_X3_at hI (tabA4 ht) h5) (by omega) (by decide) wc_X3_at (by simp [nestL]) rfl rfl (Nat.le_of_ble_eq_true rfl) dX1_differing_31 ?_
  refine J_iand (pc := 34) F dX1_differing_34 ?_
  obtain ⟨x6, ex6, hf⟩ := nm_elim hf
  refine J_ti ex6 ?_
  refine J_istore (pc := 35) F (lv' := [(4, .int x6), (3, .int x3), (0, .ref (ad t)), (1, .int a0), (2, .int a1)]) dX1_differing_35 (by decide) rfl ?_
  refine J_iconst (pc := 37) F dX1_differing_37 ki_0 ?_
  refine J_istore (pc := 38) F (lv' := [(5, .int (0 : Int32)), (4, .int x6), (3, .int x3), (0, .ref (ad t)), (1, .int a0), (2, .int a1)]) dX1_differing_38 (by decide) rfl ?_
  refine J_sub [3, 4, 5, 2, 1, 0] rfl ?_
  refine lp_ind (P := fun (b7 : Int32 × Int32 × St) => J p l e 2 s m args below meth c E ad G n (QI below E ad G n args s res) 6 b7.2.2 40 [(0, .ref (ad t)), (1, .int a0), (2, .int a1), (3, .int b7.1), (4, .int x6), (5, .int b7.2.1)] []) (fun r7 ih7 b7 hf => ?_) FU (x3, (0 : Int32), q5.2) hf
  show J p l e 2 s m args below meth c E ad G n (QI below E ad G n args s res) 6 b7.2.2 40 [(0, .ref (ad t)), (1, .int a0), (2, .int a1), (3, .int b7.1), (4, .int x6), (5, .int b7.2.1)] []
  refine J_iload (pc := 40) F dX1_differing_40 5 rfl ?_
  refine J_aload_n (pc := 42) F dX1_differing_42 rfl 0 rfl ?_
  refine gfX1_words (pc := 43) F ht wd_62 dX1_differing_43 ?_
  rcases ite_elim hf with ⟨c8, hf⟩ | ⟨c8, hf⟩
  · refine J_icmp_geT (pc := 46) F (tgt := 90) dX1_differing_46 (by decide) c8 ?_
    refine J_iload_n (pc := 90) F dX1_differing_90 rfl 3 rfl ?_
    exact J_iret (pc := 91) F rfl dX1_differing_91 hf
  · refine J_icmp_geF (pc := 46) F (tgt := 90) dX1_differing_46 (by decide) c8 ?_
    refine J_iload (pc := 49) F dX1_differing_49 4 rfl ?_
    refine J_iload (pc := 51) F dX1_differing_51 5 rfl ?_
    refine J_ishr (pc := 53) F dX1_differing_53 ?_
    refine J_iconst (pc := 54) F dX1_differing_54 ki_1 ?_
    refine J_iand (pc := 55) F dX1_differing_55 ?_
    refine J_iconst (pc := 56) F dX1_differing_56 ki_1 ?_
    obtain ⟨k9, hk9, hf⟩ := jn_elim hf
    have hJk9 : ∀ (q9 : Int32 × St), k9 q9 = some res → J p l e 2 s m args below meth c E ad G n (QI below E ad G n args s res) 6 q9.2 84 [(0, .ref (ad t)), (1, .int a0), (2, .int a1), (3, .int q9.1), (4, .int x6), (5, .int b7.2.1)] [] := by
      intro q9 hf
      replace hf := hk9 q9 hf
      obtain ⟨x15, ex15, hf⟩ := nm_elim hf
      refine J_iinc (pc := 84) F (lv' := [(5, .int x15), (0, .ref (ad t)), (1, .int a0), (2, .int a1), (3, .int q9.1), (4, .int x6)]) dX1_differing_84 5 rfl (ex15.trans (congrArg _ ki_1.symm)) (by decide) rfl ?_
      refine J_goto (pc := 87) F (tgt := 40) dX1_differing_87 (by decide) ?_
      refine J_sub [1, 2, 3, 4, 5, 0] rfl ?_
      exact ih7 (q9.1, x15, q9.2) hf
    clear hk9
    rcases ite_elim hf with ⟨c10, hf⟩ | ⟨c10, hf⟩
    · refine J_icmp_neT (pc := 57) F (tgt := 84) dX1_differing_57 (by decide) c10 ?_
      exact hJk9 (b7.1, b7.2.2) hf
    · refine J_icmp_neF (pc := 57) F (tgt := 84) dX1_differing_57 (by decide) c10 ?_
      refine J_aload_n (pc := 60) F dX1_differing_60 rfl 0 rfl ?_
      refine J_iload_n (pc := 61) F dX1_differing_61 rfl 1 rfl ?_
      refine J_iload (pc := 62) F dX1_differing_62 5 rfl ?_
      obtain ⟨q11, h11, hf⟩ := bind_elim hf
      refine J_callVI (pc := 64) F (c_X1_wayOf hI ht h11) (by omega) (by decide) (tabN ht) (ht.2.1 _) rfl wc_X1_wayOf wd_370 rfl rfl (Nat.le_of_ble_eq_true rfl) dX1_differing_64 ?_
      refine J_aload_n (pc := 67) F dX1_differing_67 rfl 0 rfl ?_
      refine J_iload_n (pc := 68) F dX1_differing_68 rfl 2 rfl ?_
      refine J_iload (pc := 69) F dX1_differing_69 5 rfl ?_
      obtain ⟨q12, h12, hf⟩ := bind_elim hf
      refine J_callVI (pc := 71) F (c_X1_wayOf hI ht h12) (by omega) (by decide) (tabN ht) (ht.2.1 _) rfl wc_X1_wayOf wd_370 rfl rfl (Nat.le_of_ble_eq_true rfl) dX1_differing_71 ?_
      rcases ite_elim hf with ⟨c13, hf⟩ | ⟨c13, hf⟩
      · refine J_icmp_eqT (pc := 74) F (tgt := 84) dX1_differing_74 (by decide) c13 ?_
        exact hJk9 (b7.1, q12.2) hf
      · refine J_icmp_eqF (pc := 74) F (tgt := 84) dX1_differing_74 (by decide) c13 ?_
        refine J_iload_n (pc := 77) F dX1_differing_77 rfl 3 rfl ?_
        refine J_iconst (pc := 78) F dX1_differing_78 ki_1 ?_
        refine J_iload (pc := 79) F dX1_differing_79 5 rfl ?_
        refine J_ishl (pc := 81) F dX1_differing_81 ?_
        refine J_ior (pc := 82) F dX1_differing_82 ?_
        obtain ⟨x14, ex14, hf⟩ := nm_elim hf
        refine J_ti ex14 ?_
        refine J_istore_n (pc := 83) F (lv' := [(3, .int x14), (0, .ref (ad t)), (1, .int a0), (2, .int a1), (4, .int x6), (5, .int b7.2.1)]) dX1_differing_83 rfl (by decide) rfl ?_
        refine J_sub [1, 2, 3, 0, 4, 5] rfl ?_
        exact hJk9 (x14, q12.2) hf
set_option maxHeartbeats 4000000 in
set_option maxRecDepth 100000 in
theorem c_X1_holders {l : Launch} {E : En} {ad : Nat → Nat} {G : Lay} {n : Nat} (hI : adI ad n) {t : Nat} (ht : TabAt E ad G n t) {a0 : Int32} {a1 : Int32} {σ : St} {res : Int32 × St} (hf : f_X1_holders t a0 a1 σ = some res) : Ct l yX1_holders cX1_holders 5 (some .int) 2 E ad G n [.ref (ad t), .int a0, .int a1] σ (some (.int res.1)) res.2 := by
  unfold f_X1_holders at hf
  refine J_start (own := RX1) (lv := [(0, .ref (ad t)), (1, .int a0), (2, .int a1)]) pnX1 rfl hI (Nat.le_of_ble_eq_true rfl) rfl (fun p e s m args below meth c F => ?_)
  refine J_iconst (pc := 0) F dX1_holders_0 ki_0 ?_
  refine J_istore_n (pc := 1) F (lv' := [(3, .int (0 : Int32)), (0, .ref (ad t)), (1, .int a0), (2, .int a1)]) dX1_holders_1 rfl (by decide) rfl ?_
  refine J_iconst (pc := 2) F dX1_holders_2 ki_0 ?_
  refine J_istore (pc := 3) F (lv' := [(4, .int (0 : Int32)), (3, .int (0 : Int32)), (0, .ref (ad t)), (1, .int a0), (2, .int a1)]) dX1_holders_3 (by decide) rfl ?_
  refine J_sub [2, 3, 4, 1, 0] rfl ?_
  refine lp_ind (P := fun (b1 : Int32 × Int32 × St) => J p l e 2 s m args below meth c E ad G n (QI below E ad G n args s res) 5 b1.2.2 5 [(0, .ref (ad t)), (1, .int a0), (2, .int a1), (3, .int b1.1), (4, .int b1.2.1)] []) (fun r1 ih1 b1 hf => ?_) FU ((0 : Int32), (0 : Int32), σ) hf
  show J p l e 2 s m args below meth c E ad G n (QI below E ad G n args s res) 5 b1.2.2 5 [(0, .ref (ad t)), (1, .int a0), (2, .int a1), (3, .int b1.1), (4, .int b1.2.1)] []
  refine J_iload (pc := 5) F dX1_holders_5 4 rfl ?_
  refine J_aload_n (pc := 7) F dX1_holders_7 rfl 0 rfl ?_
  refine gfX1_wooers (pc := 8) F ht wd_65 dX1_holders_8 ?_
  rcases ite_elim hf with ⟨c2, hf⟩ | ⟨c2, hf⟩
  · refine J_icmp_geT (pc := 11) F (tgt := 44) dX1_holders_11 (by decide) c2 ?_
    refine J_iload_n (pc := 44) F dX1_holders_44 rfl 3 rfl ?_
    exact J_iret (pc := 45) F rfl dX1_holders_45 hf
  · refine J_icmp_geF (pc := 11) F (tgt := 44) dX1_holders_11 (by decide) c2 ?_
    refine J_aload_n (pc := 14) F dX1_holders_14 rfl 0 rfl ?_
    refine J_iload (pc := 15) F dX1_holders_15 4 rfl ?_
    refine J_iload_n (pc := 17) F dX1_holders_17 rfl 1 rfl ?_
    obtain ⟨q3, h3, hf⟩ := bind_elim hf
    refine J_callVI (pc := 18) F (c_X1_holds hI ht h3) (by omega) (by decide) (tabN ht) (ht.2.1 _) rfl wc_X1_holds wd_369 rfl rfl (Nat.le_of_ble_eq_true rfl) dX1_holders_18 ?_
    obtain ⟨k4, hk4, hf⟩ := jn_elim hf
    have hJk4 : ∀ (q4 : Int32 × St), k4 q4 = some res → J p l e 2 s m args below meth c E ad G n (QI below E ad G n args s res) 5 q4.2 38 [(0, .ref (ad t)), (1, .int a0), (2, .int a1), (3, .int q4.1), (4, .int b1.2.1)] [] := by
      intro q4 hf
      replace hf := hk4 q4 hf
      obtain ⟨x9, ex9, hf⟩ := nm_elim hf
      refine J_iinc (pc := 38) F (lv' := [(4, .int x9), (0, .ref (ad t)), (1, .int a0), (2, .int a1), (3, .int q4.1)]) dX1_holders_38 4 rfl (ex9.trans (congrArg _ ki_1.symm)) (by decide) rfl ?_
      refine J_goto (pc := 41) F (tgt := 5) dX1_holders_41 (by decide) ?_
      refine J_sub [1, 2, 3, 4, 0] rfl ?_
      exact ih1 (q4.1, x9, q4.2) hf
    clear hk4
    rcases ite_elim hf with ⟨c5, hf⟩ | ⟨c5, hf⟩
    · refine J_if_eqT (pc := 21) F (tgt := 38) dX1_holders_21 (by decide) c5 ?_
      exact hJk4 (b1.1, q3.2) hf
    · refine J_if_eqF (pc := 21) F (tgt := 38) dX1_holders_21 (by decide) c5 ?_
      refine J_aload_n (pc := 24) F dX1_holders_24 rfl 0 rfl ?_
      refine J_iload (pc := 25) F dX1_holders_25 4 rfl ?_
      refine J_iload_n (pc := 27) F dX1_holders_27 rfl 1 rfl ?_
      obtain ⟨q6, h6, hf⟩ := bind_elim hf
      refine J_callVI (pc := 28) F (c_X1_wayOf hI ht h6) (by omega) (by decide) (tabN ht) (ht.2.1 _) rfl wc_X1_wayOf wd_370 rfl rfl (Nat.le_of_ble_eq_true rfl) dX1_holders_28 ?_
      refine J_iload_n (pc := 31) F dX1_holders_31 rfl 2 rfl ?_
      rcases ite_elim hf with ⟨c7, hf⟩ | ⟨c7, hf⟩
      · refine J_icmp_neT (pc := 32) F (tgt := 38) dX1_holders_32 (by decide) c7 ?_
        exact hJk4 (b1.1, q6.2) hf
      · refine J_icmp_neF (pc := 32) F (tgt := 38) dX1_holders_32 (by decide) c7 ?_
        obtain ⟨x8, ex8, hf⟩ := nm_elim hf
        refine J_iinc (pc := 35) F (lv' := [(3, .int x8), (0, .ref (ad t)), (1, .int a0), (2, .int a1), (4, .int b1.2.1)]) dX1_holders_35 3 rfl (ex8.trans (congrArg _ ki_1.symm)) (by decide) rfl ?_
        refine J_sub [1, 2, 3, 0, 4] rfl ?_
        exact hJk4 (x8, q6.2) hf
set_option maxHeartbeats 4000000 in
set_option maxRecDepth 100000 in
theorem c_X1_isAnother {l : Launch} {E : En} {ad : Nat → Nat} {G : Lay} {n : Nat} (hI : adI ad n) {t : Nat} (ht : TabAt E ad G n t) {a0 : Int32} {σ : St} {res : Int32 × St} (hf : f_X1_isAnother t a0 σ = some res) : Ct l yX1_isAnother cX1_isAnother 4 (some .boolean) 3 E ad G n [.ref (ad t), .int a0] σ (some (.int res.1)) res.2 := by
  unfold f_X1_isAnother at hf
  refine J_start (own := RX1) (lv := [(0, .ref (ad t)), (1, .int a0)]) pnX1 rfl hI (Nat.le_of_ble_eq_true rfl) rfl (fun p e s m args below meth c F => ?_)
  refine J_aload_n (pc := 0) F dX1_isAnother_0 rfl 0 rfl ?_
  refine J_iload_n (pc := 1) F dX1_isAnother_1 rfl 1 rfl ?_
  refine J_aload_n (pc := 2) F dX1_isAnother_2 rfl 0 rfl ?_
  refine gfX1_sounds (pc := 3) F ht wd_48 dX1_isAnother_3 ?_
  refine J_iload_n (pc := 6) F dX1_isAnother_6 rfl 1 rfl ?_
  obtain ⟨q1, h1, hf⟩ := bind_elim hf
  refine J_callNI (pc := 7) F (host := RX3) (c_X3_at hI (tabA1 ht) h1) (by omega) (by decide) wc_X3_at (by simp [nestL]) rfl rfl (Nat.le_of_ble_eq_true rfl) dX1_isAnother_7 ?_
  obtain ⟨q2, h2, hf⟩ := bind_elim hf
  refine J_callVI (pc := 10) F (c_X1_holders hI ht h2) (by omega) (by decide) (tabN ht) (ht.2.1 _) rfl wc_X1_holders wd_508 rfl rfl (Nat.le_of_ble_eq_true rfl) dX1_isAnother_10 ?_
  refine J_istore_n (pc := 13) F (lv' := [(2, .int q2.1), (0, .ref (ad t)), (1, .int a0)]) dX1_isAnother_13 rfl (by decide) rfl ?_
  refine J_iconst (pc := 14) F dX1_isAnother_14 ki_0 ?_
  refine J_istore_n (pc := 15) F (lv' := [(3, .int (0 : Int32)), (2, .int q2.1), (0, .ref (ad t)), (1, .int a0)]) dX1_isAnother_15 rfl (by decide) rfl ?_
  refine J_sub [2, 3, 1, 0] rfl ?_
  refine lp_ind (P := fun (b3 : Int32 × St) => J p l e 3 s m args below meth c E ad G n (QI below E ad G n args s res) 4 b3.2 16 [(0, .ref (ad t)), (1, .int a0), (2, .int q2.1), (3, .int b3.1)] []) (fun r3 ih3 b3 hf => ?_) FU ((0 : Int32), q2.2) hf
  show J p l e 3 s m args below meth c E ad G n (QI below E ad G n args s res) 4 b3.2 16 [(0, .ref (ad t)), (1, .int a0), (2, .int q2.1), (3, .int b3.1)] []
  refine J_iload_n (pc := 16) F dX1_isAnother_16 rfl 3 rfl ?_
  refine J_aload_n (pc := 17) F dX1_isAnother_17 rfl 0 rfl ?_
  refine gfX1_wooers (pc := 18) F ht wd_65 dX1_isAnother_18 ?_
  rcases ite_elim hf with ⟨c4, hf⟩ | ⟨c4, hf⟩
  · refine J_icmp_geT (pc := 21) F (tgt := 56) dX1_isAnother_21 (by decide) c4 ?_
    refine J_iconst (pc := 56) F dX1_isAnother_56 ki_0 ?_
    exact J_iret (pc := 57) F rfl dX1_isAnother_57 hf
  · refine J_icmp_geF (pc := 21) F (tgt := 56) dX1_isAnother_21 (by decide) c4 ?_
    refine J_aload_n (pc := 24) F dX1_isAnother_24 rfl 0 rfl ?_
    refine J_iload_n (pc := 25) F dX1_isAnother_25 rfl 3 rfl ?_
    refine J_iload_n (pc := 26) F dX1_isAnother_26 rfl 1 rfl ?_
    obtain ⟨q5, h5, hf⟩ := bind_elim hf
    refine J_callVI (pc := 27) F (c_X1_canRepair hI ht h5) (by omega) (by decide) (tabN ht) (ht.2.1 _) rfl wc_X1_canRepair wd_512 rfl rfl (Nat.le_of_ble_eq_true rfl) dX1_isAnother_27 ?_
    obtain ⟨k6, hk6, hf⟩ := jn_elim hf
    have hJk6 : ∀ (q6 : St), k6 q6 = some res → J p l e 3 s m args below meth c E ad G n (QI below E ad G n args s res) 4 q6 50 [(0, .ref (ad t)), (1, .int a0), (2, .int q2.1), (3, .int b3.1)] [] := by
      intro q6 hf
      replace hf := hk6 q6 hf
      obtain ⟨x11, ex11, hf⟩ := nm_elim hf
      refine J_iinc (pc := 50) F (lv' := [(3, .int x11), (0, .ref (ad t)), (1, .int a0), (2, .int q2.1)]) dX1_isAnother_50 3 rfl (ex11.trans (congrArg _ ki_1.symm)) (by decide) rfl ?_
      refine J_goto (pc := 53) F (tgt := 16) dX1_isAnother_53 (by decide) ?_
      refine J_sub [1, 2, 3, 0] rfl ?_
      exact ih3 (x11, q6) hf
    clear hk6
    rcases ite_elim hf with ⟨c7, hf⟩ | ⟨c7, hf⟩
    · refine J_if_eqT (pc := 30) F (tgt := 50) dX1_isAnother_30 (by decide) c7 ?_
      exact hJk6 q5.2 hf
    · refine J_if_eqF (pc := 30) F (tgt := 50) dX1_isAnother_30 (by decide) c7 ?_
      refine J_aload_n (pc := 33) F dX1_isAnother_33 rfl 0 rfl ?_
      refine J_iload_n (pc := 34) F dX1_isAnother_34 rfl 1 rfl ?_
      refine J_aload_n (pc := 35) F dX1_isAnother_35 rfl 0 rfl ?_
      refine J_iload_n (pc := 36) F dX1_isAnother_36 rfl 3 rfl ?_
      refine J_iload_n (pc := 37) F dX1_isAnother_37 rfl 1 rfl ?_
      obtain ⟨q8, h8, hf⟩ := bind_elim hf
      refine J_callVI (pc := 38) F (c_X1_wayOf hI ht h8) (by omega) (by decide) (tabN ht) (ht.2.1 _) rfl wc_X1_wayOf wd_370 rfl rfl (Nat.le_of_ble_eq_true rfl) dX1_isAnother_38 ?_
      obtain ⟨q9, h9, hf⟩ := bind_elim hf
      refine J_callVI (pc := 41) F (c_X1_holders hI ht h9) (by omega) (by decide) (tabN ht) (ht.2.1 _) rfl wc_X1_holders wd_508 rfl rfl (Nat.le_of_ble_eq_true rfl) dX1_isAnother_41 ?_
      refine J_iload_n (pc := 44) F dX1_isAnother_44 rfl 2 rfl ?_
      rcases ite_elim hf with ⟨c10, hf⟩ | ⟨c10, hf⟩
      · refine J_icmp_leT (pc := 45) F (tgt := 50) dX1_isAnother_45 (by decide) c10 ?_
        exact hJk6 q9.2 hf
      · refine J_icmp_leF (pc := 45) F (tgt := 50) dX1_isAnother_45 (by decide) c10 ?_
        refine J_iconst (pc := 48) F dX1_isAnother_48 ki_1 ?_
        exact J_iret (pc := 49) F rfl dX1_isAnother_49 hf
set_option maxHeartbeats 4000000 in
set_option maxRecDepth 100000 in
theorem c_X2_append {l : Launch} {E : En} {ad : Nat → Nat} {G : Lay} {n : Nat} (hI : adI ad n) (ht : TxtAt E ad G n) {a0 : Int32} {σ : St} {res : Int32 × St} (hf : f_X2_append a0 σ = some res) : Ct l yX2_append cX2_append 2 (some .boolean) 1 E ad G n [.ref (ad 0), .int a0] σ (some (.int res.1)) res.2 := by
  unfold f_X2_append at hf
  refine J_start (own := RX2) (lv := [(0, .ref (ad 0)), (1, .int a0)]) pnX2 rfl hI (Nat.le_of_ble_eq_true rfl) rfl (fun p e s m args below meth c F => ?_)
  refine J_aload_n (pc := 0) F dX2_append_0 rfl 0 rfl ?_
  refine gfX2_length (pc := 1) F ht wd_28 dX2_append_1 ?_
  refine J_sipush (pc := 4) F dX2_append_4 ks_200 ?_
  rcases ite_elim hf with ⟨c1, hf⟩ | ⟨c1, hf⟩
  · refine J_icmp_ltT (pc := 7) F (tgt := 12) dX2_append_7 (by decide) c1 ?_
    refine J_aload_n (pc := 12) F dX2_append_12 rfl 0 rfl ?_
    refine gfX2_letters (pc := 13) F ht wd_27 dX2_append_13 ?_
    refine J_aload_n (pc := 16) F dX2_append_16 rfl 0 rfl ?_
    refine gfX2_length (pc := 17) F ht wd_28 dX2_append_17 ?_
    refine J_iload_n (pc := 20) F dX2_append_20 rfl 1 rfl ?_
    obtain ⟨q2, h2, hf⟩ := bind_elim hf
    refine J_callNU (pc := 21) F (host := RX3) (c_X3_put hI ht.2.2 h2) (by omega) (by decide) wc_X3_put (by simp [nestL]) rfl rfl (Nat.le_of_ble_eq_true rfl) dX2_append_21 ?_
    refine J_aload_n (pc := 24) F dX2_append_24 rfl 0 rfl ?_
    refine J_dup (pc := 25) F dX2_append_25 rfl ?_
    refine gfX2_length (pc := 26) F ht wd_28 dX2_append_26 ?_
    refine J_iconst (pc := 29) F dX2_append_29 ki_1 ?_
    refine J_iadd (pc := 30) F dX2_append_30 ?_
    obtain ⟨σ3, eσ3, hf⟩ := nm_elim hf
    refine pfX2_length (pc := 31) F ht wd_28 dX2_append_31 eσ3 ?_
    refine J_iconst (pc := 34) F dX2_append_34 ki_1 ?_
    exact J_iret (pc := 35) F rfl dX2_append_35 hf
  · refine J_icmp_ltF (pc := 7) F (tgt := 12) dX2_append_7 (by decide) c1 ?_
    refine J_iconst (pc := 10) F dX2_append_10 ki_0 ?_
    exact J_iret (pc := 11) F rfl dX2_append_11 hf
set_option maxHeartbeats 4000000 in
set_option maxRecDepth 100000 in
theorem c_X2_next {l : Launch} {E : En} {ad : Nat → Nat} {G : Lay} {n : Nat} (hI : adI ad n) (ht : TxtAt E ad G n) {σ : St} {res : Int32 × St} (hf : f_X2_next  σ = some res) : Ct l yX2_next cX2_next 2 (some .int) 1 E ad G n [.ref (ad 0)] σ (some (.int res.1)) res.2 := by
  unfold f_X2_next at hf
  refine J_start (own := RX2) (lv := [(0, .ref (ad 0))]) pnX2 rfl hI (Nat.le_of_ble_eq_true rfl) rfl (fun p e s m args below meth c F => ?_)
  refine J_aload_n (pc := 0) F dX2_next_0 rfl 0 rfl ?_
  refine gfX2_place (pc := 1) F ht wd_30 dX2_next_1 ?_
  refine J_aload_n (pc := 4) F dX2_next_4 rfl 0 rfl ?_
  refine gfX2_length (pc := 5) F ht wd_28 dX2_next_5 ?_
  rcases ite_elim hf with ⟨c1, hf⟩ | ⟨c1, hf⟩
  · refine J_icmp_ltT (pc := 8) F (tgt := 13) dX2_next_8 (by decide) c1 ?_
    refine J_aload_n (pc := 13) F dX2_next_13 rfl 0 rfl ?_
    refine gfX2_letters (pc := 14) F ht wd_27 dX2_next_14 ?_
    refine J_aload_n (pc := 17) F dX2_next_17 rfl 0 rfl ?_
    refine gfX2_place (pc := 18) F ht wd_30 dX2_next_18 ?_
    obtain ⟨q2, h2, hf⟩ := bind_elim hf
    refine J_callNI (pc := 21) F (host := RX3) (c_X3_at hI ht.2.2 h2) (by omega) (by decide) wc_X3_at (by simp [nestL]) rfl rfl (Nat.le_of_ble_eq_true rfl) dX2_next_21 ?_
    refine J_istore_n (pc := 24) F (lv' := [(1, .int q2.1), (0, .ref (ad 0))]) dX2_next_24 rfl (by decide) rfl ?_
    refine J_aload_n (pc := 25) F dX2_next_25 rfl 1 rfl ?_
    refine J_dup (pc := 26) F dX2_next_26 rfl ?_
    refine gfX2_place (pc := 27) F ht wd_30 dX2_next_27 ?_
    refine J_iconst (pc := 30) F dX2_next_30 ki_1 ?_
    refine J_iadd (pc := 31) F dX2_next_31 ?_
    obtain ⟨σ3, eσ3, hf⟩ := nm_elim hf
    refine pfX2_place (pc := 32) F ht wd_30 dX2_next_32 eσ3 ?_
    refine J_iload_n (pc := 35) F dX2_next_35 rfl 0 rfl ?_
    exact J_iret (pc := 36) F rfl dX2_next_36 hf
  · refine J_icmp_ltF (pc := 8) F (tgt := 13) dX2_next_8 (by decide) c1 ?_
    refine J_iconst (pc := 11) F dX2_next_11 ki_0 ?_
    exact J_iret (pc := 12) F rfl dX2_next_12 hf
set_option maxHeartbeats 4000000 in
set_option maxRecDepth 100000 in
theorem c_X2_isFigure {l : Launch} {E : En} {ad : Nat → Nat} {G : Lay} {n : Nat} (hI : adI ad n) (ht : TxtAt E ad G n) {a0 : Int32} {σ : St} {res : Int32 × St} (hf : f_X2_isFigure a0 σ = some res) : Ct l yX2_isFigure cX2_isFigure 2 (some .boolean) 0 E ad G n [.ref (ad 0), .int a0] σ (some (.int res.1)) res.2 := by
  unfold f_X2_isFigure at hf
  refine J_start (own := RX2) (lv := [(0, .ref (ad 0)), (1, .int a0)]) pnX2 rfl hI (Nat.le_of_ble_eq_true rfl) rfl (fun p e s m args below meth c F => ?_)
  refine J_iload_n (pc := 0) F dX2_isFigure_0 rfl 1 rfl ?_
  refine J_bipush (pc := 1) F dX2_isFigure_1 kb_48 ?_
  obtain ⟨k1, hk1, hf⟩ := jn_elim hf
  have hJk1 : ∀ (q1 : St), k1 q1 = some res → J p l e 0 s m args below meth c E ad G n (QI below E ad G n args s res) 2 q1 16 [] [] := by
    intro q1 hf
    replace hf := hk1 q1 hf
    refine J_iconst (pc := 16) F dX2_isFigure_16 ki_0 ?_
    exact J_iret (pc := 17) F rfl dX2_isFigure_17 hf
  clear hk1
  rcases ite_elim hf with ⟨c2, hf⟩ | ⟨c2, hf⟩
  · refine J_icmp_ltT (pc := 3) F (tgt := 16) dX2_isFigure_3 (by decide) c2 ?_
    refine J_sub [] rfl ?_
    exact hJk1 σ hf
  · refine J_icmp_ltF (pc := 3) F (tgt := 16) dX2_isFigure_3 (by decide) c2 ?_
    refine J_iload_n (pc := 6) F dX2_isFigure_6 rfl 1 rfl ?_
    refine J_bipush (pc := 7) F dX2_isFigure_7 kb_57 ?_
    rcases ite_elim hf with ⟨c3, hf⟩ | ⟨c3, hf⟩
    · refine J_icmp_gtT (pc := 9) F (tgt := 16) dX2_isFigure_9 (by decide) c3 ?_
      refine J_sub [] rfl ?_
      exact hJk1 σ hf
    · refine J_icmp_gtF (pc := 9) F (tgt := 16) dX2_isFigure_9 (by decide) c3 ?_
      refine J_iconst (pc := 12) F dX2_isFigure_12 ki_1 ?_
      refine J_goto (pc := 13) F (tgt := 17) dX2_isFigure_13 (by decide) ?_
      exact J_iret (pc := 17) F rfl dX2_isFigure_17 hf
set_option maxHeartbeats 4000000 in
set_option maxRecDepth 100000 in
theorem c_X2_number {l : Launch} {E : En} {ad : Nat → Nat} {G : Lay} {n : Nat} (hI : adI ad n) (ht : TxtAt E ad G n) {a0 : Int32} {σ : St} {res : Int32 × St} (hf : f_X2_number a0 σ = some res) : Ct l yX2_number cX2_number 4 (some .int) 2 E ad G n [.ref (ad 0), .int a0] σ (some (.int res.1)) res.2 := by
  unfold f_X2_number at hf
  refine J_start (own := RX2) (lv := [(0, .ref (ad 0)), (1, .int a0)]) pnX2 rfl hI (Nat.le_of_ble_eq_true rfl) rfl (fun p e s m args below meth c F => ?_)
  refine J_aload_n (pc := 0) F dX2_number_0 rfl 0 rfl ?_
  obtain ⟨q1, h1, hf⟩ := bind_elim hf
  refine J_callVI (pc := 1) F (c_X2_next hI ht h1) (by omega) (by decide) (txtN ht) (ht.2.1 _) rfl wc_X2_next wd_171 rfl rfl (Nat.le_of_ble_eq_true rfl) dX2_number_1 ?_
  refine J_istore_n (pc := 4) F (lv' := [(2, .int q1.1), (0, .ref (ad 0)), (1, .int a0)]) dX2_number_4 rfl (by decide) rfl ?_
  refine J_aload_n (pc := 5) F dX2_number_5 rfl 1 rfl ?_
  refine J_iload_n (pc := 6) F dX2_number_6 rfl 0 rfl ?_
  obtain ⟨q2, h2, hf⟩ := bind_elim hf
  refine J_callVI (pc := 7) F (c_X2_isFigure hI ht h2) (by omega) (by decide) (txtN ht) (ht.2.1 _) rfl wc_X2_isFigure wd_182 rfl rfl (Nat.le_of_ble_eq_true rfl) dX2_number_7 ?_
  rcases ite_elim hf with ⟨c3, hf⟩ | ⟨c3, hf⟩
  · refine J_if_neT (pc := 10) F (tgt := 15) dX2_number_10 (by decide) c3 ?_
    refine J_aload_n (pc := 15) F dX2_number_15 rfl 1 rfl ?_
    obtain ⟨q4, h4, hf⟩ := bind_elim hf
    refine J_callVI (pc := 16) F (c_X2_next hI ht h4) (by omega) (by decide) (txtN ht) (ht.2.1 _) rfl wc_X2_next wd_171 rfl rfl (Nat.le_of_ble_eq_true rfl) dX2_number_16 ?_
    refine J_istore_n (pc := 19) F (lv' := [(3, .int q4.1), (2, .int q1.1), (0, .ref (ad 0)), (1, .int a0)]) dX2_number_19 rfl (by decide) rfl ?_
    refine J_iload_n (pc := 20) F dX2_number_20 rfl 0 rfl ?_
    refine J_iload_n (pc := 21) F dX2_number_21 rfl 3 rfl ?_
    rcases ite_elim hf with ⟨c5, hf⟩ | ⟨c5, hf⟩
    · refine J_icmp_neT (pc := 22) F (tgt := 30) dX2_number_22 (by decide) c5 ?_
      refine J_aload_n (pc := 30) F dX2_number_30 rfl 2 rfl ?_
      refine J_iload_n (pc := 31) F dX2_number_31 rfl 0 rfl ?_
      obtain ⟨q6, h6, hf⟩ := bind_elim hf
      refine J_callVI (pc := 32) F (c_X2_isFigure hI ht h6) (by omega) (by decide) (txtN ht) (ht.2.1 _) rfl wc_X2_isFigure wd_182 rfl rfl (Nat.le_of_ble_eq_true rfl) dX2_number_32 ?_
      rcases ite_elim hf with ⟨c7, hf⟩ | ⟨c7, hf⟩
      · refine J_if_eqT (pc := 35) F (tgt := 46) dX2_number_35 (by decide) c7 ?_
        refine J_iconst (pc := 46) F dX2_number_46 ki_m1 ?_
        exact J_iret (pc := 47) F rfl dX2_number_47 hf
      · refine J_if_eqF (pc := 35) F (tgt := 46) dX2_number_35 (by decide) c7 ?_
        refine J_aload_n (pc := 38) F dX2_number_38 rfl 2 rfl ?_
        obtain ⟨q8, h8, hf⟩ := bind_elim hf
        refine J_callVI (pc := 39) F (c_X2_next hI ht h8) (by omega) (by decide) (txtN ht) (ht.2.1 _) rfl wc_X2_next wd_171 rfl rfl (Nat.le_of_ble_eq_true rfl) dX2_number_39 ?_
        refine J_iload_n (pc := 42) F dX2_number_42 rfl 3 rfl ?_
        rcases ite_elim hf with ⟨c9, hf⟩ | ⟨c9, hf⟩
        · refine J_icmp_eqT (pc := 43) F (tgt := 48) dX2_number_43 (by decide) c9 ?_
          refine J_bipush (pc := 48) F dX2_number_48 kb_10 ?_
          refine J_iload_n (pc := 50) F dX2_number_50 rfl 1 rfl ?_
          refine J_bipush (pc := 51) F dX2_number_51 kb_48 ?_
          refine J_isub (pc := 53) F dX2_number_53 ?_
          refine J_imul (pc := 54) F dX2_number_54 ?_
          refine J_iload_n (pc := 55) F dX2_number_55 rfl 0 rfl ?_
          refine J_iadd (pc := 56) F dX2_number_56 ?_
          refine J_bipush (pc := 57) F dX2_number_57 kb_48 ?_
          refine J_isub (pc := 59) F dX2_number_59 ?_
          exact J_iret (pc := 60) F rfl dX2_number_60 hf
        · refine J_icmp_eqF (pc := 43) F (tgt := 48) dX2_number_43 (by decide) c9 ?_
          refine J_iconst (pc := 46) F dX2_number_46 ki_m1 ?_
          exact J_iret (pc := 47) F rfl dX2_number_47 hf
    · refine J_icmp_neF (pc := 22) F (tgt := 30) dX2_number_22 (by decide) c5 ?_
      refine J_iload_n (pc := 25) F dX2_number_25 rfl 1 rfl ?_
      refine J_bipush (pc := 26) F dX2_number_26 kb_48 ?_
      refine J_isub (pc := 28) F dX2_number_28 ?_
      exact J_iret (pc := 29) F rfl dX2_number_29 hf
  · refine J_if_neF (pc := 10) F (tgt := 15) dX2_number_10 (by decide) c3 ?_
    refine J_iconst (pc := 13) F dX2_number_13 ki_m1 ?_
    exact J_iret (pc := 14) F rfl dX2_number_14 hf
set_option maxHeartbeats 4000000 in
set_option maxRecDepth 100000 in
theorem c_X2_readNeed {l : Launch} {E : En} {ad : Nat → Nat} {G : Lay} {n : Nat} (hI : adI ad n) (ht : TxtAt E ad G n) {a0 : Nat} (ha0 : TabAt E ad G n a0) {σ : St} {res : Int32 × St} (hf : f_X2_readNeed a0 σ = some res) : Ct l yX2_readNeed cX2_readNeed 3 (some .boolean) 3 E ad G n [.ref (ad 0), .ref (ad a0)] σ (some (.int res.1)) res.2 := by
  unfold f_X2_readNeed at hf
  refine J_start (own := RX2) (lv := [(0, .ref (ad 0)), (1, .ref (ad a0))]) pnX2 rfl hI (Nat.le_of_ble_eq_true rfl) rfl (fun p e s m args below meth c F => ?_)
  refine J_aload_n (pc := 0) F dX2_readNeed_0 rfl 0 rfl ?_
  refine J_iconst (pc := 1) F dX2_readNeed_1 ki_1 ?_
  obtain ⟨σ1, eσ1, hf⟩ := nm_elim hf
  refine pfX2_pastTongue (pc := 2) F ht (Or.inr rfl) wd_31 dX2_readNeed_2 eσ1 ?_
  refine J_aload_n (pc := 5) F dX2_readNeed_5 rfl 0 rfl ?_
  refine J_bipush (pc := 6) F dX2_readNeed_6 kb_59 ?_
  obtain ⟨q2, h2, hf⟩ := bind_elim hf
  refine J_callVI (pc := 8) F (c_X2_number hI ht h2) (by omega) (by decide) (txtN ht) (ht.2.1 _) rfl wc_X2_number wd_190 rfl rfl (Nat.le_of_ble_eq_true rfl) dX2_readNeed_8 ?_
  refine J_istore_n (pc := 11) F (lv' := [(2, .int q2.1), (0, .ref (ad 0)), (1, .ref (ad a0))]) dX2_readNeed_11 rfl (by decide) rfl ?_
  refine J_iload_n (pc := 12) F dX2_readNeed_12 rfl 0 rfl ?_
  refine J_iconst (pc := 13) F dX2_readNeed_13 ki_1 ?_
  rcases ite_elim hf with ⟨c3, hf⟩ | ⟨c3, hf⟩
  · refine J_icmp_ltT (pc := 14) F (tgt := 23) dX2_readNeed_14 (by decide) c3 ?_
    refine J_iconst (pc := 23) F dX2_readNeed_23 ki_0 ?_
    exact J_iret (pc := 24) F rfl dX2_readNeed_24 hf
  · refine J_icmp_ltF (pc := 14) F (tgt := 23) dX2_readNeed_14 (by decide) c3 ?_
    refine J_iload_n (pc := 17) F dX2_readNeed_17 rfl 0 rfl ?_
    refine J_bipush (pc := 18) F dX2_readNeed_18 kb_8 ?_
    rcases ite_elim hf with ⟨c4, hf⟩ | ⟨c4, hf⟩
    · refine J_icmp_leT (pc := 20) F (tgt := 25) dX2_readNeed_20 (by decide) c4 ?_
      refine J_aload_n (pc := 25) F dX2_readNeed_25 rfl 2 rfl ?_
      refine J_iload_n (pc := 26) F dX2_readNeed_26 rfl 0 rfl ?_
      obtain ⟨σ5, eσ5, hf⟩ := nm_elim hf
      refine pfX1_need (pc := 27) F ha0 wd_70 dX2_readNeed_27 eσ5 ?_
      refine J_iconst (pc := 30) F dX2_readNeed_30 ki_1 ?_
      exact J_iret (pc := 31) F rfl dX2_readNeed_31 hf
    · refine J_icmp_leF (pc := 20) F (tgt := 25) dX2_readNeed_20 (by decide) c4 ?_
      refine J_iconst (pc := 23) F dX2_readNeed_23 ki_0 ?_
      exact J_iret (pc := 24) F rfl dX2_readNeed_24 hf
set_option maxHeartbeats 4000000 in
set_option maxRecDepth 100000 in
theorem c_X2_readTongue {l : Launch} {E : En} {ad : Nat → Nat} {G : Lay} {n : Nat} (hI : adI ad n) (ht : TxtAt E ad G n) {a0 : Nat} (ha0 : TabAt E ad G n a0) {σ : St} {res : Int32 × St} (hf : f_X2_readTongue a0 σ = some res) : Ct l yX2_readTongue cX2_readTongue 4 (some .boolean) 2 E ad G n [.ref (ad 0), .ref (ad a0)] σ (some (.int res.1)) res.2 := by
  unfold f_X2_readTongue at hf
  refine J_start (own := RX2) (lv := [(0, .ref (ad 0)), (1, .ref (ad a0))]) pnX2 rfl hI (Nat.le_of_ble_eq_true rfl) rfl (fun p e s m args below meth c F => ?_)
  refine J_aload_n (pc := 0) F dX2_readTongue_0 rfl 0 rfl ?_
  refine gfX2_pastTongue (pc := 1) F ht wd_31 dX2_readTongue_1 ?_
  rcases ite_elim hf with ⟨c1, hf⟩ | ⟨c1, hf⟩
  · refine J_if_eqT (pc := 4) F (tgt := 9) dX2_readTongue_4 (by decide) c1 ?_
    refine J_iconst (pc := 9) F dX2_readTongue_9 ki_0 ?_
    refine J_istore_n (pc := 10) F (lv' := [(2, .int (0 : Int32)), (0, .ref (ad 0)), (1, .ref (ad a0))]) dX2_readTongue_10 rfl (by decide) rfl ?_
    refine J_sub [1, 2, 0] rfl ?_
    refine lp_ind (P := fun (b2 : Int32 × St) => J p l e 2 s m args below meth c E ad G n (QI below E ad G n args s res) 4 b2.2 11 [(0, .ref (ad 0)), (1, .ref (ad a0)), (2, .int b2.1)] []) (fun r2 ih2 b2 hf => ?_) FU ((0 : Int32), σ) hf
    show J p l e 2 s m args below meth c E ad G n (QI below E ad G n args s res) 4 b2.2 11 [(0, .ref (ad 0)), (1, .ref (ad a0)), (2, .int b2.1)] []
    refine J_iload_n (pc := 11) F dX2_readTongue_11 rfl 2 rfl ?_
    refine J_bipush (pc := 12) F dX2_readTongue_12 kb_8 ?_
    rcases ite_elim hf with ⟨c3, hf⟩ | ⟨c3, hf⟩
    · refine J_icmp_gtT (pc := 14) F (tgt := 79) dX2_readTongue_14 (by decide) c3 ?_
      refine J_iconst (pc := 79) F dX2_readTongue_79 ki_0 ?_
      exact J_iret (pc := 80) F rfl dX2_readTongue_80 hf
    · refine J_icmp_gtF (pc := 14) F (tgt := 79) dX2_readTongue_14 (by decide) c3 ?_
      refine J_aload_n (pc := 17) F dX2_readTongue_17 rfl 0 rfl ?_
      obtain ⟨q4, h4, hf⟩ := bind_elim hf
      refine J_callVI (pc := 18) F (c_X2_next hI ht h4) (by omega) (by decide) (txtN ht) (ht.2.1 _) rfl wc_X2_next wd_171 rfl rfl (Nat.le_of_ble_eq_true rfl) dX2_readTongue_18 ?_
      refine J_istore_n (pc := 21) F (lv' := [(3, .int q4.1), (0, .ref (ad 0)), (1, .ref (ad a0)), (2, .int b2.1)]) dX2_readTongue_21 rfl (by decide) rfl ?_
      refine J_iload_n (pc := 22) F dX2_readTongue_22 rfl 0 rfl ?_
      refine J_bipush (pc := 23) F dX2_readTongue_23 kb_59 ?_
      rcases ite_elim hf with ⟨c5, hf⟩ | ⟨c5, hf⟩
      · refine J_icmp_neT (pc := 25) F (tgt := 38) dX2_readTongue_25 (by decide) c5 ?_
        refine J_aload_n (pc := 38) F dX2_readTongue_38 rfl 1 rfl ?_
        refine J_iload_n (pc := 39) F dX2_readTongue_39 rfl 0 rfl ?_
        obtain ⟨q6, h6, hf⟩ := bind_elim hf
        refine J_callVI (pc := 40) F (c_X2_isFigure hI ht h6) (by omega) (by decide) (txtN ht) (ht.2.1 _) rfl wc_X2_isFigure wd_182 rfl rfl (Nat.le_of_ble_eq_true rfl) dX2_readTongue_40 ?_
        rcases ite_elim hf with ⟨c7, hf⟩ | ⟨c7, hf⟩
        · refine J_if_eqT (pc := 43) F (tgt := 52) dX2_readTongue_43 (by decide) c7 ?_
          refine J_iconst (pc := 52) F dX2_readTongue_52 ki_0 ?_
          exact J_iret (pc := 53) F rfl dX2_readTongue_53 hf
        · refine J_if_eqF (pc := 43) F (tgt := 52) dX2_readTongue_43 (by decide) c7 ?_
          refine J_iload_n (pc := 46) F dX2_readTongue_46 rfl 3 rfl ?_
          refine J_bipush (pc := 47) F dX2_readTongue_47 kb_8 ?_
          rcases ite_elim hf with ⟨c8, hf⟩ | ⟨c8, hf⟩
          · refine J_icmp_neT (pc := 49) F (tgt := 54) dX2_readTongue_49 (by decide) c8 ?_
            refine J_aload_n (pc := 54) F dX2_readTongue_54 rfl 2 rfl ?_
            refine gfX1_sounds (pc := 55) F ha0 wd_50 dX2_readTongue_55 ?_
            refine J_iload_n (pc := 58) F dX2_readTongue_58 rfl 3 rfl ?_
            refine J_iload_n (pc := 59) F dX2_readTongue_59 rfl 0 rfl ?_
            refine J_bipush (pc := 60) F dX2_readTongue_60 kb_48 ?_
            refine J_isub (pc := 62) F dX2_readTongue_62 ?_
            obtain ⟨q9, h9, hf⟩ := bind_elim hf
            refine J_callNU (pc := 63) F (host := RX3) (c_X3_put hI (tabA1 ha0) h9) (by omega) (by decide) wc_X3_put (by simp [nestL]) rfl rfl (Nat.le_of_ble_eq_true rfl) dX2_readTongue_63 ?_
            refine J_aload_n (pc := 66) F dX2_readTongue_66 rfl 2 rfl ?_
            refine J_iload_n (pc := 67) F dX2_readTongue_67 rfl 3 rfl ?_
            refine J_iconst (pc := 68) F dX2_readTongue_68 ki_1 ?_
            refine J_iadd (pc := 69) F dX2_readTongue_69 ?_
            obtain ⟨σ10, eσ10, hf⟩ := nm_elim hf
            refine pfX1_words (pc := 70) F ha0 wd_64 dX2_readTongue_70 eσ10 ?_
            obtain ⟨x11, ex11, hf⟩ := nm_elim hf
            refine J_iinc (pc := 73) F (lv' := [(2, .int x11), (3, .int q4.1), (0, .ref (ad 0)), (1, .ref (ad a0))]) dX2_readTongue_73 3 rfl (ex11.trans (congrArg _ ki_1.symm)) (by decide) rfl ?_
            refine J_goto (pc := 76) F (tgt := 11) dX2_readTongue_76 (by decide) ?_
            refine J_sub [2, 3, 0] rfl ?_
            exact ih2 (x11, σ10) hf
          · refine J_icmp_neF (pc := 49) F (tgt := 54) dX2_readTongue_49 (by decide) c8 ?_
            refine J_iconst (pc := 52) F dX2_readTongue_52 ki_0 ?_
            exact J_iret (pc := 53) F rfl dX2_readTongue_53 hf
      · refine J_icmp_neF (pc := 25) F (tgt := 38) dX2_readTongue_25 (by decide) c5 ?_
        refine J_iload_n (pc := 28) F dX2_readTongue_28 rfl 3 rfl ?_
        rcases ite_elim hf with ⟨c12, hf⟩ | ⟨c12, hf⟩
        · refine J_if_leT (pc := 29) F (tgt := 36) dX2_readTongue_29 (by decide) c12 ?_
          refine J_iconst (pc := 36) F dX2_readTongue_36 ki_0 ?_
          exact J_iret (pc := 37) F rfl dX2_readTongue_37 hf
        · refine J_if_leF (pc := 29) F (tgt := 36) dX2_readTongue_29 (by decide) c12 ?_
          refine J_iconst (pc := 32) F dX2_readTongue_32 ki_1 ?_
          refine J_goto (pc := 33) F (tgt := 37) dX2_readTongue_33 (by decide) ?_
          exact J_iret (pc := 37) F rfl dX2_readTongue_37 hf
  · refine J_if_eqF (pc := 4) F (tgt := 9) dX2_readTongue_4 (by decide) c1 ?_
    refine J_iconst (pc := 7) F dX2_readTongue_7 ki_0 ?_
    exact J_iret (pc := 8) F rfl dX2_readTongue_8 hf
set_option maxHeartbeats 4000000 in
set_option maxRecDepth 100000 in
theorem c_X2_readWooer {l : Launch} {E : En} {ad : Nat → Nat} {G : Lay} {n : Nat} (hI : adI ad n) (ht : TxtAt E ad G n) {a0 : Nat} (ha0 : TabAt E ad G n a0) {σ : St} {res : Int32 × St} (hf : f_X2_readWooer a0 σ = some res) : Ct l yX2_readWooer cX2_readWooer 7 (some .boolean) 3 E ad G n [.ref (ad 0), .ref (ad a0)] σ (some (.int res.1)) res.2 := by
  unfold f_X2_readWooer at hf
  refine J_start (own := RX2) (lv := [(0, .ref (ad 0)), (1, .ref (ad a0))]) pnX2 rfl hI (Nat.le_of_ble_eq_true rfl) rfl (fun p e s m args below meth c F => ?_)
  refine J_aload_n (pc := 0) F dX2_readWooer_0 rfl 0 rfl ?_
  refine J_iconst (pc := 1) F dX2_readWooer_1 ki_1 ?_
  obtain ⟨σ1, eσ1, hf⟩ := nm_elim hf
  refine pfX2_pastTongue (pc := 2) F ht (Or.inr rfl) wd_31 dX2_readWooer_2 eσ1 ?_
  refine J_aload_n (pc := 5) F dX2_readWooer_5 rfl 1 rfl ?_
  refine gfX1_words (pc := 6) F ha0 wd_64 dX2_readWooer_6 ?_
  rcases ite_elim hf with ⟨c2, hf⟩ | ⟨c2, hf⟩
  · refine J_if_eqT (pc := 9) F (tgt := 20) dX2_readWooer_9 (by decide) c2 ?_
    refine J_iconst (pc := 20) F dX2_readWooer_20 ki_0 ?_
    exact J_iret (pc := 21) F rfl dX2_readWooer_21 hf
  · refine J_if_eqF (pc := 9) F (tgt := 20) dX2_readWooer_9 (by decide) c2 ?_
    refine J_aload_n (pc := 12) F dX2_readWooer_12 rfl 1 rfl ?_
    refine gfX1_wooers (pc := 13) F ha0 wd_68 dX2_readWooer_13 ?_
    refine J_iconst (pc := 16) F dX2_readWooer_16 ki_5 ?_
    rcases ite_elim hf with ⟨c3, hf⟩ | ⟨c3, hf⟩
    · refine J_icmp_ltT (pc := 17) F (tgt := 22) dX2_readWooer_17 (by decide) c3 ?_
      refine J_aload_n (pc := 22) F dX2_readWooer_22 rfl 0 rfl ?_
      refine J_bipush (pc := 23) F dX2_readWooer_23 kb_44 ?_
      obtain ⟨q4, h4, hf⟩ := bind_elim hf
      refine J_callVI (pc := 25) F (c_X2_number hI ht h4) (by omega) (by decide) (txtN ht) (ht.2.1 _) rfl wc_X2_number wd_190 rfl rfl (Nat.le_of_ble_eq_true rfl) dX2_readWooer_25 ?_
      refine J_istore_n (pc := 28) F (lv' := [(2, .int q4.1), (0, .ref (ad 0)), (1, .ref (ad a0))]) dX2_readWooer_28 rfl (by decide) rfl ?_
      refine J_iload_n (pc := 29) F dX2_readWooer_29 rfl 0 rfl ?_
      rcases ite_elim hf with ⟨c5, hf⟩ | ⟨c5, hf⟩
      · refine J_if_ltT (pc := 30) F (tgt := 38) dX2_readWooer_30 (by decide) c5 ?_
        refine J_iconst (pc := 38) F dX2_readWooer_38 ki_0 ?_
        exact J_iret (pc := 39) F rfl dX2_readWooer_39 hf
      · refine J_if_ltF (pc := 30) F (tgt := 38) dX2_readWooer_30 (by decide) c5 ?_
        refine J_iload_n (pc := 33) F dX2_readWooer_33 rfl 0 rfl ?_
        refine J_iconst (pc := 34) F dX2_readWooer_34 ki_3 ?_
        rcases ite_elim hf with ⟨c6, hf⟩ | ⟨c6, hf⟩
        · refine J_icmp_leT (pc := 35) F (tgt := 40) dX2_readWooer_35 (by decide) c6 ?_
          refine J_aload_n (pc := 40) F dX2_readWooer_40 rfl 1 rfl ?_
          refine J_bipush (pc := 41) F dX2_readWooer_41 kb_44 ?_
          obtain ⟨q7, h7, hf⟩ := bind_elim hf
          refine J_callVI (pc := 43) F (c_X2_number hI ht h7) (by omega) (by decide) (txtN ht) (ht.2.1 _) rfl wc_X2_number wd_190 rfl rfl (Nat.le_of_ble_eq_true rfl) dX2_readWooer_43 ?_
          refine J_istore_n (pc := 46) F (lv' := [(3, .int q7.1), (2, .int q4.1), (0, .ref (ad 0)), (1, .ref (ad a0))]) dX2_readWooer_46 rfl (by decide) rfl ?_
          refine J_iload_n (pc := 47) F dX2_readWooer_47 rfl 0 rfl ?_
          refine J_iconst (pc := 48) F dX2_readWooer_48 ki_1 ?_
          rcases ite_elim hf with ⟨c8, hf⟩ | ⟨c8, hf⟩
          · refine J_icmp_ltT (pc := 49) F (tgt := 58) dX2_readWooer_49 (by decide) c8 ?_
            refine J_iconst (pc := 58) F dX2_readWooer_58 ki_0 ?_
            exact J_iret (pc := 59) F rfl dX2_readWooer_59 hf
          · refine J_icmp_ltF (pc := 49) F (tgt := 58) dX2_readWooer_49 (by decide) c8 ?_
            refine J_iload_n (pc := 52) F dX2_readWooer_52 rfl 0 rfl ?_
            refine J_bipush (pc := 53) F dX2_readWooer_53 kb_30 ?_
            rcases ite_elim hf with ⟨c9, hf⟩ | ⟨c9, hf⟩
            · refine J_icmp_leT (pc := 55) F (tgt := 60) dX2_readWooer_55 (by decide) c9 ?_
              refine J_aload_n (pc := 60) F dX2_readWooer_60 rfl 3 rfl ?_
              refine J_iload_n (pc := 61) F dX2_readWooer_61 rfl 1 rfl ?_
              refine J_iload_n (pc := 62) F dX2_readWooer_62 rfl 0 rfl ?_
              obtain ⟨q10, h10, hf⟩ := bind_elim hf
              refine J_callVI (pc := 63) F (c_X1_seat hI ha0 h10) (by omega) (by decide) (tabN ha0) (ha0.2.1 _) rfl wc_X1_seat wd_194 rfl rfl (Nat.le_of_ble_eq_true rfl) dX2_readWooer_63 ?_
              refine J_istore (pc := 66) F (lv' := [(4, .int q10.1), (3, .int q7.1), (2, .int q4.1), (0, .ref (ad 0)), (1, .ref (ad a0))]) dX2_readWooer_66 (by decide) rfl ?_
              refine J_iconst (pc := 68) F dX2_readWooer_68 ki_0 ?_
              refine J_istore (pc := 69) F (lv' := [(5, .int (0 : Int32)), (4, .int q10.1), (3, .int q7.1), (2, .int q4.1), (0, .ref (ad 0)), (1, .ref (ad a0))]) dX2_readWooer_69 (by decide) rfl ?_
              refine J_sub [4, 5, 1, 0] rfl ?_
              refine lp_ind (P := fun (b11 : Int32 × St) => J p l e 3 s m args below meth c E ad G n (QI below E ad G n args s res) 7 b11.2 71 [(0, .ref (ad 0)), (1, .ref (ad a0)), (4, .int q10.1), (5, .int b11.1)] []) (fun r11 ih11 b11 hf => ?_) FU ((0 : Int32), q10.2) hf
              show J p l e 3 s m args below meth c E ad G n (QI below E ad G n args s res) 7 b11.2 71 [(0, .ref (ad 0)), (1, .ref (ad a0)), (4, .int q10.1), (5, .int b11.1)] []
              refine J_iload (pc := 71) F dX2_readWooer_71 3 rfl ?_
              refine J_aload_n (pc := 73) F dX2_readWooer_73 rfl 1 rfl ?_
              refine gfX1_words (pc := 74) F ha0 wd_64 dX2_readWooer_74 ?_
              rcases ite_elim hf with ⟨c12, hf⟩ | ⟨c12, hf⟩
              · refine J_icmp_geT (pc := 77) F (tgt := 126) dX2_readWooer_77 (by decide) c12 ?_
                refine J_aload_n (pc := 126) F dX2_readWooer_126 rfl 0 rfl ?_
                obtain ⟨q13, h13, hf⟩ := bind_elim hf
                refine J_callVI (pc := 127) F (c_X2_next hI ht h13) (by omega) (by decide) (txtN ht) (ht.2.1 _) rfl wc_X2_next wd_171 rfl rfl (Nat.le_of_ble_eq_true rfl) dX2_readWooer_127 ?_
                refine J_bipush (pc := 130) F dX2_readWooer_130 kb_59 ?_
                rcases ite_elim hf with ⟨c14, hf⟩ | ⟨c14, hf⟩
                · refine J_icmp_neT (pc := 132) F (tgt := 139) dX2_readWooer_132 (by decide) c14 ?_
                  refine J_iconst (pc := 139) F dX2_readWooer_139 ki_0 ?_
                  exact J_iret (pc := 140) F rfl dX2_readWooer_140 hf
                · refine J_icmp_neF (pc := 132) F (tgt := 139) dX2_readWooer_132 (by decide) c14 ?_
                  refine J_iconst (pc := 135) F dX2_readWooer_135 ki_1 ?_
                  refine J_goto (pc := 136) F (tgt := 140) dX2_readWooer_136 (by decide) ?_
                  exact J_iret (pc := 140) F rfl dX2_readWooer_140 hf
              · refine J_icmp_geF (pc := 77) F (tgt := 126) dX2_readWooer_77 (by decide) c12 ?_
                refine J_aload_n (pc := 80) F dX2_readWooer_80 rfl 0 rfl ?_
                obtain ⟨q15, h15, hf⟩ := bind_elim hf
                refine J_callVI (pc := 81) F (c_X2_next hI ht h15) (by omega) (by decide) (txtN ht) (ht.2.1 _) rfl wc_X2_next wd_171 rfl rfl (Nat.le_of_ble_eq_true rfl) dX2_readWooer_81 ?_
                refine J_istore (pc := 84) F (lv' := [(6, .int q15.1), (0, .ref (ad 0)), (1, .ref (ad a0)), (4, .int q10.1), (5, .int b11.1)]) dX2_readWooer_84 (by decide) rfl ?_
                refine J_aload_n (pc := 86) F dX2_readWooer_86 rfl 1 rfl ?_
                refine J_iload (pc := 87) F dX2_readWooer_87 0 rfl ?_
                obtain ⟨q16, h16, hf⟩ := bind_elim hf
                refine J_callVI (pc := 89) F (c_X2_isFigure hI ht h16) (by omega) (by decide) (txtN ht) (ht.2.1 _) rfl wc_X2_isFigure wd_182 rfl rfl (Nat.le_of_ble_eq_true rfl) dX2_readWooer_89 ?_
                obtain ⟨k17, hk17, hf⟩ := jn_elim hf
                have hJk17 : ∀ (q17 : St), k17 q17 = some res → J p l e 3 s m args below meth c E ad G n (QI below E ad G n args s res) 7 q17 120 [(0, .ref (ad 0)), (1, .ref (ad a0)), (4, .int q10.1), (5, .int b11.1)] [] := by
                  intro q17 hf
                  replace hf := hk17 q17 hf
                  obtain ⟨x21, ex21, hf⟩ := nm_elim hf
                  refine J_iinc (pc := 120) F (lv' := [(5, .int x21), (0, .ref (ad 0)), (1, .ref (ad a0)), (4, .int q10.1)]) dX2_readWooer_120 3 rfl (ex21.trans (congrArg _ ki_1.symm)) (by decide) rfl ?_
                  refine J_goto (pc := 123) F (tgt := 71) dX2_readWooer_123 (by decide) ?_
                  refine J_sub [1, 2, 3, 0] rfl ?_
                  exact ih11 (x21, q17) hf
                clear hk17
                rcases ite_elim hf with ⟨c18, hf⟩ | ⟨c18, hf⟩
                · refine J_if_eqT (pc := 92) F (tgt := 111) dX2_readWooer_92 (by decide) c18 ?_
                  refine J_iload (pc := 111) F dX2_readWooer_111 0 rfl ?_
                  refine J_bipush (pc := 113) F dX2_readWooer_113 kb_45 ?_
                  rcases ite_elim hf with ⟨c19, hf⟩ | ⟨c19, hf⟩
                  · refine J_icmp_eqT (pc := 115) F (tgt := 120) dX2_readWooer_115 (by decide) c19 ?_
                    refine J_sub [1, 2, 3, 4] rfl ?_
                    exact hJk17 q16.2 hf
                  · refine J_icmp_eqF (pc := 115) F (tgt := 120) dX2_readWooer_115 (by decide) c19 ?_
                    refine J_iconst (pc := 118) F dX2_readWooer_118 ki_0 ?_
                    exact J_iret (pc := 119) F rfl dX2_readWooer_119 hf
                · refine J_if_eqF (pc := 92) F (tgt := 111) dX2_readWooer_92 (by decide) c18 ?_
                  refine J_aload_n (pc := 95) F dX2_readWooer_95 rfl 2 rfl ?_
                  refine J_iload (pc := 96) F dX2_readWooer_96 3 rfl ?_
                  refine J_iload (pc := 98) F dX2_readWooer_98 4 rfl ?_
                  refine J_iload (pc := 100) F dX2_readWooer_100 0 rfl ?_
                  refine J_bipush (pc := 102) F dX2_readWooer_102 kb_48 ?_
                  refine J_isub (pc := 104) F dX2_readWooer_104 ?_
                  obtain ⟨q20, h20, hf⟩ := bind_elim hf
                  refine J_callVU (pc := 105) F (c_X1_give hI ha0 h20) (by omega) (by decide) (tabN ha0) (ha0.2.1 _) rfl wc_X1_give wd_199 rfl rfl (Nat.le_of_ble_eq_true rfl) dX2_readWooer_105 ?_
                  refine J_goto (pc := 108) F (tgt := 120) dX2_readWooer_108 (by decide) ?_
                  refine J_sub [1, 2, 3, 4] rfl ?_
                  exact hJk17 q20.2 hf
            · refine J_icmp_leF (pc := 55) F (tgt := 60) dX2_readWooer_55 (by decide) c9 ?_
              refine J_iconst (pc := 58) F dX2_readWooer_58 ki_0 ?_
              exact J_iret (pc := 59) F rfl dX2_readWooer_59 hf
        · refine J_icmp_leF (pc := 35) F (tgt := 40) dX2_readWooer_35 (by decide) c6 ?_
          refine J_iconst (pc := 38) F dX2_readWooer_38 ki_0 ?_
          exact J_iret (pc := 39) F rfl dX2_readWooer_39 hf
    · refine J_icmp_ltF (pc := 17) F (tgt := 22) dX2_readWooer_17 (by decide) c3 ?_
      refine J_iconst (pc := 20) F dX2_readWooer_20 ki_0 ?_
      exact J_iret (pc := 21) F rfl dX2_readWooer_21 hf
set_option maxHeartbeats 4000000 in
set_option maxRecDepth 100000 in
theorem c_X2_readItem {l : Launch} {E : En} {ad : Nat → Nat} {G : Lay} {n : Nat} (hI : adI ad n) (ht : TxtAt E ad G n) {a0 : Nat} (ha0 : TabAt E ad G n a0) {σ : St} {res : Int32 × St} (hf : f_X2_readItem a0 σ = some res) : Ct l yX2_readItem cX2_readItem 2 (some .boolean) 4 E ad G n [.ref (ad 0), .ref (ad a0)] σ (some (.int res.1)) res.2 := by
  unfold f_X2_readItem at hf
  refine J_start (own := RX2) (lv := [(0, .ref (ad 0)), (1, .ref (ad a0))]) pnX2 rfl hI (Nat.le_of_ble_eq_true rfl) rfl (fun p e s m args below meth c F => ?_)
  refine J_aload_n (pc := 0) F dX2_readItem_0 rfl 0 rfl ?_
  obtain ⟨q1, h1, hf⟩ := bind_elim hf
  refine J_callVI (pc := 1) F (c_X2_next hI ht h1) (by omega) (by decide) (txtN ht) (ht.2.1 _) rfl wc_X2_next wd_171 rfl rfl (Nat.le_of_ble_eq_true rfl) dX2_readItem_1 ?_
  rcases ite_elim hf with ⟨c2, hf⟩ | ⟨c2, hf⟩
  · refine J_tableIn (pc := 4) F (tgt := 52) (off := 48) dX2_readItem_4 (by rw [c2]; decide) (by rw [c2]; decide) (by rw [c2]; rfl) (by decide) ?_
    refine J_aload_n (pc := 52) F dX2_readItem_52 rfl 0 rfl ?_
    refine J_aload_n (pc := 53) F dX2_readItem_53 rfl 1 rfl ?_
    obtain ⟨q3, h3, hf⟩ := bind_elim hf
    refine J_callVI (pc := 54) F (c_X2_readNeed hI ht ha0 h3) (by omega) (by decide) (txtN ht) (ht.2.1 _) rfl wc_X2_readNeed wd_204 rfl rfl (Nat.le_of_ble_eq_true rfl) dX2_readItem_54 ?_
    obtain ⟨g4, hf⟩ := grd_elim hf
    exact J_iret (pc := 57) F (narZ g4) dX2_readItem_57 hf
  rcases ite_elim hf with ⟨c5, hf⟩ | ⟨c5, hf⟩
  · refine J_tableIn (pc := 4) F (tgt := 40) (off := 36) dX2_readItem_4 (by rw [c5]; decide) (by rw [c5]; decide) (by rw [c5]; rfl) (by decide) ?_
    refine J_aload_n (pc := 40) F dX2_readItem_40 rfl 0 rfl ?_
    refine J_aload_n (pc := 41) F dX2_readItem_41 rfl 1 rfl ?_
    obtain ⟨q6, h6, hf⟩ := bind_elim hf
    refine J_callVI (pc := 42) F (c_X2_readTongue hI ht ha0 h6) (by omega) (by decide) (txtN ht) (ht.2.1 _) rfl wc_X2_readTongue wd_178 rfl rfl (Nat.le_of_ble_eq_true rfl) dX2_readItem_42 ?_
    obtain ⟨g7, hf⟩ := grd_elim hf
    exact J_iret (pc := 45) F (narZ g7) dX2_readItem_45 hf
  rcases ite_elim hf with ⟨c8, hf⟩ | ⟨c8, hf⟩
  · refine J_tableIn (pc := 4) F (tgt := 58) (off := 54) dX2_readItem_4 (by rw [c8]; decide) (by rw [c8]; decide) (by rw [c8]; rfl) (by decide) ?_
    refine J_iconst (pc := 58) F dX2_readItem_58 ki_0 ?_
    exact J_iret (pc := 59) F rfl dX2_readItem_59 hf
  rcases ite_elim hf with ⟨c9, hf⟩ | ⟨c9, hf⟩
  · refine J_tableIn (pc := 4) F (tgt := 58) (off := 54) dX2_readItem_4 (by rw [c9]; decide) (by rw [c9]; decide) (by rw [c9]; rfl) (by decide) ?_
    refine J_iconst (pc := 58) F dX2_readItem_58 ki_0 ?_
    exact J_iret (pc := 59) F rfl dX2_readItem_59 hf
  rcases ite_elim hf with ⟨c10, hf⟩ | ⟨c10, hf⟩
  · refine J_tableIn (pc := 4) F (tgt := 46) (off := 42) dX2_readItem_4 (by rw [c10]; decide) (by rw [c10]; decide) (by rw [c10]; rfl) (by decide) ?_
    refine J_aload_n (pc := 46) F dX2_readItem_46 rfl 0 rfl ?_
    refine J_aload_n (pc := 47) F dX2_readItem_47 rfl 1 rfl ?_
    obtain ⟨q11, h11, hf⟩ := bind_elim hf
    refine J_callVI (pc := 48) F (c_X2_readWooer hI ht ha0 h11) (by omega) (by decide) (txtN ht) (ht.2.1 _) rfl wc_X2_readWooer wd_186 rfl rfl (Nat.le_of_ble_eq_true rfl) dX2_readItem_48 ?_
    obtain ⟨g12, hf⟩ := grd_elim hf
    exact J_iret (pc := 51) F (narZ g12) dX2_readItem_51 hf
  refine J_tableOut (pc := 4) F (tgt := 58) dX2_readItem_4 (by have g0 := i32ne (z := 115) (by decide +kernel) c2; have g1 := i32ne (z := 116) (by decide +kernel) c5; have g2 := i32ne (z := 117) (by decide +kernel) c8; have g3 := i32ne (z := 118) (by decide +kernel) c9; have g4 := i32ne (z := 119) (by decide +kernel) c10; omega) (by decide) ?_
  refine J_iconst (pc := 58) F dX2_readItem_58 ki_0 ?_
  exact J_iret (pc := 59) F rfl dX2_readItem_59 hf
set_option maxHeartbeats 4000000 in
set_option maxRecDepth 100000 in
theorem c_X2_readInto {l : Launch} {E : En} {ad : Nat → Nat} {G : Lay} {n : Nat} (hI : adI ad n) (ht : TxtAt E ad G n) {a0 : Nat} (ha0 : TabAt E ad G n a0) {σ : St} {res : Int32 × St} (hf : f_X2_readInto a0 σ = some res) : Ct l yX2_readInto cX2_readInto 4 (some .int) 5 E ad G n [.ref (ad 0), .ref (ad a0)] σ (some (.int res.1)) res.2 := by
  unfold f_X2_readInto at hf
  refine J_start (own := RX2) (lv := [(0, .ref (ad 0)), (1, .ref (ad a0))]) pnX2 rfl hI (Nat.le_of_ble_eq_true rfl) rfl (fun p e s m args below meth c F => ?_)
  refine J_aload_n (pc := 0) F dX2_readInto_0 rfl 1 rfl ?_
  refine J_ifnonnull (pc := 1) F (tgt := 6) dX2_readInto_1 (by decide) ?_
  refine J_aload_n (pc := 6) F dX2_readInto_6 rfl 1 rfl ?_
  obtain ⟨q1, h1, hf⟩ := bind_elim hf
  refine J_callVU (pc := 7) F (c_X1_clear hI ha0 h1) (by omega) (by decide) (tabN ha0) (ha0.2.1 _) rfl wc_X1_clear wd_163 rfl rfl (Nat.le_of_ble_eq_true rfl) dX2_readInto_7 ?_
  refine J_aload_n (pc := 10) F dX2_readInto_10 rfl 0 rfl ?_
  refine J_iconst (pc := 11) F dX2_readInto_11 ki_0 ?_
  obtain ⟨σ2, eσ2, hf⟩ := nm_elim hf
  refine pfX2_place (pc := 12) F ht wd_30 dX2_readInto_12 eσ2 ?_
  refine J_aload_n (pc := 15) F dX2_readInto_15 rfl 0 rfl ?_
  refine J_iconst (pc := 16) F dX2_readInto_16 ki_0 ?_
  obtain ⟨σ3, eσ3, hf⟩ := nm_elim hf
  refine pfX2_pastTongue (pc := 17) F ht (Or.inl rfl) wd_31 dX2_readInto_17 eσ3 ?_
  refine J_iconst (pc := 20) F dX2_readInto_20 ki_0 ?_
  refine J_istore_n (pc := 21) F (lv' := [(2, .int (0 : Int32)), (0, .ref (ad 0)), (1, .ref (ad a0))]) dX2_readInto_21 rfl (by decide) rfl ?_
  refine J_sub [1, 2, 0] rfl ?_
  refine lp_ind (P := fun (b4 : Int32 × St) => J p l e 5 s m args below meth c E ad G n (QI below E ad G n args s res) 4 b4.2 22 [(0, .ref (ad 0)), (1, .ref (ad a0)), (2, .int b4.1)] []) (fun r4 ih4 b4 hf => ?_) FU ((0 : Int32), σ3) hf
  show J p l e 5 s m args below meth c E ad G n (QI below E ad G n args s res) 4 b4.2 22 [(0, .ref (ad 0)), (1, .ref (ad a0)), (2, .int b4.1)] []
  refine J_iload_n (pc := 22) F dX2_readInto_22 rfl 2 rfl ?_
  refine J_sipush (pc := 23) F dX2_readInto_23 ks_200 ?_
  rcases ite_elim hf with ⟨c5, hf⟩ | ⟨c5, hf⟩
  · refine J_icmp_geT (pc := 26) F (tgt := 61) dX2_readInto_26 (by decide) c5 ?_
    refine J_bipush (pc := 61) F dX2_readInto_61 kb_m4 ?_
    exact J_iret (pc := 63) F rfl dX2_readInto_63 hf
  · refine J_icmp_geF (pc := 26) F (tgt := 61) dX2_readInto_26 (by decide) c5 ?_
    refine J_aload_n (pc := 29) F dX2_readInto_29 rfl 0 rfl ?_
    refine gfX2_place (pc := 30) F ht wd_30 dX2_readInto_30 ?_
    refine J_aload_n (pc := 33) F dX2_readInto_33 rfl 0 rfl ?_
    refine gfX2_length (pc := 34) F ht wd_28 dX2_readInto_34 ?_
    rcases ite_elim hf with ⟨c6, hf⟩ | ⟨c6, hf⟩
    · refine J_icmp_geT (pc := 37) F (tgt := 61) dX2_readInto_37 (by decide) c6 ?_
      refine J_bipush (pc := 61) F dX2_readInto_61 kb_m4 ?_
      exact J_iret (pc := 63) F rfl dX2_readInto_63 hf
    · refine J_icmp_geF (pc := 37) F (tgt := 61) dX2_readInto_37 (by decide) c6 ?_
      refine J_aload_n (pc := 40) F dX2_readInto_40 rfl 0 rfl ?_
      refine gfX2_place (pc := 41) F ht wd_30 dX2_readInto_41 ?_
      obtain ⟨x7, ex7, hf⟩ := nm_elim hf
      refine J_ti ex7 ?_
      refine J_istore_n (pc := 44) F (lv' := [(3, .int x7), (0, .ref (ad 0)), (1, .ref (ad a0)), (2, .int b4.1)]) dX2_readInto_44 rfl (by decide) rfl ?_
      refine J_aload_n (pc := 45) F dX2_readInto_45 rfl 1 rfl ?_
      refine J_aload_n (pc := 46) F dX2_readInto_46 rfl 2 rfl ?_
      obtain ⟨q8, h8, hf⟩ := bind_elim hf
      refine J_callVI (pc := 47) F (c_X2_readItem hI ht ha0 h8) (by omega) (by decide) (txtN ht) (ht.2.1 _) rfl wc_X2_readItem wd_167 rfl rfl (Nat.le_of_ble_eq_true rfl) dX2_readInto_47 ?_
      rcases ite_elim hf with ⟨c9, hf⟩ | ⟨c9, hf⟩
      · refine J_if_neT (pc := 50) F (tgt := 55) dX2_readInto_50 (by decide) c9 ?_
        obtain ⟨x10, ex10, hf⟩ := nm_elim hf
        refine J_iinc (pc := 55) F (lv' := [(2, .int x10), (3, .int x7), (0, .ref (ad 0)), (1, .ref (ad a0))]) dX2_readInto_55 3 rfl (ex10.trans (congrArg _ ki_1.symm)) (by decide) rfl ?_
        refine J_goto (pc := 58) F (tgt := 22) dX2_readInto_58 (by decide) ?_
        refine J_sub [2, 3, 0] rfl ?_
        exact ih4 (x10, q8.2) hf
      · refine J_if_neF (pc := 50) F (tgt := 55) dX2_readInto_50 (by decide) c9 ?_
        refine J_iload_n (pc := 53) F dX2_readInto_53 rfl 0 rfl ?_
        exact J_iret (pc := 54) F rfl dX2_readInto_54 hf
set_option maxHeartbeats 4000000 in
set_option maxRecDepth 100000 in
theorem c_X3_write {l : Launch} {E : En} {ad : Nat → Nat} {G : Lay} {n : Nat} (hI : adI ad n) (ht : RooAt E ad G n) {a0 : Int32} {σ : St} {res : Int32 × St} (hf : f_X3_write a0 σ = some res) : Ct l yX3_write cX3_write 2 (some .int) 2 E ad G n [.ref (ad 208), .int a0] σ (some (.int res.1)) res.2 := by
  unfold f_X3_write at hf
  refine J_start (own := RX3) (lv := [(0, .ref (ad 208)), (1, .int a0)]) pnX3 rfl hI (Nat.le_of_ble_eq_true rfl) rfl (fun p e s m args below meth c F => ?_)
  refine J_iload_n (pc := 0) F dX3_write_0 rfl 1 rfl ?_
  refine J_bipush (pc := 1) F dX3_write_1 kb_32 ?_
  rcases ite_elim hf with ⟨c1, hf⟩ | ⟨c1, hf⟩
  · refine J_icmp_ltT (pc := 3) F (tgt := 12) dX3_write_3 (by decide) c1 ?_
    refine J_iconst (pc := 12) F dX3_write_12 ki_m1 ?_
    exact J_iret (pc := 13) F rfl dX3_write_13 hf
  · refine J_icmp_ltF (pc := 3) F (tgt := 12) dX3_write_3 (by decide) c1 ?_
    refine J_iload_n (pc := 6) F dX3_write_6 rfl 1 rfl ?_
    refine J_bipush (pc := 7) F dX3_write_7 kb_126 ?_
    rcases ite_elim hf with ⟨c2, hf⟩ | ⟨c2, hf⟩
    · refine J_icmp_leT (pc := 9) F (tgt := 14) dX3_write_9 (by decide) c2 ?_
      refine J_aload_n (pc := 14) F dX3_write_14 rfl 0 rfl ?_
      refine gfX3_text (pc := 15) F ht wd_236 dX3_write_15 ?_
      refine J_iload_n (pc := 18) F dX3_write_18 rfl 1 rfl ?_
      obtain ⟨q3, h3, hf⟩ := bind_elim hf
      refine J_callVI (pc := 19) F (c_X2_append hI ht.2.2.1 h3) (by omega) (by decide) (txtN ht.2.2.1) (ht.2.2.1.2.1 _) rfl wc_X2_append wd_277 rfl rfl (Nat.le_of_ble_eq_true rfl) dX3_write_19 ?_
      rcases ite_elim hf with ⟨c4, hf⟩ | ⟨c4, hf⟩
      · refine J_if_eqT (pc := 22) F (tgt := 35) dX3_write_22 (by decide) c4 ?_
        refine J_bipush (pc := 35) F dX3_write_35 kb_m3 ?_
        exact J_iret (pc := 37) F rfl dX3_write_37 hf
      · refine J_if_eqF (pc := 22) F (tgt := 35) dX3_write_22 (by decide) c4 ?_
        refine J_aload_n (pc := 25) F dX3_write_25 rfl 0 rfl ?_
        refine gfX3_text (pc := 26) F ht wd_236 dX3_write_26 ?_
        refine gfX2_length (pc := 29) F ht.2.2.1 wd_29 dX3_write_29 ?_
        refine J_goto (pc := 32) F (tgt := 37) dX3_write_32 (by decide) ?_
        exact J_iret (pc := 37) F rfl dX3_write_37 hf
    · refine J_icmp_leF (pc := 9) F (tgt := 14) dX3_write_9 (by decide) c2 ?_
      refine J_iconst (pc := 12) F dX3_write_12 ki_m1 ?_
      exact J_iret (pc := 13) F rfl dX3_write_13 hf
set_option maxHeartbeats 4000000 in
set_option maxRecDepth 100000 in
theorem c_X3_wipe {l : Launch} {E : En} {ad : Nat → Nat} {G : Lay} {n : Nat} (hI : adI ad n) (ht : RooAt E ad G n) {σ : St} {res : Int32 × St} (hf : f_X3_wipe  σ = some res) : Ct l yX3_wipe cX3_wipe 2 (some .int) 0 E ad G n [.ref (ad 208)] σ (some (.int res.1)) res.2 := by
  unfold f_X3_wipe at hf
  refine J_start (own := RX3) (lv := [(0, .ref (ad 208))]) pnX3 rfl hI (Nat.le_of_ble_eq_true rfl) rfl (fun p e s m args below meth c F => ?_)
  refine J_aload_n (pc := 0) F dX3_wipe_0 rfl 0 rfl ?_
  refine gfX3_text (pc := 1) F ht wd_236 dX3_wipe_1 ?_
  refine gfX2_length (pc := 4) F ht.2.2.1 wd_29 dX3_wipe_4 ?_
  obtain ⟨x1, ex1, hf⟩ := nm_elim hf
  refine J_ti ex1 ?_
  refine J_istore_n (pc := 7) F (lv' := [(1, .int x1), (0, .ref (ad 208))]) dX3_wipe_7 rfl (by decide) rfl ?_
  refine J_aload_n (pc := 8) F dX3_wipe_8 rfl 1 rfl ?_
  refine gfX3_text (pc := 9) F ht wd_236 dX3_wipe_9 ?_
  refine J_iconst (pc := 12) F dX3_wipe_12 ki_0 ?_
  obtain ⟨σ2, eσ2, hf⟩ := nm_elim hf
  refine pfX2_length (pc := 13) F ht.2.2.1 wd_29 dX3_wipe_13 eσ2 ?_
  refine J_iload_n (pc := 16) F dX3_wipe_16 rfl 0 rfl ?_
  exact J_iret (pc := 17) F rfl dX3_wipe_17 hf
set_option maxHeartbeats 4000000 in
set_option maxRecDepth 100000 in
theorem c_X3_fault {l : Launch} {E : En} {ad : Nat → Nat} {G : Lay} {n : Nat} (hI : adI ad n) (ht : RooAt E ad G n) {σ : St} {res : Int32 × St} (hf : f_X3_fault  σ = some res) : Ct l yX3_fault cX3_fault 1 (some .int) 6 E ad G n [.ref (ad 208)] σ (some (.int res.1)) res.2 := by
  unfold f_X3_fault at hf
  refine J_start (own := RX3) (lv := [(0, .ref (ad 208))]) pnX3 rfl hI (Nat.le_of_ble_eq_true rfl) rfl (fun p e s m args below meth c F => ?_)
  refine J_aload_n (pc := 0) F dX3_fault_0 rfl 0 rfl ?_
  refine gfX3_text (pc := 1) F ht wd_236 dX3_fault_1 ?_
  refine J_aload_n (pc := 4) F dX3_fault_4 rfl 0 rfl ?_
  refine gfX3_draft (pc := 5) F ht wd_238 dX3_fault_5 ?_
  obtain ⟨q1, h1, hf⟩ := bind_elim hf
  refine J_callVI (pc := 8) F (c_X2_readInto hI ht.2.2.1 ht.2.2.2.2.1 h1) (by omega) (by decide) (txtN ht.2.2.1) (ht.2.2.1.2.1 _) rfl wc_X2_readInto wd_159 rfl rfl (Nat.le_of_ble_eq_true rfl) dX3_fault_8 ?_
  exact J_iret (pc := 11) F rfl dX3_fault_11 hf
set_option maxHeartbeats 4000000 in
set_option maxRecDepth 100000 in
theorem c_X3_lay {l : Launch} {E : En} {ad : Nat → Nat} {G : Lay} {n : Nat} (hI : adI ad n) (ht : RooAt E ad G n) {σ : St} {res : Int32 × St} (hf : f_X3_lay  σ = some res) : Ct l yX3_lay cX3_lay 1 (some .int) 6 E ad G n [.ref (ad 208)] σ (some (.int res.1)) res.2 := by
  unfold f_X3_lay at hf
  refine J_start (own := RX3) (lv := [(0, .ref (ad 208))]) pnX3 rfl hI (Nat.le_of_ble_eq_true rfl) rfl (fun p e s m args below meth c F => ?_)
  refine J_aload_n (pc := 0) F dX3_lay_0 rfl 0 rfl ?_
  refine gfX3_text (pc := 1) F ht wd_236 dX3_lay_1 ?_
  refine J_aload_n (pc := 4) F dX3_lay_4 rfl 0 rfl ?_
  refine gfX3_draft (pc := 5) F ht wd_238 dX3_lay_5 ?_
  obtain ⟨q1, h1, hf⟩ := bind_elim hf
  refine J_callVI (pc := 8) F (c_X2_readInto hI ht.2.2.1 ht.2.2.2.2.1 h1) (by omega) (by decide) (txtN ht.2.2.1) (ht.2.2.1.2.1 _) rfl wc_X2_readInto wd_159 rfl rfl (Nat.le_of_ble_eq_true rfl) dX3_lay_8 ?_
  refine J_bipush (pc := 11) F dX3_lay_11 kb_m4 ?_
  rcases ite_elim hf with ⟨c2, hf⟩ | ⟨c2, hf⟩
  · refine J_icmp_neT (pc := 13) F (tgt := 36) dX3_lay_13 (by decide) c2 ?_
    refine J_bipush (pc := 36) F dX3_lay_36 kb_m2 ?_
    exact J_iret (pc := 38) F rfl dX3_lay_38 hf
  · refine J_icmp_neF (pc := 13) F (tgt := 36) dX3_lay_13 (by decide) c2 ?_
    refine J_aload_n (pc := 16) F dX3_lay_16 rfl 0 rfl ?_
    refine gfX3_draft (pc := 17) F ht wd_238 dX3_lay_17 ?_
    refine gfX1_words (pc := 20) F ht.2.2.2.2.1 wd_63 dX3_lay_20 ?_
    rcases ite_elim hf with ⟨c3, hf⟩ | ⟨c3, hf⟩
    · refine J_if_eqT (pc := 23) F (tgt := 36) dX3_lay_23 (by decide) c3 ?_
      refine J_bipush (pc := 36) F dX3_lay_36 kb_m2 ?_
      exact J_iret (pc := 38) F rfl dX3_lay_38 hf
    · refine J_if_eqF (pc := 23) F (tgt := 36) dX3_lay_23 (by decide) c3 ?_
      refine J_aload_n (pc := 26) F dX3_lay_26 rfl 0 rfl ?_
      refine gfX3_draft (pc := 27) F ht wd_238 dX3_lay_27 ?_
      refine gfX1_wooers (pc := 30) F ht.2.2.2.2.1 wd_67 dX3_lay_30 ?_
      rcases ite_elim hf with ⟨c4, hf⟩ | ⟨c4, hf⟩
      · refine J_if_neT (pc := 33) F (tgt := 39) dX3_lay_33 (by decide) c4 ?_
        refine J_aload_n (pc := 39) F dX3_lay_39 rfl 0 rfl ?_
        refine gfX3_now (pc := 40) F ht wd_237 dX3_lay_40 ?_
        refine J_aload_n (pc := 43) F dX3_lay_43 rfl 0 rfl ?_
        refine gfX3_draft (pc := 44) F ht wd_238 dX3_lay_44 ?_
        obtain ⟨q5, h5, hf⟩ := bind_elim hf
        refine J_callVU (pc := 47) F (c_X1_copy hI ht.2.2.2.1 (optTab ht.2.2.2.2.1) h5) (by omega) (by decide) (tabN ht.2.2.2.1) (ht.2.2.2.1.2.1 _) rfl wc_X1_copy wd_290 rfl rfl (Nat.le_of_ble_eq_true rfl) dX3_lay_47 ?_
        refine J_aload_n (pc := 50) F dX3_lay_50 rfl 0 rfl ?_
        refine gfX3_heard (pc := 51) F ht wd_243 dX3_lay_51 ?_
        refine J_iconst (pc := 54) F dX3_lay_54 ki_0 ?_
        obtain ⟨σ6, eσ6, hf⟩ := nm_elim hf
        refine pfX0_count (pc := 55) F ht.2.2.2.2.2.2.2.2.2.1 wd_225 dX3_lay_55 eσ6 ?_
        refine J_aload_n (pc := 58) F dX3_lay_58 rfl 0 rfl ?_
        refine J_iconst (pc := 59) F dX3_lay_59 ki_0 ?_
        obtain ⟨σ7, eσ7, hf⟩ := nm_elim hf
        refine pfX3_undos (pc := 60) F ht wd_245 dX3_lay_60 eσ7 ?_
        refine J_aload_n (pc := 63) F dX3_lay_63 rfl 0 rfl ?_
        refine J_iconst (pc := 64) F dX3_lay_64 ki_0 ?_
        obtain ⟨σ8, eσ8, hf⟩ := nm_elim hf
        refine pfX3_keeps (pc := 65) F ht wd_247 dX3_lay_65 eσ8 ?_
        refine J_aload_n (pc := 68) F dX3_lay_68 rfl 0 rfl ?_
        refine gfX3_now (pc := 69) F ht wd_237 dX3_lay_69 ?_
        refine gfX1_wooers (pc := 72) F ht.2.2.2.1 wd_67 dX3_lay_72 ?_
        exact J_iret (pc := 75) F rfl dX3_lay_75 hf
      · refine J_if_neF (pc := 33) F (tgt := 39) dX3_lay_33 (by decide) c4 ?_
        refine J_bipush (pc := 36) F dX3_lay_36 kb_m2 ?_
        exact J_iret (pc := 38) F rfl dX3_lay_38 hf
set_option maxHeartbeats 4000000 in
set_option maxRecDepth 100000 in
theorem c_X3_sound {l : Launch} {E : En} {ad : Nat → Nat} {G : Lay} {n : Nat} (hI : adI ad n) (ht : RooAt E ad G n) {a0 : Int32} {σ : St} {res : Int32 × St} (hf : f_X3_sound a0 σ = some res) : Ct l yX3_sound cX3_sound 2 (some .int) 1 E ad G n [.ref (ad 208), .int a0] σ (some (.int res.1)) res.2 := by
  unfold f_X3_sound at hf
  refine J_start (own := RX3) (lv := [(0, .ref (ad 208)), (1, .int a0)]) pnX3 rfl hI (Nat.le_of_ble_eq_true rfl) rfl (fun p e s m args below meth c F => ?_)
  refine J_aload_n (pc := 0) F dX3_sound_0 rfl 0 rfl ?_
  refine gfX3_now (pc := 1) F ht wd_237 dX3_sound_1 ?_
  refine J_iload_n (pc := 4) F dX3_sound_4 rfl 1 rfl ?_
  obtain ⟨q1, h1, hf⟩ := bind_elim hf
  refine J_callVI (pc := 5) F (c_X1_isWord hI ht.2.2.2.1 h1) (by omega) (by decide) (tabN ht.2.2.2.1) (ht.2.2.2.1.2.1 _) rfl wc_X1_isWord wd_307 rfl rfl (Nat.le_of_ble_eq_true rfl) dX3_sound_5 ?_
  rcases ite_elim hf with ⟨c2, hf⟩ | ⟨c2, hf⟩
  · refine J_if_eqT (pc := 8) F (tgt := 25) dX3_sound_8 (by decide) c2 ?_
    refine J_iconst (pc := 25) F dX3_sound_25 ki_m1 ?_
    exact J_iret (pc := 26) F rfl dX3_sound_26 hf
  · refine J_if_eqF (pc := 8) F (tgt := 25) dX3_sound_8 (by decide) c2 ?_
    refine J_aload_n (pc := 11) F dX3_sound_11 rfl 0 rfl ?_
    refine gfX3_now (pc := 12) F ht wd_237 dX3_sound_12 ?_
    refine gfX1_sounds (pc := 15) F ht.2.2.2.1 wd_49 dX3_sound_15 ?_
    refine J_iload_n (pc := 18) F dX3_sound_18 rfl 1 rfl ?_
    obtain ⟨q3, h3, hf⟩ := bind_elim hf
    refine J_callSI (pc := 19) F (c_X3_at hI (tabA1 ht.2.2.2.1) h3) (by omega) (by decide) wc_X3_at wd_311 rfl rfl (Nat.le_of_ble_eq_true rfl) dX3_sound_19 ?_
    refine J_goto (pc := 22) F (tgt := 26) dX3_sound_22 (by decide) ?_
    exact J_iret (pc := 26) F rfl dX3_sound_26 hf
set_option maxHeartbeats 4000000 in
set_option maxRecDepth 100000 in
theorem c_X3_wooer {l : Launch} {E : En} {ad : Nat → Nat} {G : Lay} {n : Nat} (hI : adI ad n) (ht : RooAt E ad G n) {a0 : Int32} {a1 : Int32} {σ : St} {res : Int32 × St} (hf : f_X3_wooer a0 a1 σ = some res) : Ct l yX3_wooer cX3_wooer 3 (some .int) 3 E ad G n [.ref (ad 208), .int a0, .int a1] σ (some (.int res.1)) res.2 := by
  unfold f_X3_wooer at hf
  refine J_start (own := RX3) (lv := [(0, .ref (ad 208)), (1, .int a0), (2, .int a1)]) pnX3 rfl hI (Nat.le_of_ble_eq_true rfl) rfl (fun p e s m args below meth c F => ?_)
  refine J_aload_n (pc := 0) F dX3_wooer_0 rfl 0 rfl ?_
  refine gfX3_now (pc := 1) F ht wd_237 dX3_wooer_1 ?_
  refine J_iload_n (pc := 4) F dX3_wooer_4 rfl 1 rfl ?_
  obtain ⟨q1, h1, hf⟩ := bind_elim hf
  refine J_callVI (pc := 5) F (c_X1_isWooer hI ht.2.2.2.1 h1) (by omega) (by decide) (tabN ht.2.2.2.1) (ht.2.2.2.1.2.1 _) rfl wc_X1_isWooer wd_316 rfl rfl (Nat.le_of_ble_eq_true rfl) dX3_wooer_5 ?_
  rcases ite_elim hf with ⟨c2, hf⟩ | ⟨c2, hf⟩
  · refine J_if_neT (pc := 8) F (tgt := 13) dX3_wooer_8 (by decide) c2 ?_
    refine J_iload_n (pc := 13) F dX3_wooer_13 rfl 2 rfl ?_
    rcases ite_elim hf with ⟨c3, hf⟩ | ⟨c3, hf⟩
    · refine J_tableIn (pc := 14) F (tgt := 48) (off := 34) dX3_wooer_14 (by rw [c3]; decide) (by rw [c3]; decide) (by rw [c3]; rfl) (by decide) ?_
      refine J_aload_n (pc := 48) F dX3_wooer_48 rfl 0 rfl ?_
      refine gfX3_now (pc := 49) F ht wd_237 dX3_wooer_49 ?_
      refine gfX1_kind (pc := 52) F ht.2.2.2.1 wd_52 dX3_wooer_52 ?_
      refine J_iload_n (pc := 55) F dX3_wooer_55 rfl 1 rfl ?_
      obtain ⟨q4, h4, hf⟩ := bind_elim hf
      refine J_callSI (pc := 56) F (c_X3_at hI (tabA2 ht.2.2.2.1) h4) (by omega) (by decide) wc_X3_at wd_311 rfl rfl (Nat.le_of_ble_eq_true rfl) dX3_wooer_56 ?_
      exact J_iret (pc := 59) F rfl dX3_wooer_59 hf
    rcases ite_elim hf with ⟨c5, hf⟩ | ⟨c5, hf⟩
    · refine J_tableIn (pc := 14) F (tgt := 60) (off := 46) dX3_wooer_14 (by rw [c5]; decide) (by rw [c5]; decide) (by rw [c5]; rfl) (by decide) ?_
      refine J_aload_n (pc := 60) F dX3_wooer_60 rfl 0 rfl ?_
      refine gfX3_now (pc := 61) F ht wd_237 dX3_wooer_61 ?_
      refine gfX1_memory (pc := 64) F ht.2.2.2.1 wd_54 dX3_wooer_64 ?_
      refine J_iload_n (pc := 67) F dX3_wooer_67 rfl 1 rfl ?_
      obtain ⟨q6, h6, hf⟩ := bind_elim hf
      refine J_callSI (pc := 68) F (c_X3_at hI (tabA3 ht.2.2.2.1) h6) (by omega) (by decide) wc_X3_at wd_311 rfl rfl (Nat.le_of_ble_eq_true rfl) dX3_wooer_68 ?_
      exact J_iret (pc := 71) F rfl dX3_wooer_71 hf
    rcases ite_elim hf with ⟨c7, hf⟩ | ⟨c7, hf⟩
    · refine J_tableIn (pc := 14) F (tgt := 72) (off := 58) dX3_wooer_14 (by rw [c7]; decide) (by rw [c7]; decide) (by rw [c7]; rfl) (by decide) ?_
      refine J_aload_n (pc := 72) F dX3_wooer_72 rfl 0 rfl ?_
      refine gfX3_now (pc := 73) F ht wd_237 dX3_wooer_73 ?_
      refine gfX1_has (pc := 76) F ht.2.2.2.1 wd_56 dX3_wooer_76 ?_
      refine J_iload_n (pc := 79) F dX3_wooer_79 rfl 1 rfl ?_
      obtain ⟨q8, h8, hf⟩ := bind_elim hf
      refine J_callSI (pc := 80) F (c_X3_at hI (tabA4 ht.2.2.2.1) h8) (by omega) (by decide) wc_X3_at wd_311 rfl rfl (Nat.le_of_ble_eq_true rfl) dX3_wooer_80 ?_
      exact J_iret (pc := 83) F rfl dX3_wooer_83 hf
    rcases ite_elim hf with ⟨c9, hf⟩ | ⟨c9, hf⟩
    · refine J_tableIn (pc := 14) F (tgt := 84) (off := 70) dX3_wooer_14 (by rw [c9]; decide) (by rw [c9]; decide) (by rw [c9]; rfl) (by decide) ?_
      refine J_aload_n (pc := 84) F dX3_wooer_84 rfl 0 rfl ?_
      refine gfX3_now (pc := 85) F ht wd_237 dX3_wooer_85 ?_
      refine gfX1_right (pc := 88) F ht.2.2.2.1 wd_58 dX3_wooer_88 ?_
      refine J_iload_n (pc := 91) F dX3_wooer_91 rfl 1 rfl ?_
      obtain ⟨q10, h10, hf⟩ := bind_elim hf
      refine J_callSI (pc := 92) F (c_X3_at hI (tabA5 ht.2.2.2.1) h10) (by omega) (by decide) wc_X3_at wd_311 rfl rfl (Nat.le_of_ble_eq_true rfl) dX3_wooer_92 ?_
      exact J_iret (pc := 95) F rfl dX3_wooer_95 hf
    rcases ite_elim hf with ⟨c11, hf⟩ | ⟨c11, hf⟩
    · refine J_tableIn (pc := 14) F (tgt := 96) (off := 82) dX3_wooer_14 (by rw [c11]; decide) (by rw [c11]; decide) (by rw [c11]; rfl) (by decide) ?_
      refine J_aload_n (pc := 96) F dX3_wooer_96 rfl 0 rfl ?_
      refine gfX3_now (pc := 97) F ht wd_237 dX3_wooer_97 ?_
      refine J_iload_n (pc := 100) F dX3_wooer_100 rfl 1 rfl ?_
      obtain ⟨q12, h12, hf⟩ := bind_elim hf
      refine J_callVI (pc := 101) F (c_X1_isSpeaker hI ht.2.2.2.1 h12) (by omega) (by decide) (tabN ht.2.2.2.1) (ht.2.2.2.1.2.1 _) rfl wc_X1_isSpeaker wd_320 rfl rfl (Nat.le_of_ble_eq_true rfl) dX3_wooer_101 ?_
      rcases ite_elim hf with ⟨c13, hf⟩ | ⟨c13, hf⟩
      · refine J_if_eqT (pc := 104) F (tgt := 111) dX3_wooer_104 (by decide) c13 ?_
        refine J_iconst (pc := 111) F dX3_wooer_111 ki_0 ?_
        exact J_iret (pc := 112) F rfl dX3_wooer_112 hf
      · refine J_if_eqF (pc := 104) F (tgt := 111) dX3_wooer_104 (by decide) c13 ?_
        refine J_iconst (pc := 107) F dX3_wooer_107 ki_1 ?_
        refine J_goto (pc := 108) F (tgt := 112) dX3_wooer_108 (by decide) ?_
        exact J_iret (pc := 112) F rfl dX3_wooer_112 hf
    refine J_tableOut (pc := 14) F (tgt := 113) dX3_wooer_14 (by have g0 := i32ne (z := 0) (by decide +kernel) c3; have g1 := i32ne (z := 1) (by decide +kernel) c5; have g2 := i32ne (z := 2) (by decide +kernel) c7; have g3 := i32ne (z := 3) (by decide +kernel) c9; have g4 := i32ne (z := 4) (by decide +kernel) c11; omega) (by decide) ?_
    refine J_iconst (pc := 113) F dX3_wooer_113 ki_m1 ?_
    exact J_iret (pc := 114) F rfl dX3_wooer_114 hf
  · refine J_if_neF (pc := 8) F (tgt := 13) dX3_wooer_8 (by decide) c2 ?_
    refine J_iconst (pc := 11) F dX3_wooer_11 ki_m1 ?_
    exact J_iret (pc := 12) F rfl dX3_wooer_12 hf
set_option maxHeartbeats 4000000 in
set_option maxRecDepth 100000 in
theorem c_X3_word {l : Launch} {E : En} {ad : Nat → Nat} {G : Lay} {n : Nat} (hI : adI ad n) (ht : RooAt E ad G n) {a0 : Int32} {a1 : Int32} {a2 : Int32} {σ : St} {res : Int32 × St} (hf : f_X3_word a0 a1 a2 σ = some res) : Ct l yX3_word cX3_word 4 (some .int) 2 E ad G n [.ref (ad 208), .int a0, .int a1, .int a2] σ (some (.int res.1)) res.2 := by
  unfold f_X3_word at hf
  refine J_start (own := RX3) (lv := [(0, .ref (ad 208)), (1, .int a0), (2, .int a1), (3, .int a2)]) pnX3 rfl hI (Nat.le_of_ble_eq_true rfl) rfl (fun p e s m args below meth c F => ?_)
  refine J_aload_n (pc := 0) F dX3_word_0 rfl 0 rfl ?_
  refine gfX3_now (pc := 1) F ht wd_237 dX3_word_1 ?_
  refine J_iload_n (pc := 4) F dX3_word_4 rfl 1 rfl ?_
  obtain ⟨q1, h1, hf⟩ := bind_elim hf
  refine J_callVI (pc := 5) F (c_X1_isWooer hI ht.2.2.2.1 h1) (by omega) (by decide) (tabN ht.2.2.2.1) (ht.2.2.2.1.2.1 _) rfl wc_X1_isWooer wd_316 rfl rfl (Nat.le_of_ble_eq_true rfl) dX3_word_5 ?_
  rcases ite_elim hf with ⟨c2, hf⟩ | ⟨c2, hf⟩
  · refine J_if_eqT (pc := 8) F (tgt := 31) dX3_word_8 (by decide) c2 ?_
    refine J_iconst (pc := 31) F dX3_word_31 ki_m1 ?_
    exact J_iret (pc := 32) F rfl dX3_word_32 hf
  · refine J_if_eqF (pc := 8) F (tgt := 31) dX3_word_8 (by decide) c2 ?_
    refine J_aload_n (pc := 11) F dX3_word_11 rfl 0 rfl ?_
    refine gfX3_now (pc := 12) F ht wd_237 dX3_word_12 ?_
    refine J_iload_n (pc := 15) F dX3_word_15 rfl 2 rfl ?_
    obtain ⟨q3, h3, hf⟩ := bind_elim hf
    refine J_callVI (pc := 16) F (c_X1_isWord hI ht.2.2.2.1 h3) (by omega) (by decide) (tabN ht.2.2.2.1) (ht.2.2.2.1.2.1 _) rfl wc_X1_isWord wd_307 rfl rfl (Nat.le_of_ble_eq_true rfl) dX3_word_16 ?_
    rcases ite_elim hf with ⟨c4, hf⟩ | ⟨c4, hf⟩
    · refine J_if_eqT (pc := 19) F (tgt := 31) dX3_word_19 (by decide) c4 ?_
      refine J_iconst (pc := 31) F dX3_word_31 ki_m1 ?_
      exact J_iret (pc := 32) F rfl dX3_word_32 hf
    · refine J_if_eqF (pc := 19) F (tgt := 31) dX3_word_19 (by decide) c4 ?_
      refine J_iload_n (pc := 22) F dX3_word_22 rfl 3 rfl ?_
      rcases ite_elim hf with ⟨c5, hf⟩ | ⟨c5, hf⟩
      · refine J_if_ltT (pc := 23) F (tgt := 31) dX3_word_23 (by decide) c5 ?_
        refine J_iconst (pc := 31) F dX3_word_31 ki_m1 ?_
        exact J_iret (pc := 32) F rfl dX3_word_32 hf
      · refine J_if_ltF (pc := 23) F (tgt := 31) dX3_word_23 (by decide) c5 ?_
        refine J_iload_n (pc := 26) F dX3_word_26 rfl 3 rfl ?_
        refine J_iconst (pc := 27) F dX3_word_27 ki_1 ?_
        rcases ite_elim hf with ⟨c6, hf⟩ | ⟨c6, hf⟩
        · refine J_icmp_leT (pc := 28) F (tgt := 33) dX3_word_28 (by decide) c6 ?_
          refine J_aload_n (pc := 33) F dX3_word_33 rfl 0 rfl ?_
          refine gfX3_now (pc := 34) F ht wd_237 dX3_word_34 ?_
          refine J_iload_n (pc := 37) F dX3_word_37 rfl 1 rfl ?_
          refine J_iload_n (pc := 38) F dX3_word_38 rfl 2 rfl ?_
          obtain ⟨q7, h7, hf⟩ := bind_elim hf
          refine J_callVI (pc := 39) F (c_X1_holds hI ht.2.2.2.1 h7) (by omega) (by decide) (tabN ht.2.2.2.1) (ht.2.2.2.1.2.1 _) rfl wc_X1_holds wd_338 rfl rfl (Nat.le_of_ble_eq_true rfl) dX3_word_39 ?_
          rcases ite_elim hf with ⟨c8, hf⟩ | ⟨c8, hf⟩
          · refine J_if_neT (pc := 42) F (tgt := 48) dX3_word_42 (by decide) c8 ?_
            refine J_iload_n (pc := 48) F dX3_word_48 rfl 3 rfl ?_
            rcases ite_elim hf with ⟨c9, hf⟩ | ⟨c9, hf⟩
            · refine J_if_neT (pc := 49) F (tgt := 64) dX3_word_49 (by decide) c9 ?_
              refine J_aload_n (pc := 64) F dX3_word_64 rfl 0 rfl ?_
              refine gfX3_now (pc := 65) F ht wd_237 dX3_word_65 ?_
              refine J_iload_n (pc := 68) F dX3_word_68 rfl 1 rfl ?_
              refine J_iload_n (pc := 69) F dX3_word_69 rfl 2 rfl ?_
              obtain ⟨q10, h10, hf⟩ := bind_elim hf
              refine J_callVI (pc := 70) F (c_X1_ageOf hI ht.2.2.2.1 h10) (by omega) (by decide) (tabN ht.2.2.2.1) (ht.2.2.2.1.2.1 _) rfl wc_X1_ageOf wd_346 rfl rfl (Nat.le_of_ble_eq_true rfl) dX3_word_70 ?_
              exact J_iret (pc := 73) F rfl dX3_word_73 hf
            · refine J_if_neF (pc := 49) F (tgt := 64) dX3_word_49 (by decide) c9 ?_
              refine J_aload_n (pc := 52) F dX3_word_52 rfl 0 rfl ?_
              refine gfX3_now (pc := 53) F ht wd_237 dX3_word_53 ?_
              refine J_iload_n (pc := 56) F dX3_word_56 rfl 1 rfl ?_
              refine J_iload_n (pc := 57) F dX3_word_57 rfl 2 rfl ?_
              obtain ⟨q11, h11, hf⟩ := bind_elim hf
              refine J_callVI (pc := 58) F (c_X1_wayOf hI ht.2.2.2.1 h11) (by omega) (by decide) (tabN ht.2.2.2.1) (ht.2.2.2.1.2.1 _) rfl wc_X1_wayOf wd_342 rfl rfl (Nat.le_of_ble_eq_true rfl) dX3_word_58 ?_
              refine J_goto (pc := 61) F (tgt := 73) dX3_word_61 (by decide) ?_
              exact J_iret (pc := 73) F rfl dX3_word_73 hf
          · refine J_if_neF (pc := 42) F (tgt := 48) dX3_word_42 (by decide) c8 ?_
            refine J_bipush (pc := 45) F dX3_word_45 kb_m4 ?_
            exact J_iret (pc := 47) F rfl dX3_word_47 hf
        · refine J_icmp_leF (pc := 28) F (tgt := 33) dX3_word_28 (by decide) c6 ?_
          refine J_iconst (pc := 31) F dX3_word_31 ki_m1 ?_
          exact J_iret (pc := 32) F rfl dX3_word_32 hf
set_option maxHeartbeats 4000000 in
set_option maxRecDepth 100000 in
theorem c_X3_copyInto {l : Launch} {E : En} {ad : Nat → Nat} {G : Lay} {n : Nat} (hI : adI ad n) (ht : RooAt E ad G n) {a0 : Option Nat} (ha0 : ∀ y, a0 = some y → TabAt E ad G n y) {σ : St} {res : Unit × St} (hf : f_X3_copyInto a0 σ = some res) : Ct l yX3_copyInto cX3_copyInto 2 none 4 E ad G n [.ref (ad 208), va_re ad a0] σ none res.2 := by
  unfold f_X3_copyInto at hf
  cases a0 with
  | none =>
    dsimp only [onul] at hf
    refine J_start (avs := [.ref (ad 208), .null]) (own := RX3) (lv := [(0, .ref (ad 208)), (1, .null)]) pnX3 rfl hI (Nat.le_of_ble_eq_true rfl) rfl (fun p e s m args below meth c F => ?_)
    refine J_aload_nN (pc := 0) F dX3_copyInto_0 rfl 1 rfl ?_
    refine J_ifnullN (pc := 1) F (tgt := 12) dX3_copyInto_1 (by decide) ?_
    exact J_vret (pc := 12) F dX3_copyInto_12 hf
  | some y0 =>
    dsimp only [onul] at hf
    refine J_start (avs := [.ref (ad 208), .ref (ad y0)]) (own := RX3) (lv := [(0, .ref (ad 208)), (1, .ref (ad y0))]) pnX3 rfl hI (Nat.le_of_ble_eq_true rfl) rfl (fun p e s m args below meth c F => ?_)
    refine J_aload_n (pc := 0) F dX3_copyInto_0 rfl 1 rfl ?_
    refine J_ifnull (pc := 1) F dX3_copyInto_1 ?_
    refine J_aload_n (pc := 4) F dX3_copyInto_4 rfl 1 rfl ?_
    refine J_aload_n (pc := 5) F dX3_copyInto_5 rfl 0 rfl ?_
    refine gfX3_now (pc := 6) F ht wd_237 dX3_copyInto_6 ?_
    obtain ⟨q1, h1, hf⟩ := bind_elim hf
    refine J_callVU (pc := 9) F (c_X1_copy hI (ha0 y0 rfl) (optTab ht.2.2.2.1) h1) (by omega) (by decide) (tabN (ha0 y0 rfl)) ((ha0 y0 rfl).2.1 _) rfl wc_X1_copy wd_290 rfl rfl (Nat.le_of_ble_eq_true rfl) dX3_copyInto_9 ?_
    exact J_vret (pc := 12) F dX3_copyInto_12 hf
set_option maxHeartbeats 4000000 in
set_option maxRecDepth 100000 in
theorem c_X3_tableAt {l : Launch} {E : En} {ad : Nat → Nat} {G : Lay} {n : Nat} (hI : adI ad n) {a0 a0L : Nat} (ha0 : RowA E ad G n a0 a0L) {a1 : Int32} {σ : St} {res : Option Nat × St} (hf : f_X3_tableAt a0 a0L a1 σ = some res) : Ct l yX3_tableAt cX3_tableAt 2 (some (.object "LastTongue$Table")) 0 E ad G n [.ref (ad a0), .int a1] σ (some (va_re ad res.1)) res.2 := by
  unfold f_X3_tableAt at hf
  refine J_start (own := RX3) (lv := [(0, .ref (ad a0)), (1, .int a1)]) pnX3 rfl hI (Nat.le_of_ble_eq_true rfl) rfl (fun p e s m args below meth c F => ?_)
  refine J_aload_n (pc := 0) F dX3_tableAt_0 rfl 0 rfl ?_
  obtain ⟨k1, hk1, hf⟩ := jn_elim hf
  have hJk1 : ∀ (q1 : St), k1 q1 = some res → J p l e 0 s m args below meth c E ad G n (QR below E ad G n args s res) 2 q1 20 [] [] := by
    intro q1 hf
    replace hf := hk1 q1 hf
    refine J_null (pc := 20) F dX3_tableAt_20 ?_
    exact J_aretN (pc := 21) F dX3_tableAt_21 hf
  clear hk1
  refine J_ifnull (pc := 1) F dX3_tableAt_1 ?_
  refine J_iload_n (pc := 4) F dX3_tableAt_4 rfl 1 rfl ?_
  rcases ite_elim hf with ⟨c2, hf⟩ | ⟨c2, hf⟩
  · refine J_if_ltT (pc := 5) F (tgt := 20) dX3_tableAt_5 (by decide) c2 ?_
    refine J_sub [] rfl ?_
    exact hJk1 σ hf
  · refine J_if_ltF (pc := 5) F (tgt := 20) dX3_tableAt_5 (by decide) c2 ?_
    refine J_iload_n (pc := 8) F dX3_tableAt_8 rfl 1 rfl ?_
    refine J_aload_n (pc := 9) F dX3_tableAt_9 rfl 0 rfl ?_
    refine J_alenT (pc := 10) F ha0.1 dX3_tableAt_10 ?_
    rcases ite_elim hf with ⟨c3, hf⟩ | ⟨c3, hf⟩
    · refine J_icmp_geT (pc := 11) F (tgt := 20) dX3_tableAt_11 (by decide) c3 ?_
      refine J_sub [] rfl ?_
      exact hJk1 σ hf
    · refine J_icmp_geF (pc := 11) F (tgt := 20) dX3_tableAt_11 (by decide) c3 ?_
      refine J_aload_n (pc := 14) F dX3_tableAt_14 rfl 0 rfl ?_
      refine J_iload_n (pc := 15) F dX3_tableAt_15 rfl 1 rfl ?_
      obtain ⟨g4, hf⟩ := grd_elim hf
      refine J_aald (pc := 16) F ha0.1 g4 dX3_tableAt_16 ?_
      refine J_goto (pc := 17) F (tgt := 21) dX3_tableAt_17 (by decide) ?_
      exact J_aret (pc := 21) F dX3_tableAt_21 hf
set_option maxHeartbeats 4000000 in
set_option maxRecDepth 100000 in
theorem c_X3_noteAct {l : Launch} {E : En} {ad : Nat → Nat} {G : Lay} {n : Nat} (hI : adI ad n) (ht : RooAt E ad G n) {σ : St} {res : Unit × St} (hf : f_X3_noteAct  σ = some res) : Ct l yX3_noteAct cX3_noteAct 1 none 5 E ad G n [.ref (ad 208)] σ none res.2 := by
  unfold f_X3_noteAct at hf
  refine J_start (own := RX3) (lv := [(0, .ref (ad 208))]) pnX3 rfl hI (Nat.le_of_ble_eq_true rfl) rfl (fun p e s m args below meth c F => ?_)
  refine J_aload_n (pc := 0) F dX3_noteAct_0 rfl 0 rfl ?_
  refine J_aload_n (pc := 1) F dX3_noteAct_1 rfl 0 rfl ?_
  refine gfX3_past (pc := 2) F ht wd_241 dX3_noteAct_2 ?_
  refine J_aload_n (pc := 5) F dX3_noteAct_5 rfl 0 rfl ?_
  refine gfX3_latest (pc := 6) F ht wd_246 dX3_noteAct_6 ?_
  obtain ⟨q1, h1, hf⟩ := bind_elim hf
  refine J_callSR (pc := 9) F (c_X3_tableAt hI ht.2.2.2.2.2.2.2.1 h1) (by omega) (by decide) wc_X3_tableAt wd_358 rfl rfl (Nat.le_of_ble_eq_true rfl) dX3_noteAct_9 ?_
  obtain ⟨q2, h2, hf⟩ := bind_elim hf
  refine J_callVU (pc := 12) F (c_X3_copyInto hI ht (tableAt_tab ht.2.2.2.2.2.2.2.1 h1) h2) (by omega) (by decide) (rooN ht) (ht.2.1 _) rfl wc_X3_copyInto wd_361 rfl rfl (Nat.le_of_ble_eq_true rfl) dX3_noteAct_12 ?_
  refine J_aload_n (pc := 15) F dX3_noteAct_15 rfl 0 rfl ?_
  refine J_aload_n (pc := 16) F dX3_noteAct_16 rfl 0 rfl ?_
  refine gfX3_latest (pc := 17) F ht wd_246 dX3_noteAct_17 ?_
  refine J_iconst (pc := 20) F dX3_noteAct_20 ki_1 ?_
  refine J_iadd (pc := 21) F dX3_noteAct_21 ?_
  refine J_bipush (pc := 22) F dX3_noteAct_22 kb_8 ?_
  refine J_irem (pc := 24) F dX3_noteAct_24 (by decide +kernel) ?_
  obtain ⟨σ3, eσ3, hf⟩ := nm_elim hf
  refine pfX3_latest (pc := 25) F ht wd_246 dX3_noteAct_25 eσ3 ?_
  refine J_aload_n (pc := 28) F dX3_noteAct_28 rfl 0 rfl ?_
  refine J_aload_n (pc := 29) F dX3_noteAct_29 rfl 0 rfl ?_
  refine gfX3_undos (pc := 30) F ht wd_245 dX3_noteAct_30 ?_
  refine J_iconst (pc := 33) F dX3_noteAct_33 ki_1 ?_
  refine J_iadd (pc := 34) F dX3_noteAct_34 ?_
  refine J_bipush (pc := 35) F dX3_noteAct_35 kb_8 ?_
  refine J_mmin (pc := 37) F (by omega) wd_297 wd_298 wd_8 wd_299 (Nat.le_of_ble_eq_true rfl) dX3_noteAct_37 ?_
  obtain ⟨σ4, eσ4, hf⟩ := nm_elim hf
  refine pfX3_undos (pc := 40) F ht wd_245 dX3_noteAct_40 eσ4 ?_
  exact J_vret (pc := 43) F dX3_noteAct_43 hf
set_option maxHeartbeats 4000000 in
set_option maxRecDepth 100000 in
theorem c_X3_lesson {l : Launch} {E : En} {ad : Nat → Nat} {G : Lay} {n : Nat} (hI : adI ad n) (ht : RooAt E ad G n) {a0 : Int32} {a1 : Int32} {σ : St} {res : Int32 × St} (hf : f_X3_lesson a0 a1 σ = some res) : Ct l yX3_lesson cX3_lesson 3 (some .int) 6 E ad G n [.ref (ad 208), .int a0, .int a1] σ (some (.int res.1)) res.2 := by
  unfold f_X3_lesson at hf
  refine J_start (own := RX3) (lv := [(0, .ref (ad 208)), (1, .int a0), (2, .int a1)]) pnX3 rfl hI (Nat.le_of_ble_eq_true rfl) rfl (fun p e s m args below meth c F => ?_)
  refine J_aload_n (pc := 0) F dX3_lesson_0 rfl 0 rfl ?_
  refine gfX3_now (pc := 1) F ht wd_237 dX3_lesson_1 ?_
  refine J_iload_n (pc := 4) F dX3_lesson_4 rfl 1 rfl ?_
  obtain ⟨q1, h1, hf⟩ := bind_elim hf
  refine J_callVI (pc := 5) F (c_X1_isWooer hI ht.2.2.2.1 h1) (by omega) (by decide) (tabN ht.2.2.2.1) (ht.2.2.2.1.2.1 _) rfl wc_X1_isWooer wd_316 rfl rfl (Nat.le_of_ble_eq_true rfl) dX3_lesson_5 ?_
  rcases ite_elim hf with ⟨c2, hf⟩ | ⟨c2, hf⟩
  · refine J_if_eqT (pc := 8) F (tgt := 22) dX3_lesson_8 (by decide) c2 ?_
    refine J_iconst (pc := 22) F dX3_lesson_22 ki_m1 ?_
    exact J_iret (pc := 23) F rfl dX3_lesson_23 hf
  · refine J_if_eqF (pc := 8) F (tgt := 22) dX3_lesson_8 (by decide) c2 ?_
    refine J_aload_n (pc := 11) F dX3_lesson_11 rfl 0 rfl ?_
    refine gfX3_now (pc := 12) F ht wd_237 dX3_lesson_12 ?_
    refine J_iload_n (pc := 15) F dX3_lesson_15 rfl 2 rfl ?_
    obtain ⟨q3, h3, hf⟩ := bind_elim hf
    refine J_callVI (pc := 16) F (c_X1_isWord hI ht.2.2.2.1 h3) (by omega) (by decide) (tabN ht.2.2.2.1) (ht.2.2.2.1.2.1 _) rfl wc_X1_isWord wd_307 rfl rfl (Nat.le_of_ble_eq_true rfl) dX3_lesson_16 ?_
    rcases ite_elim hf with ⟨c4, hf⟩ | ⟨c4, hf⟩
    · refine J_if_neT (pc := 19) F (tgt := 24) dX3_lesson_19 (by decide) c4 ?_
      refine J_aload_n (pc := 24) F dX3_lesson_24 rfl 0 rfl ?_
      obtain ⟨q5, h5, hf⟩ := bind_elim hf
      refine J_callVU (pc := 25) F (c_X3_noteAct hI ht h5) (by omega) (by decide) (rooN ht) (ht.2.1 _) rfl wc_X3_noteAct wd_354 rfl rfl (Nat.le_of_ble_eq_true rfl) dX3_lesson_25 ?_
      refine J_aload_n (pc := 28) F dX3_lesson_28 rfl 0 rfl ?_
      refine gfX3_now (pc := 29) F ht wd_237 dX3_lesson_29 ?_
      refine J_iload_n (pc := 32) F dX3_lesson_32 rfl 1 rfl ?_
      refine J_iload_n (pc := 33) F dX3_lesson_33 rfl 2 rfl ?_
      obtain ⟨q6, h6, hf⟩ := bind_elim hf
      refine J_callVU (pc := 34) F (c_X1_teach hI ht.2.2.2.1 h6) (by omega) (by decide) (tabN ht.2.2.2.1) (ht.2.2.2.1.2.1 _) rfl wc_X1_teach wd_365 rfl rfl (Nat.le_of_ble_eq_true rfl) dX3_lesson_34 ?_
      refine J_aload_n (pc := 37) F dX3_lesson_37 rfl 0 rfl ?_
      refine gfX3_now (pc := 38) F ht wd_237 dX3_lesson_38 ?_
      refine J_iload_n (pc := 41) F dX3_lesson_41 rfl 1 rfl ?_
      refine J_iload_n (pc := 42) F dX3_lesson_42 rfl 2 rfl ?_
      obtain ⟨q7, h7, hf⟩ := bind_elim hf
      refine J_callVI (pc := 43) F (c_X1_wayOf hI ht.2.2.2.1 h7) (by omega) (by decide) (tabN ht.2.2.2.1) (ht.2.2.2.1.2.1 _) rfl wc_X1_wayOf wd_342 rfl rfl (Nat.le_of_ble_eq_true rfl) dX3_lesson_43 ?_
      exact J_iret (pc := 46) F rfl dX3_lesson_46 hf
    · refine J_if_neF (pc := 19) F (tgt := 24) dX3_lesson_19 (by decide) c4 ?_
      refine J_iconst (pc := 22) F dX3_lesson_22 ki_m1 ?_
      exact J_iret (pc := 23) F rfl dX3_lesson_23 hf
set_option maxHeartbeats 4000000 in
set_option maxRecDepth 100000 in
theorem c_X3_pass {l : Launch} {E : En} {ad : Nat → Nat} {G : Lay} {n : Nat} (hI : adI ad n) (ht : RooAt E ad G n) {a0 : Int32} {σ : St} {res : Int32 × St} (hf : f_X3_pass a0 σ = some res) : Ct l yX3_pass cX3_pass 2 (some .int) 6 E ad G n [.ref (ad 208), .int a0] σ (some (.int res.1)) res.2 := by
  unfold f_X3_pass at hf
  refine J_start (own := RX3) (lv := [(0, .ref (ad 208)), (1, .int a0)]) pnX3 rfl hI (Nat.le_of_ble_eq_true rfl) rfl (fun p e s m args below meth c F => ?_)
  refine J_iload_n (pc := 0) F dX3_pass_0 rfl 1 rfl ?_
  refine J_iconst (pc := 1) F dX3_pass_1 ki_1 ?_
  rcases ite_elim hf with ⟨c1, hf⟩ | ⟨c1, hf⟩
  · refine J_icmp_ltT (pc := 2) F (tgt := 11) dX3_pass_2 (by decide) c1 ?_
    refine J_iconst (pc := 11) F dX3_pass_11 ki_m1 ?_
    exact J_iret (pc := 12) F rfl dX3_pass_12 hf
  · refine J_icmp_ltF (pc := 2) F (tgt := 11) dX3_pass_2 (by decide) c1 ?_
    refine J_iload_n (pc := 5) F dX3_pass_5 rfl 1 rfl ?_
    refine J_bipush (pc := 6) F dX3_pass_6 kb_24 ?_
    rcases ite_elim hf with ⟨c2, hf⟩ | ⟨c2, hf⟩
    · refine J_icmp_leT (pc := 8) F (tgt := 13) dX3_pass_8 (by decide) c2 ?_
      refine J_aload_n (pc := 13) F dX3_pass_13 rfl 0 rfl ?_
      refine gfX3_now (pc := 14) F ht wd_237 dX3_pass_14 ?_
      refine gfX1_days (pc := 17) F ht.2.2.2.1 wd_73 dX3_pass_17 ?_
      refine J_iload_n (pc := 20) F dX3_pass_20 rfl 1 rfl ?_
      refine J_iadd (pc := 21) F dX3_pass_21 ?_
      refine J_sipush (pc := 22) F dX3_pass_22 ks_999 ?_
      rcases ite_elim hf with ⟨c3, hf⟩ | ⟨c3, hf⟩
      · refine J_icmp_leT (pc := 25) F (tgt := 31) dX3_pass_25 (by decide) c3 ?_
        refine J_aload_n (pc := 31) F dX3_pass_31 rfl 0 rfl ?_
        obtain ⟨q4, h4, hf⟩ := bind_elim hf
        refine J_callVU (pc := 32) F (c_X3_noteAct hI ht h4) (by omega) (by decide) (rooN ht) (ht.2.1 _) rfl wc_X3_noteAct wd_354 rfl rfl (Nat.le_of_ble_eq_true rfl) dX3_pass_32 ?_
        refine J_aload_n (pc := 35) F dX3_pass_35 rfl 0 rfl ?_
        refine gfX3_now (pc := 36) F ht wd_237 dX3_pass_36 ?_
        refine J_iload_n (pc := 39) F dX3_pass_39 rfl 1 rfl ?_
        obtain ⟨q5, h5, hf⟩ := bind_elim hf
        refine J_callVU (pc := 40) F (c_X1_spend hI ht.2.2.2.1 h5) (by omega) (by decide) (tabN ht.2.2.2.1) (ht.2.2.2.1.2.1 _) rfl wc_X1_spend wd_380 rfl rfl (Nat.le_of_ble_eq_true rfl) dX3_pass_40 ?_
        refine J_aload_n (pc := 43) F dX3_pass_43 rfl 0 rfl ?_
        refine gfX3_now (pc := 44) F ht wd_237 dX3_pass_44 ?_
        obtain ⟨q6, h6, hf⟩ := bind_elim hf
        refine J_callVI (pc := 47) F (c_X1_speakers hI ht.2.2.2.1 h6) (by omega) (by decide) (tabN ht.2.2.2.1) (ht.2.2.2.1.2.1 _) rfl wc_X1_speakers wd_409 rfl rfl (Nat.le_of_ble_eq_true rfl) dX3_pass_47 ?_
        exact J_iret (pc := 50) F rfl dX3_pass_50 hf
      · refine J_icmp_leF (pc := 25) F (tgt := 31) dX3_pass_25 (by decide) c3 ?_
        refine J_bipush (pc := 28) F dX3_pass_28 kb_m2 ?_
        exact J_iret (pc := 30) F rfl dX3_pass_30 hf
    · refine J_icmp_leF (pc := 8) F (tgt := 13) dX3_pass_8 (by decide) c2 ?_
      refine J_iconst (pc := 11) F dX3_pass_11 ki_m1 ?_
      exact J_iret (pc := 12) F rfl dX3_pass_12 hf
