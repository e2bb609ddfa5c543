set_option maxHeartbeats 4000000 in
set_option maxRecDepth 100000 in
theorem c_X3_mend {l : Launch} {E : En} {ad : Nat → Nat} {G : Lay} {n : Nat} (hI : adI ad n) (ht : RooAt E ad G n) {a0 : Int32} {a1 : Int32} {σ : St} {res : Int32 × St} (hf : f_X3_mend a0 a1 σ = some res) : Ct l yX3_mend cX3_mend 4 (some .int) 6 E ad G n [.ref (ad 208), .int a0, .int a1] σ (some (.int res.1)) res.2 := by
  unfold f_X3_mend at hf
  refine J_start (own := RX3) (lv := [(0, .ref (ad 208)), (1, .int a0), (2, .int a1)]) pnX3 rfl hI (Nat.le_of_ble_eq_true rfl) rfl (fun p e s m args below meth c F => ?_)
  refine J_aload_n (pc := 0) F dX3_mend_0 rfl 0 rfl ?_
  refine gfX3_now (pc := 1) F ht wd_237 dX3_mend_1 ?_
  refine J_iload_n (pc := 4) F dX3_mend_4 rfl 1 rfl ?_
  obtain ⟨q1, h1, hf⟩ := bind_elim hf
  refine J_callVI (pc := 5) F (c_X1_isWooer hI ht.2.2.2.1 h1) (by omega) (by decide) (tabN ht.2.2.2.1) (ht.2.2.2.1.2.1 _) rfl wc_X1_isWooer wd_316 rfl rfl (Nat.le_of_ble_eq_true rfl) dX3_mend_5 ?_
  rcases ite_elim hf with ⟨c2, hf⟩ | ⟨c2, hf⟩
  · refine J_if_eqT (pc := 8) F (tgt := 22) dX3_mend_8 (by decide) c2 ?_
    refine J_iconst (pc := 22) F dX3_mend_22 ki_m1 ?_
    exact J_iret (pc := 23) F rfl dX3_mend_23 hf
  · refine J_if_eqF (pc := 8) F (tgt := 22) dX3_mend_8 (by decide) c2 ?_
    refine J_aload_n (pc := 11) F dX3_mend_11 rfl 0 rfl ?_
    refine gfX3_now (pc := 12) F ht wd_237 dX3_mend_12 ?_
    refine J_iload_n (pc := 15) F dX3_mend_15 rfl 2 rfl ?_
    obtain ⟨q3, h3, hf⟩ := bind_elim hf
    refine J_callVI (pc := 16) F (c_X1_isWord hI ht.2.2.2.1 h3) (by omega) (by decide) (tabN ht.2.2.2.1) (ht.2.2.2.1.2.1 _) rfl wc_X1_isWord wd_307 rfl rfl (Nat.le_of_ble_eq_true rfl) dX3_mend_16 ?_
    rcases ite_elim hf with ⟨c4, hf⟩ | ⟨c4, hf⟩
    · refine J_if_neT (pc := 19) F (tgt := 24) dX3_mend_19 (by decide) c4 ?_
      refine J_aload_n (pc := 24) F dX3_mend_24 rfl 0 rfl ?_
      refine gfX3_now (pc := 25) F ht wd_237 dX3_mend_25 ?_
      refine J_iload_n (pc := 28) F dX3_mend_28 rfl 1 rfl ?_
      refine J_iload_n (pc := 29) F dX3_mend_29 rfl 2 rfl ?_
      obtain ⟨q5, h5, hf⟩ := bind_elim hf
      refine J_callVI (pc := 30) F (c_X1_canRepair hI ht.2.2.2.1 h5) (by omega) (by decide) (tabN ht.2.2.2.1) (ht.2.2.2.1.2.1 _) rfl wc_X1_canRepair wd_418 rfl rfl (Nat.le_of_ble_eq_true rfl) dX3_mend_30 ?_
      rcases ite_elim hf with ⟨c6, hf⟩ | ⟨c6, hf⟩
      · refine J_if_neT (pc := 33) F (tgt := 39) dX3_mend_33 (by decide) c6 ?_
        refine J_aload_n (pc := 39) F dX3_mend_39 rfl 0 rfl ?_
        refine gfX3_now (pc := 40) F ht wd_237 dX3_mend_40 ?_
        refine J_iload_n (pc := 43) F dX3_mend_43 rfl 1 rfl ?_
        refine J_iload_n (pc := 44) F dX3_mend_44 rfl 2 rfl ?_
        obtain ⟨q7, h7, hf⟩ := bind_elim hf
        refine J_callVI (pc := 45) F (c_X1_wayOf hI ht.2.2.2.1 h7) (by omega) (by decide) (tabN ht.2.2.2.1) (ht.2.2.2.1.2.1 _) rfl wc_X1_wayOf wd_342 rfl rfl (Nat.le_of_ble_eq_true rfl) dX3_mend_45 ?_
        refine J_istore_n (pc := 48) F (lv' := [(3, .int q7.1), (0, .ref (ad 208)), (1, .int a0), (2, .int a1)]) dX3_mend_48 rfl (by decide) rfl ?_
        refine J_aload_n (pc := 49) F dX3_mend_49 rfl 1 rfl ?_
        obtain ⟨q8, h8, hf⟩ := bind_elim hf
        refine J_callVU (pc := 50) F (c_X3_noteAct hI ht h8) (by omega) (by decide) (rooN ht) (ht.2.1 _) rfl wc_X3_noteAct wd_354 rfl rfl (Nat.le_of_ble_eq_true rfl) dX3_mend_50 ?_
        refine J_aload_n (pc := 53) F dX3_mend_53 rfl 1 rfl ?_
        refine gfX3_now (pc := 54) F ht wd_237 dX3_mend_54 ?_
        refine J_iload_n (pc := 57) F dX3_mend_57 rfl 2 rfl ?_
        refine J_iload_n (pc := 58) F dX3_mend_58 rfl 3 rfl ?_
        obtain ⟨q9, h9, hf⟩ := bind_elim hf
        refine J_callVU (pc := 59) F (c_X1_repair hI ht.2.2.2.1 h9) (by omega) (by decide) (tabN ht.2.2.2.1) (ht.2.2.2.1.2.1 _) rfl wc_X1_repair wd_426 rfl rfl (Nat.le_of_ble_eq_true rfl) dX3_mend_59 ?_
        refine J_iload_n (pc := 62) F dX3_mend_62 rfl 0 rfl ?_
        exact J_iret (pc := 63) F rfl dX3_mend_63 hf
      · refine J_if_neF (pc := 33) F (tgt := 39) dX3_mend_33 (by decide) c6 ?_
        refine J_bipush (pc := 36) F dX3_mend_36 kb_m2 ?_
        exact J_iret (pc := 38) F rfl dX3_mend_38 hf
    · refine J_if_neF (pc := 19) F (tgt := 24) dX3_mend_19 (by decide) c4 ?_
      refine J_iconst (pc := 22) F dX3_mend_22 ki_m1 ?_
      exact J_iret (pc := 23) F rfl dX3_mend_23 hf
set_option maxHeartbeats 4000000 in
set_option maxRecDepth 100000 in
theorem c_X3_change {l : Launch} {E : En} {ad : Nat → Nat} {G : Lay} {n : Nat} (hI : adI ad n) (ht : RooAt E ad G n) {a0 : Int32} {a1 : Int32} {σ : St} {res : Int32 × St} (hf : f_X3_change a0 a1 σ = some res) : Ct l yX3_change cX3_change 3 (some .int) 6 E ad G n [.ref (ad 208), .int a0, .int a1] σ (some (.int res.1)) res.2 := by
  unfold f_X3_change at hf
  refine J_start (own := RX3) (lv := [(0, .ref (ad 208)), (1, .int a0), (2, .int a1)]) pnX3 rfl hI (Nat.le_of_ble_eq_true rfl) rfl (fun p e s m args below meth c F => ?_)
  refine J_aload_n (pc := 0) F dX3_change_0 rfl 0 rfl ?_
  refine gfX3_now (pc := 1) F ht wd_237 dX3_change_1 ?_
  refine J_iload_n (pc := 4) F dX3_change_4 rfl 1 rfl ?_
  obtain ⟨q1, h1, hf⟩ := bind_elim hf
  refine J_callVI (pc := 5) F (c_X1_isWooer hI ht.2.2.2.1 h1) (by omega) (by decide) (tabN ht.2.2.2.1) (ht.2.2.2.1.2.1 _) rfl wc_X1_isWooer wd_316 rfl rfl (Nat.le_of_ble_eq_true rfl) dX3_change_5 ?_
  rcases ite_elim hf with ⟨c2, hf⟩ | ⟨c2, hf⟩
  · refine J_if_eqT (pc := 8) F (tgt := 27) dX3_change_8 (by decide) c2 ?_
    refine J_iconst (pc := 27) F dX3_change_27 ki_m1 ?_
    exact J_iret (pc := 28) F rfl dX3_change_28 hf
  · refine J_if_eqF (pc := 8) F (tgt := 27) dX3_change_8 (by decide) c2 ?_
    refine J_aload_n (pc := 11) F dX3_change_11 rfl 0 rfl ?_
    refine gfX3_now (pc := 12) F ht wd_237 dX3_change_12 ?_
    refine J_iload_n (pc := 15) F dX3_change_15 rfl 2 rfl ?_
    obtain ⟨q3, h3, hf⟩ := bind_elim hf
    refine J_callVI (pc := 16) F (c_X1_isWooer hI ht.2.2.2.1 h3) (by omega) (by decide) (tabN ht.2.2.2.1) (ht.2.2.2.1.2.1 _) rfl wc_X1_isWooer wd_316 rfl rfl (Nat.le_of_ble_eq_true rfl) dX3_change_16 ?_
    rcases ite_elim hf with ⟨c4, hf⟩ | ⟨c4, hf⟩
    · refine J_if_eqT (pc := 19) F (tgt := 27) dX3_change_19 (by decide) c4 ?_
      refine J_iconst (pc := 27) F dX3_change_27 ki_m1 ?_
      exact J_iret (pc := 28) F rfl dX3_change_28 hf
    · refine J_if_eqF (pc := 19) F (tgt := 27) dX3_change_19 (by decide) c4 ?_
      refine J_iload_n (pc := 22) F dX3_change_22 rfl 1 rfl ?_
      refine J_iload_n (pc := 23) F dX3_change_23 rfl 2 rfl ?_
      rcases ite_elim hf with ⟨c5, hf⟩ | ⟨c5, hf⟩
      · refine J_icmp_neT (pc := 24) F (tgt := 29) dX3_change_24 (by decide) c5 ?_
        refine J_aload_n (pc := 29) F dX3_change_29 rfl 0 rfl ?_
        obtain ⟨q6, h6, hf⟩ := bind_elim hf
        refine J_callVU (pc := 30) F (c_X3_noteAct hI ht h6) (by omega) (by decide) (rooN ht) (ht.2.1 _) rfl wc_X3_noteAct wd_354 rfl rfl (Nat.le_of_ble_eq_true rfl) dX3_change_30 ?_
        refine J_aload_n (pc := 33) F dX3_change_33 rfl 0 rfl ?_
        refine gfX3_now (pc := 34) F ht wd_237 dX3_change_34 ?_
        refine J_iload_n (pc := 37) F dX3_change_37 rfl 1 rfl ?_
        refine J_iload_n (pc := 38) F dX3_change_38 rfl 2 rfl ?_
        obtain ⟨q7, h7, hf⟩ := bind_elim hf
        refine J_callVU (pc := 39) F (c_X1_swapSeats hI ht.2.2.2.1 h7) (by omega) (by decide) (tabN ht.2.2.2.1) (ht.2.2.2.1.2.1 _) rfl wc_X1_swapSeats wd_434 rfl rfl (Nat.le_of_ble_eq_true rfl) dX3_change_39 ?_
        refine J_aload_n (pc := 42) F dX3_change_42 rfl 0 rfl ?_
        refine gfX3_now (pc := 43) F ht wd_237 dX3_change_43 ?_
        refine gfX1_kind (pc := 46) F ht.2.2.2.1 wd_52 dX3_change_46 ?_
        refine J_iload_n (pc := 49) F dX3_change_49 rfl 1 rfl ?_
        obtain ⟨q8, h8, hf⟩ := bind_elim hf
        refine J_callSI (pc := 50) F (c_X3_at hI (tabA2 ht.2.2.2.1) h8) (by omega) (by decide) wc_X3_at wd_311 rfl rfl (Nat.le_of_ble_eq_true rfl) dX3_change_50 ?_
        exact J_iret (pc := 53) F rfl dX3_change_53 hf
      · refine J_icmp_neF (pc := 24) F (tgt := 29) dX3_change_24 (by decide) c5 ?_
        refine J_iconst (pc := 27) F dX3_change_27 ki_m1 ?_
        exact J_iret (pc := 28) F rfl dX3_change_28 hf
set_option maxHeartbeats 4000000 in
set_option maxRecDepth 100000 in
theorem c_X3_undo {l : Launch} {E : En} {ad : Nat → Nat} {G : Lay} {n : Nat} (hI : adI ad n) (ht : RooAt E ad G n) {σ : St} {res : Int32 × St} (hf : f_X3_undo  σ = some res) : Ct l yX3_undo cX3_undo 1 (some .int) 4 E ad G n [.ref (ad 208)] σ (some (.int res.1)) res.2 := by
  unfold f_X3_undo at hf
  refine J_start (own := RX3) (lv := [(0, .ref (ad 208))]) pnX3 rfl hI (Nat.le_of_ble_eq_true rfl) rfl (fun p e s m args below meth c F => ?_)
  refine J_aload_n (pc := 0) F dX3_undo_0 rfl 0 rfl ?_
  refine gfX3_undos (pc := 1) F ht wd_245 dX3_undo_1 ?_
  rcases ite_elim hf with ⟨c1, hf⟩ | ⟨c1, hf⟩
  · refine J_if_gtT (pc := 4) F (tgt := 10) dX3_undo_4 (by decide) c1 ?_
    refine J_aload_n (pc := 10) F dX3_undo_10 rfl 0 rfl ?_
    refine J_aload_n (pc := 11) F dX3_undo_11 rfl 0 rfl ?_
    refine gfX3_latest (pc := 12) F ht wd_246 dX3_undo_12 ?_
    refine J_bipush (pc := 15) F dX3_undo_15 kb_8 ?_
    refine J_iadd (pc := 17) F dX3_undo_17 ?_
    refine J_iconst (pc := 18) F dX3_undo_18 ki_1 ?_
    refine J_isub (pc := 19) F dX3_undo_19 ?_
    refine J_bipush (pc := 20) F dX3_undo_20 kb_8 ?_
    refine J_irem (pc := 22) F dX3_undo_22 (by decide +kernel) ?_
    obtain ⟨σ2, eσ2, hf⟩ := nm_elim hf
    refine pfX3_latest (pc := 23) F ht wd_246 dX3_undo_23 eσ2 ?_
    refine J_aload_n (pc := 26) F dX3_undo_26 rfl 0 rfl ?_
    refine gfX3_now (pc := 27) F ht wd_237 dX3_undo_27 ?_
    refine J_aload_n (pc := 30) F dX3_undo_30 rfl 0 rfl ?_
    refine gfX3_past (pc := 31) F ht wd_241 dX3_undo_31 ?_
    refine J_aload_n (pc := 34) F dX3_undo_34 rfl 0 rfl ?_
    refine gfX3_latest (pc := 35) F ht wd_246 dX3_undo_35 ?_
    obtain ⟨q3, h3, hf⟩ := bind_elim hf
    refine J_callSR (pc := 38) F (c_X3_tableAt hI ht.2.2.2.2.2.2.2.1 h3) (by omega) (by decide) wc_X3_tableAt wd_358 rfl rfl (Nat.le_of_ble_eq_true rfl) dX3_undo_38 ?_
    obtain ⟨q4, h4, hf⟩ := bind_elim hf
    refine J_callVU (pc := 41) F (c_X1_copy hI ht.2.2.2.1 (tableAt_tab ht.2.2.2.2.2.2.2.1 h3) h4) (by omega) (by decide) (tabN ht.2.2.2.1) (ht.2.2.2.1.2.1 _) rfl wc_X1_copy wd_290 rfl rfl (Nat.le_of_ble_eq_true rfl) dX3_undo_41 ?_
    refine J_aload_n (pc := 44) F dX3_undo_44 rfl 0 rfl ?_
    refine J_dup (pc := 45) F dX3_undo_45 rfl ?_
    refine gfX3_undos (pc := 46) F ht wd_245 dX3_undo_46 ?_
    refine J_iconst (pc := 49) F dX3_undo_49 ki_1 ?_
    refine J_isub (pc := 50) F dX3_undo_50 ?_
    obtain ⟨σ5, eσ5, hf⟩ := nm_elim hf
    refine pfX3_undos (pc := 51) F ht wd_245 dX3_undo_51 eσ5 ?_
    refine J_aload_n (pc := 54) F dX3_undo_54 rfl 0 rfl ?_
    refine gfX3_undos (pc := 55) F ht wd_245 dX3_undo_55 ?_
    exact J_iret (pc := 58) F rfl dX3_undo_58 hf
  · refine J_if_gtF (pc := 4) F (tgt := 10) dX3_undo_4 (by decide) c1 ?_
    refine J_bipush (pc := 7) F dX3_undo_7 kb_m2 ?_
    exact J_iret (pc := 9) F rfl dX3_undo_9 hf
set_option maxHeartbeats 4000000 in
set_option maxRecDepth 100000 in
theorem c_X3_behind {l : Launch} {E : En} {ad : Nat → Nat} {G : Lay} {n : Nat} (hI : adI ad n) (ht : RooAt E ad G n) {a0 : Int32} {a1 : Int32} {a2 : Int32} {σ : St} {res : Int32 × St} (hf : f_X3_behind a0 a1 a2 σ = some res) : Ct l yX3_behind cX3_behind 4 (some .int) 5 E ad G n [.ref (ad 208), .int a0, .int a1, .int a2] σ (some (.int res.1)) res.2 := by
  unfold f_X3_behind at hf
  refine J_start (own := RX3) (lv := [(0, .ref (ad 208)), (1, .int a0), (2, .int a1), (3, .int a2)]) pnX3 rfl hI (Nat.le_of_ble_eq_true rfl) rfl (fun p e s m args below meth c F => ?_)
  refine J_iload_n (pc := 0) F dX3_behind_0 rfl 1 rfl ?_
  rcases ite_elim hf with ⟨c1, hf⟩ | ⟨c1, hf⟩
  · refine J_if_ltT (pc := 1) F (tgt := 37) dX3_behind_1 (by decide) c1 ?_
    refine J_iconst (pc := 37) F dX3_behind_37 ki_m1 ?_
    exact J_iret (pc := 38) F rfl dX3_behind_38 hf
  · refine J_if_ltF (pc := 1) F (tgt := 37) dX3_behind_1 (by decide) c1 ?_
    refine J_iload_n (pc := 4) F dX3_behind_4 rfl 1 rfl ?_
    refine J_bipush (pc := 5) F dX3_behind_5 kb_40 ?_
    rcases ite_elim hf with ⟨c2, hf⟩ | ⟨c2, hf⟩
    · refine J_icmp_gtT (pc := 7) F (tgt := 37) dX3_behind_7 (by decide) c2 ?_
      refine J_iconst (pc := 37) F dX3_behind_37 ki_m1 ?_
      exact J_iret (pc := 38) F rfl dX3_behind_38 hf
    · refine J_icmp_gtF (pc := 7) F (tgt := 37) dX3_behind_7 (by decide) c2 ?_
      refine J_aload_n (pc := 10) F dX3_behind_10 rfl 0 rfl ?_
      refine gfX3_now (pc := 11) F ht wd_237 dX3_behind_11 ?_
      refine J_iload_n (pc := 14) F dX3_behind_14 rfl 2 rfl ?_
      obtain ⟨q3, h3, hf⟩ := bind_elim hf
      refine J_callVI (pc := 15) F (c_X1_isWooer hI ht.2.2.2.1 h3) (by omega) (by decide) (tabN ht.2.2.2.1) (ht.2.2.2.1.2.1 _) rfl wc_X1_isWooer wd_316 rfl rfl (Nat.le_of_ble_eq_true rfl) dX3_behind_15 ?_
      rcases ite_elim hf with ⟨c4, hf⟩ | ⟨c4, hf⟩
      · refine J_if_eqT (pc := 18) F (tgt := 37) dX3_behind_18 (by decide) c4 ?_
        refine J_iconst (pc := 37) F dX3_behind_37 ki_m1 ?_
        exact J_iret (pc := 38) F rfl dX3_behind_38 hf
      · refine J_if_eqF (pc := 18) F (tgt := 37) dX3_behind_18 (by decide) c4 ?_
        refine J_iload_n (pc := 21) F dX3_behind_21 rfl 3 rfl ?_
        refine J_iconst (pc := 22) F dX3_behind_22 ki_m1 ?_
        obtain ⟨k5, hk5, hf⟩ := jn_elim hf
        have hJk5 : ∀ (q5 : St), k5 q5 = some res → J p l e 5 s m args below meth c E ad G n (QI below E ad G n args s res) 4 q5 39 [(0, .ref (ad 208)), (1, .int a0), (2, .int a1), (3, .int a2)] [] := by
          intro q5 hf
          replace hf := hk5 q5 hf
          refine J_aload_n (pc := 39) F dX3_behind_39 rfl 0 rfl ?_
          refine gfX3_trial (pc := 40) F ht wd_239 dX3_behind_40 ?_
          refine J_aload_n (pc := 43) F dX3_behind_43 rfl 0 rfl ?_
          refine gfX3_now (pc := 44) F ht wd_237 dX3_behind_44 ?_
          obtain ⟨q9, h9, hf⟩ := bind_elim hf
          refine J_callVU (pc := 47) F (c_X1_copy hI ht.2.2.2.2.2.1 (optTab ht.2.2.2.1) h9) (by omega) (by decide) (tabN ht.2.2.2.2.2.1) (ht.2.2.2.2.2.1.2.1 _) rfl wc_X1_copy wd_290 rfl rfl (Nat.le_of_ble_eq_true rfl) dX3_behind_47 ?_
          refine J_aload_n (pc := 50) F dX3_behind_50 rfl 0 rfl ?_
          refine gfX3_trial (pc := 51) F ht wd_239 dX3_behind_51 ?_
          refine J_iload_n (pc := 54) F dX3_behind_54 rfl 1 rfl ?_
          obtain ⟨q10, h10, hf⟩ := bind_elim hf
          refine J_callVU (pc := 55) F (c_X1_spend hI ht.2.2.2.2.2.1 h10) (by omega) (by decide) (tabN ht.2.2.2.2.2.1) (ht.2.2.2.2.2.1.2.1 _) rfl wc_X1_spend wd_380 rfl rfl (Nat.le_of_ble_eq_true rfl) dX3_behind_55 ?_
          refine J_iload_n (pc := 58) F dX3_behind_58 rfl 3 rfl ?_
          refine J_iconst (pc := 59) F dX3_behind_59 ki_m1 ?_
          rcases ite_elim hf with ⟨c11, hf⟩ | ⟨c11, hf⟩
          · refine J_icmp_neT (pc := 60) F (tgt := 72) dX3_behind_60 (by decide) c11 ?_
            refine J_aload_n (pc := 72) F dX3_behind_72 rfl 0 rfl ?_
            refine gfX3_trial (pc := 73) F ht wd_239 dX3_behind_73 ?_
            refine J_iload_n (pc := 76) F dX3_behind_76 rfl 2 rfl ?_
            refine J_iload_n (pc := 77) F dX3_behind_77 rfl 3 rfl ?_
            obtain ⟨q12, h12, hf⟩ := bind_elim hf
            refine J_callVI (pc := 78) F (c_X1_holds hI ht.2.2.2.2.2.1 h12) (by omega) (by decide) (tabN ht.2.2.2.2.2.1) (ht.2.2.2.2.2.1.2.1 _) rfl wc_X1_holds wd_338 rfl rfl (Nat.le_of_ble_eq_true rfl) dX3_behind_78 ?_
            rcases ite_elim hf with ⟨c13, hf⟩ | ⟨c13, hf⟩
            · refine J_if_eqT (pc := 81) F (tgt := 96) dX3_behind_81 (by decide) c13 ?_
              refine J_bipush (pc := 96) F dX3_behind_96 kb_m4 ?_
              exact J_iret (pc := 98) F rfl dX3_behind_98 hf
            · refine J_if_eqF (pc := 81) F (tgt := 96) dX3_behind_81 (by decide) c13 ?_
              refine J_aload_n (pc := 84) F dX3_behind_84 rfl 0 rfl ?_
              refine gfX3_trial (pc := 85) F ht wd_239 dX3_behind_85 ?_
              refine J_iload_n (pc := 88) F dX3_behind_88 rfl 2 rfl ?_
              refine J_iload_n (pc := 89) F dX3_behind_89 rfl 3 rfl ?_
              obtain ⟨q14, h14, hf⟩ := bind_elim hf
              refine J_callVI (pc := 90) F (c_X1_wayOf hI ht.2.2.2.2.2.1 h14) (by omega) (by decide) (tabN ht.2.2.2.2.2.1) (ht.2.2.2.2.2.1.2.1 _) rfl wc_X1_wayOf wd_342 rfl rfl (Nat.le_of_ble_eq_true rfl) dX3_behind_90 ?_
              refine J_goto (pc := 93) F (tgt := 98) dX3_behind_93 (by decide) ?_
              exact J_iret (pc := 98) F rfl dX3_behind_98 hf
          · refine J_icmp_neF (pc := 60) F (tgt := 72) dX3_behind_60 (by decide) c11 ?_
            refine J_aload_n (pc := 63) F dX3_behind_63 rfl 0 rfl ?_
            refine gfX3_trial (pc := 64) F ht wd_239 dX3_behind_64 ?_
            refine J_iload_n (pc := 67) F dX3_behind_67 rfl 2 rfl ?_
            obtain ⟨q15, h15, hf⟩ := bind_elim hf
            refine J_callVI (pc := 68) F (c_X1_rightOf hI ht.2.2.2.2.2.1 h15) (by omega) (by decide) (tabN ht.2.2.2.2.2.1) (ht.2.2.2.2.2.1.2.1 _) rfl wc_X1_rightOf wd_450 rfl rfl (Nat.le_of_ble_eq_true rfl) dX3_behind_68 ?_
            exact J_iret (pc := 71) F rfl dX3_behind_71 hf
        clear hk5
        rcases ite_elim hf with ⟨c6, hf⟩ | ⟨c6, hf⟩
        · refine J_icmp_eqT (pc := 23) F (tgt := 39) dX3_behind_23 (by decide) c6 ?_
          exact hJk5 q3.2 hf
        · refine J_icmp_eqF (pc := 23) F (tgt := 39) dX3_behind_23 (by decide) c6 ?_
          refine J_aload_n (pc := 26) F dX3_behind_26 rfl 0 rfl ?_
          refine gfX3_now (pc := 27) F ht wd_237 dX3_behind_27 ?_
          refine J_iload_n (pc := 30) F dX3_behind_30 rfl 3 rfl ?_
          obtain ⟨q7, h7, hf⟩ := bind_elim hf
          refine J_callVI (pc := 31) F (c_X1_isWord hI ht.2.2.2.1 h7) (by omega) (by decide) (tabN ht.2.2.2.1) (ht.2.2.2.1.2.1 _) rfl wc_X1_isWord wd_307 rfl rfl (Nat.le_of_ble_eq_true rfl) dX3_behind_31 ?_
          rcases ite_elim hf with ⟨c8, hf⟩ | ⟨c8, hf⟩
          · refine J_if_neT (pc := 34) F (tgt := 39) dX3_behind_34 (by decide) c8 ?_
            exact hJk5 q7.2 hf
          · refine J_if_neF (pc := 34) F (tgt := 39) dX3_behind_34 (by decide) c8 ?_
            refine J_iconst (pc := 37) F dX3_behind_37 ki_m1 ?_
            exact J_iret (pc := 38) F rfl dX3_behind_38 hf
set_option maxHeartbeats 4000000 in
set_option maxRecDepth 100000 in
theorem c_X3_made {l : Launch} {E : En} {ad : Nat → Nat} {G : Lay} {n : Nat} (hI : adI ad n) (ht : RooAt E ad G n) {a0 : Int32} {σ : St} {res : Int32 × St} (hf : f_X3_made a0 σ = some res) : Ct l yX3_made cX3_made 3 (some .int) 4 E ad G n [.ref (ad 208), .int a0] σ (some (.int res.1)) res.2 := by
  unfold f_X3_made at hf
  refine J_start (own := RX3) (lv := [(0, .ref (ad 208)), (1, .int a0)]) pnX3 rfl hI (Nat.le_of_ble_eq_true rfl) rfl (fun p e s m args below meth c F => ?_)
  refine J_aload_n (pc := 0) F dX3_made_0 rfl 0 rfl ?_
  refine gfX3_now (pc := 1) F ht wd_237 dX3_made_1 ?_
  refine J_iload_n (pc := 4) F dX3_made_4 rfl 1 rfl ?_
  obtain ⟨q1, h1, hf⟩ := bind_elim hf
  refine J_callVI (pc := 5) F (c_X1_isWooer hI ht.2.2.2.1 h1) (by omega) (by decide) (tabN ht.2.2.2.1) (ht.2.2.2.1.2.1 _) rfl wc_X1_isWooer wd_316 rfl rfl (Nat.le_of_ble_eq_true rfl) dX3_made_5 ?_
  rcases ite_elim hf with ⟨c2, hf⟩ | ⟨c2, hf⟩
  · refine J_if_neT (pc := 8) F (tgt := 13) dX3_made_8 (by decide) c2 ?_
    refine J_aload_n (pc := 13) F dX3_made_13 rfl 0 rfl ?_
    refine gfX3_trial (pc := 14) F ht wd_239 dX3_made_14 ?_
    refine J_aload_n (pc := 17) F dX3_made_17 rfl 0 rfl ?_
    refine gfX3_now (pc := 18) F ht wd_237 dX3_made_18 ?_
    obtain ⟨q3, h3, hf⟩ := bind_elim hf
    refine J_callVU (pc := 21) F (c_X1_copy hI ht.2.2.2.2.2.1 (optTab ht.2.2.2.1) h3) (by omega) (by decide) (tabN ht.2.2.2.2.2.1) (ht.2.2.2.2.2.1.2.1 _) rfl wc_X1_copy wd_290 rfl rfl (Nat.le_of_ble_eq_true rfl) dX3_made_21 ?_
    refine J_iconst (pc := 24) F dX3_made_24 ki_0 ?_
    refine J_istore_n (pc := 25) F (lv' := [(2, .int (0 : Int32)), (0, .ref (ad 208)), (1, .int a0)]) dX3_made_25 rfl (by decide) rfl ?_
    refine J_sub [1, 2, 0] rfl ?_
    refine lp_ind (P := fun (b4 : Int32 × St) => J p l e 4 s m args below meth c E ad G n (QI below E ad G n args s res) 3 b4.2 26 [(0, .ref (ad 208)), (1, .int a0), (2, .int b4.1)] []) (fun r4 ih4 b4 hf => ?_) FU ((0 : Int32), q3.2) hf
    show J p l e 4 s m args below meth c E ad G n (QI below E ad G n args s res) 3 b4.2 26 [(0, .ref (ad 208)), (1, .int a0), (2, .int b4.1)] []
    refine J_iload_n (pc := 26) F dX3_made_26 rfl 2 rfl ?_
    refine J_bipush (pc := 27) F dX3_made_27 kb_60 ?_
    rcases ite_elim hf with ⟨c5, hf⟩ | ⟨c5, hf⟩
    · refine J_icmp_gtT (pc := 29) F (tgt := 59) dX3_made_29 (by decide) c5 ?_
      refine J_bipush (pc := 59) F dX3_made_59 kb_m4 ?_
      exact J_iret (pc := 61) F rfl dX3_made_61 hf
    · refine J_icmp_gtF (pc := 29) F (tgt := 59) dX3_made_29 (by decide) c5 ?_
      refine J_aload_n (pc := 32) F dX3_made_32 rfl 0 rfl ?_
      refine gfX3_trial (pc := 33) F ht wd_239 dX3_made_33 ?_
      refine J_iload_n (pc := 36) F dX3_made_36 rfl 1 rfl ?_
      obtain ⟨q6, h6, hf⟩ := bind_elim hf
      refine J_callVI (pc := 37) F (c_X1_isSpeaker hI ht.2.2.2.2.2.1 h6) (by omega) (by decide) (tabN ht.2.2.2.2.2.1) (ht.2.2.2.2.2.1.2.1 _) rfl wc_X1_isSpeaker wd_320 rfl rfl (Nat.le_of_ble_eq_true rfl) dX3_made_37 ?_
      rcases ite_elim hf with ⟨c7, hf⟩ | ⟨c7, hf⟩
      · refine J_if_eqT (pc := 40) F (tgt := 45) dX3_made_40 (by decide) c7 ?_
        refine J_aload_n (pc := 45) F dX3_made_45 rfl 0 rfl ?_
        refine gfX3_trial (pc := 46) F ht wd_239 dX3_made_46 ?_
        refine J_iconst (pc := 49) F dX3_made_49 ki_1 ?_
        obtain ⟨q8, h8, hf⟩ := bind_elim hf
        refine J_callVU (pc := 50) F (c_X1_spendDay hI ht.2.2.2.2.2.1 h8) (by omega) (by decide) (tabN ht.2.2.2.2.2.1) (ht.2.2.2.2.2.1.2.1 _) rfl wc_X1_spendDay wd_455 rfl rfl (Nat.le_of_ble_eq_true rfl) dX3_made_50 ?_
        obtain ⟨x9, ex9, hf⟩ := nm_elim hf
        refine J_iinc (pc := 53) F (lv' := [(2, .int x9), (0, .ref (ad 208)), (1, .int a0)]) dX3_made_53 2 rfl (ex9.trans (congrArg _ ki_1.symm)) (by decide) rfl ?_
        refine J_goto (pc := 56) F (tgt := 26) dX3_made_56 (by decide) ?_
        refine J_sub [1, 2, 0] rfl ?_
        exact ih4 (x9, q8.2) hf
      · refine J_if_eqF (pc := 40) F (tgt := 45) dX3_made_40 (by decide) c7 ?_
        refine J_iload_n (pc := 43) F dX3_made_43 rfl 2 rfl ?_
        exact J_iret (pc := 44) F rfl dX3_made_44 hf
  · refine J_if_neF (pc := 8) F (tgt := 13) dX3_made_8 (by decide) c2 ?_
    refine J_iconst (pc := 11) F dX3_made_11 ki_m1 ?_
    exact J_iret (pc := 12) F rfl dX3_made_12 hf
set_option maxHeartbeats 4000000 in
set_option maxRecDepth 100000 in
theorem c_X3_bestFrom {l : Launch} {E : En} {ad : Nat → Nat} {G : Lay} {n : Nat} (hI : adI ad n) : ∀ (fu : Nat) (a0 a0L : Nat) (ha0 : RowA E ad G n a0 a0L) (a1 : Int32) (a2 : Int32) (a3 : Int32) (a4 : Int32) (σ : St) (res : Int32 × St), f_X3_bestFrom fu a0 a0L a1 a2 a3 a4 σ = some res → Ct l yX3_bestFrom cX3_bestFrom 9 (some .int) (4 + fu) E ad G n [.ref (ad a0), .int a1, .int a2, .int a3, .int a4] σ (some (.int res.1)) res.2 := by
  intro fu
  induction fu with
  | zero => intro a0 a0L ha0 a1 a2 a3 a4 σ res hf; cases hf
  | succ fu ih =>
    intro a0 a0L ha0 a1 a2 a3 a4 σ res hf
    rw [f_X3_bestFrom] at hf
    show Ct l yX3_bestFrom cX3_bestFrom 9 (some .int) (4 + fu + 1) E ad G n [.ref (ad a0), .int a1, .int a2, .int a3, .int a4] σ (some (.int res.1)) res.2
    refine J_start (own := RX3) (lv := [(0, .ref (ad a0)), (1, .int a1), (2, .int a2), (3, .int a3), (4, .int a4)]) pnX3 rfl hI (Nat.le_of_ble_eq_true rfl) rfl (fun p e s m args below meth c F => ?_)
    refine J_aload_n (pc := 0) F dX3_bestFrom_0 rfl 0 rfl ?_
    refine J_iload_n (pc := 1) F dX3_bestFrom_1 rfl 1 rfl ?_
    obtain ⟨q1, h1, hf⟩ := bind_elim hf
    refine J_callSR (pc := 2) F (c_X3_tableAt hI ha0 h1) (by omega) (by decide) wc_X3_tableAt wd_358 rfl rfl (Nat.le_of_ble_eq_true rfl) dX3_bestFrom_2 ?_
    rcases onul_elim hf with ⟨zy2, hf⟩ | ⟨y2, zy2, hf⟩
    · rw [zy2]
      show J p l e (4 + fu + 1) s m args below meth c E ad G n (QI below E ad G n args s res) 9 q1.2 5 [(0, .ref (ad a0)), (1, .int a1), (2, .int a2), (3, .int a3), (4, .int a4)] [.null]
      refine J_astoreN (pc := 5) F (lv' := [(5, .null), (0, .ref (ad a0)), (1, .int a1), (2, .int a2), (3, .int a3), (4, .int a4)]) dX3_bestFrom_5 (by decide) rfl ?_
      refine J_aloadN (pc := 7) F dX3_bestFrom_7 0 rfl ?_
      refine J_ifnonnullN (pc := 9) F dX3_bestFrom_9 ?_
      refine J_iconst (pc := 12) F dX3_bestFrom_12 ki_0 ?_
      exact J_iret (pc := 13) F rfl dX3_bestFrom_13 hf
    · rw [zy2]
      show J p l e (4 + fu + 1) s m args below meth c E ad G n (QI below E ad G n args s res) 9 q1.2 5 [(0, .ref (ad a0)), (1, .int a1), (2, .int a2), (3, .int a3), (4, .int a4)] [.ref (ad y2)]
      refine J_astore (pc := 5) F (lv' := [(5, .ref (ad y2)), (0, .ref (ad a0)), (1, .int a1), (2, .int a2), (3, .int a3), (4, .int a4)]) dX3_bestFrom_5 (by decide) rfl ?_
      refine J_aload (pc := 7) F dX3_bestFrom_7 0 rfl ?_
      refine J_ifnonnull (pc := 9) F (tgt := 14) dX3_bestFrom_9 (by decide) ?_
      refine J_iload_n (pc := 14) F dX3_bestFrom_14 rfl 2 rfl ?_
      refine J_iload_n (pc := 15) F dX3_bestFrom_15 rfl 3 rfl ?_
      rcases ite_elim hf with ⟨c3, hf⟩ | ⟨c3, hf⟩
      · refine J_icmp_ltT (pc := 16) F (tgt := 39) dX3_bestFrom_16 (by decide) c3 ?_
        refine J_aload_n (pc := 39) F dX3_bestFrom_39 rfl 1 rfl ?_
        refine J_iload_n (pc := 40) F dX3_bestFrom_40 rfl 2 rfl ?_
        refine J_iconst (pc := 41) F dX3_bestFrom_41 ki_1 ?_
        refine J_iadd (pc := 42) F dX3_bestFrom_42 ?_
        obtain ⟨q4, h4, hf⟩ := bind_elim hf
        refine J_callSR (pc := 43) F (c_X3_tableAt hI ha0 h4) (by omega) (by decide) wc_X3_tableAt wd_358 rfl rfl (Nat.le_of_ble_eq_true rfl) dX3_bestFrom_43 ?_
        rcases onul_elim hf with ⟨zy5, hf⟩ | ⟨y5, zy5, hf⟩
        · rw [zy5]
          show J p l e (4 + fu + 1) s m args below meth c E ad G n (QI below E ad G n args s res) 9 q4.2 46 [(5, .ref (ad y2)), (0, .ref (ad a0)), (1, .int a1), (2, .int a2), (3, .int a3), (4, .int a4)] [.null]
          refine J_astoreN (pc := 46) F (lv' := [(6, .null), (5, .ref (ad y2)), (0, .ref (ad a0)), (1, .int a1), (2, .int a2), (3, .int a3), (4, .int a4)]) dX3_bestFrom_46 (by decide) rfl ?_
          refine J_aloadN (pc := 48) F dX3_bestFrom_48 0 rfl ?_
          refine J_ifnonnullN (pc := 50) F dX3_bestFrom_50 ?_
          refine J_iconst (pc := 53) F dX3_bestFrom_53 ki_0 ?_
          exact J_iret (pc := 54) F rfl dX3_bestFrom_54 hf
        · rw [zy5]
          show J p l e (4 + fu + 1) s m args below meth c E ad G n (QI below E ad G n args s res) 9 q4.2 46 [(5, .ref (ad y2)), (0, .ref (ad a0)), (1, .int a1), (2, .int a2), (3, .int a3), (4, .int a4)] [.ref (ad y5)]
          refine J_astore (pc := 46) F (lv' := [(6, .ref (ad y5)), (5, .ref (ad y2)), (0, .ref (ad a0)), (1, .int a1), (2, .int a2), (3, .int a3), (4, .int a4)]) dX3_bestFrom_46 (by decide) rfl ?_
          refine J_aload (pc := 48) F dX3_bestFrom_48 0 rfl ?_
          refine J_ifnonnull (pc := 50) F (tgt := 55) dX3_bestFrom_50 (by decide) ?_
          refine J_iconst (pc := 55) F dX3_bestFrom_55 ki_0 ?_
          refine J_istore (pc := 56) F (lv' := [(7, .int (0 : Int32)), (6, .ref (ad y5)), (5, .ref (ad y2)), (0, .ref (ad a0)), (1, .int a1), (2, .int a2), (3, .int a3), (4, .int a4)]) dX3_bestFrom_56 (by decide) rfl ?_
          refine J_iconst (pc := 58) F dX3_bestFrom_58 ki_0 ?_
          refine J_istore (pc := 59) F (lv' := [(8, .int (0 : Int32)), (7, .int (0 : Int32)), (6, .ref (ad y5)), (5, .ref (ad y2)), (0, .ref (ad a0)), (1, .int a1), (2, .int a2), (3, .int a3), (4, .int a4)]) dX3_bestFrom_59 (by decide) rfl ?_
          refine J_sub [4, 5, 6, 7, 8, 3, 2, 1, 0] rfl ?_
          refine lp_ind (P := fun (b6 : Int32 × Int32 × St) => J p l e (4 + fu + 1) s m args below meth c E ad G n (QI below E ad G n args s res) 9 b6.2.2 61 [(0, .ref (ad a0)), (1, .int a1), (2, .int a2), (3, .int a3), (4, .int a4), (5, .ref (ad y2)), (6, .ref (ad y5)), (7, .int b6.1), (8, .int b6.2.1)] []) (fun r6 ih6 b6 hf => ?_) FU ((0 : Int32), (0 : Int32), q4.2) hf
          show J p l e (4 + fu + 1) s m args below meth c E ad G n (QI below E ad G n args s res) 9 b6.2.2 61 [(0, .ref (ad a0)), (1, .int a1), (2, .int a2), (3, .int a3), (4, .int a4), (5, .ref (ad y2)), (6, .ref (ad y5)), (7, .int b6.1), (8, .int b6.2.1)] []
          refine J_iload (pc := 61) F dX3_bestFrom_61 8 rfl ?_
          refine J_aload (pc := 63) F dX3_bestFrom_63 5 rfl ?_
          refine gfX1_words (pc := 65) F ((tableAt_tab ha0 h1) y2 zy2) wd_63 dX3_bestFrom_65 ?_
          rcases ite_elim hf with ⟨c7, hf⟩ | ⟨c7, hf⟩
          · refine J_icmp_geT (pc := 68) F (tgt := 122) dX3_bestFrom_68 (by decide) c7 ?_
            refine J_iload (pc := 122) F dX3_bestFrom_122 7 rfl ?_
            exact J_iret (pc := 124) F rfl dX3_bestFrom_124 hf
          · refine J_icmp_geF (pc := 68) F (tgt := 122) dX3_bestFrom_68 (by decide) c7 ?_
            refine J_aload (pc := 71) F dX3_bestFrom_71 6 rfl ?_
            refine J_aload (pc := 73) F dX3_bestFrom_73 5 rfl ?_
            obtain ⟨q8, h8, hf⟩ := bind_elim hf
            refine J_callVU (pc := 75) F (c_X1_copy hI ((tableAt_tab ha0 h4) y5 zy5) (optTab ((tableAt_tab ha0 h1) y2 zy2)) h8) (by omega) (by decide) (tabN ((tableAt_tab ha0 h4) y5 zy5)) (((tableAt_tab ha0 h4) y5 zy5).2.1 _) rfl wc_X1_copy wd_290 rfl rfl (Nat.le_of_ble_eq_true rfl) dX3_bestFrom_75 ?_
            refine J_aload (pc := 78) F dX3_bestFrom_78 6 rfl ?_
            refine J_iload_n (pc := 80) F dX3_bestFrom_80 rfl 3 rfl ?_
            refine J_iload (pc := 81) F dX3_bestFrom_81 8 rfl ?_
            obtain ⟨q9, h9, hf⟩ := bind_elim hf
            refine J_callVU (pc := 83) F (c_X1_teach hI ((tableAt_tab ha0 h4) y5 zy5) h9) (by omega) (by decide) (tabN ((tableAt_tab ha0 h4) y5 zy5)) (((tableAt_tab ha0 h4) y5 zy5).2.1 _) rfl wc_X1_teach wd_365 rfl rfl (Nat.le_of_ble_eq_true rfl) dX3_bestFrom_83 ?_
            refine J_aload (pc := 86) F dX3_bestFrom_86 6 rfl ?_
            refine J_iconst (pc := 88) F dX3_bestFrom_88 ki_1 ?_
            obtain ⟨q10, h10, hf⟩ := bind_elim hf
            refine J_callVU (pc := 89) F (c_X1_spendDay hI ((tableAt_tab ha0 h4) y5 zy5) h10) (by omega) (by decide) (tabN ((tableAt_tab ha0 h4) y5 zy5)) (((tableAt_tab ha0 h4) y5 zy5).2.1 _) rfl wc_X1_spendDay wd_455 rfl rfl (Nat.le_of_ble_eq_true rfl) dX3_bestFrom_89 ?_
            refine J_iload (pc := 92) F dX3_bestFrom_92 7 rfl ?_
            refine J_aload_n (pc := 94) F dX3_bestFrom_94 rfl 0 rfl ?_
            refine J_iload_n (pc := 95) F dX3_bestFrom_95 rfl 1 rfl ?_
            refine J_iconst (pc := 96) F dX3_bestFrom_96 ki_1 ?_
            refine J_iadd (pc := 97) F dX3_bestFrom_97 ?_
            refine J_iload_n (pc := 98) F dX3_bestFrom_98 rfl 2 rfl ?_
            refine J_iload_n (pc := 99) F dX3_bestFrom_99 rfl 3 rfl ?_
            refine J_bipush (pc := 100) F dX3_bestFrom_100 kb_8 ?_
            refine J_iload (pc := 102) F dX3_bestFrom_102 4 rfl ?_
            refine J_imul (pc := 104) F dX3_bestFrom_104 ?_
            refine J_iload (pc := 105) F dX3_bestFrom_105 8 rfl ?_
            refine J_iadd (pc := 107) F dX3_bestFrom_107 ?_
            obtain ⟨q11, h11, hf⟩ := bind_elim hf
            refine J_callSI (pc := 108) F (ih a0 a0L ha0 (a1 + (1 : Int32)) a2 a3 (((8 : Int32) * a4) + b6.2.1) q10.2 q11 h11) (by omega) (by decide) wc_X3_bestFrom wd_464 rfl rfl (Nat.le_of_ble_eq_true rfl) dX3_bestFrom_108 ?_
            refine J_mmax (pc := 111) F (by omega) wd_211 wd_212 wd_8 wd_213 (Nat.le_of_ble_eq_true rfl) dX3_bestFrom_111 ?_
            obtain ⟨x12, ex12, hf⟩ := nm_elim hf
            refine J_ti ex12 ?_
            refine J_istore (pc := 114) F (lv' := [(7, .int x12), (0, .ref (ad a0)), (1, .int a1), (2, .int a2), (3, .int a3), (4, .int a4), (5, .ref (ad y2)), (6, .ref (ad y5)), (8, .int b6.2.1)]) dX3_bestFrom_114 (by decide) rfl ?_
            obtain ⟨x13, ex13, hf⟩ := nm_elim hf
            refine J_iinc (pc := 116) F (lv' := [(8, .int x13), (7, .int x12), (0, .ref (ad a0)), (1, .int a1), (2, .int a2), (3, .int a3), (4, .int a4), (5, .ref (ad y2)), (6, .ref (ad y5))]) dX3_bestFrom_116 8 rfl (ex13.trans (congrArg _ ki_1.symm)) (by decide) rfl ?_
            refine J_goto (pc := 119) F (tgt := 61) dX3_bestFrom_119 (by decide) ?_
            refine J_sub [2, 3, 4, 5, 6, 7, 8, 1, 0] rfl ?_
            exact ih6 (x12, x13, q11.2) hf
      · refine J_icmp_ltF (pc := 16) F (tgt := 39) dX3_bestFrom_16 (by decide) c3 ?_
        refine J_sipush (pc := 19) F dX3_bestFrom_19 ks_512 ?_
        refine J_aload (pc := 22) F dX3_bestFrom_22 0 rfl ?_
        refine J_iload_n (pc := 24) F dX3_bestFrom_24 rfl 4 rfl ?_
        obtain ⟨q14, h14, hf⟩ := bind_elim hf
        refine J_callVI (pc := 25) F (c_X1_rightOf hI ((tableAt_tab ha0 h1) y2 zy2) h14) (by omega) (by decide) (tabN ((tableAt_tab ha0 h1) y2 zy2)) (((tableAt_tab ha0 h1) y2 zy2).2.1 _) rfl wc_X1_rightOf wd_450 rfl rfl (Nat.le_of_ble_eq_true rfl) dX3_bestFrom_25 ?_
        refine J_imul (pc := 28) F dX3_bestFrom_28 ?_
        refine J_sipush (pc := 29) F dX3_bestFrom_29 ks_512 ?_
        refine J_iadd (pc := 32) F dX3_bestFrom_32 ?_
        refine J_iconst (pc := 33) F dX3_bestFrom_33 ki_1 ?_
        refine J_isub (pc := 34) F dX3_bestFrom_34 ?_
        refine J_iload (pc := 35) F dX3_bestFrom_35 5 rfl ?_
        refine J_isub (pc := 37) F dX3_bestFrom_37 ?_
        exact J_iret (pc := 38) F rfl dX3_bestFrom_38 hf
set_option maxHeartbeats 4000000 in
set_option maxRecDepth 100000 in
theorem c_X3_startLevels {l : Launch} {E : En} {ad : Nat → Nat} {G : Lay} {n : Nat} (hI : adI ad n) (ht : RooAt E ad G n) {σ : St} {res : Unit × St} (hf : f_X3_startLevels  σ = some res) : Ct l yX3_startLevels cX3_startLevels 1 none 5 E ad G n [.ref (ad 208)] σ none res.2 := by
  unfold f_X3_startLevels at hf
  refine J_start (own := RX3) (lv := [(0, .ref (ad 208))]) pnX3 rfl hI (Nat.le_of_ble_eq_true rfl) rfl (fun p e s m args below meth c F => ?_)
  refine J_aload_n (pc := 0) F dX3_startLevels_0 rfl 0 rfl ?_
  refine J_aload_n (pc := 1) F dX3_startLevels_1 rfl 0 rfl ?_
  refine gfX3_levels (pc := 2) F ht wd_240 dX3_startLevels_2 ?_
  refine J_iconst (pc := 5) F dX3_startLevels_5 ki_0 ?_
  obtain ⟨q1, h1, hf⟩ := bind_elim hf
  refine J_callSR (pc := 6) F (c_X3_tableAt hI ht.2.2.2.2.2.2.1 h1) (by omega) (by decide) wc_X3_tableAt wd_358 rfl rfl (Nat.le_of_ble_eq_true rfl) dX3_startLevels_6 ?_
  obtain ⟨q2, h2, hf⟩ := bind_elim hf
  refine J_callVU (pc := 9) F (c_X3_copyInto hI ht (tableAt_tab ht.2.2.2.2.2.2.1 h1) h2) (by omega) (by decide) (rooN ht) (ht.2.1 _) rfl wc_X3_copyInto wd_361 rfl rfl (Nat.le_of_ble_eq_true rfl) dX3_startLevels_9 ?_
  exact J_vret (pc := 12) F dX3_startLevels_12 hf
set_option maxHeartbeats 4000000 in
set_option maxRecDepth 100000 in
theorem c_X3_best {l : Launch} {E : En} {ad : Nat → Nat} {G : Lay} {n : Nat} (hI : adI ad n) (ht : RooAt E ad G n) {a0 : Int32} {a1 : Int32} {a2 : Int32} {σ : St} {res : Int32 × St} (hf : f_X3_best a0 a1 a2 σ = some res) : Ct l yX3_best cX3_best 6 (some .int) 17 E ad G n [.ref (ad 208), .int a0, .int a1, .int a2] σ (some (.int res.1)) res.2 := by
  unfold f_X3_best at hf
  refine J_start (own := RX3) (lv := [(0, .ref (ad 208)), (1, .int a0), (2, .int a1), (3, .int a2)]) pnX3 rfl hI (Nat.le_of_ble_eq_true rfl) rfl (fun p e s m args below meth c F => ?_)
  refine J_aload_n (pc := 0) F dX3_best_0 rfl 0 rfl ?_
  refine gfX3_now (pc := 1) F ht wd_237 dX3_best_1 ?_
  refine J_iload_n (pc := 4) F dX3_best_4 rfl 1 rfl ?_
  obtain ⟨q1, h1, hf⟩ := bind_elim hf
  refine J_callVI (pc := 5) F (c_X1_isWooer hI ht.2.2.2.1 h1) (by omega) (by decide) (tabN ht.2.2.2.1) (ht.2.2.2.1.2.1 _) rfl wc_X1_isWooer wd_316 rfl rfl (Nat.le_of_ble_eq_true rfl) dX3_best_5 ?_
  rcases ite_elim hf with ⟨c2, hf⟩ | ⟨c2, hf⟩
  · refine J_if_eqT (pc := 8) F (tgt := 31) dX3_best_8 (by decide) c2 ?_
    refine J_iconst (pc := 31) F dX3_best_31 ki_m1 ?_
    exact J_iret (pc := 32) F rfl dX3_best_32 hf
  · refine J_if_eqF (pc := 8) F (tgt := 31) dX3_best_8 (by decide) c2 ?_
    refine J_iload_n (pc := 11) F dX3_best_11 rfl 2 rfl ?_
    refine J_iconst (pc := 12) F dX3_best_12 ki_1 ?_
    rcases ite_elim hf with ⟨c3, hf⟩ | ⟨c3, hf⟩
    · refine J_icmp_ltT (pc := 13) F (tgt := 31) dX3_best_13 (by decide) c3 ?_
      refine J_iconst (pc := 31) F dX3_best_31 ki_m1 ?_
      exact J_iret (pc := 32) F rfl dX3_best_32 hf
    · refine J_icmp_ltF (pc := 13) F (tgt := 31) dX3_best_13 (by decide) c3 ?_
      refine J_iload_n (pc := 16) F dX3_best_16 rfl 2 rfl ?_
      refine J_iconst (pc := 17) F dX3_best_17 ki_3 ?_
      rcases ite_elim hf with ⟨c4, hf⟩ | ⟨c4, hf⟩
      · refine J_icmp_gtT (pc := 18) F (tgt := 31) dX3_best_18 (by decide) c4 ?_
        refine J_iconst (pc := 31) F dX3_best_31 ki_m1 ?_
        exact J_iret (pc := 32) F rfl dX3_best_32 hf
      · refine J_icmp_gtF (pc := 18) F (tgt := 31) dX3_best_18 (by decide) c4 ?_
        refine J_iload_n (pc := 21) F dX3_best_21 rfl 3 rfl ?_
        refine J_iconst (pc := 22) F dX3_best_22 ki_m1 ?_
        rcases ite_elim hf with ⟨c5, hf⟩ | ⟨c5, hf⟩
        · refine J_icmp_ltT (pc := 23) F (tgt := 31) dX3_best_23 (by decide) c5 ?_
          refine J_iconst (pc := 31) F dX3_best_31 ki_m1 ?_
          exact J_iret (pc := 32) F rfl dX3_best_32 hf
        · refine J_icmp_ltF (pc := 23) F (tgt := 31) dX3_best_23 (by decide) c5 ?_
          refine J_iload_n (pc := 26) F dX3_best_26 rfl 3 rfl ?_
          refine J_iconst (pc := 27) F dX3_best_27 ki_2 ?_
          rcases ite_elim hf with ⟨c6, hf⟩ | ⟨c6, hf⟩
          · refine J_icmp_leT (pc := 28) F (tgt := 33) dX3_best_28 (by decide) c6 ?_
            refine J_iload_n (pc := 33) F dX3_best_33 rfl 3 rfl ?_
            refine J_iload_n (pc := 34) F dX3_best_34 rfl 2 rfl ?_
            rcases ite_elim hf with ⟨c7, hf⟩ | ⟨c7, hf⟩
            · refine J_icmp_ltT (pc := 35) F (tgt := 41) dX3_best_35 (by decide) c7 ?_
              refine J_aload_n (pc := 41) F dX3_best_41 rfl 0 rfl ?_
              obtain ⟨q8, h8, hf⟩ := bind_elim hf
              refine J_callVU (pc := 42) F (c_X3_startLevels hI ht h8) (by omega) (by decide) (rooN ht) (ht.2.1 _) rfl wc_X3_startLevels wd_460 rfl rfl (Nat.le_of_ble_eq_true rfl) dX3_best_42 ?_
              refine J_aload_n (pc := 45) F dX3_best_45 rfl 0 rfl ?_
              refine gfX3_levels (pc := 46) F ht wd_240 dX3_best_46 ?_
              refine J_iconst (pc := 49) F dX3_best_49 ki_0 ?_
              refine J_iload_n (pc := 50) F dX3_best_50 rfl 2 rfl ?_
              refine J_iload_n (pc := 51) F dX3_best_51 rfl 1 rfl ?_
              refine J_iconst (pc := 52) F dX3_best_52 ki_0 ?_
              obtain ⟨q9, h9, hf⟩ := bind_elim hf
              refine J_callSI (pc := 53) F (c_X3_bestFrom hI FR 29 9 ht.2.2.2.2.2.2.1 (0 : Int32) a1 a0 (0 : Int32) q8.2 q9 h9) (by unfold FR; omega) (by decide) wc_X3_bestFrom wd_464 rfl rfl (Nat.le_of_ble_eq_true rfl) dX3_best_53 ?_
              refine J_istore (pc := 56) F (lv' := [(4, .int q9.1), (0, .ref (ad 208)), (1, .int a0), (2, .int a1), (3, .int a2)]) dX3_best_56 (by decide) rfl ?_
              refine J_iload_n (pc := 58) F dX3_best_58 rfl 4 rfl ?_
              refine J_iconst (pc := 59) F dX3_best_59 ki_m1 ?_
              rcases ite_elim hf with ⟨c10, hf⟩ | ⟨c10, hf⟩
              · refine J_icmp_neT (pc := 60) F (tgt := 70) dX3_best_60 (by decide) c10 ?_
                refine J_sipush (pc := 70) F dX3_best_70 ks_511 ?_
                refine J_iload (pc := 73) F dX3_best_73 0 rfl ?_
                refine J_sipush (pc := 75) F dX3_best_75 ks_512 ?_
                refine J_irem (pc := 78) F dX3_best_78 (by decide +kernel) ?_
                refine J_isub (pc := 79) F dX3_best_79 ?_
                obtain ⟨x11, ex11, hf⟩ := nm_elim hf
                refine J_ti ex11 ?_
                refine J_istore (pc := 80) F (lv' := [(5, .int x11), (4, .int q9.1), (0, .ref (ad 208)), (1, .int a0), (2, .int a1), (3, .int a2)]) dX3_best_80 (by decide) rfl ?_
                refine J_iload (pc := 82) F dX3_best_82 0 rfl ?_
                refine J_iconst (pc := 84) F dX3_best_84 ki_3 ?_
                refine J_iload_n (pc := 85) F dX3_best_85 rfl 4 rfl ?_
                refine J_iconst (pc := 86) F dX3_best_86 ki_1 ?_
                refine J_isub (pc := 87) F dX3_best_87 ?_
                refine J_iload_n (pc := 88) F dX3_best_88 rfl 5 rfl ?_
                refine J_isub (pc := 89) F dX3_best_89 ?_
                refine J_imul (pc := 90) F dX3_best_90 ?_
                refine J_ishr (pc := 91) F dX3_best_91 ?_
                refine J_bipush (pc := 92) F dX3_best_92 kb_7 ?_
                refine J_iand (pc := 94) F dX3_best_94 ?_
                exact J_iret (pc := 95) F rfl dX3_best_95 hf
              · refine J_icmp_neF (pc := 60) F (tgt := 70) dX3_best_60 (by decide) c10 ?_
                refine J_iload (pc := 63) F dX3_best_63 0 rfl ?_
                refine J_sipush (pc := 65) F dX3_best_65 ks_512 ?_
                refine J_idiv (pc := 68) F dX3_best_68 (by decide +kernel) ?_
                exact J_iret (pc := 69) F rfl dX3_best_69 hf
            · refine J_icmp_ltF (pc := 35) F (tgt := 41) dX3_best_35 (by decide) c7 ?_
              refine J_bipush (pc := 38) F dX3_best_38 kb_m4 ?_
              exact J_iret (pc := 40) F rfl dX3_best_40 hf
          · refine J_icmp_leF (pc := 28) F (tgt := 33) dX3_best_28 (by decide) c6 ?_
            refine J_iconst (pc := 31) F dX3_best_31 ki_m1 ?_
            exact J_iret (pc := 32) F rfl dX3_best_32 hf
set_option maxHeartbeats 4000000 in
set_option maxRecDepth 100000 in
theorem c_X3_rightOnceMended {l : Launch} {E : En} {ad : Nat → Nat} {G : Lay} {n : Nat} (hI : adI ad n) (ht : RooAt E ad G n) {a0 : Int32} {a1 : Int32} {σ : St} {res : Int32 × St} (hf : f_X3_rightOnceMended a0 a1 σ = some res) : Ct l yX3_rightOnceMended cX3_rightOnceMended 3 (some .int) 5 E ad G n [.ref (ad 208), .int a0, .int a1] σ (some (.int res.1)) res.2 := by
  unfold f_X3_rightOnceMended at hf
  refine J_start (own := RX3) (lv := [(0, .ref (ad 208)), (1, .int a0), (2, .int a1)]) pnX3 rfl hI (Nat.le_of_ble_eq_true rfl) rfl (fun p e s m args below meth c F => ?_)
  refine J_aload_n (pc := 0) F dX3_rightOnceMended_0 rfl 0 rfl ?_
  refine gfX3_trial (pc := 1) F ht wd_239 dX3_rightOnceMended_1 ?_
  refine J_aload_n (pc := 4) F dX3_rightOnceMended_4 rfl 0 rfl ?_
  refine gfX3_now (pc := 5) F ht wd_237 dX3_rightOnceMended_5 ?_
  obtain ⟨q1, h1, hf⟩ := bind_elim hf
  refine J_callVU (pc := 8) F (c_X1_copy hI ht.2.2.2.2.2.1 (optTab ht.2.2.2.1) h1) (by omega) (by decide) (tabN ht.2.2.2.2.2.1) (ht.2.2.2.2.2.1.2.1 _) rfl wc_X1_copy wd_290 rfl rfl (Nat.le_of_ble_eq_true rfl) dX3_rightOnceMended_8 ?_
  refine J_aload_n (pc := 11) F dX3_rightOnceMended_11 rfl 0 rfl ?_
  refine gfX3_trial (pc := 12) F ht wd_239 dX3_rightOnceMended_12 ?_
  refine J_iload_n (pc := 15) F dX3_rightOnceMended_15 rfl 1 rfl ?_
  refine J_iload_n (pc := 16) F dX3_rightOnceMended_16 rfl 2 rfl ?_
  obtain ⟨q2, h2, hf⟩ := bind_elim hf
  refine J_callVU (pc := 17) F (c_X1_repair hI ht.2.2.2.2.2.1 h2) (by omega) (by decide) (tabN ht.2.2.2.2.2.1) (ht.2.2.2.2.2.1.2.1 _) rfl wc_X1_repair wd_426 rfl rfl (Nat.le_of_ble_eq_true rfl) dX3_rightOnceMended_17 ?_
  refine J_aload_n (pc := 20) F dX3_rightOnceMended_20 rfl 0 rfl ?_
  refine gfX3_trial (pc := 21) F ht wd_239 dX3_rightOnceMended_21 ?_
  refine J_iconst (pc := 24) F dX3_rightOnceMended_24 ki_5 ?_
  obtain ⟨q3, h3, hf⟩ := bind_elim hf
  refine J_callVU (pc := 25) F (c_X1_spend hI ht.2.2.2.2.2.1 h3) (by omega) (by decide) (tabN ht.2.2.2.2.2.1) (ht.2.2.2.2.2.1.2.1 _) rfl wc_X1_spend wd_380 rfl rfl (Nat.le_of_ble_eq_true rfl) dX3_rightOnceMended_25 ?_
  refine J_aload_n (pc := 28) F dX3_rightOnceMended_28 rfl 0 rfl ?_
  refine gfX3_trial (pc := 29) F ht wd_239 dX3_rightOnceMended_29 ?_
  obtain ⟨q4, h4, hf⟩ := bind_elim hf
  refine J_callVI (pc := 32) F (c_X1_allRight hI ht.2.2.2.2.2.1 h4) (by omega) (by decide) (tabN ht.2.2.2.2.2.1) (ht.2.2.2.2.2.1.2.1 _) rfl wc_X1_allRight wd_475 rfl rfl (Nat.le_of_ble_eq_true rfl) dX3_rightOnceMended_32 ?_
  exact J_iret (pc := 35) F rfl dX3_rightOnceMended_35 hf
set_option maxHeartbeats 4000000 in
set_option maxRecDepth 100000 in
theorem c_X3_mends {l : Launch} {E : En} {ad : Nat → Nat} {G : Lay} {n : Nat} (hI : adI ad n) (ht : RooAt E ad G n) {a0 : Int32} {σ : St} {res : Int32 × St} (hf : f_X3_mends a0 σ = some res) : Ct l yX3_mends cX3_mends 7 (some .int) 6 E ad G n [.ref (ad 208), .int a0] σ (some (.int res.1)) res.2 := by
  unfold f_X3_mends at hf
  refine J_start (own := RX3) (lv := [(0, .ref (ad 208)), (1, .int a0)]) pnX3 rfl hI (Nat.le_of_ble_eq_true rfl) rfl (fun p e s m args below meth c F => ?_)
  refine J_iload_n (pc := 0) F dX3_mends_0 rfl 1 rfl ?_
  rcases ite_elim hf with ⟨c1, hf⟩ | ⟨c1, hf⟩
  · refine J_if_ltT (pc := 1) F (tgt := 9) dX3_mends_1 (by decide) c1 ?_
    refine J_iconst (pc := 9) F dX3_mends_9 ki_m1 ?_
    exact J_iret (pc := 10) F rfl dX3_mends_10 hf
  · refine J_if_ltF (pc := 1) F (tgt := 9) dX3_mends_1 (by decide) c1 ?_
    refine J_iload_n (pc := 4) F dX3_mends_4 rfl 1 rfl ?_
    refine J_iconst (pc := 5) F dX3_mends_5 ki_1 ?_
    rcases ite_elim hf with ⟨c2, hf⟩ | ⟨c2, hf⟩
    · refine J_icmp_leT (pc := 6) F (tgt := 11) dX3_mends_6 (by decide) c2 ?_
      refine J_bipush (pc := 11) F dX3_mends_11 kb_m4 ?_
      refine J_istore_n (pc := 13) F (lv' := [(2, .int (-4 : Int32)), (0, .ref (ad 208)), (1, .int a0)]) dX3_mends_13 rfl (by decide) rfl ?_
      refine J_bipush (pc := 14) F dX3_mends_14 kb_m4 ?_
      refine J_istore_n (pc := 16) F (lv' := [(3, .int (-4 : Int32)), (2, .int (-4 : Int32)), (0, .ref (ad 208)), (1, .int a0)]) dX3_mends_16 rfl (by decide) rfl ?_
      refine J_iconst (pc := 17) F dX3_mends_17 ki_0 ?_
      refine J_istore (pc := 18) F (lv' := [(4, .int (0 : Int32)), (3, .int (-4 : Int32)), (2, .int (-4 : Int32)), (0, .ref (ad 208)), (1, .int a0)]) dX3_mends_18 (by decide) rfl ?_
      refine J_sub [3, 4, 2, 1, 0] rfl ?_
      refine lp_ind (P := fun (b3 : Int32 × Int32 × Int32 × St) => J p l e 6 s m args below meth c E ad G n (QI below E ad G n args s res) 7 b3.2.2.2 20 [(0, .ref (ad 208)), (1, .int a0), (2, .int b3.1), (3, .int b3.2.1), (4, .int b3.2.2.1)] []) (fun r3 ih3 b3 hf => ?_) FU ((-4 : Int32), (-4 : Int32), (0 : Int32), σ) hf
      show J p l e 6 s m args below meth c E ad G n (QI below E ad G n args s res) 7 b3.2.2.2 20 [(0, .ref (ad 208)), (1, .int a0), (2, .int b3.1), (3, .int b3.2.1), (4, .int b3.2.2.1)] []
      refine J_iload (pc := 20) F dX3_mends_20 4 rfl ?_
      refine J_aload_n (pc := 22) F dX3_mends_22 rfl 0 rfl ?_
      refine gfX3_now (pc := 23) F ht wd_237 dX3_mends_23 ?_
      refine gfX1_wooers (pc := 26) F ht.2.2.2.1 wd_67 dX3_mends_26 ?_
      rcases ite_elim hf with ⟨c4, hf⟩ | ⟨c4, hf⟩
      · refine J_icmp_geT (pc := 29) F (tgt := 106) dX3_mends_29 (by decide) c4 ?_
        refine J_iload_n (pc := 106) F dX3_mends_106 rfl 1 rfl ?_
        rcases ite_elim hf with ⟨c5, hf⟩ | ⟨c5, hf⟩
        · refine J_if_neT (pc := 107) F (tgt := 114) dX3_mends_107 (by decide) c5 ?_
          refine J_iload_n (pc := 114) F dX3_mends_114 rfl 3 rfl ?_
          exact J_iret (pc := 115) F rfl dX3_mends_115 hf
        · refine J_if_neF (pc := 107) F (tgt := 114) dX3_mends_107 (by decide) c5 ?_
          refine J_iload_n (pc := 110) F dX3_mends_110 rfl 2 rfl ?_
          refine J_goto (pc := 111) F (tgt := 115) dX3_mends_111 (by decide) ?_
          exact J_iret (pc := 115) F rfl dX3_mends_115 hf
      · refine J_icmp_geF (pc := 29) F (tgt := 106) dX3_mends_29 (by decide) c4 ?_
        refine J_iconst (pc := 32) F dX3_mends_32 ki_0 ?_
        refine J_istore (pc := 33) F (lv' := [(5, .int (0 : Int32)), (0, .ref (ad 208)), (1, .int a0), (2, .int b3.1), (3, .int b3.2.1), (4, .int b3.2.2.1)]) dX3_mends_33 (by decide) rfl ?_
        refine J_sub [1, 2, 3, 4, 5, 0] rfl ?_
        refine lp_ind (P := fun (b6 : Int32 × Int32 × Int32 × St) => J p l e 6 s m args below meth c E ad G n (QI below E ad G n args s res) 7 b6.2.2.2 35 [(0, .ref (ad 208)), (1, .int a0), (2, .int b6.1), (3, .int b6.2.1), (4, .int b3.2.2.1), (5, .int b6.2.2.1)] []) (fun r6 ih6 b6 hf => ?_) FU (b3.1, b3.2.1, (0 : Int32), b3.2.2.2) hf
        show J p l e 6 s m args below meth c E ad G n (QI below E ad G n args s res) 7 b6.2.2.2 35 [(0, .ref (ad 208)), (1, .int a0), (2, .int b6.1), (3, .int b6.2.1), (4, .int b3.2.2.1), (5, .int b6.2.2.1)] []
        refine J_iload (pc := 35) F dX3_mends_35 5 rfl ?_
        refine J_aload_n (pc := 37) F dX3_mends_37 rfl 0 rfl ?_
        refine gfX3_now (pc := 38) F ht wd_237 dX3_mends_38 ?_
        refine gfX1_words (pc := 41) F ht.2.2.2.1 wd_63 dX3_mends_41 ?_
        rcases ite_elim hf with ⟨c7, hf⟩ | ⟨c7, hf⟩
        · refine J_icmp_geT (pc := 44) F (tgt := 100) dX3_mends_44 (by decide) c7 ?_
          obtain ⟨x8, ex8, hf⟩ := nm_elim hf
          refine J_iinc (pc := 100) F (lv' := [(4, .int x8), (0, .ref (ad 208)), (1, .int a0), (2, .int b6.1), (3, .int b6.2.1), (5, .int b6.2.2.1)]) dX3_mends_100 4 rfl (ex8.trans (congrArg _ ki_1.symm)) (by decide) rfl ?_
          refine J_goto (pc := 103) F (tgt := 20) dX3_mends_103 (by decide) ?_
          refine J_sub [1, 2, 3, 4, 0] rfl ?_
          exact ih3 (b6.1, b6.2.1, x8, b6.2.2.2) hf
        · refine J_icmp_geF (pc := 44) F (tgt := 100) dX3_mends_44 (by decide) c7 ?_
          refine J_aload_n (pc := 47) F dX3_mends_47 rfl 0 rfl ?_
          refine gfX3_now (pc := 48) F ht wd_237 dX3_mends_48 ?_
          refine J_iload (pc := 51) F dX3_mends_51 4 rfl ?_
          refine J_iload (pc := 53) F dX3_mends_53 5 rfl ?_
          obtain ⟨q9, h9, hf⟩ := bind_elim hf
          refine J_callVI (pc := 55) F (c_X1_canRepair hI ht.2.2.2.1 h9) (by omega) (by decide) (tabN ht.2.2.2.1) (ht.2.2.2.1.2.1 _) rfl wc_X1_canRepair wd_418 rfl rfl (Nat.le_of_ble_eq_true rfl) dX3_mends_55 ?_
          obtain ⟨k10, hk10, hf⟩ := jn_elim hf
          have hJk10 : ∀ (q10 : Int32 × St), k10 q10 = some res → J p l e 6 s m args below meth c E ad G n (QI below E ad G n args s res) 7 q10.2 74 [(0, .ref (ad 208)), (1, .int a0), (2, .int b6.1), (3, .int b6.2.1), (4, .int b3.2.2.1), (5, .int b6.2.2.1)] [.int q10.1] := by
            intro q10 hf
            replace hf := hk10 q10 hf
            refine J_istore (pc := 74) F (lv' := [(6, .int q10.1), (0, .ref (ad 208)), (1, .int a0), (2, .int b6.1), (3, .int b6.2.1), (4, .int b3.2.2.1), (5, .int b6.2.2.1)]) dX3_mends_74 (by decide) rfl ?_
            refine J_iload (pc := 76) F dX3_mends_76 0 rfl ?_
            refine J_iload_n (pc := 78) F dX3_mends_78 rfl 4 rfl ?_
            obtain ⟨k13, hk13, hf⟩ := jn_elim hf
            have hJk13 : ∀ (q13 : Int32 × Int32 × St), k13 q13 = some res → J p l e 6 s m args below meth c E ad G n (QI below E ad G n args s res) 7 q13.2.2 94 [(0, .ref (ad 208)), (1, .int a0), (2, .int q13.1), (3, .int q13.2.1), (4, .int b3.2.2.1), (5, .int b6.2.2.1)] [] := by
              intro q13 hf
              replace hf := hk13 q13 hf
              obtain ⟨x16, ex16, hf⟩ := nm_elim hf
              refine J_iinc (pc := 94) F (lv' := [(5, .int x16), (0, .ref (ad 208)), (1, .int a0), (2, .int q13.1), (3, .int q13.2.1), (4, .int b3.2.2.1)]) dX3_mends_94 5 rfl (ex16.trans (congrArg _ ki_1.symm)) (by decide) rfl ?_
              refine J_goto (pc := 97) F (tgt := 35) dX3_mends_97 (by decide) ?_
              refine J_sub [1, 2, 3, 4, 5, 0] rfl ?_
              exact ih6 (q13.1, q13.2.1, x16, q13.2.2) hf
            clear hk13
            rcases ite_elim hf with ⟨c14, hf⟩ | ⟨c14, hf⟩
            · refine J_icmp_leT (pc := 79) F (tgt := 94) dX3_mends_79 (by decide) c14 ?_
              refine J_sub [1, 2, 3, 4, 5, 6] rfl ?_
              exact hJk13 (b6.1, b6.2.1, q10.2) hf
            · refine J_icmp_leF (pc := 79) F (tgt := 94) dX3_mends_79 (by decide) c14 ?_
              refine J_iload (pc := 82) F dX3_mends_82 0 rfl ?_
              refine J_istore_n (pc := 84) F (lv' := [(3, .int q10.1), (6, .int q10.1), (0, .ref (ad 208)), (1, .int a0), (2, .int b6.1), (4, .int b3.2.2.1), (5, .int b6.2.2.1)]) dX3_mends_84 rfl (by decide) rfl ?_
              refine J_bipush (pc := 85) F dX3_mends_85 kb_10 ?_
              refine J_iload (pc := 87) F dX3_mends_87 5 rfl ?_
              refine J_imul (pc := 89) F dX3_mends_89 ?_
              refine J_iload (pc := 90) F dX3_mends_90 6 rfl ?_
              refine J_iadd (pc := 92) F dX3_mends_92 ?_
              obtain ⟨x15, ex15, hf⟩ := nm_elim hf
              refine J_ti ex15 ?_
              refine J_istore_n (pc := 93) F (lv' := [(2, .int x15), (3, .int q10.1), (6, .int q10.1), (0, .ref (ad 208)), (1, .int a0), (4, .int b3.2.2.1), (5, .int b6.2.2.1)]) dX3_mends_93 rfl (by decide) rfl ?_
              refine J_sub [3, 4, 0, 1, 5, 6] rfl ?_
              exact hJk13 (x15, q10.1, q10.2) hf
          clear hk10
          rcases ite_elim hf with ⟨c11, hf⟩ | ⟨c11, hf⟩
          · refine J_if_eqT (pc := 58) F (tgt := 72) dX3_mends_58 (by decide) c11 ?_
            refine J_bipush (pc := 72) F dX3_mends_72 kb_m4 ?_
            exact hJk10 ((-4 : Int32), q9.2) hf
          · refine J_if_eqF (pc := 58) F (tgt := 72) dX3_mends_58 (by decide) c11 ?_
            refine J_aload_n (pc := 61) F dX3_mends_61 rfl 0 rfl ?_
            refine J_iload (pc := 62) F dX3_mends_62 4 rfl ?_
            refine J_iload (pc := 64) F dX3_mends_64 5 rfl ?_
            obtain ⟨q12, h12, hf⟩ := bind_elim hf
            refine J_callVI (pc := 66) F (c_X3_rightOnceMended hI ht h12) (by omega) (by decide) (rooN ht) (ht.2.1 _) rfl wc_X3_rightOnceMended wd_471 rfl rfl (Nat.le_of_ble_eq_true rfl) dX3_mends_66 ?_
            refine J_goto (pc := 69) F (tgt := 74) dX3_mends_69 (by decide) ?_
            exact hJk10 (q12.1, q12.2) hf
    · refine J_icmp_leF (pc := 6) F (tgt := 11) dX3_mends_6 (by decide) c2 ?_
      refine J_iconst (pc := 9) F dX3_mends_9 ki_m1 ?_
      exact J_iret (pc := 10) F rfl dX3_mends_10 hf
set_option maxHeartbeats 4000000 in
set_option maxRecDepth 100000 in
theorem c_X3_two {l : Launch} {E : En} {ad : Nat → Nat} {G : Lay} {n : Nat} (hI : adI ad n) (ht : RooAt E ad G n) {a0 : Int32} {σ : St} {res : Int32 × St} (hf : f_X3_two a0 σ = some res) : Ct l yX3_two cX3_two 7 (some .int) 1 E ad G n [.ref (ad 208), .int a0] σ (some (.int res.1)) res.2 := by
  unfold f_X3_two at hf
  refine J_start (own := RX3) (lv := [(0, .ref (ad 208)), (1, .int a0)]) pnX3 rfl hI (Nat.le_of_ble_eq_true rfl) rfl (fun p e s m args below meth c F => ?_)
  refine J_iload_n (pc := 0) F dX3_two_0 rfl 1 rfl ?_
  rcases ite_elim hf with ⟨c1, hf⟩ | ⟨c1, hf⟩
  · refine J_if_ltT (pc := 1) F (tgt := 9) dX3_two_1 (by decide) c1 ?_
    refine J_iconst (pc := 9) F dX3_two_9 ki_m1 ?_
    exact J_iret (pc := 10) F rfl dX3_two_10 hf
  · refine J_if_ltF (pc := 1) F (tgt := 9) dX3_two_1 (by decide) c1 ?_
    refine J_iload_n (pc := 4) F dX3_two_4 rfl 1 rfl ?_
    refine J_iconst (pc := 5) F dX3_two_5 ki_1 ?_
    rcases ite_elim hf with ⟨c2, hf⟩ | ⟨c2, hf⟩
    · refine J_icmp_leT (pc := 6) F (tgt := 11) dX3_two_6 (by decide) c2 ?_
      refine J_bipush (pc := 11) F dX3_two_11 kb_m4 ?_
      refine J_istore_n (pc := 13) F (lv' := [(2, .int (-4 : Int32)), (0, .ref (ad 208)), (1, .int a0)]) dX3_two_13 rfl (by decide) rfl ?_
      refine J_bipush (pc := 14) F dX3_two_14 kb_m4 ?_
      refine J_istore_n (pc := 16) F (lv' := [(3, .int (-4 : Int32)), (2, .int (-4 : Int32)), (0, .ref (ad 208)), (1, .int a0)]) dX3_two_16 rfl (by decide) rfl ?_
      refine J_iconst (pc := 17) F dX3_two_17 ki_0 ?_
      refine J_istore (pc := 18) F (lv' := [(4, .int (0 : Int32)), (3, .int (-4 : Int32)), (2, .int (-4 : Int32)), (0, .ref (ad 208)), (1, .int a0)]) dX3_two_18 (by decide) rfl ?_
      refine J_sub [3, 4, 2, 1, 0] rfl ?_
      refine lp_ind (P := fun (b3 : Int32 × Int32 × Int32 × St) => J p l e 1 s m args below meth c E ad G n (QI below E ad G n args s res) 7 b3.2.2.2 20 [(0, .ref (ad 208)), (1, .int a0), (2, .int b3.1), (3, .int b3.2.1), (4, .int b3.2.2.1)] []) (fun r3 ih3 b3 hf => ?_) FU ((-4 : Int32), (-4 : Int32), (0 : Int32), σ) hf
      show J p l e 1 s m args below meth c E ad G n (QI below E ad G n args s res) 7 b3.2.2.2 20 [(0, .ref (ad 208)), (1, .int a0), (2, .int b3.1), (3, .int b3.2.1), (4, .int b3.2.2.1)] []
      refine J_iload (pc := 20) F dX3_two_20 4 rfl ?_
      refine J_aload_n (pc := 22) F dX3_two_22 rfl 0 rfl ?_
      refine gfX3_now (pc := 23) F ht wd_237 dX3_two_23 ?_
      refine gfX1_wooers (pc := 26) F ht.2.2.2.1 wd_67 dX3_two_26 ?_
      rcases ite_elim hf with ⟨c4, hf⟩ | ⟨c4, hf⟩
      · refine J_icmp_geT (pc := 29) F (tgt := 110) dX3_two_29 (by decide) c4 ?_
        refine J_iload_n (pc := 110) F dX3_two_110 rfl 1 rfl ?_
        rcases ite_elim hf with ⟨c5, hf⟩ | ⟨c5, hf⟩
        · refine J_if_neT (pc := 111) F (tgt := 118) dX3_two_111 (by decide) c5 ?_
          refine J_iload_n (pc := 118) F dX3_two_118 rfl 3 rfl ?_
          exact J_iret (pc := 119) F rfl dX3_two_119 hf
        · refine J_if_neF (pc := 111) F (tgt := 118) dX3_two_111 (by decide) c5 ?_
          refine J_iload_n (pc := 114) F dX3_two_114 rfl 2 rfl ?_
          refine J_goto (pc := 115) F (tgt := 119) dX3_two_115 (by decide) ?_
          exact J_iret (pc := 119) F rfl dX3_two_119 hf
      · refine J_icmp_geF (pc := 29) F (tgt := 110) dX3_two_29 (by decide) c4 ?_
        refine J_iload (pc := 32) F dX3_two_32 4 rfl ?_
        refine J_iconst (pc := 34) F dX3_two_34 ki_1 ?_
        refine J_iadd (pc := 35) F dX3_two_35 ?_
        obtain ⟨x6, ex6, hf⟩ := nm_elim hf
        refine J_ti ex6 ?_
        refine J_istore (pc := 36) F (lv' := [(5, .int x6), (0, .ref (ad 208)), (1, .int a0), (2, .int b3.1), (3, .int b3.2.1), (4, .int b3.2.2.1)]) dX3_two_36 (by decide) rfl ?_
        refine J_sub [1, 2, 3, 4, 5, 0] rfl ?_
        refine lp_ind (P := fun (b7 : Int32 × Int32 × Int32 × St) => J p l e 1 s m args below meth c E ad G n (QI below E ad G n args s res) 7 b7.2.2.2 38 [(0, .ref (ad 208)), (1, .int a0), (2, .int b7.1), (3, .int b7.2.1), (4, .int b3.2.2.1), (5, .int b7.2.2.1)] []) (fun r7 ih7 b7 hf => ?_) FU (b3.1, b3.2.1, x6, b3.2.2.2) hf
        show J p l e 1 s m args below meth c E ad G n (QI below E ad G n args s res) 7 b7.2.2.2 38 [(0, .ref (ad 208)), (1, .int a0), (2, .int b7.1), (3, .int b7.2.1), (4, .int b3.2.2.1), (5, .int b7.2.2.1)] []
        refine J_iload (pc := 38) F dX3_two_38 5 rfl ?_
        refine J_aload_n (pc := 40) F dX3_two_40 rfl 0 rfl ?_
        refine gfX3_now (pc := 41) F ht wd_237 dX3_two_41 ?_
        refine gfX1_wooers (pc := 44) F ht.2.2.2.1 wd_67 dX3_two_44 ?_
        rcases ite_elim hf with ⟨c8, hf⟩ | ⟨c8, hf⟩
        · refine J_icmp_geT (pc := 47) F (tgt := 104) dX3_two_47 (by decide) c8 ?_
          obtain ⟨x9, ex9, hf⟩ := nm_elim hf
          refine J_iinc (pc := 104) F (lv' := [(4, .int x9), (0, .ref (ad 208)), (1, .int a0), (2, .int b7.1), (3, .int b7.2.1), (5, .int b7.2.2.1)]) dX3_two_104 4 rfl (ex9.trans (congrArg _ ki_1.symm)) (by decide) rfl ?_
          refine J_goto (pc := 107) F (tgt := 20) dX3_two_107 (by decide) ?_
          refine J_sub [1, 2, 3, 4, 0] rfl ?_
          exact ih3 (b7.1, b7.2.1, x9, b7.2.2.2) hf
        · refine J_icmp_geF (pc := 47) F (tgt := 104) dX3_two_47 (by decide) c8 ?_
          refine J_aload_n (pc := 50) F dX3_two_50 rfl 0 rfl ?_
          refine gfX3_now (pc := 51) F ht wd_237 dX3_two_51 ?_
          refine gfX1_right (pc := 54) F ht.2.2.2.1 wd_58 dX3_two_54 ?_
          refine J_iload (pc := 57) F dX3_two_57 4 rfl ?_
          obtain ⟨q10, h10, hf⟩ := bind_elim hf
          refine J_callSI (pc := 59) F (c_X3_at hI (tabA5 ht.2.2.2.1) h10) (by omega) (by decide) wc_X3_at wd_311 rfl rfl (Nat.le_of_ble_eq_true rfl) dX3_two_59 ?_
          refine J_aload_n (pc := 62) F dX3_two_62 rfl 0 rfl ?_
          refine gfX3_now (pc := 63) F ht wd_237 dX3_two_63 ?_
          refine gfX1_right (pc := 66) F ht.2.2.2.1 wd_58 dX3_two_66 ?_
          refine J_iload (pc := 69) F dX3_two_69 5 rfl ?_
          obtain ⟨q11, h11, hf⟩ := bind_elim hf
          refine J_callSI (pc := 71) F (c_X3_at hI (tabA5 ht.2.2.2.1) h11) (by omega) (by decide) wc_X3_at wd_311 rfl rfl (Nat.le_of_ble_eq_true rfl) dX3_two_71 ?_
          refine J_ior (pc := 74) F dX3_two_74 ?_
          obtain ⟨q12, h12, hf⟩ := bind_elim hf
          refine J_callSI (pc := 75) F (c_J6_bitCount_0f7a4 hI  h12) (by omega) (by decide) wc_J6_bitCount_0f7a4 wd_483 rfl rfl (Nat.le_of_ble_eq_true rfl) dX3_two_75 ?_
          refine J_istore (pc := 78) F (lv' := [(6, .int q12.1), (0, .ref (ad 208)), (1, .int a0), (2, .int b7.1), (3, .int b7.2.1), (4, .int b3.2.2.1), (5, .int b7.2.2.1)]) dX3_two_78 (by decide) rfl ?_
          refine J_iload (pc := 80) F dX3_two_80 0 rfl ?_
          refine J_iload_n (pc := 82) F dX3_two_82 rfl 4 rfl ?_
          obtain ⟨k13, hk13, hf⟩ := jn_elim hf
          have hJk13 : ∀ (q13 : Int32 × Int32 × St), k13 q13 = some res → J p l e 1 s m args below meth c E ad G n (QI below E ad G n args s res) 7 q13.2.2 98 [(0, .ref (ad 208)), (1, .int a0), (2, .int q13.1), (3, .int q13.2.1), (4, .int b3.2.2.1), (5, .int b7.2.2.1)] [] := by
            intro q13 hf
            replace hf := hk13 q13 hf
            obtain ⟨x16, ex16, hf⟩ := nm_elim hf
            refine J_iinc (pc := 98) F (lv' := [(5, .int x16), (0, .ref (ad 208)), (1, .int a0), (2, .int q13.1), (3, .int q13.2.1), (4, .int b3.2.2.1)]) dX3_two_98 5 rfl (ex16.trans (congrArg _ ki_1.symm)) (by decide) rfl ?_
            refine J_goto (pc := 101) F (tgt := 38) dX3_two_101 (by decide) ?_
            refine J_sub [1, 2, 3, 4, 5, 0] rfl ?_
            exact ih7 (q13.1, q13.2.1, x16, q13.2.2) hf
          clear hk13
          rcases ite_elim hf with ⟨c14, hf⟩ | ⟨c14, hf⟩
          · refine J_icmp_leT (pc := 83) F (tgt := 98) dX3_two_83 (by decide) c14 ?_
            refine J_sub [1, 2, 3, 4, 5, 6] rfl ?_
            exact hJk13 (b7.1, b7.2.1, q12.2) hf
          · refine J_icmp_leF (pc := 83) F (tgt := 98) dX3_two_83 (by decide) c14 ?_
            refine J_iload (pc := 86) F dX3_two_86 0 rfl ?_
            refine J_istore_n (pc := 88) F (lv' := [(3, .int q12.1), (6, .int q12.1), (0, .ref (ad 208)), (1, .int a0), (2, .int b7.1), (4, .int b3.2.2.1), (5, .int b7.2.2.1)]) dX3_two_88 rfl (by decide) rfl ?_
            refine J_bipush (pc := 89) F dX3_two_89 kb_10 ?_
            refine J_iload (pc := 91) F dX3_two_91 5 rfl ?_
            refine J_imul (pc := 93) F dX3_two_93 ?_
            refine J_iload (pc := 94) F dX3_two_94 6 rfl ?_
            refine J_iadd (pc := 96) F dX3_two_96 ?_
            obtain ⟨x15, ex15, hf⟩ := nm_elim hf
            refine J_ti ex15 ?_
            refine J_istore_n (pc := 97) F (lv' := [(2, .int x15), (3, .int q12.1), (6, .int q12.1), (0, .ref (ad 208)), (1, .int a0), (4, .int b3.2.2.1), (5, .int b7.2.2.1)]) dX3_two_97 rfl (by decide) rfl ?_
            refine J_sub [3, 4, 0, 1, 5, 6] rfl ?_
            exact hJk13 (x15, q12.1, q12.2) hf
    · refine J_icmp_leF (pc := 6) F (tgt := 11) dX3_two_6 (by decide) c2 ?_
      refine J_iconst (pc := 9) F dX3_two_9 ki_m1 ?_
      exact J_iret (pc := 10) F rfl dX3_two_10 hf
set_option maxHeartbeats 4000000 in
set_option maxRecDepth 100000 in
theorem c_X3_comparePairs {l : Launch} {E : En} {ad : Nat → Nat} {G : Lay} {n : Nat} (hI : adI ad n) (ht : RooAt E ad G n) {σ : St} {res : Int32 × St} (hf : f_X3_comparePairs  σ = some res) : Ct l yX3_comparePairs cX3_comparePairs 4 (some .int) 3 E ad G n [.ref (ad 208)] σ (some (.int res.1)) res.2 := by
  unfold f_X3_comparePairs at hf
  refine J_start (own := RX3) (lv := [(0, .ref (ad 208))]) pnX3 rfl hI (Nat.le_of_ble_eq_true rfl) rfl (fun p e s m args below meth c F => ?_)
  refine J_iconst (pc := 0) F dX3_comparePairs_0 ki_0 ?_
  refine J_istore_n (pc := 1) F (lv' := [(1, .int (0 : Int32)), (0, .ref (ad 208))]) dX3_comparePairs_1 rfl (by decide) rfl ?_
  refine J_iconst (pc := 2) F dX3_comparePairs_2 ki_0 ?_
  refine J_istore_n (pc := 3) F (lv' := [(2, .int (0 : Int32)), (1, .int (0 : Int32)), (0, .ref (ad 208))]) dX3_comparePairs_3 rfl (by decide) rfl ?_
  refine J_sub [2, 1, 0] rfl ?_
  refine lp_ind (P := fun (b1 : Int32 × Int32 × St) => J p l e 3 s m args below meth c E ad G n (QI below E ad G n args s res) 4 b1.2.2 4 [(0, .ref (ad 208)), (1, .int b1.1), (2, .int b1.2.1)] []) (fun r1 ih1 b1 hf => ?_) FU ((0 : Int32), (0 : Int32), σ) hf
  show J p l e 3 s m args below meth c E ad G n (QI below E ad G n args s res) 4 b1.2.2 4 [(0, .ref (ad 208)), (1, .int b1.1), (2, .int b1.2.1)] []
  refine J_iload_n (pc := 4) F dX3_comparePairs_4 rfl 2 rfl ?_
  refine J_aload_n (pc := 5) F dX3_comparePairs_5 rfl 0 rfl ?_
  refine gfX3_now (pc := 6) F ht wd_237 dX3_comparePairs_6 ?_
  refine gfX1_wooers (pc := 9) F ht.2.2.2.1 wd_67 dX3_comparePairs_9 ?_
  rcases ite_elim hf with ⟨c2, hf⟩ | ⟨c2, hf⟩
  · refine J_icmp_geT (pc := 12) F (tgt := 62) dX3_comparePairs_12 (by decide) c2 ?_
    refine J_iload_n (pc := 62) F dX3_comparePairs_62 rfl 1 rfl ?_
    exact J_iret (pc := 63) F rfl dX3_comparePairs_63 hf
  · refine J_icmp_geF (pc := 12) F (tgt := 62) dX3_comparePairs_12 (by decide) c2 ?_
    refine J_iload_n (pc := 15) F dX3_comparePairs_15 rfl 2 rfl ?_
    refine J_iconst (pc := 16) F dX3_comparePairs_16 ki_1 ?_
    refine J_iadd (pc := 17) F dX3_comparePairs_17 ?_
    obtain ⟨x3, ex3, hf⟩ := nm_elim hf
    refine J_ti ex3 ?_
    refine J_istore_n (pc := 18) F (lv' := [(3, .int x3), (0, .ref (ad 208)), (1, .int b1.1), (2, .int b1.2.1)]) dX3_comparePairs_18 rfl (by decide) rfl ?_
    refine J_sub [1, 2, 3, 0] rfl ?_
    refine lp_ind (P := fun (b4 : Int32 × Int32 × St) => J p l e 3 s m args below meth c E ad G n (QI below E ad G n args s res) 4 b4.2.2 19 [(0, .ref (ad 208)), (1, .int b4.1), (2, .int b1.2.1), (3, .int b4.2.1)] []) (fun r4 ih4 b4 hf => ?_) FU (b1.1, x3, b1.2.2) hf
    show J p l e 3 s m args below meth c E ad G n (QI below E ad G n args s res) 4 b4.2.2 19 [(0, .ref (ad 208)), (1, .int b4.1), (2, .int b1.2.1), (3, .int b4.2.1)] []
    refine J_iload_n (pc := 19) F dX3_comparePairs_19 rfl 3 rfl ?_
    refine J_aload_n (pc := 20) F dX3_comparePairs_20 rfl 0 rfl ?_
    refine gfX3_now (pc := 21) F ht wd_237 dX3_comparePairs_21 ?_
    refine gfX1_wooers (pc := 24) F ht.2.2.2.1 wd_67 dX3_comparePairs_24 ?_
    rcases ite_elim hf with ⟨c5, hf⟩ | ⟨c5, hf⟩
    · refine J_icmp_geT (pc := 27) F (tgt := 56) dX3_comparePairs_27 (by decide) c5 ?_
      obtain ⟨x6, ex6, hf⟩ := nm_elim hf
      refine J_iinc (pc := 56) F (lv' := [(2, .int x6), (0, .ref (ad 208)), (1, .int b4.1), (3, .int b4.2.1)]) dX3_comparePairs_56 2 rfl (ex6.trans (congrArg _ ki_1.symm)) (by decide) rfl ?_
      refine J_goto (pc := 59) F (tgt := 4) dX3_comparePairs_59 (by decide) ?_
      refine J_sub [1, 2, 0] rfl ?_
      exact ih1 (b4.1, x6, b4.2.2) hf
    · refine J_icmp_geF (pc := 27) F (tgt := 56) dX3_comparePairs_27 (by decide) c5 ?_
      refine J_aload_n (pc := 30) F dX3_comparePairs_30 rfl 0 rfl ?_
      refine gfX3_pairs (pc := 31) F ht wd_244 dX3_comparePairs_31 ?_
      refine J_iload_n (pc := 34) F dX3_comparePairs_34 rfl 1 rfl ?_
      refine J_aload_n (pc := 35) F dX3_comparePairs_35 rfl 0 rfl ?_
      refine gfX3_now (pc := 36) F ht wd_237 dX3_comparePairs_36 ?_
      refine J_iload_n (pc := 39) F dX3_comparePairs_39 rfl 2 rfl ?_
      refine J_iload_n (pc := 40) F dX3_comparePairs_40 rfl 3 rfl ?_
      obtain ⟨q7, h7, hf⟩ := bind_elim hf
      refine J_callVI (pc := 41) F (c_X1_differing hI ht.2.2.2.1 h7) (by omega) (by decide) (tabN ht.2.2.2.1) (ht.2.2.2.1.2.1 _) rfl wc_X1_differing wd_492 rfl rfl (Nat.le_of_ble_eq_true rfl) dX3_comparePairs_41 ?_
      obtain ⟨q8, h8, hf⟩ := bind_elim hf
      refine J_callSU (pc := 44) F (c_X3_put hI ht.2.2.2.2.2.2.2.2.2.2 h8) (by omega) (by decide) wc_X3_put wd_441 rfl rfl (Nat.le_of_ble_eq_true rfl) dX3_comparePairs_44 ?_
      obtain ⟨x9, ex9, hf⟩ := nm_elim hf
      refine J_iinc (pc := 47) F (lv' := [(1, .int x9), (0, .ref (ad 208)), (2, .int b1.2.1), (3, .int b4.2.1)]) dX3_comparePairs_47 1 rfl (ex9.trans (congrArg _ ki_1.symm)) (by decide) rfl ?_
      obtain ⟨x10, ex10, hf⟩ := nm_elim hf
      refine J_iinc (pc := 50) F (lv' := [(3, .int x10), (1, .int x9), (0, .ref (ad 208)), (2, .int b1.2.1)]) dX3_comparePairs_50 3 rfl (ex10.trans (congrArg _ ki_1.symm)) (by decide) rfl ?_
      refine J_goto (pc := 53) F (tgt := 19) dX3_comparePairs_53 (by decide) ?_
      refine J_sub [2, 1, 3, 0] rfl ?_
      exact ih4 (x9, x10, q8.2) hf
set_option maxHeartbeats 4000000 in
set_option maxRecDepth 100000 in
theorem c_X3_partsAll {l : Launch} {E : En} {ad : Nat → Nat} {G : Lay} {n : Nat} (hI : adI ad n) (ht : RooAt E ad G n) {a0 : Int32} {a1 : Int32} {σ : St} {res : Int32 × St} (hf : f_X3_partsAll a0 a1 σ = some res) : Ct l yX3_partsAll cX3_partsAll 4 (some .boolean) 1 E ad G n [.ref (ad 208), .int a0, .int a1] σ (some (.int res.1)) res.2 := by
  unfold f_X3_partsAll at hf
  refine J_start (own := RX3) (lv := [(0, .ref (ad 208)), (1, .int a0), (2, .int a1)]) pnX3 rfl hI (Nat.le_of_ble_eq_true rfl) rfl (fun p e s m args below meth c F => ?_)
  refine J_iconst (pc := 0) F dX3_partsAll_0 ki_0 ?_
  refine J_istore_n (pc := 1) F (lv' := [(3, .int (0 : Int32)), (0, .ref (ad 208)), (1, .int a0), (2, .int a1)]) dX3_partsAll_1 rfl (by decide) rfl ?_
  refine J_sub [1, 2, 3, 0] rfl ?_
  refine lp_ind (P := fun (b1 : Int32 × St) => J p l e 1 s m args below meth c E ad G n (QI below E ad G n args s res) 4 b1.2 2 [(0, .ref (ad 208)), (1, .int a0), (2, .int a1), (3, .int b1.1)] []) (fun r1 ih1 b1 hf => ?_) FU ((0 : Int32), σ) hf
  show J p l e 1 s m args below meth c E ad G n (QI below E ad G n args s res) 4 b1.2 2 [(0, .ref (ad 208)), (1, .int a0), (2, .int a1), (3, .int b1.1)] []
  refine J_iload_n (pc := 2) F dX3_partsAll_2 rfl 3 rfl ?_
  refine J_iload_n (pc := 3) F dX3_partsAll_3 rfl 2 rfl ?_
  rcases ite_elim hf with ⟨c2, hf⟩ | ⟨c2, hf⟩
  · refine J_icmp_geT (pc := 4) F (tgt := 28) dX3_partsAll_4 (by decide) c2 ?_
    refine J_iconst (pc := 28) F dX3_partsAll_28 ki_1 ?_
    exact J_iret (pc := 29) F rfl dX3_partsAll_29 hf
  · refine J_icmp_geF (pc := 4) F (tgt := 28) dX3_partsAll_4 (by decide) c2 ?_
    refine J_aload_n (pc := 7) F dX3_partsAll_7 rfl 0 rfl ?_
    refine gfX3_pairs (pc := 8) F ht wd_244 dX3_partsAll_8 ?_
    refine J_iload_n (pc := 11) F dX3_partsAll_11 rfl 3 rfl ?_
    obtain ⟨q3, h3, hf⟩ := bind_elim hf
    refine J_callSI (pc := 12) F (c_X3_at hI ht.2.2.2.2.2.2.2.2.2.2 h3) (by omega) (by decide) wc_X3_at wd_311 rfl rfl (Nat.le_of_ble_eq_true rfl) dX3_partsAll_12 ?_
    refine J_iload_n (pc := 15) F dX3_partsAll_15 rfl 1 rfl ?_
    refine J_iand (pc := 16) F dX3_partsAll_16 ?_
    rcases ite_elim hf with ⟨c4, hf⟩ | ⟨c4, hf⟩
    · refine J_if_neT (pc := 17) F (tgt := 22) dX3_partsAll_17 (by decide) c4 ?_
      obtain ⟨x5, ex5, hf⟩ := nm_elim hf
      refine J_iinc (pc := 22) F (lv' := [(3, .int x5), (0, .ref (ad 208)), (1, .int a0), (2, .int a1)]) dX3_partsAll_22 3 rfl (ex5.trans (congrArg _ ki_1.symm)) (by decide) rfl ?_
      refine J_goto (pc := 25) F (tgt := 2) dX3_partsAll_25 (by decide) ?_
      refine J_sub [1, 2, 3, 0] rfl ?_
      exact ih1 (x5, q3.2) hf
    · refine J_if_neF (pc := 17) F (tgt := 22) dX3_partsAll_17 (by decide) c4 ?_
      refine J_iconst (pc := 20) F dX3_partsAll_20 ki_0 ?_
      exact J_iret (pc := 21) F rfl dX3_partsAll_21 hf
set_option maxHeartbeats 4000000 in
set_option maxRecDepth 100000 in
theorem c_X3_tests {l : Launch} {E : En} {ad : Nat → Nat} {G : Lay} {n : Nat} (hI : adI ad n) (ht : RooAt E ad G n) {a0 : Int32} {σ : St} {res : Int32 × St} (hf : f_X3_tests a0 σ = some res) : Ct l yX3_tests cX3_tests 7 (some .int) 4 E ad G n [.ref (ad 208), .int a0] σ (some (.int res.1)) res.2 := by
  unfold f_X3_tests at hf
  refine J_start (own := RX3) (lv := [(0, .ref (ad 208)), (1, .int a0)]) pnX3 rfl hI (Nat.le_of_ble_eq_true rfl) rfl (fun p e s m args below meth c F => ?_)
  refine J_iload_n (pc := 0) F dX3_tests_0 rfl 1 rfl ?_
  rcases ite_elim hf with ⟨c1, hf⟩ | ⟨c1, hf⟩
  · refine J_if_ltT (pc := 1) F (tgt := 9) dX3_tests_1 (by decide) c1 ?_
    refine J_iconst (pc := 9) F dX3_tests_9 ki_m1 ?_
    exact J_iret (pc := 10) F rfl dX3_tests_10 hf
  · refine J_if_ltF (pc := 1) F (tgt := 9) dX3_tests_1 (by decide) c1 ?_
    refine J_iload_n (pc := 4) F dX3_tests_4 rfl 1 rfl ?_
    refine J_iconst (pc := 5) F dX3_tests_5 ki_1 ?_
    rcases ite_elim hf with ⟨c2, hf⟩ | ⟨c2, hf⟩
    · refine J_icmp_leT (pc := 6) F (tgt := 11) dX3_tests_6 (by decide) c2 ?_
      refine J_aload_n (pc := 11) F dX3_tests_11 rfl 0 rfl ?_
      obtain ⟨q3, h3, hf⟩ := bind_elim hf
      refine J_callVI (pc := 12) F (c_X3_comparePairs hI ht h3) (by omega) (by decide) (rooN ht) (ht.2.1 _) rfl wc_X3_comparePairs wd_488 rfl rfl (Nat.le_of_ble_eq_true rfl) dX3_tests_12 ?_
      refine J_istore_n (pc := 15) F (lv' := [(2, .int q3.1), (0, .ref (ad 208)), (1, .int a0)]) dX3_tests_15 rfl (by decide) rfl ?_
      refine J_bipush (pc := 16) F dX3_tests_16 kb_m4 ?_
      refine J_istore_n (pc := 18) F (lv' := [(3, .int (-4 : Int32)), (2, .int q3.1), (0, .ref (ad 208)), (1, .int a0)]) dX3_tests_18 rfl (by decide) rfl ?_
      refine J_bipush (pc := 19) F dX3_tests_19 kb_m4 ?_
      refine J_istore (pc := 21) F (lv' := [(4, .int (-4 : Int32)), (3, .int (-4 : Int32)), (2, .int q3.1), (0, .ref (ad 208)), (1, .int a0)]) dX3_tests_21 (by decide) rfl ?_
      refine J_iconst (pc := 23) F dX3_tests_23 ki_0 ?_
      refine J_istore (pc := 24) F (lv' := [(5, .int (0 : Int32)), (4, .int (-4 : Int32)), (3, .int (-4 : Int32)), (2, .int q3.1), (0, .ref (ad 208)), (1, .int a0)]) dX3_tests_24 (by decide) rfl ?_
      refine J_sub [4, 5, 3, 2, 1, 0] rfl ?_
      refine lp_ind (P := fun (b4 : Int32 × Int32 × Int32 × St) => J p l e 4 s m args below meth c E ad G n (QI below E ad G n args s res) 7 b4.2.2.2 26 [(0, .ref (ad 208)), (1, .int a0), (2, .int q3.1), (3, .int b4.1), (4, .int b4.2.1), (5, .int b4.2.2.1)] []) (fun r4 ih4 b4 hf => ?_) FU ((-4 : Int32), (-4 : Int32), (0 : Int32), q3.2) hf
      show J p l e 4 s m args below meth c E ad G n (QI below E ad G n args s res) 7 b4.2.2.2 26 [(0, .ref (ad 208)), (1, .int a0), (2, .int q3.1), (3, .int b4.1), (4, .int b4.2.1), (5, .int b4.2.2.1)] []
      refine J_iload (pc := 26) F dX3_tests_26 5 rfl ?_
      refine J_iconst (pc := 28) F dX3_tests_28 ki_1 ?_
      refine J_aload_n (pc := 29) F dX3_tests_29 rfl 0 rfl ?_
      refine gfX3_now (pc := 30) F ht wd_237 dX3_tests_30 ?_
      refine gfX1_words (pc := 33) F ht.2.2.2.1 wd_63 dX3_tests_33 ?_
      refine J_ishl (pc := 36) F dX3_tests_36 ?_
      rcases ite_elim hf with ⟨c5, hf⟩ | ⟨c5, hf⟩
      · refine J_icmp_geT (pc := 37) F (tgt := 82) dX3_tests_37 (by decide) c5 ?_
        refine J_iload_n (pc := 82) F dX3_tests_82 rfl 1 rfl ?_
        rcases ite_elim hf with ⟨c6, hf⟩ | ⟨c6, hf⟩
        · refine J_if_neT (pc := 83) F (tgt := 90) dX3_tests_83 (by decide) c6 ?_
          refine J_iload (pc := 90) F dX3_tests_90 4 rfl ?_
          exact J_iret (pc := 92) F rfl dX3_tests_92 hf
        · refine J_if_neF (pc := 83) F (tgt := 90) dX3_tests_83 (by decide) c6 ?_
          refine J_iload_n (pc := 86) F dX3_tests_86 rfl 3 rfl ?_
          refine J_goto (pc := 87) F (tgt := 92) dX3_tests_87 (by decide) ?_
          exact J_iret (pc := 92) F rfl dX3_tests_92 hf
      · refine J_icmp_geF (pc := 37) F (tgt := 82) dX3_tests_37 (by decide) c5 ?_
        refine J_iload (pc := 40) F dX3_tests_40 5 rfl ?_
        obtain ⟨q7, h7, hf⟩ := bind_elim hf
        refine J_callSI (pc := 42) F (c_J6_bitCount_0f7a4 hI  h7) (by omega) (by decide) wc_J6_bitCount_0f7a4 wd_483 rfl rfl (Nat.le_of_ble_eq_true rfl) dX3_tests_42 ?_
        refine J_istore (pc := 45) F (lv' := [(6, .int q7.1), (0, .ref (ad 208)), (1, .int a0), (2, .int q3.1), (3, .int b4.1), (4, .int b4.2.1), (5, .int b4.2.2.1)]) dX3_tests_45 (by decide) rfl ?_
        refine J_iload_n (pc := 47) F dX3_tests_47 rfl 4 rfl ?_
        refine J_bipush (pc := 48) F dX3_tests_48 kb_m4 ?_
        obtain ⟨k8, hk8, hf⟩ := jn_elim hf
        have hJk8 : ∀ (q8 : Int32 × Int32 × St), k8 q8 = some res → J p l e 4 s m args below meth c E ad G n (QI below E ad G n args s res) 7 q8.2.2 76 [(0, .ref (ad 208)), (1, .int a0), (2, .int q3.1), (3, .int q8.1), (4, .int q8.2.1), (5, .int b4.2.2.1)] [] := by
          intro q8 hf
          replace hf := hk8 q8 hf
          obtain ⟨x14, ex14, hf⟩ := nm_elim hf
          refine J_iinc (pc := 76) F (lv' := [(5, .int x14), (0, .ref (ad 208)), (1, .int a0), (2, .int q3.1), (3, .int q8.1), (4, .int q8.2.1)]) dX3_tests_76 5 rfl (ex14.trans (congrArg _ ki_1.symm)) (by decide) rfl ?_
          refine J_goto (pc := 79) F (tgt := 26) dX3_tests_79 (by decide) ?_
          refine J_sub [1, 2, 3, 4, 5, 0] rfl ?_
          exact ih4 (q8.1, q8.2.1, x14, q8.2.2) hf
        clear hk8
        obtain ⟨k9, hk9, hf⟩ := jn_elim hf
        have hJk9 : ∀ (q9 : St), k9 q9 = some res → J p l e 4 s m args below meth c E ad G n (QI below E ad G n args s res) 7 q9 59 [(0, .ref (ad 208)), (1, .int a0), (2, .int q3.1), (3, .int b4.1), (4, .int b4.2.1), (5, .int b4.2.2.1), (6, .int q7.1)] [] := by
          intro q9 hf
          replace hf := hk9 q9 hf
          refine J_aload_n (pc := 59) F dX3_tests_59 rfl 0 rfl ?_
          refine J_iload (pc := 60) F dX3_tests_60 5 rfl ?_
          refine J_iload_n (pc := 62) F dX3_tests_62 rfl 2 rfl ?_
          obtain ⟨q12, h12, hf⟩ := bind_elim hf
          refine J_callVI (pc := 63) F (c_X3_partsAll hI ht h12) (by omega) (by decide) (rooN ht) (ht.2.1 _) rfl wc_X3_partsAll wd_496 rfl rfl (Nat.le_of_ble_eq_true rfl) dX3_tests_63 ?_
          rcases ite_elim hf with ⟨c13, hf⟩ | ⟨c13, hf⟩
          · refine J_if_eqT (pc := 66) F (tgt := 76) dX3_tests_66 (by decide) c13 ?_
            refine J_sub [0, 1, 2, 3, 4, 5] rfl ?_
            exact hJk8 (b4.1, b4.2.1, q12.2) hf
          · refine J_if_eqF (pc := 66) F (tgt := 76) dX3_tests_66 (by decide) c13 ?_
            refine J_iload (pc := 69) F dX3_tests_69 6 rfl ?_
            refine J_istore_n (pc := 71) F (lv' := [(3, .int q7.1), (0, .ref (ad 208)), (1, .int a0), (2, .int q3.1), (4, .int b4.2.1), (5, .int b4.2.2.1), (6, .int q7.1)]) dX3_tests_71 rfl (by decide) rfl ?_
            refine J_iload (pc := 72) F dX3_tests_72 5 rfl ?_
            refine J_istore (pc := 74) F (lv' := [(4, .int b4.2.2.1), (3, .int q7.1), (0, .ref (ad 208)), (1, .int a0), (2, .int q3.1), (5, .int b4.2.2.1), (6, .int q7.1)]) dX3_tests_74 (by decide) rfl ?_
            refine J_sub [2, 3, 4, 1, 0, 5] rfl ?_
            exact hJk8 (q7.1, b4.2.2.1, q12.2) hf
        clear hk9
        rcases ite_elim hf with ⟨c10, hf⟩ | ⟨c10, hf⟩
        · refine J_icmp_eqT (pc := 50) F (tgt := 59) dX3_tests_50 (by decide) c10 ?_
          refine J_sub [1, 2, 3, 4, 5, 6, 0] rfl ?_
          exact hJk9 q7.2 hf
        · refine J_icmp_eqF (pc := 50) F (tgt := 59) dX3_tests_50 (by decide) c10 ?_
          refine J_iload (pc := 53) F dX3_tests_53 0 rfl ?_
          refine J_iload_n (pc := 55) F dX3_tests_55 rfl 4 rfl ?_
          rcases ite_elim hf with ⟨c11, hf⟩ | ⟨c11, hf⟩
          · refine J_icmp_geT (pc := 56) F (tgt := 76) dX3_tests_56 (by decide) c11 ?_
            refine J_sub [1, 2, 3, 4, 5, 6] rfl ?_
            exact hJk8 (b4.1, b4.2.1, q7.2) hf
          · refine J_icmp_geF (pc := 56) F (tgt := 76) dX3_tests_56 (by decide) c11 ?_
            refine J_sub [1, 2, 3, 4, 5, 6, 0] rfl ?_
            exact hJk9 q7.2 hf
    · refine J_icmp_leF (pc := 6) F (tgt := 11) dX3_tests_6 (by decide) c2 ?_
      refine J_iconst (pc := 9) F dX3_tests_9 ki_m1 ?_
      exact J_iret (pc := 10) F rfl dX3_tests_10 hf
set_option maxHeartbeats 4000000 in
set_option maxRecDepth 100000 in
theorem c_X3_other {l : Launch} {E : En} {ad : Nat → Nat} {G : Lay} {n : Nat} (hI : adI ad n) (ht : RooAt E ad G n) {σ : St} {res : Int32 × St} (hf : f_X3_other  σ = some res) : Ct l yX3_other cX3_other 3 (some .int) 4 E ad G n [.ref (ad 208)] σ (some (.int res.1)) res.2 := by
  unfold f_X3_other at hf
  refine J_start (own := RX3) (lv := [(0, .ref (ad 208))]) pnX3 rfl hI (Nat.le_of_ble_eq_true rfl) rfl (fun p e s m args below meth c F => ?_)
  refine J_iconst (pc := 0) F dX3_other_0 ki_0 ?_
  refine J_istore_n (pc := 1) F (lv' := [(1, .int (0 : Int32)), (0, .ref (ad 208))]) dX3_other_1 rfl (by decide) rfl ?_
  refine J_iconst (pc := 2) F dX3_other_2 ki_0 ?_
  refine J_istore_n (pc := 3) F (lv' := [(2, .int (0 : Int32)), (1, .int (0 : Int32)), (0, .ref (ad 208))]) dX3_other_3 rfl (by decide) rfl ?_
  refine J_sub [2, 1, 0] rfl ?_
  refine lp_ind (P := fun (b1 : Int32 × Int32 × St) => J p l e 4 s m args below meth c E ad G n (QI below E ad G n args s res) 3 b1.2.2 4 [(0, .ref (ad 208)), (1, .int b1.1), (2, .int b1.2.1)] []) (fun r1 ih1 b1 hf => ?_) FU ((0 : Int32), (0 : Int32), σ) hf
  show J p l e 4 s m args below meth c E ad G n (QI below E ad G n args s res) 3 b1.2.2 4 [(0, .ref (ad 208)), (1, .int b1.1), (2, .int b1.2.1)] []
  refine J_iload_n (pc := 4) F dX3_other_4 rfl 2 rfl ?_
  refine J_aload_n (pc := 5) F dX3_other_5 rfl 0 rfl ?_
  refine gfX3_now (pc := 6) F ht wd_237 dX3_other_6 ?_
  refine gfX1_words (pc := 9) F ht.2.2.2.1 wd_63 dX3_other_9 ?_
  rcases ite_elim hf with ⟨c2, hf⟩ | ⟨c2, hf⟩
  · refine J_icmp_geT (pc := 12) F (tgt := 38) dX3_other_12 (by decide) c2 ?_
    refine J_iload_n (pc := 38) F dX3_other_38 rfl 1 rfl ?_
    exact J_iret (pc := 39) F rfl dX3_other_39 hf
  · refine J_icmp_geF (pc := 12) F (tgt := 38) dX3_other_12 (by decide) c2 ?_
    refine J_aload_n (pc := 15) F dX3_other_15 rfl 0 rfl ?_
    refine gfX3_now (pc := 16) F ht wd_237 dX3_other_16 ?_
    refine J_iload_n (pc := 19) F dX3_other_19 rfl 2 rfl ?_
    obtain ⟨q3, h3, hf⟩ := bind_elim hf
    refine J_callVI (pc := 20) F (c_X1_isAnother hI ht.2.2.2.1 h3) (by omega) (by decide) (tabN ht.2.2.2.1) (ht.2.2.2.1.2.1 _) rfl wc_X1_isAnother wd_504 rfl rfl (Nat.le_of_ble_eq_true rfl) dX3_other_20 ?_
    obtain ⟨k4, hk4, hf⟩ := jn_elim hf
    have hJk4 : ∀ (q4 : Int32 × St), k4 q4 = some res → J p l e 4 s m args below meth c E ad G n (QI below E ad G n args s res) 3 q4.2 32 [(0, .ref (ad 208)), (1, .int q4.1), (2, .int b1.2.1)] [] := by
      intro q4 hf
      replace hf := hk4 q4 hf
      obtain ⟨x7, ex7, hf⟩ := nm_elim hf
      refine J_iinc (pc := 32) F (lv' := [(2, .int x7), (0, .ref (ad 208)), (1, .int q4.1)]) dX3_other_32 2 rfl (ex7.trans (congrArg _ ki_1.symm)) (by decide) rfl ?_
      refine J_goto (pc := 35) F (tgt := 4) dX3_other_35 (by decide) ?_
      refine J_sub [1, 2, 0] rfl ?_
      exact ih1 (q4.1, x7, q4.2) hf
    clear hk4
    rcases ite_elim hf with ⟨c5, hf⟩ | ⟨c5, hf⟩
    · refine J_if_eqT (pc := 23) F (tgt := 32) dX3_other_23 (by decide) c5 ?_
      exact hJk4 (b1.1, q3.2) hf
    · refine J_if_eqF (pc := 23) F (tgt := 32) dX3_other_23 (by decide) c5 ?_
      refine J_iload_n (pc := 26) F dX3_other_26 rfl 1 rfl ?_
      refine J_iconst (pc := 27) F dX3_other_27 ki_1 ?_
      refine J_iload_n (pc := 28) F dX3_other_28 rfl 2 rfl ?_
      refine J_ishl (pc := 29) F dX3_other_29 ?_
      refine J_ior (pc := 30) F dX3_other_30 ?_
      obtain ⟨x6, ex6, hf⟩ := nm_elim hf
      refine J_ti ex6 ?_
      refine J_istore_n (pc := 31) F (lv' := [(1, .int x6), (0, .ref (ad 208)), (2, .int b1.2.1)]) dX3_other_31 rfl (by decide) rfl ?_
      refine J_sub [1, 0, 2] rfl ?_
      exact hJk4 (x6, q3.2) hf
set_option maxHeartbeats 4000000 in
set_option maxRecDepth 100000 in
theorem c_X3_hear {l : Launch} {E : En} {ad : Nat → Nat} {G : Lay} {n : Nat} (hI : adI ad n) (ht : RooAt E ad G n) {a0 : Int32} {a1 : Int32} {a2 : Int32} {σ : St} {res : Int32 × St} (hf : f_X3_hear a0 a1 a2 σ = some res) : Ct l yX3_hear cX3_hear 4 (some .int) 2 E ad G n [.ref (ad 208), .int a0, .int a1, .int a2] σ (some (.int res.1)) res.2 := by
  unfold f_X3_hear at hf
  refine J_start (own := RX3) (lv := [(0, .ref (ad 208)), (1, .int a0), (2, .int a1), (3, .int a2)]) pnX3 rfl hI (Nat.le_of_ble_eq_true rfl) rfl (fun p e s m args below meth c F => ?_)
  refine J_aload_n (pc := 0) F dX3_hear_0 rfl 0 rfl ?_
  refine gfX3_now (pc := 1) F ht wd_237 dX3_hear_1 ?_
  refine J_iload_n (pc := 4) F dX3_hear_4 rfl 1 rfl ?_
  obtain ⟨q1, h1, hf⟩ := bind_elim hf
  refine J_callVI (pc := 5) F (c_X1_isWord hI ht.2.2.2.1 h1) (by omega) (by decide) (tabN ht.2.2.2.1) (ht.2.2.2.1.2.1 _) rfl wc_X1_isWord wd_307 rfl rfl (Nat.le_of_ble_eq_true rfl) dX3_hear_5 ?_
  rcases ite_elim hf with ⟨c2, hf⟩ | ⟨c2, hf⟩
  · refine J_if_eqT (pc := 8) F (tgt := 31) dX3_hear_8 (by decide) c2 ?_
    refine J_iconst (pc := 31) F dX3_hear_31 ki_m1 ?_
    exact J_iret (pc := 32) F rfl dX3_hear_32 hf
  · refine J_if_eqF (pc := 8) F (tgt := 31) dX3_hear_8 (by decide) c2 ?_
    refine J_iload_n (pc := 11) F dX3_hear_11 rfl 2 rfl ?_
    rcases ite_elim hf with ⟨c3, hf⟩ | ⟨c3, hf⟩
    · refine J_if_ltT (pc := 12) F (tgt := 31) dX3_hear_12 (by decide) c3 ?_
      refine J_iconst (pc := 31) F dX3_hear_31 ki_m1 ?_
      exact J_iret (pc := 32) F rfl dX3_hear_32 hf
    · refine J_if_ltF (pc := 12) F (tgt := 31) dX3_hear_12 (by decide) c3 ?_
      refine J_iload_n (pc := 15) F dX3_hear_15 rfl 2 rfl ?_
      refine J_bipush (pc := 16) F dX3_hear_16 kb_10 ?_
      rcases ite_elim hf with ⟨c4, hf⟩ | ⟨c4, hf⟩
      · refine J_icmp_gtT (pc := 18) F (tgt := 31) dX3_hear_18 (by decide) c4 ?_
        refine J_iconst (pc := 31) F dX3_hear_31 ki_m1 ?_
        exact J_iret (pc := 32) F rfl dX3_hear_32 hf
      · refine J_icmp_gtF (pc := 18) F (tgt := 31) dX3_hear_18 (by decide) c4 ?_
        refine J_iload_n (pc := 21) F dX3_hear_21 rfl 3 rfl ?_
        rcases ite_elim hf with ⟨c5, hf⟩ | ⟨c5, hf⟩
        · refine J_if_ltT (pc := 22) F (tgt := 31) dX3_hear_22 (by decide) c5 ?_
          refine J_iconst (pc := 31) F dX3_hear_31 ki_m1 ?_
          exact J_iret (pc := 32) F rfl dX3_hear_32 hf
        · refine J_if_ltF (pc := 22) F (tgt := 31) dX3_hear_22 (by decide) c5 ?_
          refine J_iload_n (pc := 25) F dX3_hear_25 rfl 3 rfl ?_
          refine J_bipush (pc := 26) F dX3_hear_26 kb_20 ?_
          rcases ite_elim hf with ⟨c6, hf⟩ | ⟨c6, hf⟩
          · refine J_icmp_leT (pc := 28) F (tgt := 33) dX3_hear_28 (by decide) c6 ?_
            refine J_aload_n (pc := 33) F dX3_hear_33 rfl 0 rfl ?_
            refine gfX3_heard (pc := 34) F ht wd_243 dX3_hear_34 ?_
            refine J_iload_n (pc := 37) F dX3_hear_37 rfl 1 rfl ?_
            refine J_iload_n (pc := 38) F dX3_hear_38 rfl 2 rfl ?_
            refine J_iload_n (pc := 39) F dX3_hear_39 rfl 3 rfl ?_
            obtain ⟨q7, h7, hf⟩ := bind_elim hf
            refine J_callVI (pc := 40) F (c_X0_add hI ht.2.2.2.2.2.2.2.2.2.1 h7) (by omega) (by decide) (heaN ht.2.2.2.2.2.2.2.2.2.1) (ht.2.2.2.2.2.2.2.2.2.1.2.1 _) rfl wc_X0_add wd_517 rfl rfl (Nat.le_of_ble_eq_true rfl) dX3_hear_40 ?_
            rcases ite_elim hf with ⟨c8, hf⟩ | ⟨c8, hf⟩
            · refine J_if_eqT (pc := 43) F (tgt := 56) dX3_hear_43 (by decide) c8 ?_
              refine J_bipush (pc := 56) F dX3_hear_56 kb_m3 ?_
              exact J_iret (pc := 58) F rfl dX3_hear_58 hf
            · refine J_if_eqF (pc := 43) F (tgt := 56) dX3_hear_43 (by decide) c8 ?_
              refine J_aload_n (pc := 46) F dX3_hear_46 rfl 0 rfl ?_
              refine gfX3_heard (pc := 47) F ht wd_243 dX3_hear_47 ?_
              refine gfX0_count (pc := 50) F ht.2.2.2.2.2.2.2.2.2.1 wd_225 dX3_hear_50 ?_
              refine J_goto (pc := 53) F (tgt := 58) dX3_hear_53 (by decide) ?_
              exact J_iret (pc := 58) F rfl dX3_hear_58 hf
          · refine J_icmp_leF (pc := 28) F (tgt := 33) dX3_hear_28 (by decide) c6 ?_
            refine J_iconst (pc := 31) F dX3_hear_31 ki_m1 ?_
            exact J_iret (pc := 32) F rfl dX3_hear_32 hf
set_option maxHeartbeats 4000000 in
set_option maxRecDepth 100000 in
theorem c_X3_forget {l : Launch} {E : En} {ad : Nat → Nat} {G : Lay} {n : Nat} (hI : adI ad n) (ht : RooAt E ad G n) {σ : St} {res : Int32 × St} (hf : f_X3_forget  σ = some res) : Ct l yX3_forget cX3_forget 2 (some .int) 0 E ad G n [.ref (ad 208)] σ (some (.int res.1)) res.2 := by
  unfold f_X3_forget at hf
  refine J_start (own := RX3) (lv := [(0, .ref (ad 208))]) pnX3 rfl hI (Nat.le_of_ble_eq_true rfl) rfl (fun p e s m args below meth c F => ?_)
  refine J_aload_n (pc := 0) F dX3_forget_0 rfl 0 rfl ?_
  refine gfX3_heard (pc := 1) F ht wd_243 dX3_forget_1 ?_
  refine gfX0_count (pc := 4) F ht.2.2.2.2.2.2.2.2.2.1 wd_225 dX3_forget_4 ?_
  obtain ⟨x1, ex1, hf⟩ := nm_elim hf
  refine J_ti ex1 ?_
  refine J_istore_n (pc := 7) F (lv' := [(1, .int x1), (0, .ref (ad 208))]) dX3_forget_7 rfl (by decide) rfl ?_
  refine J_aload_n (pc := 8) F dX3_forget_8 rfl 1 rfl ?_
  refine gfX3_heard (pc := 9) F ht wd_243 dX3_forget_9 ?_
  refine J_iconst (pc := 12) F dX3_forget_12 ki_0 ?_
  obtain ⟨σ2, eσ2, hf⟩ := nm_elim hf
  refine pfX0_count (pc := 13) F ht.2.2.2.2.2.2.2.2.2.1 wd_225 dX3_forget_13 eσ2 ?_
  refine J_iload_n (pc := 16) F dX3_forget_16 rfl 0 rfl ?_
  exact J_iret (pc := 17) F rfl dX3_forget_17 hf
set_option maxHeartbeats 4000000 in
set_option maxRecDepth 100000 in
theorem c_X3_which {l : Launch} {E : En} {ad : Nat → Nat} {G : Lay} {n : Nat} (hI : adI ad n) (ht : RooAt E ad G n) {σ : St} {res : Int32 × St} (hf : f_X3_which  σ = some res) : Ct l yX3_which cX3_which 1 (some .int) 5 E ad G n [.ref (ad 208)] σ (some (.int res.1)) res.2 := by
  unfold f_X3_which at hf
  refine J_start (own := RX3) (lv := [(0, .ref (ad 208))]) pnX3 rfl hI (Nat.le_of_ble_eq_true rfl) rfl (fun p e s m args below meth c F => ?_)
  refine J_aload_n (pc := 0) F dX3_which_0 rfl 0 rfl ?_
  refine gfX3_trial (pc := 1) F ht wd_239 dX3_which_1 ?_
  refine J_aload_n (pc := 4) F dX3_which_4 rfl 0 rfl ?_
  refine gfX3_now (pc := 5) F ht wd_237 dX3_which_5 ?_
  obtain ⟨q1, h1, hf⟩ := bind_elim hf
  refine J_callVU (pc := 8) F (c_X1_copy hI ht.2.2.2.2.2.1 (optTab ht.2.2.2.1) h1) (by omega) (by decide) (tabN ht.2.2.2.2.2.1) (ht.2.2.2.2.2.1.2.1 _) rfl wc_X1_copy wd_290 rfl rfl (Nat.le_of_ble_eq_true rfl) dX3_which_8 ?_
  refine J_aload_n (pc := 11) F dX3_which_11 rfl 0 rfl ?_
  refine gfX3_heard (pc := 12) F ht wd_243 dX3_which_12 ?_
  refine J_aload_n (pc := 15) F dX3_which_15 rfl 0 rfl ?_
  refine gfX3_trial (pc := 16) F ht wd_239 dX3_which_16 ?_
  obtain ⟨q2, h2, hf⟩ := bind_elim hf
  refine J_callVI (pc := 19) F (c_X0_fitting hI ht.2.2.2.2.2.2.2.2.2.1 ht.2.2.2.2.2.1 h2) (by omega) (by decide) (heaN ht.2.2.2.2.2.2.2.2.2.1) (ht.2.2.2.2.2.2.2.2.2.1.2.1 _) rfl wc_X0_fitting wd_530 rfl rfl (Nat.le_of_ble_eq_true rfl) dX3_which_19 ?_
  exact J_iret (pc := 22) F rfl dX3_which_22 hf
set_option maxHeartbeats 4000000 in
set_option maxRecDepth 100000 in
theorem c_X3_kinds {l : Launch} {E : En} {ad : Nat → Nat} {G : Lay} {n : Nat} (hI : adI ad n) (ht : RooAt E ad G n) {a0 : Int32} {σ : St} {res : Int32 × St} (hf : f_X3_kinds a0 σ = some res) : Ct l yX3_kinds cX3_kinds 4 (some .int) 5 E ad G n [.ref (ad 208), .int a0] σ (some (.int res.1)) res.2 := by
  unfold f_X3_kinds at hf
  refine J_start (own := RX3) (lv := [(0, .ref (ad 208)), (1, .int a0)]) pnX3 rfl hI (Nat.le_of_ble_eq_true rfl) rfl (fun p e s m args below meth c F => ?_)
  refine J_aload_n (pc := 0) F dX3_kinds_0 rfl 0 rfl ?_
  refine gfX3_now (pc := 1) F ht wd_237 dX3_kinds_1 ?_
  refine J_iload_n (pc := 4) F dX3_kinds_4 rfl 1 rfl ?_
  obtain ⟨q1, h1, hf⟩ := bind_elim hf
  refine J_callVI (pc := 5) F (c_X1_isWooer hI ht.2.2.2.1 h1) (by omega) (by decide) (tabN ht.2.2.2.1) (ht.2.2.2.1.2.1 _) rfl wc_X1_isWooer wd_316 rfl rfl (Nat.le_of_ble_eq_true rfl) dX3_kinds_5 ?_
  rcases ite_elim hf with ⟨c2, hf⟩ | ⟨c2, hf⟩
  · refine J_if_neT (pc := 8) F (tgt := 13) dX3_kinds_8 (by decide) c2 ?_
    refine J_iconst (pc := 13) F dX3_kinds_13 ki_0 ?_
    refine J_istore_n (pc := 14) F (lv' := [(2, .int (0 : Int32)), (0, .ref (ad 208)), (1, .int a0)]) dX3_kinds_14 rfl (by decide) rfl ?_
    refine J_iconst (pc := 15) F dX3_kinds_15 ki_0 ?_
    refine J_istore_n (pc := 16) F (lv' := [(3, .int (0 : Int32)), (2, .int (0 : Int32)), (0, .ref (ad 208)), (1, .int a0)]) dX3_kinds_16 rfl (by decide) rfl ?_
    refine J_sub [2, 3, 1, 0] rfl ?_
    refine lp_ind (P := fun (b3 : Int32 × Int32 × St) => J p l e 5 s m args below meth c E ad G n (QI below E ad G n args s res) 4 b3.2.2 17 [(0, .ref (ad 208)), (1, .int a0), (2, .int b3.1), (3, .int b3.2.1)] []) (fun r3 ih3 b3 hf => ?_) FU ((0 : Int32), (0 : Int32), q1.2) hf
    show J p l e 5 s m args below meth c E ad G n (QI below E ad G n args s res) 4 b3.2.2 17 [(0, .ref (ad 208)), (1, .int a0), (2, .int b3.1), (3, .int b3.2.1)] []
    refine J_iload_n (pc := 17) F dX3_kinds_17 rfl 3 rfl ?_
    refine J_iconst (pc := 18) F dX3_kinds_18 ki_3 ?_
    rcases ite_elim hf with ⟨c4, hf⟩ | ⟨c4, hf⟩
    · refine J_icmp_gtT (pc := 19) F (tgt := 76) dX3_kinds_19 (by decide) c4 ?_
      refine J_iload_n (pc := 76) F dX3_kinds_76 rfl 2 rfl ?_
      exact J_iret (pc := 77) F rfl dX3_kinds_77 hf
    · refine J_icmp_gtF (pc := 19) F (tgt := 76) dX3_kinds_19 (by decide) c4 ?_
      refine J_aload_n (pc := 22) F dX3_kinds_22 rfl 0 rfl ?_
      refine gfX3_trial (pc := 23) F ht wd_239 dX3_kinds_23 ?_
      refine J_aload_n (pc := 26) F dX3_kinds_26 rfl 0 rfl ?_
      refine gfX3_now (pc := 27) F ht wd_237 dX3_kinds_27 ?_
      obtain ⟨q5, h5, hf⟩ := bind_elim hf
      refine J_callVU (pc := 30) F (c_X1_copy hI ht.2.2.2.2.2.1 (optTab ht.2.2.2.1) h5) (by omega) (by decide) (tabN ht.2.2.2.2.2.1) (ht.2.2.2.2.2.1.2.1 _) rfl wc_X1_copy wd_290 rfl rfl (Nat.le_of_ble_eq_true rfl) dX3_kinds_30 ?_
      refine J_aload_n (pc := 33) F dX3_kinds_33 rfl 0 rfl ?_
      refine gfX3_trial (pc := 34) F ht wd_239 dX3_kinds_34 ?_
      refine gfX1_kind (pc := 37) F ht.2.2.2.2.2.1 wd_52 dX3_kinds_37 ?_
      refine J_iload_n (pc := 40) F dX3_kinds_40 rfl 1 rfl ?_
      refine J_iload_n (pc := 41) F dX3_kinds_41 rfl 3 rfl ?_
      obtain ⟨q6, h6, hf⟩ := bind_elim hf
      refine J_callSU (pc := 42) F (c_X3_put hI (tabA2 ht.2.2.2.2.2.1) h6) (by omega) (by decide) wc_X3_put wd_441 rfl rfl (Nat.le_of_ble_eq_true rfl) dX3_kinds_42 ?_
      refine J_aload_n (pc := 45) F dX3_kinds_45 rfl 0 rfl ?_
      refine gfX3_heard (pc := 46) F ht wd_243 dX3_kinds_46 ?_
      refine J_aload_n (pc := 49) F dX3_kinds_49 rfl 0 rfl ?_
      refine gfX3_trial (pc := 50) F ht wd_239 dX3_kinds_50 ?_
      obtain ⟨q7, h7, hf⟩ := bind_elim hf
      refine J_callVI (pc := 53) F (c_X0_fitting hI ht.2.2.2.2.2.2.2.2.2.1 ht.2.2.2.2.2.1 h7) (by omega) (by decide) (heaN ht.2.2.2.2.2.2.2.2.2.1) (ht.2.2.2.2.2.2.2.2.2.1.2.1 _) rfl wc_X0_fitting wd_530 rfl rfl (Nat.le_of_ble_eq_true rfl) dX3_kinds_53 ?_
      refine J_iload_n (pc := 56) F dX3_kinds_56 rfl 1 rfl ?_
      refine J_ishr (pc := 57) F dX3_kinds_57 ?_
      refine J_iconst (pc := 58) F dX3_kinds_58 ki_1 ?_
      refine J_iand (pc := 59) F dX3_kinds_59 ?_
      refine J_iconst (pc := 60) F dX3_kinds_60 ki_1 ?_
      obtain ⟨k8, hk8, hf⟩ := jn_elim hf
      have hJk8 : ∀ (q8 : Int32 × St), k8 q8 = some res → J p l e 5 s m args below meth c E ad G n (QI below E ad G n args s res) 4 q8.2 70 [(0, .ref (ad 208)), (1, .int a0), (2, .int q8.1), (3, .int b3.2.1)] [] := by
        intro q8 hf
        replace hf := hk8 q8 hf
        obtain ⟨x11, ex11, hf⟩ := nm_elim hf
        refine J_iinc (pc := 70) F (lv' := [(3, .int x11), (0, .ref (ad 208)), (1, .int a0), (2, .int q8.1)]) dX3_kinds_70 3 rfl (ex11.trans (congrArg _ ki_1.symm)) (by decide) rfl ?_
        refine J_goto (pc := 73) F (tgt := 17) dX3_kinds_73 (by decide) ?_
        refine J_sub [1, 2, 3, 0] rfl ?_
        exact ih3 (q8.1, x11, q8.2) hf
      clear hk8
      rcases ite_elim hf with ⟨c9, hf⟩ | ⟨c9, hf⟩
      · refine J_icmp_neT (pc := 61) F (tgt := 70) dX3_kinds_61 (by decide) c9 ?_
        exact hJk8 (b3.1, q7.2) hf
      · refine J_icmp_neF (pc := 61) F (tgt := 70) dX3_kinds_61 (by decide) c9 ?_
        refine J_iload_n (pc := 64) F dX3_kinds_64 rfl 2 rfl ?_
        refine J_iconst (pc := 65) F dX3_kinds_65 ki_1 ?_
        refine J_iload_n (pc := 66) F dX3_kinds_66 rfl 3 rfl ?_
        refine J_ishl (pc := 67) F dX3_kinds_67 ?_
        refine J_ior (pc := 68) F dX3_kinds_68 ?_
        obtain ⟨x10, ex10, hf⟩ := nm_elim hf
        refine J_ti ex10 ?_
        refine J_istore_n (pc := 69) F (lv' := [(2, .int x10), (0, .ref (ad 208)), (1, .int a0), (3, .int b3.2.1)]) dX3_kinds_69 rfl (by decide) rfl ?_
        refine J_sub [1, 2, 0, 3] rfl ?_
        exact hJk8 (x10, q7.2) hf
  · refine J_if_neF (pc := 8) F (tgt := 13) dX3_kinds_8 (by decide) c2 ?_
    refine J_iconst (pc := 11) F dX3_kinds_11 ki_m1 ?_
    exact J_iret (pc := 12) F rfl dX3_kinds_12 hf
set_option maxHeartbeats 4000000 in
set_option maxRecDepth 100000 in
theorem c_X3_commonPart {l : Launch} {E : En} {ad : Nat → Nat} {G : Lay} {n : Nat} (hI : adI ad n) {a0 : Int32} {a1 : Int32} {σ : St} {res : Int32 × St} (hf : f_X3_commonPart a0 a1 σ = some res) : Ct l yX3_commonPart cX3_commonPart 4 (some .int) 0 E ad G n [.int a0, .int a1] σ (some (.int res.1)) res.2 := by
  unfold f_X3_commonPart at hf
  refine J_start (own := RX3) (lv := [(0, .int a0), (1, .int a1)]) pnX3 rfl hI (Nat.le_of_ble_eq_true rfl) rfl (fun p e s m args below meth c F => ?_)
  refine J_iconst (pc := 0) F dX3_commonPart_0 ki_0 ?_
  refine J_istore_n (pc := 1) F (lv' := [(2, .int (0 : Int32)), (0, .int a0), (1, .int a1)]) dX3_commonPart_1 rfl (by decide) rfl ?_
  refine J_sub [1, 2, 0] rfl ?_
  refine lp_ind (P := fun (b1 : Int32 × Int32 × Int32 × St) => J p l e 0 s m args below meth c E ad G n (QI below E ad G n args s res) 4 b1.2.2.2 2 [(0, .int b1.1), (1, .int b1.2.1), (2, .int b1.2.2.1)] []) (fun r1 ih1 b1 hf => ?_) FU (a0, a1, (0 : Int32), σ) hf
  show J p l e 0 s m args below meth c E ad G n (QI below E ad G n args s res) 4 b1.2.2.2 2 [(0, .int b1.1), (1, .int b1.2.1), (2, .int b1.2.2.1)] []
  refine J_iload_n (pc := 2) F dX3_commonPart_2 rfl 2 rfl ?_
  refine J_bipush (pc := 3) F dX3_commonPart_3 kb_100 ?_
  rcases ite_elim hf with ⟨c2, hf⟩ | ⟨c2, hf⟩
  · refine J_icmp_geT (pc := 5) F (tgt := 26) dX3_commonPart_5 (by decide) c2 ?_
    refine J_iload_n (pc := 26) F dX3_commonPart_26 rfl 0 rfl ?_
    exact J_iret (pc := 27) F rfl dX3_commonPart_27 hf
  · refine J_icmp_geF (pc := 5) F (tgt := 26) dX3_commonPart_5 (by decide) c2 ?_
    refine J_iload_n (pc := 8) F dX3_commonPart_8 rfl 1 rfl ?_
    rcases ite_elim hf with ⟨c3, hf⟩ | ⟨c3, hf⟩
    · refine J_if_eqT (pc := 9) F (tgt := 26) dX3_commonPart_9 (by decide) c3 ?_
      refine J_iload_n (pc := 26) F dX3_commonPart_26 rfl 0 rfl ?_
      exact J_iret (pc := 27) F rfl dX3_commonPart_27 hf
    · refine J_if_eqF (pc := 9) F (tgt := 26) dX3_commonPart_9 (by decide) c3 ?_
      refine J_iload_n (pc := 12) F dX3_commonPart_12 rfl 0 rfl ?_
      refine J_iload_n (pc := 13) F dX3_commonPart_13 rfl 1 rfl ?_
      obtain ⟨g4, hf⟩ := grd_elim hf
      refine J_irem (pc := 14) F dX3_commonPart_14 g4 ?_
      obtain ⟨x5, ex5, hf⟩ := nm_elim hf
      refine J_ti ex5 ?_
      refine J_istore_n (pc := 15) F (lv' := [(3, .int x5), (0, .int b1.1), (1, .int b1.2.1), (2, .int b1.2.2.1)]) dX3_commonPart_15 rfl (by decide) rfl ?_
      refine J_iload_n (pc := 16) F dX3_commonPart_16 rfl 2 rfl ?_
      refine J_istore_n (pc := 17) F (lv' := [(0, .int b1.2.1), (3, .int x5), (1, .int b1.2.1), (2, .int b1.2.2.1)]) dX3_commonPart_17 rfl (by decide) rfl ?_
      refine J_iload_n (pc := 18) F dX3_commonPart_18 rfl 1 rfl ?_
      refine J_istore_n (pc := 19) F (lv' := [(1, .int x5), (0, .int b1.2.1), (3, .int x5), (2, .int b1.2.2.1)]) dX3_commonPart_19 rfl (by decide) rfl ?_
      obtain ⟨x6, ex6, hf⟩ := nm_elim hf
      refine J_iinc (pc := 20) F (lv' := [(2, .int x6), (1, .int x5), (0, .int b1.2.1), (3, .int x5)]) dX3_commonPart_20 3 rfl (ex6.trans (congrArg _ ki_1.symm)) (by decide) rfl ?_
      refine J_goto (pc := 23) F (tgt := 2) dX3_commonPart_23 (by decide) ?_
      refine J_sub [2, 1, 0] rfl ?_
      exact ih1 (b1.2.1, x5, x6, b1.2.2.2) hf
set_option maxHeartbeats 4000000 in
set_option maxRecDepth 100000 in
theorem c_X3_hailFrom {l : Launch} {E : En} {ad : Nat → Nat} {G : Lay} {n : Nat} (hI : adI ad n) : ∀ (fu : Nat) (a0 a0L : Nat) (ha0 : RowA E ad G n a0 a0L) (a1 : Int32) (a2 : Int32) (a3 : Int32) (a4 : Int32) (σ : St) (res : Int32 × St), f_X3_hailFrom fu a0 a0L a1 a2 a3 a4 σ = some res → Ct l yX3_hailFrom cX3_hailFrom 8 (some .int) (4 + fu) E ad G n [.ref (ad a0), .int a1, .int a2, .int a3, .int a4] σ (some (.int res.1)) res.2 := by
  intro fu
  induction fu with
  | zero => intro a0 a0L ha0 a1 a2 a3 a4 σ res hf; cases hf
  | succ fu ih =>
    intro a0 a0L ha0 a1 a2 a3 a4 σ res hf
    rw [f_X3_hailFrom] at hf
    show Ct l yX3_hailFrom cX3_hailFrom 8 (some .int) (4 + fu + 1) E ad G n [.ref (ad a0), .int a1, .int a2, .int a3, .int a4] σ (some (.int res.1)) res.2
    refine J_start (own := RX3) (lv := [(0, .ref (ad a0)), (1, .int a1), (2, .int a2), (3, .int a3), (4, .int a4)]) pnX3 rfl hI (Nat.le_of_ble_eq_true rfl) rfl (fun p e s m args below meth c F => ?_)
    refine J_aload_n (pc := 0) F dX3_hailFrom_0 rfl 0 rfl ?_
    refine J_iload_n (pc := 1) F dX3_hailFrom_1 rfl 1 rfl ?_
    obtain ⟨q1, h1, hf⟩ := bind_elim hf
    refine J_callSR (pc := 2) F (c_X3_tableAt hI ha0 h1) (by omega) (by decide) wc_X3_tableAt wd_358 rfl rfl (Nat.le_of_ble_eq_true rfl) dX3_hailFrom_2 ?_
    rcases onul_elim hf with ⟨zy2, hf⟩ | ⟨y2, zy2, hf⟩
    · rw [zy2]
      show J p l e (4 + fu + 1) s m args below meth c E ad G n (QI below E ad G n args s res) 8 q1.2 5 [(0, .ref (ad a0)), (1, .int a1), (2, .int a2), (3, .int a3), (4, .int a4)] [.null]
      refine J_astoreN (pc := 5) F (lv' := [(5, .null), (0, .ref (ad a0)), (1, .int a1), (2, .int a2), (3, .int a3), (4, .int a4)]) dX3_hailFrom_5 (by decide) rfl ?_
      refine J_aloadN (pc := 7) F dX3_hailFrom_7 0 rfl ?_
      refine J_ifnonnullN (pc := 9) F dX3_hailFrom_9 ?_
      refine J_iconst (pc := 12) F dX3_hailFrom_12 ki_0 ?_
      exact J_iret (pc := 13) F rfl dX3_hailFrom_13 hf
    · rw [zy2]
      show J p l e (4 + fu + 1) s m args below meth c E ad G n (QI below E ad G n args s res) 8 q1.2 5 [(0, .ref (ad a0)), (1, .int a1), (2, .int a2), (3, .int a3), (4, .int a4)] [.ref (ad y2)]
      refine J_astore (pc := 5) F (lv' := [(5, .ref (ad y2)), (0, .ref (ad a0)), (1, .int a1), (2, .int a2), (3, .int a3), (4, .int a4)]) dX3_hailFrom_5 (by decide) rfl ?_
      refine J_aload (pc := 7) F dX3_hailFrom_7 0 rfl ?_
      refine J_ifnonnull (pc := 9) F (tgt := 14) dX3_hailFrom_9 (by decide) ?_
      refine J_iload_n (pc := 14) F dX3_hailFrom_14 rfl 2 rfl ?_
      refine J_iload_n (pc := 15) F dX3_hailFrom_15 rfl 3 rfl ?_
      rcases ite_elim hf with ⟨c3, hf⟩ | ⟨c3, hf⟩
      · refine J_icmp_ltT (pc := 16) F (tgt := 34) dX3_hailFrom_16 (by decide) c3 ?_
        refine J_aload_n (pc := 34) F dX3_hailFrom_34 rfl 1 rfl ?_
        refine J_iload_n (pc := 35) F dX3_hailFrom_35 rfl 2 rfl ?_
        refine J_iconst (pc := 36) F dX3_hailFrom_36 ki_1 ?_
        refine J_iadd (pc := 37) F dX3_hailFrom_37 ?_
        obtain ⟨q4, h4, hf⟩ := bind_elim hf
        refine J_callSR (pc := 38) F (c_X3_tableAt hI ha0 h4) (by omega) (by decide) wc_X3_tableAt wd_358 rfl rfl (Nat.le_of_ble_eq_true rfl) dX3_hailFrom_38 ?_
        rcases onul_elim hf with ⟨zy5, hf⟩ | ⟨y5, zy5, hf⟩
        · rw [zy5]
          show J p l e (4 + fu + 1) s m args below meth c E ad G n (QI below E ad G n args s res) 8 q4.2 41 [(5, .ref (ad y2)), (0, .ref (ad a0)), (1, .int a1), (2, .int a2), (3, .int a3), (4, .int a4)] [.null]
          refine J_astoreN (pc := 41) F (lv' := [(6, .null), (5, .ref (ad y2)), (0, .ref (ad a0)), (1, .int a1), (2, .int a2), (3, .int a3), (4, .int a4)]) dX3_hailFrom_41 (by decide) rfl ?_
          refine J_aloadN (pc := 43) F dX3_hailFrom_43 0 rfl ?_
          refine J_ifnonnullN (pc := 45) F dX3_hailFrom_45 ?_
          refine J_iconst (pc := 48) F dX3_hailFrom_48 ki_0 ?_
          exact J_iret (pc := 49) F rfl dX3_hailFrom_49 hf
        · rw [zy5]
          show J p l e (4 + fu + 1) s m args below meth c E ad G n (QI below E ad G n args s res) 8 q4.2 41 [(5, .ref (ad y2)), (0, .ref (ad a0)), (1, .int a1), (2, .int a2), (3, .int a3), (4, .int a4)] [.ref (ad y5)]
          refine J_astore (pc := 41) F (lv' := [(6, .ref (ad y5)), (5, .ref (ad y2)), (0, .ref (ad a0)), (1, .int a1), (2, .int a2), (3, .int a3), (4, .int a4)]) dX3_hailFrom_41 (by decide) rfl ?_
          refine J_aload (pc := 43) F dX3_hailFrom_43 0 rfl ?_
          refine J_ifnonnull (pc := 45) F (tgt := 50) dX3_hailFrom_45 (by decide) ?_
          refine J_iconst (pc := 50) F dX3_hailFrom_50 ki_0 ?_
          refine J_istore (pc := 51) F (lv' := [(7, .int (0 : Int32)), (6, .ref (ad y5)), (5, .ref (ad y2)), (0, .ref (ad a0)), (1, .int a1), (2, .int a2), (3, .int a3), (4, .int a4)]) dX3_hailFrom_51 (by decide) rfl ?_
          refine J_iload (pc := 53) F dX3_hailFrom_53 7 rfl ?_
          obtain ⟨k6, hk6, hf⟩ := jn_elim hf
          have hJk6 : ∀ (q6 : Int32 × St), k6 q6 = some res → J p l e (4 + fu + 1) s m args below meth c E ad G n (QI below E ad G n args s res) 8 q6.2 90 [(0, .ref (ad a0)), (1, .int a1), (2, .int a2), (3, .int a3), (4, .int a4), (5, .ref (ad y2)), (6, .ref (ad y5)), (7, .int q6.1)] [] := by
            intro q6 hf
            replace hf := hk6 q6 hf
            refine J_iload (pc := 90) F dX3_hailFrom_90 4 rfl ?_
            refine J_bipush (pc := 92) F dX3_hailFrom_92 kb_10 ?_
            rcases ite_elim hf with ⟨c12, hf⟩ | ⟨c12, hf⟩
            · refine J_icmp_geT (pc := 94) F (tgt := 132) dX3_hailFrom_94 (by decide) c12 ?_
              refine J_iload (pc := 132) F dX3_hailFrom_132 7 rfl ?_
              exact J_iret (pc := 134) F rfl dX3_hailFrom_134 hf
            · refine J_icmp_geF (pc := 94) F (tgt := 132) dX3_hailFrom_94 (by decide) c12 ?_
              refine J_aload (pc := 97) F dX3_hailFrom_97 6 rfl ?_
              refine J_aload (pc := 99) F dX3_hailFrom_99 5 rfl ?_
              obtain ⟨q13, h13, hf⟩ := bind_elim hf
              refine J_callVU (pc := 101) F (c_X1_copy hI ((tableAt_tab ha0 h4) y5 zy5) (optTab ((tableAt_tab ha0 h1) y2 zy2)) h13) (by omega) (by decide) (tabN ((tableAt_tab ha0 h4) y5 zy5)) (((tableAt_tab ha0 h4) y5 zy5).2.1 _) rfl wc_X1_copy wd_290 rfl rfl (Nat.le_of_ble_eq_true rfl) dX3_hailFrom_101 ?_
              refine J_aload (pc := 104) F dX3_hailFrom_104 6 rfl ?_
              refine J_iconst (pc := 106) F dX3_hailFrom_106 ki_1 ?_
              obtain ⟨q14, h14, hf⟩ := bind_elim hf
              refine J_callVU (pc := 107) F (c_X1_spendDay hI ((tableAt_tab ha0 h4) y5 zy5) h14) (by omega) (by decide) (tabN ((tableAt_tab ha0 h4) y5 zy5)) (((tableAt_tab ha0 h4) y5 zy5).2.1 _) rfl wc_X1_spendDay wd_455 rfl rfl (Nat.le_of_ble_eq_true rfl) dX3_hailFrom_107 ?_
              refine J_iload (pc := 110) F dX3_hailFrom_110 7 rfl ?_
              refine J_bipush (pc := 112) F dX3_hailFrom_112 kb_10 ?_
              refine J_iload (pc := 114) F dX3_hailFrom_114 4 rfl ?_
              refine J_isub (pc := 116) F dX3_hailFrom_116 ?_
              refine J_aload_n (pc := 117) F dX3_hailFrom_117 rfl 0 rfl ?_
              refine J_iload_n (pc := 118) F dX3_hailFrom_118 rfl 1 rfl ?_
              refine J_iconst (pc := 119) F dX3_hailFrom_119 ki_1 ?_
              refine J_iadd (pc := 120) F dX3_hailFrom_120 ?_
              refine J_iload_n (pc := 121) F dX3_hailFrom_121 rfl 2 rfl ?_
              refine J_iload_n (pc := 122) F dX3_hailFrom_122 rfl 3 rfl ?_
              refine J_iload (pc := 123) F dX3_hailFrom_123 4 rfl ?_
              obtain ⟨q15, h15, hf⟩ := bind_elim hf
              refine J_callSI (pc := 125) F (ih a0 a0L ha0 (a1 + (1 : Int32)) a2 a3 a4 q14.2 q15 h15) (by omega) (by decide) wc_X3_hailFrom wd_553 rfl rfl (Nat.le_of_ble_eq_true rfl) dX3_hailFrom_125 ?_
              refine J_imul (pc := 128) F dX3_hailFrom_128 ?_
              refine J_iadd (pc := 129) F dX3_hailFrom_129 ?_
              obtain ⟨x16, ex16, hf⟩ := nm_elim hf
              refine J_ti ex16 ?_
              refine J_istore (pc := 130) F (lv' := [(7, .int x16), (0, .ref (ad a0)), (1, .int a1), (2, .int a2), (3, .int a3), (4, .int a4), (5, .ref (ad y2)), (6, .ref (ad y5))]) dX3_hailFrom_130 (by decide) rfl ?_
              refine J_iload (pc := 132) F dX3_hailFrom_132 0 rfl ?_
              exact J_iret (pc := 134) F rfl dX3_hailFrom_134 hf
          clear hk6
          rcases ite_elim hf with ⟨c7, hf⟩ | ⟨c7, hf⟩
          · refine J_if_leT (pc := 55) F (tgt := 90) dX3_hailFrom_55 (by decide) c7 ?_
            refine J_sub [3, 4, 5, 6, 7, 2, 1, 0] rfl ?_
            exact hJk6 ((0 : Int32), q4.2) hf
          · refine J_if_leF (pc := 55) F (tgt := 90) dX3_hailFrom_55 (by decide) c7 ?_
            refine J_aload (pc := 58) F dX3_hailFrom_58 1 rfl ?_
            refine J_aload (pc := 60) F dX3_hailFrom_60 2 rfl ?_
            obtain ⟨q8, h8, hf⟩ := bind_elim hf
            refine J_callVU (pc := 62) F (c_X1_copy hI ((tableAt_tab ha0 h4) y5 zy5) (optTab ((tableAt_tab ha0 h1) y2 zy2)) h8) (by omega) (by decide) (tabN ((tableAt_tab ha0 h4) y5 zy5)) (((tableAt_tab ha0 h4) y5 zy5).2.1 _) rfl wc_X1_copy wd_290 rfl rfl (Nat.le_of_ble_eq_true rfl) dX3_hailFrom_62 ?_
            refine J_aload (pc := 65) F dX3_hailFrom_65 1 rfl ?_
            refine J_iconst (pc := 67) F dX3_hailFrom_67 ki_0 ?_
            obtain ⟨q9, h9, hf⟩ := bind_elim hf
            refine J_callVU (pc := 68) F (c_X1_spendDay hI ((tableAt_tab ha0 h4) y5 zy5) h9) (by omega) (by decide) (tabN ((tableAt_tab ha0 h4) y5 zy5)) (((tableAt_tab ha0 h4) y5 zy5).2.1 _) rfl wc_X1_spendDay wd_455 rfl rfl (Nat.le_of_ble_eq_true rfl) dX3_hailFrom_68 ?_
            refine J_iload (pc := 71) F dX3_hailFrom_71 0 rfl ?_
            refine J_iload (pc := 73) F dX3_hailFrom_73 7 rfl ?_
            refine J_aload_n (pc := 75) F dX3_hailFrom_75 rfl 3 rfl ?_
            refine J_iload_n (pc := 76) F dX3_hailFrom_76 rfl 4 rfl ?_
            refine J_iconst (pc := 77) F dX3_hailFrom_77 ki_1 ?_
            refine J_iadd (pc := 78) F dX3_hailFrom_78 ?_
            refine J_iload_n (pc := 79) F dX3_hailFrom_79 rfl 5 rfl ?_
            refine J_iload_n (pc := 80) F dX3_hailFrom_80 rfl 6 rfl ?_
            refine J_iload (pc := 81) F dX3_hailFrom_81 7 rfl ?_
            obtain ⟨q10, h10, hf⟩ := bind_elim hf
            refine J_callSI (pc := 83) F (ih a0 a0L ha0 (a1 + (1 : Int32)) a2 a3 a4 q9.2 q10 h10) (by omega) (by decide) wc_X3_hailFrom wd_553 rfl rfl (Nat.le_of_ble_eq_true rfl) dX3_hailFrom_83 ?_
            refine J_imul (pc := 86) F dX3_hailFrom_86 ?_
            refine J_iadd (pc := 87) F dX3_hailFrom_87 ?_
            obtain ⟨x11, ex11, hf⟩ := nm_elim hf
            refine J_ti ex11 ?_
            refine J_istore (pc := 88) F (lv' := [(7, .int x11), (6, .ref (ad y5)), (5, .ref (ad y2)), (0, .ref (ad a0)), (1, .int a1), (2, .int a2), (3, .int a3), (4, .int a4)]) dX3_hailFrom_88 (by decide) rfl ?_
            refine J_sub [3, 4, 5, 6, 7, 2, 1, 0] rfl ?_
            exact hJk6 (x11, q10.2) hf
      · refine J_icmp_ltF (pc := 16) F (tgt := 34) dX3_hailFrom_16 (by decide) c3 ?_
        refine J_aload (pc := 19) F dX3_hailFrom_19 0 rfl ?_
        refine J_iload_n (pc := 21) F dX3_hailFrom_21 rfl 4 rfl ?_
        obtain ⟨q17, h17, hf⟩ := bind_elim hf
        refine J_callVI (pc := 22) F (c_X1_isSpeaker hI ((tableAt_tab ha0 h1) y2 zy2) h17) (by omega) (by decide) (tabN ((tableAt_tab ha0 h1) y2 zy2)) (((tableAt_tab ha0 h1) y2 zy2).2.1 _) rfl wc_X1_isSpeaker wd_320 rfl rfl (Nat.le_of_ble_eq_true rfl) dX3_hailFrom_22 ?_
        rcases ite_elim hf with ⟨c18, hf⟩ | ⟨c18, hf⟩
        · refine J_if_eqT (pc := 25) F (tgt := 32) dX3_hailFrom_25 (by decide) c18 ?_
          refine J_iconst (pc := 32) F dX3_hailFrom_32 ki_0 ?_
          exact J_iret (pc := 33) F rfl dX3_hailFrom_33 hf
        · refine J_if_eqF (pc := 25) F (tgt := 32) dX3_hailFrom_25 (by decide) c18 ?_
          refine J_iconst (pc := 28) F dX3_hailFrom_28 ki_1 ?_
          refine J_goto (pc := 29) F (tgt := 33) dX3_hailFrom_29 (by decide) ?_
          exact J_iret (pc := 33) F rfl dX3_hailFrom_33 hf
set_option maxHeartbeats 4000000 in
set_option maxRecDepth 100000 in
theorem c_X3_hail {l : Launch} {E : En} {ad : Nat → Nat} {G : Lay} {n : Nat} (hI : adI ad n) (ht : RooAt E ad G n) {a0 : Int32} {a1 : Int32} {a2 : Int32} {a3 : Int32} {σ : St} {res : Int32 × St} (hf : f_X3_hail a0 a1 a2 a3 σ = some res) : Ct l yX3_hail cX3_hail 8 (some .int) 17 E ad G n [.ref (ad 208), .int a0, .int a1, .int a2, .int a3] σ (some (.int res.1)) res.2 := by
  unfold f_X3_hail at hf
  refine J_start (own := RX3) (lv := [(0, .ref (ad 208)), (1, .int a0), (2, .int a1), (3, .int a2), (4, .int a3)]) pnX3 rfl hI (Nat.le_of_ble_eq_true rfl) rfl (fun p e s m args below meth c F => ?_)
  refine J_aload_n (pc := 0) F dX3_hail_0 rfl 0 rfl ?_
  refine gfX3_now (pc := 1) F ht wd_237 dX3_hail_1 ?_
  refine J_iload_n (pc := 4) F dX3_hail_4 rfl 1 rfl ?_
  obtain ⟨q1, h1, hf⟩ := bind_elim hf
  refine J_callVI (pc := 5) F (c_X1_isWooer hI ht.2.2.2.1 h1) (by omega) (by decide) (tabN ht.2.2.2.1) (ht.2.2.2.1.2.1 _) rfl wc_X1_isWooer wd_316 rfl rfl (Nat.le_of_ble_eq_true rfl) dX3_hail_5 ?_
  rcases ite_elim hf with ⟨c2, hf⟩ | ⟨c2, hf⟩
  · refine J_if_eqT (pc := 8) F (tgt := 42) dX3_hail_8 (by decide) c2 ?_
    refine J_iconst (pc := 42) F dX3_hail_42 ki_m1 ?_
    exact J_iret (pc := 43) F rfl dX3_hail_43 hf
  · refine J_if_eqF (pc := 8) F (tgt := 42) dX3_hail_8 (by decide) c2 ?_
    refine J_iload_n (pc := 11) F dX3_hail_11 rfl 2 rfl ?_
    rcases ite_elim hf with ⟨c3, hf⟩ | ⟨c3, hf⟩
    · refine J_if_ltT (pc := 12) F (tgt := 42) dX3_hail_12 (by decide) c3 ?_
      refine J_iconst (pc := 42) F dX3_hail_42 ki_m1 ?_
      exact J_iret (pc := 43) F rfl dX3_hail_43 hf
    · refine J_if_ltF (pc := 12) F (tgt := 42) dX3_hail_12 (by decide) c3 ?_
      refine J_iload_n (pc := 15) F dX3_hail_15 rfl 2 rfl ?_
      refine J_bipush (pc := 16) F dX3_hail_16 kb_8 ?_
      rcases ite_elim hf with ⟨c4, hf⟩ | ⟨c4, hf⟩
      · refine J_icmp_gtT (pc := 18) F (tgt := 42) dX3_hail_18 (by decide) c4 ?_
        refine J_iconst (pc := 42) F dX3_hail_42 ki_m1 ?_
        exact J_iret (pc := 43) F rfl dX3_hail_43 hf
      · refine J_icmp_gtF (pc := 18) F (tgt := 42) dX3_hail_18 (by decide) c4 ?_
        refine J_iload_n (pc := 21) F dX3_hail_21 rfl 3 rfl ?_
        rcases ite_elim hf with ⟨c5, hf⟩ | ⟨c5, hf⟩
        · refine J_if_ltT (pc := 22) F (tgt := 42) dX3_hail_22 (by decide) c5 ?_
          refine J_iconst (pc := 42) F dX3_hail_42 ki_m1 ?_
          exact J_iret (pc := 43) F rfl dX3_hail_43 hf
        · refine J_if_ltF (pc := 22) F (tgt := 42) dX3_hail_22 (by decide) c5 ?_
          refine J_iload_n (pc := 25) F dX3_hail_25 rfl 3 rfl ?_
          refine J_bipush (pc := 26) F dX3_hail_26 kb_10 ?_
          rcases ite_elim hf with ⟨c6, hf⟩ | ⟨c6, hf⟩
          · refine J_icmp_gtT (pc := 28) F (tgt := 42) dX3_hail_28 (by decide) c6 ?_
            refine J_iconst (pc := 42) F dX3_hail_42 ki_m1 ?_
            exact J_iret (pc := 43) F rfl dX3_hail_43 hf
          · refine J_icmp_gtF (pc := 28) F (tgt := 42) dX3_hail_28 (by decide) c6 ?_
            refine J_iload (pc := 31) F dX3_hail_31 4 rfl ?_
            rcases ite_elim hf with ⟨c7, hf⟩ | ⟨c7, hf⟩
            · refine J_if_ltT (pc := 33) F (tgt := 42) dX3_hail_33 (by decide) c7 ?_
              refine J_iconst (pc := 42) F dX3_hail_42 ki_m1 ?_
              exact J_iret (pc := 43) F rfl dX3_hail_43 hf
            · refine J_if_ltF (pc := 33) F (tgt := 42) dX3_hail_33 (by decide) c7 ?_
              refine J_iload (pc := 36) F dX3_hail_36 4 rfl ?_
              refine J_iconst (pc := 38) F dX3_hail_38 ki_1 ?_
              rcases ite_elim hf with ⟨c8, hf⟩ | ⟨c8, hf⟩
              · refine J_icmp_leT (pc := 39) F (tgt := 44) dX3_hail_39 (by decide) c8 ?_
                refine J_aload_n (pc := 44) F dX3_hail_44 rfl 0 rfl ?_
                obtain ⟨q9, h9, hf⟩ := bind_elim hf
                refine J_callVU (pc := 45) F (c_X3_startLevels hI ht h9) (by omega) (by decide) (rooN ht) (ht.2.1 _) rfl wc_X3_startLevels wd_460 rfl rfl (Nat.le_of_ble_eq_true rfl) dX3_hail_45 ?_
                refine J_aload_n (pc := 48) F dX3_hail_48 rfl 0 rfl ?_
                refine gfX3_levels (pc := 49) F ht wd_240 dX3_hail_49 ?_
                refine J_iconst (pc := 52) F dX3_hail_52 ki_0 ?_
                refine J_iload_n (pc := 53) F dX3_hail_53 rfl 2 rfl ?_
                refine J_iload_n (pc := 54) F dX3_hail_54 rfl 1 rfl ?_
                refine J_iload_n (pc := 55) F dX3_hail_55 rfl 3 rfl ?_
                obtain ⟨q10, h10, hf⟩ := bind_elim hf
                refine J_callSI (pc := 56) F (c_X3_hailFrom hI FR 29 9 ht.2.2.2.2.2.2.1 (0 : Int32) a1 a0 a2 q9.2 q10 h10) (by unfold FR; omega) (by decide) wc_X3_hailFrom wd_553 rfl rfl (Nat.le_of_ble_eq_true rfl) dX3_hail_56 ?_
                refine J_istore (pc := 59) F (lv' := [(5, .int q10.1), (0, .ref (ad 208)), (1, .int a0), (2, .int a1), (3, .int a2), (4, .int a3)]) dX3_hail_59 (by decide) rfl ?_
                refine J_iconst (pc := 61) F dX3_hail_61 ki_1 ?_
                refine J_istore (pc := 62) F (lv' := [(6, .int (1 : Int32)), (5, .int q10.1), (0, .ref (ad 208)), (1, .int a0), (2, .int a1), (3, .int a2), (4, .int a3)]) dX3_hail_62 (by decide) rfl ?_
                refine J_iconst (pc := 64) F dX3_hail_64 ki_0 ?_
                refine J_istore (pc := 65) F (lv' := [(7, .int (0 : Int32)), (6, .int (1 : Int32)), (5, .int q10.1), (0, .ref (ad 208)), (1, .int a0), (2, .int a1), (3, .int a2), (4, .int a3)]) dX3_hail_65 (by decide) rfl ?_
                refine J_sub [5, 7, 2, 1, 0] rfl ?_
                refine lp_ind (P := fun (b11 : Int32 × Int32 × St) => J p l e 17 s m args below meth c E ad G n (QI below E ad G n args s res) 8 b11.2.2 67 [(2, .int a1), (4, .int a3), (5, .int q10.1), (6, .int b11.1), (7, .int b11.2.1)] []) (fun r11 ih11 b11 hf => ?_) FU ((1 : Int32), (0 : Int32), q10.2) hf
                show J p l e 17 s m args below meth c E ad G n (QI below E ad G n args s res) 8 b11.2.2 67 [(2, .int a1), (4, .int a3), (5, .int q10.1), (6, .int b11.1), (7, .int b11.2.1)] []
                refine J_iload (pc := 67) F dX3_hail_67 4 rfl ?_
                refine J_iload_n (pc := 69) F dX3_hail_69 rfl 0 rfl ?_
                rcases ite_elim hf with ⟨c12, hf⟩ | ⟨c12, hf⟩
                · refine J_icmp_geT (pc := 70) F (tgt := 86) dX3_hail_70 (by decide) c12 ?_
                  refine J_iload (pc := 86) F dX3_hail_86 3 rfl ?_
                  refine J_iload (pc := 88) F dX3_hail_88 2 rfl ?_
                  obtain ⟨q13, h13, hf⟩ := bind_elim hf
                  refine J_callSI (pc := 90) F (c_X3_commonPart hI  h13) (by omega) (by decide) wc_X3_commonPart wd_556 rfl rfl (Nat.le_of_ble_eq_true rfl) dX3_hail_90 ?_
                  refine J_istore (pc := 93) F (lv' := [(7, .int q13.1), (2, .int a1), (4, .int a3), (5, .int q10.1), (6, .int b11.1)]) dX3_hail_93 (by decide) rfl ?_
                  refine J_iload (pc := 95) F dX3_hail_95 0 rfl ?_
                  rcases ite_elim hf with ⟨c14, hf⟩ | ⟨c14, hf⟩
                  · refine J_if_neT (pc := 97) F (tgt := 102) dX3_hail_97 (by decide) c14 ?_
                    refine J_iload (pc := 102) F dX3_hail_102 2 rfl ?_
                    rcases ite_elim hf with ⟨c15, hf⟩ | ⟨c15, hf⟩
                    · refine J_if_neT (pc := 104) F (tgt := 112) dX3_hail_104 (by decide) c15 ?_
                      refine J_iload (pc := 112) F dX3_hail_112 4 rfl ?_
                      refine J_iload (pc := 114) F dX3_hail_114 0 rfl ?_
                      obtain ⟨g16, hf⟩ := grd_elim hf
                      refine J_idiv (pc := 116) F dX3_hail_116 g16 ?_
                      exact J_iret (pc := 117) F rfl dX3_hail_117 hf
                    · refine J_if_neF (pc := 104) F (tgt := 112) dX3_hail_104 (by decide) c15 ?_
                      refine J_iload (pc := 107) F dX3_hail_107 3 rfl ?_
                      refine J_goto (pc := 109) F (tgt := 114) dX3_hail_109 (by decide) ?_
                      refine J_iload (pc := 114) F dX3_hail_114 0 rfl ?_
                      obtain ⟨g17, hf⟩ := grd_elim hf
                      refine J_idiv (pc := 116) F dX3_hail_116 g17 ?_
                      exact J_iret (pc := 117) F rfl dX3_hail_117 hf
                  · refine J_if_neF (pc := 97) F (tgt := 102) dX3_hail_97 (by decide) c14 ?_
                    refine J_iconst (pc := 100) F dX3_hail_100 ki_m1 ?_
                    exact J_iret (pc := 101) F rfl dX3_hail_101 hf
                · refine J_icmp_geF (pc := 70) F (tgt := 86) dX3_hail_70 (by decide) c12 ?_
                  refine J_iload (pc := 73) F dX3_hail_73 3 rfl ?_
                  refine J_bipush (pc := 75) F dX3_hail_75 kb_10 ?_
                  refine J_imul (pc := 77) F dX3_hail_77 ?_
                  obtain ⟨x18, ex18, hf⟩ := nm_elim hf
                  refine J_ti ex18 ?_
                  refine J_istore (pc := 78) F (lv' := [(6, .int x18), (2, .int a1), (4, .int a3), (5, .int q10.1), (7, .int b11.2.1)]) dX3_hail_78 (by decide) rfl ?_
                  obtain ⟨x19, ex19, hf⟩ := nm_elim hf
                  refine J_iinc (pc := 80) F (lv' := [(7, .int x19), (6, .int x18), (2, .int a1), (4, .int a3), (5, .int q10.1)]) dX3_hail_80 4 rfl (ex19.trans (congrArg _ ki_1.symm)) (by decide) rfl ?_
                  refine J_goto (pc := 83) F (tgt := 67) dX3_hail_83 (by decide) ?_
                  refine J_sub [2, 3, 4, 1, 0] rfl ?_
                  exact ih11 (x18, x19, b11.2.2) hf
              · refine J_icmp_leF (pc := 39) F (tgt := 44) dX3_hail_39 (by decide) c8 ?_
                refine J_iconst (pc := 42) F dX3_hail_42 ki_m1 ?_
                exact J_iret (pc := 43) F rfl dX3_hail_43 hf
