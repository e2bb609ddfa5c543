set_option maxHeartbeats 4000000 in
set_option maxRecDepth 100000 in
theorem c_X4_fault {l : Launch} {E : En} {ad : Nat → Nat} {G : Lay} {n : Nat} (hI : adI ad n) (ht : ModAt E ad G n) {σ : St} {res : Int32 × St} (hf : f_X4_fault  σ = some res) : Ct l yX4_fault cX4_fault 1 (some .int) 6 E ad G n [.ref (ad 0)] σ (some (.int res.1)) res.2 := by
  unfold f_X4_fault at hf
  refine J_start (own := RX4) (lv := [(0, .ref (ad 0))]) pnX4 rfl hI (Nat.le_of_ble_eq_true rfl) rfl (fun p e s m args below meth c F => ?_)
  refine J_aload_n (pc := 0) F dX4_fault_0 rfl 0 rfl ?_
  obtain ⟨q1, h1, hf⟩ := bind_elim hf
  refine J_callVI (pc := 1) F (c_X4_reads hI ht h1) (by omega) (by decide) (modN ht) (ht.2.1 _) rfl wc_X4_reads wd_702 rfl rfl (Nat.le_of_ble_eq_true rfl) dX4_fault_1 ?_
  rcases ite_elim hf with ⟨c2, hf⟩ | ⟨c2, hf⟩
  · refine J_if_eqT (pc := 4) F (tgt := 12) dX4_fault_4 (by decide) c2 ?_
    refine J_aload_n (pc := 12) F dX4_fault_12 rfl 0 rfl ?_
    refine gfX4_begin (pc := 13) F ht wd_632 dX4_fault_13 ?_
    exact J_iret (pc := 16) F rfl dX4_fault_16 hf
  · refine J_if_eqF (pc := 4) F (tgt := 12) dX4_fault_4 (by decide) c2 ?_
    refine J_bipush (pc := 7) F dX4_fault_7 kb_m4 ?_
    refine J_goto (pc := 9) F (tgt := 16) dX4_fault_9 (by decide) ?_
    exact J_iret (pc := 16) F rfl dX4_fault_16 hf
set_option maxHeartbeats 4000000 in
set_option maxRecDepth 100000 in
theorem c_X4_lay {l : Launch} {E : En} {ad : Nat → Nat} {G : Lay} {n : Nat} (hI : adI ad n) (ht : ModAt E ad G n) {σ : St} {res : Int32 × St} (hf : f_X4_lay  σ = some res) : Ct l yX4_lay cX4_lay 1 (some .int) 6 E ad G n [.ref (ad 0)] σ (some (.int res.1)) res.2 := by
  unfold f_X4_lay at hf
  refine J_start (own := RX4) (lv := [(0, .ref (ad 0))]) pnX4 rfl hI (Nat.le_of_ble_eq_true rfl) rfl (fun p e s m args below meth c F => ?_)
  refine J_aload_n (pc := 0) F dX4_lay_0 rfl 0 rfl ?_
  obtain ⟨q1, h1, hf⟩ := bind_elim hf
  refine J_callVI (pc := 1) F (c_X4_reads hI ht h1) (by omega) (by decide) (modN ht) (ht.2.1 _) rfl wc_X4_reads wd_702 rfl rfl (Nat.le_of_ble_eq_true rfl) dX4_lay_1 ?_
  rcases ite_elim hf with ⟨c2, hf⟩ | ⟨c2, hf⟩
  · refine J_if_eqT (pc := 4) F (tgt := 21) dX4_lay_4 (by decide) c2 ?_
    refine J_bipush (pc := 21) F dX4_lay_21 kb_m2 ?_
    exact J_iret (pc := 23) F rfl dX4_lay_23 hf
  · refine J_if_eqF (pc := 4) F (tgt := 21) dX4_lay_4 (by decide) c2 ?_
    refine J_aload_n (pc := 7) F dX4_lay_7 rfl 0 rfl ?_
    refine gfX4_newWords (pc := 8) F ht wd_622 dX4_lay_8 ?_
    rcases ite_elim hf with ⟨c3, hf⟩ | ⟨c3, hf⟩
    · refine J_if_eqT (pc := 11) F (tgt := 21) dX4_lay_11 (by decide) c3 ?_
      refine J_bipush (pc := 21) F dX4_lay_21 kb_m2 ?_
      exact J_iret (pc := 23) F rfl dX4_lay_23 hf
    · refine J_if_eqF (pc := 11) F (tgt := 21) dX4_lay_11 (by decide) c3 ?_
      refine J_aload_n (pc := 14) F dX4_lay_14 rfl 0 rfl ?_
      refine gfX4_newMany (pc := 15) F ht wd_624 dX4_lay_15 ?_
      rcases ite_elim hf with ⟨c4, hf⟩ | ⟨c4, hf⟩
      · refine J_if_neT (pc := 18) F (tgt := 24) dX4_lay_18 (by decide) c4 ?_
        refine J_aload_n (pc := 24) F dX4_lay_24 rfl 0 rfl ?_
        obtain ⟨q5, h5, hf⟩ := bind_elim hf
        refine J_callVU (pc := 25) F (c_X4_settles hI ht h5) (by omega) (by decide) (modN ht) (ht.2.1 _) rfl wc_X4_settles wd_610 rfl rfl (Nat.le_of_ble_eq_true rfl) dX4_lay_25 ?_
        refine J_aload_n (pc := 28) F dX4_lay_28 rfl 0 rfl ?_
        refine J_iconst (pc := 29) F dX4_lay_29 ki_0 ?_
        obtain ⟨σ6, eσ6, hf⟩ := nm_elim hf
        refine pfX4_acts (pc := 30) F ht wd_627 dX4_lay_30 eσ6 ?_
        refine J_aload_n (pc := 33) F dX4_lay_33 rfl 0 rfl ?_
        refine J_iconst (pc := 34) F dX4_lay_34 ki_0 ?_
        obtain ⟨σ7, eσ7, hf⟩ := nm_elim hf
        refine pfX4_keeps (pc := 35) F ht wd_628 dX4_lay_35 eσ7 ?_
        refine J_aload_n (pc := 38) F dX4_lay_38 rfl 0 rfl ?_
        refine J_iconst (pc := 39) F dX4_lay_39 ki_0 ?_
        obtain ⟨σ8, eσ8, hf⟩ := nm_elim hf
        refine pfX4_heards (pc := 40) F ht wd_634 dX4_lay_40 eσ8 ?_
        refine J_aload_n (pc := 43) F dX4_lay_43 rfl 0 rfl ?_
        refine gfX4_many (pc := 44) F ht wd_620 dX4_lay_44 ?_
        exact J_iret (pc := 47) F rfl dX4_lay_47 hf
      · refine J_if_neF (pc := 18) F (tgt := 24) dX4_lay_18 (by decide) c4 ?_
        refine J_bipush (pc := 21) F dX4_lay_21 kb_m2 ?_
        exact J_iret (pc := 23) F rfl dX4_lay_23 hf
set_option maxHeartbeats 4000000 in
set_option maxRecDepth 100000 in
theorem c_X4_sound {l : Launch} {E : En} {ad : Nat → Nat} {G : Lay} {n : Nat} (hI : adI ad n) (ht : ModAt E ad G n) {a0 : Int32} {σ : St} {res : Int32 × St} (hf : f_X4_sound a0 σ = some res) : Ct l yX4_sound cX4_sound 2 (some .int) 2 E ad G n [.ref (ad 0), .int a0] σ (some (.int res.1)) res.2 := by
  unfold f_X4_sound at hf
  refine J_start (own := RX4) (lv := [(0, .ref (ad 0)), (1, .int a0)]) pnX4 rfl hI (Nat.le_of_ble_eq_true rfl) rfl (fun p e s m args below meth c F => ?_)
  refine J_aload_n (pc := 0) F dX4_sound_0 rfl 0 rfl ?_
  refine J_iload_n (pc := 1) F dX4_sound_1 rfl 1 rfl ?_
  obtain ⟨q1, h1, hf⟩ := bind_elim hf
  refine J_callVI (pc := 2) F (c_X4_isWord hI ht h1) (by omega) (by decide) (modN ht) (ht.2.1 _) rfl wc_X4_isWord wd_744 rfl rfl (Nat.le_of_ble_eq_true rfl) dX4_sound_2 ?_
  rcases ite_elim hf with ⟨c2, hf⟩ | ⟨c2, hf⟩
  · refine J_if_eqT (pc := 5) F (tgt := 17) dX4_sound_5 (by decide) c2 ?_
    refine J_iconst (pc := 17) F dX4_sound_17 ki_m1 ?_
    exact J_iret (pc := 18) F rfl dX4_sound_18 hf
  · refine J_if_eqF (pc := 5) F (tgt := 17) dX4_sound_5 (by decide) c2 ?_
    refine J_aload_n (pc := 8) F dX4_sound_8 rfl 0 rfl ?_
    refine gfX4_sounds (pc := 9) F ht wd_619 dX4_sound_9 ?_
    refine J_iload_n (pc := 12) F dX4_sound_12 rfl 1 rfl ?_
    obtain ⟨g3, hf⟩ := grd_elim hf
    refine J_iald (pc := 13) F ht.2.2.1 g3 dX4_sound_13 ?_
    refine J_goto (pc := 14) F (tgt := 18) dX4_sound_14 (by decide) ?_
    exact J_iret (pc := 18) F rfl dX4_sound_18 hf
set_option maxHeartbeats 4000000 in
set_option maxRecDepth 100000 in
theorem c_X4_hasIt {l : Launch} {E : En} {ad : Nat → Nat} {G : Lay} {n : Nat} (hI : adI ad n) (ht : ModAt E ad G n) {a0 : Int32} {a1 : Int32} {a2 : Int32} {σ : St} {res : Int32 × St} (hf : f_X4_hasIt a0 a1 a2 σ = some res) : Ct l yX4_hasIt cX4_hasIt 4 (some .int) 0 E ad G n [.ref (ad 0), .int a0, .int a1, .int a2] σ (some (.int res.1)) res.2 := by
  unfold f_X4_hasIt at hf
  refine J_start (own := RX4) (lv := [(0, .ref (ad 0)), (1, .int a0), (2, .int a1), (3, .int a2)]) pnX4 rfl hI (Nat.le_of_ble_eq_true rfl) rfl (fun p e s m args below meth c F => ?_)
  refine J_aload_n (pc := 0) F dX4_hasIt_0 rfl 0 rfl ?_
  refine gfX4_slot (pc := 1) F ht wd_626 dX4_hasIt_1 ?_
  refine J_iload_n (pc := 4) F dX4_hasIt_4 rfl 1 rfl ?_
  refine J_bipush (pc := 5) F dX4_hasIt_5 kb_18 ?_
  refine J_iload_n (pc := 7) F dX4_hasIt_7 rfl 2 rfl ?_
  refine J_imul (pc := 8) F dX4_hasIt_8 ?_
  refine J_iadd (pc := 9) F dX4_hasIt_9 ?_
  refine J_iconst (pc := 10) F dX4_hasIt_10 ki_2 ?_
  refine J_iadd (pc := 11) F dX4_hasIt_11 ?_
  refine J_iload_n (pc := 12) F dX4_hasIt_12 rfl 3 rfl ?_
  refine J_iadd (pc := 13) F dX4_hasIt_13 ?_
  obtain ⟨g1, hf⟩ := grd_elim hf
  refine J_iald (pc := 14) F ht.2.2.2.2.1 g1 dX4_hasIt_14 ?_
  exact J_iret (pc := 15) F rfl dX4_hasIt_15 hf
set_option maxHeartbeats 4000000 in
set_option maxRecDepth 100000 in
theorem c_X4_gets {l : Launch} {E : En} {ad : Nat → Nat} {G : Lay} {n : Nat} (hI : adI ad n) (ht : ModAt E ad G n) {a0 : Int32} {a1 : Int32} {a2 : Int32} {a3 : Int32} {σ : St} {res : Unit × St} (hf : f_X4_gets a0 a1 a2 a3 σ = some res) : Ct l yX4_gets cX4_gets 5 none 0 E ad G n [.ref (ad 0), .int a0, .int a1, .int a2, .int a3] σ none res.2 := by
  unfold f_X4_gets at hf
  refine J_start (own := RX4) (lv := [(0, .ref (ad 0)), (1, .int a0), (2, .int a1), (3, .int a2), (4, .int a3)]) pnX4 rfl hI (Nat.le_of_ble_eq_true rfl) rfl (fun p e s m args below meth c F => ?_)
  refine J_aload_n (pc := 0) F dX4_gets_0 rfl 0 rfl ?_
  refine gfX4_slot (pc := 1) F ht wd_626 dX4_gets_1 ?_
  refine J_iload_n (pc := 4) F dX4_gets_4 rfl 1 rfl ?_
  refine J_bipush (pc := 5) F dX4_gets_5 kb_18 ?_
  refine J_iload_n (pc := 7) F dX4_gets_7 rfl 2 rfl ?_
  refine J_imul (pc := 8) F dX4_gets_8 ?_
  refine J_iadd (pc := 9) F dX4_gets_9 ?_
  refine J_iconst (pc := 10) F dX4_gets_10 ki_2 ?_
  refine J_iadd (pc := 11) F dX4_gets_11 ?_
  refine J_iload_n (pc := 12) F dX4_gets_12 rfl 3 rfl ?_
  refine J_iadd (pc := 13) F dX4_gets_13 ?_
  refine J_iload (pc := 14) F dX4_gets_14 4 rfl ?_
  obtain ⟨g1, hf⟩ := grd_elim hf
  obtain ⟨σ2, eσ2, hf⟩ := nm_elim hf
  refine J_iast (pc := 16) F ht.2.2.2.2.1 g1 dX4_gets_16 eσ2 ?_
  refine J_aload_n (pc := 17) F dX4_gets_17 rfl 0 rfl ?_
  refine gfX4_slot (pc := 18) F ht wd_626 dX4_gets_18 ?_
  refine J_iload_n (pc := 21) F dX4_gets_21 rfl 1 rfl ?_
  refine J_bipush (pc := 22) F dX4_gets_22 kb_18 ?_
  refine J_iload_n (pc := 24) F dX4_gets_24 rfl 2 rfl ?_
  refine J_imul (pc := 25) F dX4_gets_25 ?_
  refine J_iadd (pc := 26) F dX4_gets_26 ?_
  refine J_bipush (pc := 27) F dX4_gets_27 kb_10 ?_
  refine J_iadd (pc := 29) F dX4_gets_29 ?_
  refine J_iload_n (pc := 30) F dX4_gets_30 rfl 3 rfl ?_
  refine J_iadd (pc := 31) F dX4_gets_31 ?_
  refine J_iconst (pc := 32) F dX4_gets_32 ki_0 ?_
  obtain ⟨g3, hf⟩ := grd_elim hf
  obtain ⟨σ4, eσ4, hf⟩ := nm_elim hf
  refine J_iast (pc := 33) F ht.2.2.2.2.1 g3 dX4_gets_33 eσ4 ?_
  exact J_vret (pc := 34) F dX4_gets_34 hf
set_option maxHeartbeats 4000000 in
set_option maxRecDepth 100000 in
theorem c_X4_had {l : Launch} {E : En} {ad : Nat → Nat} {G : Lay} {n : Nat} (hI : adI ad n) (ht : ModAt E ad G n) {a0 : Int32} {a1 : Int32} {σ : St} {res : Int32 × St} (hf : f_X4_had a0 a1 σ = some res) : Ct l yX4_had cX4_had 5 (some .int) 1 E ad G n [.ref (ad 0), .int a0, .int a1] σ (some (.int res.1)) res.2 := by
  unfold f_X4_had at hf
  refine J_start (own := RX4) (lv := [(0, .ref (ad 0)), (1, .int a0), (2, .int a1)]) pnX4 rfl hI (Nat.le_of_ble_eq_true rfl) rfl (fun p e s m args below meth c F => ?_)
  refine J_iconst (pc := 0) F dX4_had_0 ki_0 ?_
  refine J_istore_n (pc := 1) F (lv' := [(3, .int (0 : Int32)), (0, .ref (ad 0)), (1, .int a0), (2, .int a1)]) dX4_had_1 rfl (by decide) rfl ?_
  refine J_iconst (pc := 2) F dX4_had_2 ki_0 ?_
  refine J_istore (pc := 3) F (lv' := [(4, .int (0 : Int32)), (3, .int (0 : Int32)), (0, .ref (ad 0)), (1, .int a0), (2, .int a1)]) dX4_had_3 (by decide) rfl ?_
  refine J_sub [2, 3, 4, 1, 0] rfl ?_
  refine lp_ind (P := fun (b1 : Int32 × Int32 × St) => J p l e 1 s m args below meth c E ad G n (QI below E ad G n args s res) 5 b1.2.2 5 [(0, .ref (ad 0)), (1, .int a0), (2, .int a1), (3, .int b1.1), (4, .int b1.2.1)] []) (fun r1 ih1 b1 hf => ?_) FU ((0 : Int32), (0 : Int32), σ) hf
  show J p l e 1 s m args below meth c E ad G n (QI below E ad G n args s res) 5 b1.2.2 5 [(0, .ref (ad 0)), (1, .int a0), (2, .int a1), (3, .int b1.1), (4, .int b1.2.1)] []
  refine J_iload (pc := 5) F dX4_had_5 4 rfl ?_
  refine J_aload_n (pc := 7) F dX4_had_7 rfl 0 rfl ?_
  refine gfX4_words (pc := 8) F ht wd_618 dX4_had_8 ?_
  rcases ite_elim hf with ⟨c2, hf⟩ | ⟨c2, hf⟩
  · refine J_icmp_geT (pc := 11) F (tgt := 42) dX4_had_11 (by decide) c2 ?_
    refine J_iload_n (pc := 42) F dX4_had_42 rfl 3 rfl ?_
    exact J_iret (pc := 43) F rfl dX4_had_43 hf
  · refine J_icmp_geF (pc := 11) F (tgt := 42) dX4_had_11 (by decide) c2 ?_
    refine J_iload_n (pc := 14) F dX4_had_14 rfl 3 rfl ?_
    refine J_aload_n (pc := 15) F dX4_had_15 rfl 0 rfl ?_
    refine J_iload_n (pc := 16) F dX4_had_16 rfl 1 rfl ?_
    refine J_iload_n (pc := 17) F dX4_had_17 rfl 2 rfl ?_
    refine J_iload (pc := 18) F dX4_had_18 4 rfl ?_
    obtain ⟨q3, h3, hf⟩ := bind_elim hf
    refine J_callVI (pc := 20) F (c_X4_hasIt hI ht h3) (by omega) (by decide) (modN ht) (ht.2.1 _) rfl wc_X4_hasIt wd_761 rfl rfl (Nat.le_of_ble_eq_true rfl) dX4_had_20 ?_
    obtain ⟨k4, hk4, hf⟩ := jn_elim hf
    have hJk4 : ∀ (q4 : Int32 × St), k4 q4 = some res → J p l e 1 s m args below meth c E ad G n (QI below E ad G n args s res) 5 q4.2 34 [(0, .ref (ad 0)), (1, .int a0), (2, .int a1), (4, .int b1.2.1)] [.int q4.1, .int b1.1] := by
      intro q4 hf
      replace hf := hk4 q4 hf
      refine J_ior (pc := 34) F dX4_had_34 ?_
      obtain ⟨x6, ex6, hf⟩ := nm_elim hf
      refine J_ti ex6 ?_
      refine J_istore_n (pc := 35) F (lv' := [(3, .int x6), (0, .ref (ad 0)), (1, .int a0), (2, .int a1), (4, .int b1.2.1)]) dX4_had_35 rfl (by decide) rfl ?_
      obtain ⟨x7, ex7, hf⟩ := nm_elim hf
      refine J_iinc (pc := 36) F (lv' := [(4, .int x7), (3, .int x6), (0, .ref (ad 0)), (1, .int a0), (2, .int a1)]) dX4_had_36 4 rfl (ex7.trans (congrArg _ ki_1.symm)) (by decide) rfl ?_
      refine J_goto (pc := 39) F (tgt := 5) dX4_had_39 (by decide) ?_
      refine J_sub [2, 3, 4, 1, 0] rfl ?_
      exact ih1 (x6, x7, q4.2) hf
    clear hk4
    rcases ite_elim hf with ⟨c5, hf⟩ | ⟨c5, hf⟩
    · refine J_if_ltT (pc := 23) F (tgt := 33) dX4_had_23 (by decide) c5 ?_
      refine J_iconst (pc := 33) F dX4_had_33 ki_0 ?_
      refine J_sub [0, 1, 2, 4] rfl ?_
      exact hJk4 ((0 : Int32), q3.2) hf
    · refine J_if_ltF (pc := 23) F (tgt := 33) dX4_had_23 (by decide) c5 ?_
      refine J_iconst (pc := 26) F dX4_had_26 ki_1 ?_
      refine J_iload (pc := 27) F dX4_had_27 4 rfl ?_
      refine J_ishl (pc := 29) F dX4_had_29 ?_
      refine J_goto (pc := 30) F (tgt := 34) dX4_had_30 (by decide) ?_
      refine J_sub [0, 1, 2, 4] rfl ?_
      exact hJk4 (((1 : Int32) <<< (b1.2.1 &&& 31)), q3.2) hf
set_option maxHeartbeats 4000000 in
set_option maxRecDepth 100000 in
theorem c_X4_right {l : Launch} {E : En} {ad : Nat → Nat} {G : Lay} {n : Nat} (hI : adI ad n) (ht : ModAt E ad G n) {a0 : Int32} {a1 : Int32} {σ : St} {res : Int32 × St} (hf : f_X4_right a0 a1 σ = some res) : Ct l yX4_right cX4_right 5 (some .int) 1 E ad G n [.ref (ad 0), .int a0, .int a1] σ (some (.int res.1)) res.2 := by
  unfold f_X4_right at hf
  refine J_start (own := RX4) (lv := [(0, .ref (ad 0)), (1, .int a0), (2, .int a1)]) pnX4 rfl hI (Nat.le_of_ble_eq_true rfl) rfl (fun p e s m args below meth c F => ?_)
  refine J_iconst (pc := 0) F dX4_right_0 ki_0 ?_
  refine J_istore_n (pc := 1) F (lv' := [(3, .int (0 : Int32)), (0, .ref (ad 0)), (1, .int a0), (2, .int a1)]) dX4_right_1 rfl (by decide) rfl ?_
  refine J_iconst (pc := 2) F dX4_right_2 ki_0 ?_
  refine J_istore (pc := 3) F (lv' := [(4, .int (0 : Int32)), (3, .int (0 : Int32)), (0, .ref (ad 0)), (1, .int a0), (2, .int a1)]) dX4_right_3 (by decide) rfl ?_
  refine J_sub [2, 3, 4, 1, 0] rfl ?_
  refine lp_ind (P := fun (b1 : Int32 × Int32 × St) => J p l e 1 s m args below meth c E ad G n (QI below E ad G n args s res) 5 b1.2.2 5 [(0, .ref (ad 0)), (1, .int a0), (2, .int a1), (3, .int b1.1), (4, .int b1.2.1)] []) (fun r1 ih1 b1 hf => ?_) FU ((0 : Int32), (0 : Int32), σ) hf
  show J p l e 1 s m args below meth c E ad G n (QI below E ad G n args s res) 5 b1.2.2 5 [(0, .ref (ad 0)), (1, .int a0), (2, .int a1), (3, .int b1.1), (4, .int b1.2.1)] []
  refine J_iload (pc := 5) F dX4_right_5 4 rfl ?_
  refine J_aload_n (pc := 7) F dX4_right_7 rfl 0 rfl ?_
  refine gfX4_words (pc := 8) F ht wd_618 dX4_right_8 ?_
  rcases ite_elim hf with ⟨c2, hf⟩ | ⟨c2, hf⟩
  · refine J_icmp_geT (pc := 11) F (tgt := 49) dX4_right_11 (by decide) c2 ?_
    refine J_iload_n (pc := 49) F dX4_right_49 rfl 3 rfl ?_
    exact J_iret (pc := 50) F rfl dX4_right_50 hf
  · refine J_icmp_geF (pc := 11) F (tgt := 49) dX4_right_11 (by decide) c2 ?_
    refine J_iload_n (pc := 14) F dX4_right_14 rfl 3 rfl ?_
    refine J_aload_n (pc := 15) F dX4_right_15 rfl 0 rfl ?_
    refine J_iload_n (pc := 16) F dX4_right_16 rfl 1 rfl ?_
    refine J_iload_n (pc := 17) F dX4_right_17 rfl 2 rfl ?_
    refine J_iload (pc := 18) F dX4_right_18 4 rfl ?_
    obtain ⟨q3, h3, hf⟩ := bind_elim hf
    refine J_callVI (pc := 20) F (c_X4_hasIt hI ht h3) (by omega) (by decide) (modN ht) (ht.2.1 _) rfl wc_X4_hasIt wd_761 rfl rfl (Nat.le_of_ble_eq_true rfl) dX4_right_20 ?_
    refine J_aload_n (pc := 23) F dX4_right_23 rfl 0 rfl ?_
    refine gfX4_sounds (pc := 24) F ht wd_619 dX4_right_24 ?_
    refine J_iload (pc := 27) F dX4_right_27 4 rfl ?_
    obtain ⟨g4, hf⟩ := grd_elim hf
    refine J_iald (pc := 29) F ht.2.2.1 g4 dX4_right_29 ?_
    obtain ⟨k5, hk5, hf⟩ := jn_elim hf
    have hJk5 : ∀ (q5 : Int32 × St), k5 q5 = some res → J p l e 1 s m args below meth c E ad G n (QI below E ad G n args s res) 5 q5.2 41 [(0, .ref (ad 0)), (1, .int a0), (2, .int a1), (4, .int b1.2.1)] [.int q5.1, .int b1.1] := by
      intro q5 hf
      replace hf := hk5 q5 hf
      refine J_ior (pc := 41) F dX4_right_41 ?_
      obtain ⟨x7, ex7, hf⟩ := nm_elim hf
      refine J_ti ex7 ?_
      refine J_istore_n (pc := 42) F (lv' := [(3, .int x7), (0, .ref (ad 0)), (1, .int a0), (2, .int a1), (4, .int b1.2.1)]) dX4_right_42 rfl (by decide) rfl ?_
      obtain ⟨x8, ex8, hf⟩ := nm_elim hf
      refine J_iinc (pc := 43) F (lv' := [(4, .int x8), (3, .int x7), (0, .ref (ad 0)), (1, .int a0), (2, .int a1)]) dX4_right_43 4 rfl (ex8.trans (congrArg _ ki_1.symm)) (by decide) rfl ?_
      refine J_goto (pc := 46) F (tgt := 5) dX4_right_46 (by decide) ?_
      refine J_sub [2, 3, 4, 1, 0] rfl ?_
      exact ih1 (x7, x8, q5.2) hf
    clear hk5
    rcases ite_elim hf with ⟨c6, hf⟩ | ⟨c6, hf⟩
    · refine J_icmp_neT (pc := 30) F (tgt := 40) dX4_right_30 (by decide) c6 ?_
      refine J_iconst (pc := 40) F dX4_right_40 ki_0 ?_
      refine J_sub [0, 1, 2, 4] rfl ?_
      exact hJk5 ((0 : Int32), q3.2) hf
    · refine J_icmp_neF (pc := 30) F (tgt := 40) dX4_right_30 (by decide) c6 ?_
      refine J_iconst (pc := 33) F dX4_right_33 ki_1 ?_
      refine J_iload (pc := 34) F dX4_right_34 4 rfl ?_
      refine J_ishl (pc := 36) F dX4_right_36 ?_
      refine J_goto (pc := 37) F (tgt := 41) dX4_right_37 (by decide) ?_
      refine J_sub [0, 1, 2, 4] rfl ?_
      exact hJk5 (((1 : Int32) <<< (b1.2.1 &&& 31)), q3.2) hf
set_option maxHeartbeats 4000000 in
set_option maxRecDepth 100000 in
theorem c_X4_isSpeaker {l : Launch} {E : En} {ad : Nat → Nat} {G : Lay} {n : Nat} (hI : adI ad n) (ht : ModAt E ad G n) {a0 : Int32} {a1 : Int32} {σ : St} {res : Int32 × St} (hf : f_X4_isSpeaker a0 a1 σ = some res) : Ct l yX4_isSpeaker cX4_isSpeaker 3 (some .boolean) 2 E ad G n [.ref (ad 0), .int a0, .int a1] σ (some (.int res.1)) res.2 := by
  unfold f_X4_isSpeaker at hf
  refine J_start (own := RX4) (lv := [(0, .ref (ad 0)), (1, .int a0), (2, .int a1)]) pnX4 rfl hI (Nat.le_of_ble_eq_true rfl) rfl (fun p e s m args below meth c F => ?_)
  refine J_aload_n (pc := 0) F dX4_isSpeaker_0 rfl 0 rfl ?_
  refine J_iload_n (pc := 1) F dX4_isSpeaker_1 rfl 1 rfl ?_
  refine J_iload_n (pc := 2) F dX4_isSpeaker_2 rfl 2 rfl ?_
  obtain ⟨q1, h1, hf⟩ := bind_elim hf
  refine J_callVI (pc := 3) F (c_X4_right hI ht h1) (by omega) (by decide) (modN ht) (ht.2.1 _) rfl wc_X4_right wd_765 rfl rfl (Nat.le_of_ble_eq_true rfl) dX4_isSpeaker_3 ?_
  obtain ⟨q2, h2, hf⟩ := bind_elim hf
  refine J_callSI (pc := 6) F (c_X4_bits hI  h2) (by omega) (by decide) wc_X4_bits wd_773 rfl rfl (Nat.le_of_ble_eq_true rfl) dX4_isSpeaker_6 ?_
  refine J_aload_n (pc := 9) F dX4_isSpeaker_9 rfl 0 rfl ?_
  refine gfX4_enough (pc := 10) F ht wd_621 dX4_isSpeaker_10 ?_
  rcases ite_elim hf with ⟨c3, hf⟩ | ⟨c3, hf⟩
  · refine J_icmp_ltT (pc := 13) F (tgt := 20) dX4_isSpeaker_13 (by decide) c3 ?_
    refine J_iconst (pc := 20) F dX4_isSpeaker_20 ki_0 ?_
    exact J_iret (pc := 21) F rfl dX4_isSpeaker_21 hf
  · refine J_icmp_ltF (pc := 13) F (tgt := 20) dX4_isSpeaker_13 (by decide) c3 ?_
    refine J_iconst (pc := 16) F dX4_isSpeaker_16 ki_1 ?_
    refine J_goto (pc := 17) F (tgt := 21) dX4_isSpeaker_17 (by decide) ?_
    exact J_iret (pc := 21) F rfl dX4_isSpeaker_21 hf
set_option maxHeartbeats 4000000 in
set_option maxRecDepth 100000 in
theorem c_X4_wooer {l : Launch} {E : En} {ad : Nat → Nat} {G : Lay} {n : Nat} (hI : adI ad n) (ht : ModAt E ad G n) {a0 : Int32} {a1 : Int32} {σ : St} {res : Int32 × St} (hf : f_X4_wooer a0 a1 σ = some res) : Ct l yX4_wooer cX4_wooer 3 (some .int) 3 E ad G n [.ref (ad 0), .int a0, .int a1] σ (some (.int res.1)) res.2 := by
  unfold f_X4_wooer at hf
  refine J_start (own := RX4) (lv := [(0, .ref (ad 0)), (1, .int a0), (2, .int a1)]) pnX4 rfl hI (Nat.le_of_ble_eq_true rfl) rfl (fun p e s m args below meth c F => ?_)
  refine J_aload_n (pc := 0) F dX4_wooer_0 rfl 0 rfl ?_
  refine J_iload_n (pc := 1) F dX4_wooer_1 rfl 1 rfl ?_
  obtain ⟨q1, h1, hf⟩ := bind_elim hf
  refine J_callVI (pc := 2) F (c_X4_isOne hI ht h1) (by omega) (by decide) (modN ht) (ht.2.1 _) rfl wc_X4_isOne wd_752 rfl rfl (Nat.le_of_ble_eq_true rfl) dX4_wooer_2 ?_
  rcases ite_elim hf with ⟨c2, hf⟩ | ⟨c2, hf⟩
  · refine J_if_eqT (pc := 5) F (tgt := 20) dX4_wooer_5 (by decide) c2 ?_
    refine J_iconst (pc := 20) F dX4_wooer_20 ki_m1 ?_
    exact J_iret (pc := 21) F rfl dX4_wooer_21 hf
  · refine J_if_eqF (pc := 5) F (tgt := 20) dX4_wooer_5 (by decide) c2 ?_
    refine J_iload_n (pc := 8) F dX4_wooer_8 rfl 2 rfl ?_
    refine J_i2l (pc := 9) F dX4_wooer_9 ?_
    refine J_lconst (pc := 10) F (v := 0) dX4_wooer_10 (by decide +kernel) ?_
    refine J_ldc2 (pc := 11) F wd_756 dX4_wooer_11 ?_
    obtain ⟨q3, h3, hf⟩ := bind_elim hf
    refine J_callSI (pc := 14) F (c_X4_in hI  h3) (by omega) (by decide) wc_X4_in wd_691 rfl rfl (Nat.le_of_ble_eq_true rfl) dX4_wooer_14 ?_
    rcases ite_elim hf with ⟨c4, hf⟩ | ⟨c4, hf⟩
    · refine J_if_neT (pc := 17) F (tgt := 22) dX4_wooer_17 (by decide) c4 ?_
      refine J_iload_n (pc := 22) F dX4_wooer_22 rfl 2 rfl ?_
      refine J_iconst (pc := 23) F dX4_wooer_23 ki_2 ?_
      rcases ite_elim hf with ⟨c5, hf⟩ | ⟨c5, hf⟩
      · refine J_icmp_geT (pc := 24) F (tgt := 41) dX4_wooer_24 (by decide) c5 ?_
        refine J_iload_n (pc := 41) F dX4_wooer_41 rfl 2 rfl ?_
        refine J_iconst (pc := 42) F dX4_wooer_42 ki_2 ?_
        rcases ite_elim hf with ⟨c6, hf⟩ | ⟨c6, hf⟩
        · refine J_icmp_neT (pc := 43) F (tgt := 55) dX4_wooer_43 (by decide) c6 ?_
          refine J_iload_n (pc := 55) F dX4_wooer_55 rfl 2 rfl ?_
          refine J_iconst (pc := 56) F dX4_wooer_56 ki_3 ?_
          rcases ite_elim hf with ⟨c7, hf⟩ | ⟨c7, hf⟩
          · refine J_icmp_neT (pc := 57) F (tgt := 69) dX4_wooer_57 (by decide) c7 ?_
            refine J_aload_n (pc := 69) F dX4_wooer_69 rfl 0 rfl ?_
            refine J_iconst (pc := 70) F dX4_wooer_70 ki_0 ?_
            refine J_iload_n (pc := 71) F dX4_wooer_71 rfl 1 rfl ?_
            obtain ⟨q8, h8, hf⟩ := bind_elim hf
            refine J_callVI (pc := 72) F (c_X4_isSpeaker hI ht h8) (by omega) (by decide) (modN ht) (ht.2.1 _) rfl wc_X4_isSpeaker wd_769 rfl rfl (Nat.le_of_ble_eq_true rfl) dX4_wooer_72 ?_
            rcases ite_elim hf with ⟨c9, hf⟩ | ⟨c9, hf⟩
            · refine J_if_eqT (pc := 75) F (tgt := 82) dX4_wooer_75 (by decide) c9 ?_
              refine J_iconst (pc := 82) F dX4_wooer_82 ki_0 ?_
              exact J_iret (pc := 83) F rfl dX4_wooer_83 hf
            · refine J_if_eqF (pc := 75) F (tgt := 82) dX4_wooer_75 (by decide) c9 ?_
              refine J_iconst (pc := 78) F dX4_wooer_78 ki_1 ?_
              refine J_goto (pc := 79) F (tgt := 83) dX4_wooer_79 (by decide) ?_
              exact J_iret (pc := 83) F rfl dX4_wooer_83 hf
          · refine J_icmp_neF (pc := 57) F (tgt := 69) dX4_wooer_57 (by decide) c7 ?_
            refine J_aload_n (pc := 60) F dX4_wooer_60 rfl 0 rfl ?_
            refine J_iconst (pc := 61) F dX4_wooer_61 ki_0 ?_
            refine J_iload_n (pc := 62) F dX4_wooer_62 rfl 1 rfl ?_
            obtain ⟨q10, h10, hf⟩ := bind_elim hf
            refine J_callVI (pc := 63) F (c_X4_right hI ht h10) (by omega) (by decide) (modN ht) (ht.2.1 _) rfl wc_X4_right wd_765 rfl rfl (Nat.le_of_ble_eq_true rfl) dX4_wooer_63 ?_
            refine J_goto (pc := 66) F (tgt := 83) dX4_wooer_66 (by decide) ?_
            exact J_iret (pc := 83) F rfl dX4_wooer_83 hf
        · refine J_icmp_neF (pc := 43) F (tgt := 55) dX4_wooer_43 (by decide) c6 ?_
          refine J_aload_n (pc := 46) F dX4_wooer_46 rfl 0 rfl ?_
          refine J_iconst (pc := 47) F dX4_wooer_47 ki_0 ?_
          refine J_iload_n (pc := 48) F dX4_wooer_48 rfl 1 rfl ?_
          obtain ⟨q11, h11, hf⟩ := bind_elim hf
          refine J_callVI (pc := 49) F (c_X4_had hI ht h11) (by omega) (by decide) (modN ht) (ht.2.1 _) rfl wc_X4_had wd_757 rfl rfl (Nat.le_of_ble_eq_true rfl) dX4_wooer_49 ?_
          refine J_goto (pc := 52) F (tgt := 83) dX4_wooer_52 (by decide) ?_
          exact J_iret (pc := 83) F rfl dX4_wooer_83 hf
      · refine J_icmp_geF (pc := 24) F (tgt := 41) dX4_wooer_24 (by decide) c5 ?_
        refine J_aload_n (pc := 27) F dX4_wooer_27 rfl 0 rfl ?_
        refine gfX4_slot (pc := 28) F ht wd_626 dX4_wooer_28 ?_
        refine J_bipush (pc := 31) F dX4_wooer_31 kb_18 ?_
        refine J_iload_n (pc := 33) F dX4_wooer_33 rfl 1 rfl ?_
        refine J_imul (pc := 34) F dX4_wooer_34 ?_
        refine J_iload_n (pc := 35) F dX4_wooer_35 rfl 2 rfl ?_
        refine J_iadd (pc := 36) F dX4_wooer_36 ?_
        obtain ⟨g12, hf⟩ := grd_elim hf
        refine J_iald (pc := 37) F ht.2.2.2.2.1 g12 dX4_wooer_37 ?_
        refine J_goto (pc := 38) F (tgt := 83) dX4_wooer_38 (by decide) ?_
        exact J_iret (pc := 83) F rfl dX4_wooer_83 hf
    · refine J_if_neF (pc := 17) F (tgt := 22) dX4_wooer_17 (by decide) c4 ?_
      refine J_iconst (pc := 20) F dX4_wooer_20 ki_m1 ?_
      exact J_iret (pc := 21) F rfl dX4_wooer_21 hf
set_option maxHeartbeats 4000000 in
set_option maxRecDepth 100000 in
theorem c_X4_word {l : Launch} {E : En} {ad : Nat → Nat} {G : Lay} {n : Nat} (hI : adI ad n) (ht : ModAt E ad G n) {a0 : Int32} {a1 : Int32} {a2 : Int32} {σ : St} {res : Int32 × St} (hf : f_X4_word a0 a1 a2 σ = some res) : Ct l yX4_word cX4_word 4 (some .int) 2 E ad G n [.ref (ad 0), .int a0, .int a1, .int a2] σ (some (.int res.1)) res.2 := by
  unfold f_X4_word at hf
  refine J_start (own := RX4) (lv := [(0, .ref (ad 0)), (1, .int a0), (2, .int a1), (3, .int a2)]) pnX4 rfl hI (Nat.le_of_ble_eq_true rfl) rfl (fun p e s m args below meth c F => ?_)
  refine J_aload_n (pc := 0) F dX4_word_0 rfl 0 rfl ?_
  refine J_iload_n (pc := 1) F dX4_word_1 rfl 1 rfl ?_
  obtain ⟨q1, h1, hf⟩ := bind_elim hf
  refine J_callVI (pc := 2) F (c_X4_isOne hI ht h1) (by omega) (by decide) (modN ht) (ht.2.1 _) rfl wc_X4_isOne wd_752 rfl rfl (Nat.le_of_ble_eq_true rfl) dX4_word_2 ?_
  rcases ite_elim hf with ⟨c2, hf⟩ | ⟨c2, hf⟩
  · refine J_if_eqT (pc := 5) F (tgt := 26) dX4_word_5 (by decide) c2 ?_
    refine J_iconst (pc := 26) F dX4_word_26 ki_m1 ?_
    exact J_iret (pc := 27) F rfl dX4_word_27 hf
  · refine J_if_eqF (pc := 5) F (tgt := 26) dX4_word_5 (by decide) c2 ?_
    refine J_aload_n (pc := 8) F dX4_word_8 rfl 0 rfl ?_
    refine J_iload_n (pc := 9) F dX4_word_9 rfl 2 rfl ?_
    obtain ⟨q3, h3, hf⟩ := bind_elim hf
    refine J_callVI (pc := 10) F (c_X4_isWord hI ht h3) (by omega) (by decide) (modN ht) (ht.2.1 _) rfl wc_X4_isWord wd_744 rfl rfl (Nat.le_of_ble_eq_true rfl) dX4_word_10 ?_
    rcases ite_elim hf with ⟨c4, hf⟩ | ⟨c4, hf⟩
    · refine J_if_eqT (pc := 13) F (tgt := 26) dX4_word_13 (by decide) c4 ?_
      refine J_iconst (pc := 26) F dX4_word_26 ki_m1 ?_
      exact J_iret (pc := 27) F rfl dX4_word_27 hf
    · refine J_if_eqF (pc := 13) F (tgt := 26) dX4_word_13 (by decide) c4 ?_
      refine J_iload_n (pc := 16) F dX4_word_16 rfl 3 rfl ?_
      refine J_i2l (pc := 17) F dX4_word_17 ?_
      refine J_lconst (pc := 18) F (v := 0) dX4_word_18 (by decide +kernel) ?_
      refine J_lconst (pc := 19) F (v := 1) dX4_word_19 (by decide +kernel) ?_
      obtain ⟨q5, h5, hf⟩ := bind_elim hf
      refine J_callSI (pc := 20) F (c_X4_in hI  h5) (by omega) (by decide) wc_X4_in wd_691 rfl rfl (Nat.le_of_ble_eq_true rfl) dX4_word_20 ?_
      rcases ite_elim hf with ⟨c6, hf⟩ | ⟨c6, hf⟩
      · refine J_if_neT (pc := 23) F (tgt := 28) dX4_word_23 (by decide) c6 ?_
        refine J_aload_n (pc := 28) F dX4_word_28 rfl 0 rfl ?_
        refine J_iconst (pc := 29) F dX4_word_29 ki_0 ?_
        refine J_iload_n (pc := 30) F dX4_word_30 rfl 1 rfl ?_
        refine J_iload_n (pc := 31) F dX4_word_31 rfl 2 rfl ?_
        obtain ⟨q7, h7, hf⟩ := bind_elim hf
        refine J_callVI (pc := 32) F (c_X4_hasIt hI ht h7) (by omega) (by decide) (modN ht) (ht.2.1 _) rfl wc_X4_hasIt wd_761 rfl rfl (Nat.le_of_ble_eq_true rfl) dX4_word_32 ?_
        rcases ite_elim hf with ⟨c8, hf⟩ | ⟨c8, hf⟩
        · refine J_if_geT (pc := 35) F (tgt := 43) dX4_word_35 (by decide) c8 ?_
          refine J_iload_n (pc := 43) F dX4_word_43 rfl 3 rfl ?_
          rcases ite_elim hf with ⟨c9, hf⟩ | ⟨c9, hf⟩
          · refine J_if_neT (pc := 44) F (tgt := 57) dX4_word_44 (by decide) c9 ?_
            refine J_aload_n (pc := 57) F dX4_word_57 rfl 0 rfl ?_
            refine gfX4_slot (pc := 58) F ht wd_626 dX4_word_58 ?_
            refine J_bipush (pc := 61) F dX4_word_61 kb_18 ?_
            refine J_iload_n (pc := 63) F dX4_word_63 rfl 1 rfl ?_
            refine J_imul (pc := 64) F dX4_word_64 ?_
            refine J_bipush (pc := 65) F dX4_word_65 kb_10 ?_
            refine J_iadd (pc := 67) F dX4_word_67 ?_
            refine J_iload_n (pc := 68) F dX4_word_68 rfl 2 rfl ?_
            refine J_iadd (pc := 69) F dX4_word_69 ?_
            obtain ⟨g10, hf⟩ := grd_elim hf
            refine J_iald (pc := 70) F ht.2.2.2.2.1 g10 dX4_word_70 ?_
            exact J_iret (pc := 71) F rfl dX4_word_71 hf
          · refine J_if_neF (pc := 44) F (tgt := 57) dX4_word_44 (by decide) c9 ?_
            refine J_aload_n (pc := 47) F dX4_word_47 rfl 0 rfl ?_
            refine J_iconst (pc := 48) F dX4_word_48 ki_0 ?_
            refine J_iload_n (pc := 49) F dX4_word_49 rfl 1 rfl ?_
            refine J_iload_n (pc := 50) F dX4_word_50 rfl 2 rfl ?_
            obtain ⟨q11, h11, hf⟩ := bind_elim hf
            refine J_callVI (pc := 51) F (c_X4_hasIt hI ht h11) (by omega) (by decide) (modN ht) (ht.2.1 _) rfl wc_X4_hasIt wd_761 rfl rfl (Nat.le_of_ble_eq_true rfl) dX4_word_51 ?_
            refine J_goto (pc := 54) F (tgt := 71) dX4_word_54 (by decide) ?_
            exact J_iret (pc := 71) F rfl dX4_word_71 hf
        · refine J_if_geF (pc := 35) F (tgt := 43) dX4_word_35 (by decide) c8 ?_
          refine J_bipush (pc := 38) F dX4_word_38 kb_m4 ?_
          refine J_goto (pc := 40) F (tgt := 71) dX4_word_40 (by decide) ?_
          exact J_iret (pc := 71) F rfl dX4_word_71 hf
      · refine J_if_neF (pc := 23) F (tgt := 28) dX4_word_23 (by decide) c6 ?_
        refine J_iconst (pc := 26) F dX4_word_26 ki_m1 ?_
        exact J_iret (pc := 27) F rfl dX4_word_27 hf
set_option maxHeartbeats 4000000 in
set_option maxRecDepth 100000 in
theorem c_X4_known {l : Launch} {E : En} {ad : Nat → Nat} {G : Lay} {n : Nat} (hI : adI ad n) (ht : ModAt E ad G n) {σ : St} {res : Unit × St} (hf : f_X4_known  σ = some res) : Ct l yX4_known cX4_known 2 none 1 E ad G n [.ref (ad 0)] σ none res.2 := by
  unfold f_X4_known at hf
  refine J_start (own := RX4) (lv := [(0, .ref (ad 0))]) pnX4 rfl hI (Nat.le_of_ble_eq_true rfl) rfl (fun p e s m args below meth c F => ?_)
  refine J_aload_n (pc := 0) F dX4_known_0 rfl 0 rfl ?_
  refine gfX4_acts (pc := 1) F ht wd_627 dX4_known_1 ?_
  refine J_bipush (pc := 4) F dX4_known_4 kb_8 ?_
  obtain ⟨k1, hk1, hf⟩ := jn_elim hf
  have hJk1 : ∀ (q1 : St), k1 q1 = some res → J p l e 1 s m args below meth c E ad G n (QU below E ad G n args s res) 2 q1 46 [(0, .ref (ad 0))] [] := by
    intro q1 hf
    replace hf := hk1 q1 hf
    refine J_aload_n (pc := 46) F dX4_known_46 rfl 0 rfl ?_
    refine J_dup (pc := 47) F dX4_known_47 rfl ?_
    refine gfX4_acts (pc := 48) F ht wd_627 dX4_known_48 ?_
    refine J_iconst (pc := 51) F dX4_known_51 ki_1 ?_
    refine J_iadd (pc := 52) F dX4_known_52 ?_
    obtain ⟨σ10, eσ10, hf⟩ := nm_elim hf
    refine pfX4_acts (pc := 53) F ht wd_627 dX4_known_53 eσ10 ?_
    refine J_aload_n (pc := 56) F dX4_known_56 rfl 0 rfl ?_
    refine J_iconst (pc := 57) F dX4_known_57 ki_0 ?_
    refine J_aload_n (pc := 58) F dX4_known_58 rfl 0 rfl ?_
    refine gfX4_acts (pc := 59) F ht wd_627 dX4_known_59 ?_
    refine J_bipush (pc := 62) F dX4_known_62 kb_91 ?_
    refine J_imul (pc := 64) F dX4_known_64 ?_
    obtain ⟨q11, h11, hf⟩ := bind_elim hf
    refine J_callVU (pc := 65) F (c_X4_copies hI ht h11) (by omega) (by decide) (modN ht) (ht.2.1 _) rfl wc_X4_copies wd_614 rfl rfl (Nat.le_of_ble_eq_true rfl) dX4_known_65 ?_
    exact J_vret (pc := 68) F dX4_known_68 hf
  clear hk1
  rcases ite_elim hf with ⟨c2, hf⟩ | ⟨c2, hf⟩
  · refine J_icmp_neT (pc := 6) F (tgt := 46) dX4_known_6 (by decide) c2 ?_
    exact hJk1 σ hf
  · refine J_icmp_neF (pc := 6) F (tgt := 46) dX4_known_6 (by decide) c2 ?_
    refine J_bipush (pc := 9) F dX4_known_9 kb_91 ?_
    refine J_istore_n (pc := 11) F (lv' := [(1, .int (91 : Int32)), (0, .ref (ad 0))]) dX4_known_11 rfl (by decide) rfl ?_
    refine J_sub [1, 0] rfl ?_
    refine lp_ind (P := fun (b3 : Int32 × St) => J p l e 1 s m args below meth c E ad G n (QU below E ad G n args s res) 2 b3.2 12 [(0, .ref (ad 0)), (1, .int b3.1)] []) (fun r3 ih3 b3 hf => ?_) FU ((91 : Int32), σ) hf
    show J p l e 1 s m args below meth c E ad G n (QU below E ad G n args s res) 2 b3.2 12 [(0, .ref (ad 0)), (1, .int b3.1)] []
    refine J_iload_n (pc := 12) F dX4_known_12 rfl 1 rfl ?_
    refine J_sipush (pc := 13) F dX4_known_13 ks_728 ?_
    rcases ite_elim hf with ⟨c4, hf⟩ | ⟨c4, hf⟩
    · refine J_icmp_geT (pc := 16) F (tgt := 40) dX4_known_16 (by decide) c4 ?_
      refine J_aload_n (pc := 40) F dX4_known_40 rfl 0 rfl ?_
      refine J_bipush (pc := 41) F dX4_known_41 kb_7 ?_
      obtain ⟨σ5, eσ5, hf⟩ := nm_elim hf
      refine pfX4_acts (pc := 43) F ht wd_627 dX4_known_43 eσ5 ?_
      refine J_sub [0] rfl ?_
      exact hJk1 σ5 hf
    · refine J_icmp_geF (pc := 16) F (tgt := 40) dX4_known_16 (by decide) c4 ?_
      refine J_aload_n (pc := 19) F dX4_known_19 rfl 0 rfl ?_
      refine gfX4_slot (pc := 20) F ht wd_626 dX4_known_20 ?_
      refine J_iload_n (pc := 23) F dX4_known_23 rfl 1 rfl ?_
      refine J_aload_n (pc := 24) F dX4_known_24 rfl 0 rfl ?_
      refine gfX4_slot (pc := 25) F ht wd_626 dX4_known_25 ?_
      refine J_iload_n (pc := 28) F dX4_known_28 rfl 1 rfl ?_
      refine J_bipush (pc := 29) F dX4_known_29 kb_91 ?_
      refine J_iadd (pc := 31) F dX4_known_31 ?_
      obtain ⟨g6, hf⟩ := grd_elim hf
      refine J_iald (pc := 32) F ht.2.2.2.2.1 g6 dX4_known_32 ?_
      obtain ⟨g7, hf⟩ := grd_elim hf
      obtain ⟨σ8, eσ8, hf⟩ := nm_elim hf
      refine J_iast (pc := 33) F ht.2.2.2.2.1 g7 dX4_known_33 eσ8 ?_
      obtain ⟨x9, ex9, hf⟩ := nm_elim hf
      refine J_iinc (pc := 34) F (lv' := [(1, .int x9), (0, .ref (ad 0))]) dX4_known_34 1 rfl (ex9.trans (congrArg _ ki_1.symm)) (by decide) rfl ?_
      refine J_goto (pc := 37) F (tgt := 12) dX4_known_37 (by decide) ?_
      refine J_sub [1, 0] rfl ?_
      exact ih3 (x9, σ8) hf
set_option maxHeartbeats 4000000 in
set_option maxRecDepth 100000 in
theorem c_X4_hears {l : Launch} {E : En} {ad : Nat → Nat} {G : Lay} {n : Nat} (hI : adI ad n) (ht : ModAt E ad G n) {a0 : Int32} {a1 : Int32} {a2 : Int32} {σ : St} {res : Int32 × St} (hf : f_X4_hears a0 a1 a2 σ = some res) : Ct l yX4_hears cX4_hears 4 (some .int) 0 E ad G n [.ref (ad 0), .int a0, .int a1, .int a2] σ (some (.int res.1)) res.2 := by
  unfold f_X4_hears at hf
  refine J_start (own := RX4) (lv := [(0, .ref (ad 0)), (1, .int a0), (2, .int a1), (3, .int a2)]) pnX4 rfl hI (Nat.le_of_ble_eq_true rfl) rfl (fun p e s m args below meth c F => ?_)
  refine J_aload_n (pc := 0) F dX4_hears_0 rfl 0 rfl ?_
  refine gfX4_slot (pc := 1) F ht wd_626 dX4_hears_1 ?_
  refine J_iload_n (pc := 4) F dX4_hears_4 rfl 1 rfl ?_
  refine J_bipush (pc := 5) F dX4_hears_5 kb_18 ?_
  refine J_iload_n (pc := 7) F dX4_hears_7 rfl 2 rfl ?_
  refine J_imul (pc := 8) F dX4_hears_8 ?_
  refine J_iadd (pc := 9) F dX4_hears_9 ?_
  obtain ⟨g1, hf⟩ := grd_elim hf
  refine J_iald (pc := 10) F ht.2.2.2.2.1 g1 dX4_hears_10 ?_
  refine J_iconst (pc := 11) F dX4_hears_11 ki_1 ?_
  obtain ⟨k2, hk2, hf⟩ := jn_elim hf
  have hJk2 : ∀ (q2 : St), k2 q2 = some res → J p l e 0 s m args below meth c E ad G n (QI below E ad G n args s res) 4 q2 31 [(3, .int a2)] [] := by
    intro q2 hf
    replace hf := hk2 q2 hf
    refine J_iload_n (pc := 31) F dX4_hears_31 rfl 0 rfl ?_
    exact J_iret (pc := 32) F rfl dX4_hears_32 hf
  clear hk2
  rcases ite_elim hf with ⟨c3, hf⟩ | ⟨c3, hf⟩
  · refine J_icmp_neT (pc := 12) F (tgt := 31) dX4_hears_12 (by decide) c3 ?_
    refine J_sub [3] rfl ?_
    exact hJk2 σ hf
  · refine J_icmp_neF (pc := 12) F (tgt := 31) dX4_hears_12 (by decide) c3 ?_
    refine J_iload_n (pc := 15) F dX4_hears_15 rfl 3 rfl ?_
    refine J_iconst (pc := 16) F dX4_hears_16 ki_2 ?_
    refine J_irem (pc := 17) F dX4_hears_17 (by decide +kernel) ?_
    refine J_iconst (pc := 18) F dX4_hears_18 ki_1 ?_
    rcases ite_elim hf with ⟨c4, hf⟩ | ⟨c4, hf⟩
    · refine J_icmp_neT (pc := 19) F (tgt := 31) dX4_hears_19 (by decide) c4 ?_
      refine J_sub [3] rfl ?_
      exact hJk2 σ hf
    · refine J_icmp_neF (pc := 19) F (tgt := 31) dX4_hears_19 (by decide) c4 ?_
      refine J_iload_n (pc := 22) F dX4_hears_22 rfl 3 rfl ?_
      refine J_iconst (pc := 23) F dX4_hears_23 ki_1 ?_
      refine J_iadd (pc := 24) F dX4_hears_24 ?_
      refine J_bipush (pc := 25) F dX4_hears_25 kb_10 ?_
      refine J_irem (pc := 27) F dX4_hears_27 (by decide +kernel) ?_
      refine J_goto (pc := 28) F (tgt := 32) dX4_hears_28 (by decide) ?_
      exact J_iret (pc := 32) F rfl dX4_hears_32 hf
set_option maxHeartbeats 4000000 in
set_option maxRecDepth 100000 in
theorem c_X4_learns {l : Launch} {E : En} {ad : Nat → Nat} {G : Lay} {n : Nat} (hI : adI ad n) (ht : ModAt E ad G n) {a0 : Int32} {a1 : Int32} {a2 : Int32} {σ : St} {res : Unit × St} (hf : f_X4_learns a0 a1 a2 σ = some res) : Ct l yX4_learns cX4_learns 7 none 1 E ad G n [.ref (ad 0), .int a0, .int a1, .int a2] σ none res.2 := by
  unfold f_X4_learns at hf
  refine J_start (own := RX4) (lv := [(0, .ref (ad 0)), (1, .int a0), (2, .int a1), (3, .int a2)]) pnX4 rfl hI (Nat.le_of_ble_eq_true rfl) rfl (fun p e s m args below meth c F => ?_)
  refine J_aload_n (pc := 0) F dX4_learns_0 rfl 0 rfl ?_
  refine gfX4_slot (pc := 1) F ht wd_626 dX4_learns_1 ?_
  refine J_iload_n (pc := 4) F dX4_learns_4 rfl 1 rfl ?_
  refine J_bipush (pc := 5) F dX4_learns_5 kb_18 ?_
  refine J_iload_n (pc := 7) F dX4_learns_7 rfl 2 rfl ?_
  refine J_imul (pc := 8) F dX4_learns_8 ?_
  refine J_iadd (pc := 9) F dX4_learns_9 ?_
  obtain ⟨g1, hf⟩ := grd_elim hf
  refine J_iald (pc := 10) F ht.2.2.2.2.1 g1 dX4_learns_10 ?_
  obtain ⟨x2, ex2, hf⟩ := nm_elim hf
  refine J_ti ex2 ?_
  refine J_istore (pc := 11) F (lv' := [(4, .int x2), (0, .ref (ad 0)), (1, .int a0), (2, .int a1), (3, .int a2)]) dX4_learns_11 (by decide) rfl ?_
  refine J_aload_n (pc := 13) F dX4_learns_13 rfl 1 rfl ?_
  refine J_iload_n (pc := 14) F dX4_learns_14 rfl 2 rfl ?_
  refine J_iload_n (pc := 15) F dX4_learns_15 rfl 3 rfl ?_
  refine J_iload_n (pc := 16) F dX4_learns_16 rfl 4 rfl ?_
  obtain ⟨q3, h3, hf⟩ := bind_elim hf
  refine J_callVI (pc := 17) F (c_X4_hasIt hI ht h3) (by omega) (by decide) (modN ht) (ht.2.1 _) rfl wc_X4_hasIt wd_761 rfl rfl (Nat.le_of_ble_eq_true rfl) dX4_learns_17 ?_
  refine J_istore (pc := 20) F (lv' := [(5, .int q3.1), (4, .int x2), (0, .ref (ad 0)), (1, .int a0), (2, .int a1), (3, .int a2)]) dX4_learns_20 (by decide) rfl ?_
  refine J_aload_n (pc := 22) F dX4_learns_22 rfl 2 rfl ?_
  refine J_iload_n (pc := 23) F dX4_learns_23 rfl 3 rfl ?_
  refine J_iload_n (pc := 24) F dX4_learns_24 rfl 4 rfl ?_
  refine J_iload_n (pc := 25) F dX4_learns_25 rfl 5 rfl ?_
  refine J_iload (pc := 26) F dX4_learns_26 1 rfl ?_
  refine J_iconst (pc := 28) F dX4_learns_28 ki_3 ?_
  obtain ⟨k4, hk4, hf⟩ := jn_elim hf
  have hJk4 : ∀ (q4 : Int32 × St), k4 q4 = some res → J p l e 1 s m args below meth c E ad G n (QU below E ad G n args s res) 7 q4.2 54 [(0, .ref (ad 0)), (1, .int a0), (2, .int a1), (3, .int a2), (4, .int x2)] [.int q4.1, .int a2, .int a1, .int a0, .ref (ad 0)] := by
    intro q4 hf
    replace hf := hk4 q4 hf
    obtain ⟨q10, h10, hf⟩ := bind_elim hf
    refine J_callVU (pc := 54) F (c_X4_gets hI ht h10) (by omega) (by decide) (modN ht) (ht.2.1 _) rfl wc_X4_gets wd_796 rfl rfl (Nat.le_of_ble_eq_true rfl) dX4_learns_54 ?_
    refine J_iload_n (pc := 57) F dX4_learns_57 rfl 3 rfl ?_
    refine J_iconst (pc := 58) F dX4_learns_58 ki_1 ?_
    refine J_iadd (pc := 59) F dX4_learns_59 ?_
    refine J_aload_n (pc := 60) F dX4_learns_60 rfl 0 rfl ?_
    refine gfX4_words (pc := 61) F ht wd_618 dX4_learns_61 ?_
    obtain ⟨g11, hf⟩ := grd_elim hf
    refine J_irem (pc := 64) F dX4_learns_64 g11 ?_
    obtain ⟨x12, ex12, hf⟩ := nm_elim hf
    refine J_ti ex12 ?_
    refine J_istore (pc := 65) F (lv' := [(6, .int x12), (0, .ref (ad 0)), (1, .int a0), (2, .int a1), (3, .int a2), (4, .int x2)]) dX4_learns_65 (by decide) rfl ?_
    refine J_iload (pc := 67) F dX4_learns_67 5 rfl ?_
    refine J_iconst (pc := 69) F dX4_learns_69 ki_2 ?_
    rcases ite_elim hf with ⟨c13, hf⟩ | ⟨c13, hf⟩
    · refine J_icmp_neT (pc := 70) F (tgt := 99) dX4_learns_70 (by decide) c13 ?_
      exact J_vret (pc := 99) F dX4_learns_99 hf
    · refine J_icmp_neF (pc := 70) F (tgt := 99) dX4_learns_70 (by decide) c13 ?_
      refine J_aload_n (pc := 73) F dX4_learns_73 rfl 1 rfl ?_
      refine J_iload_n (pc := 74) F dX4_learns_74 rfl 2 rfl ?_
      refine J_iload_n (pc := 75) F dX4_learns_75 rfl 3 rfl ?_
      refine J_iload (pc := 76) F dX4_learns_76 0 rfl ?_
      obtain ⟨q14, h14, hf⟩ := bind_elim hf
      refine J_callVI (pc := 78) F (c_X4_hasIt hI ht h14) (by omega) (by decide) (modN ht) (ht.2.1 _) rfl wc_X4_hasIt wd_761 rfl rfl (Nat.le_of_ble_eq_true rfl) dX4_learns_78 ?_
      rcases ite_elim hf with ⟨c15, hf⟩ | ⟨c15, hf⟩
      · refine J_if_geT (pc := 81) F (tgt := 99) dX4_learns_81 (by decide) c15 ?_
        exact J_vret (pc := 99) F dX4_learns_99 hf
      · refine J_if_geF (pc := 81) F (tgt := 99) dX4_learns_81 (by decide) c15 ?_
        refine J_aload_n (pc := 84) F dX4_learns_84 rfl 1 rfl ?_
        refine J_iload_n (pc := 85) F dX4_learns_85 rfl 2 rfl ?_
        refine J_iload_n (pc := 86) F dX4_learns_86 rfl 3 rfl ?_
        refine J_iload (pc := 87) F dX4_learns_87 0 rfl ?_
        refine J_aload_n (pc := 89) F dX4_learns_89 rfl 1 rfl ?_
        refine gfX4_sounds (pc := 90) F ht wd_619 dX4_learns_90 ?_
        refine J_iload (pc := 93) F dX4_learns_93 0 rfl ?_
        obtain ⟨g16, hf⟩ := grd_elim hf
        refine J_iald (pc := 95) F ht.2.2.1 g16 dX4_learns_95 ?_
        obtain ⟨q17, h17, hf⟩ := bind_elim hf
        refine J_callVU (pc := 96) F (c_X4_gets hI ht h17) (by omega) (by decide) (modN ht) (ht.2.1 _) rfl wc_X4_gets wd_796 rfl rfl (Nat.le_of_ble_eq_true rfl) dX4_learns_96 ?_
        exact J_vret (pc := 99) F dX4_learns_99 hf
  clear hk4
  obtain ⟨k5, hk5, hf⟩ := jn_elim hf
  have hJk5 : ∀ (q5 : St), k5 q5 = some res → J p l e 1 s m args below meth c E ad G n (QU below E ad G n args s res) 7 q5 42 [(0, .ref (ad 0)), (1, .int a0), (2, .int a1), (3, .int a2), (4, .int x2)] [.int a2, .int a1, .int a0, .ref (ad 0)] := by
    intro q5 hf
    replace hf := hk5 q5 hf
    refine J_aload_n (pc := 42) F dX4_learns_42 rfl 0 rfl ?_
    refine J_iload_n (pc := 43) F dX4_learns_43 rfl 1 rfl ?_
    refine J_iload_n (pc := 44) F dX4_learns_44 rfl 2 rfl ?_
    refine J_aload_n (pc := 45) F dX4_learns_45 rfl 0 rfl ?_
    refine gfX4_sounds (pc := 46) F ht wd_619 dX4_learns_46 ?_
    refine J_iload_n (pc := 49) F dX4_learns_49 rfl 3 rfl ?_
    obtain ⟨g8, hf⟩ := grd_elim hf
    refine J_iald (pc := 50) F ht.2.2.1 g8 dX4_learns_50 ?_
    obtain ⟨q9, h9, hf⟩ := bind_elim hf
    refine J_callVI (pc := 51) F (c_X4_hears hI ht h9) (by omega) (by decide) (modN ht) (ht.2.1 _) rfl wc_X4_hears wd_792 rfl rfl (Nat.le_of_ble_eq_true rfl) dX4_learns_51 ?_
    exact hJk4 (q9.1, q9.2) hf
  clear hk5
  rcases ite_elim hf with ⟨c6, hf⟩ | ⟨c6, hf⟩
  · refine J_icmp_neT (pc := 29) F (tgt := 42) dX4_learns_29 (by decide) c6 ?_
    refine J_sub [2, 3, 4, 5, 1] rfl ?_
    exact hJk5 q3.2 hf
  · refine J_icmp_neF (pc := 29) F (tgt := 42) dX4_learns_29 (by decide) c6 ?_
    refine J_iload (pc := 32) F dX4_learns_32 0 rfl ?_
    rcases ite_elim hf with ⟨c7, hf⟩ | ⟨c7, hf⟩
    · refine J_if_ltT (pc := 34) F (tgt := 42) dX4_learns_34 (by decide) c7 ?_
      refine J_sub [2, 3, 4, 5, 1] rfl ?_
      exact hJk5 q3.2 hf
    · refine J_if_ltF (pc := 34) F (tgt := 42) dX4_learns_34 (by decide) c7 ?_
      refine J_iload (pc := 37) F dX4_learns_37 0 rfl ?_
      refine J_goto (pc := 39) F (tgt := 54) dX4_learns_39 (by decide) ?_
      refine J_sub [2, 3, 4, 5, 1] rfl ?_
      exact hJk4 (q3.1, q3.2) hf
set_option maxHeartbeats 4000000 in
set_option maxRecDepth 100000 in
theorem c_X4_lesson {l : Launch} {E : En} {ad : Nat → Nat} {G : Lay} {n : Nat} (hI : adI ad n) (ht : ModAt E ad G n) {a0 : Int32} {a1 : Int32} {σ : St} {res : Int32 × St} (hf : f_X4_lesson a0 a1 σ = some res) : Ct l yX4_lesson cX4_lesson 3 (some .int) 2 E ad G n [.ref (ad 0), .int a0, .int a1] σ (some (.int res.1)) res.2 := by
  unfold f_X4_lesson at hf
  refine J_start (own := RX4) (lv := [(0, .ref (ad 0)), (1, .int a0), (2, .int a1)]) pnX4 rfl hI (Nat.le_of_ble_eq_true rfl) rfl (fun p e s m args below meth c F => ?_)
  refine J_aload_n (pc := 0) F dX4_lesson_0 rfl 0 rfl ?_
  refine J_iload_n (pc := 1) F dX4_lesson_1 rfl 1 rfl ?_
  obtain ⟨q1, h1, hf⟩ := bind_elim hf
  refine J_callVI (pc := 2) F (c_X4_isOne hI ht h1) (by omega) (by decide) (modN ht) (ht.2.1 _) rfl wc_X4_isOne wd_752 rfl rfl (Nat.le_of_ble_eq_true rfl) dX4_lesson_2 ?_
  rcases ite_elim hf with ⟨c2, hf⟩ | ⟨c2, hf⟩
  · refine J_if_eqT (pc := 5) F (tgt := 16) dX4_lesson_5 (by decide) c2 ?_
    refine J_iconst (pc := 16) F dX4_lesson_16 ki_m1 ?_
    exact J_iret (pc := 17) F rfl dX4_lesson_17 hf
  · refine J_if_eqF (pc := 5) F (tgt := 16) dX4_lesson_5 (by decide) c2 ?_
    refine J_aload_n (pc := 8) F dX4_lesson_8 rfl 0 rfl ?_
    refine J_iload_n (pc := 9) F dX4_lesson_9 rfl 2 rfl ?_
    obtain ⟨q3, h3, hf⟩ := bind_elim hf
    refine J_callVI (pc := 10) F (c_X4_isWord hI ht h3) (by omega) (by decide) (modN ht) (ht.2.1 _) rfl wc_X4_isWord wd_744 rfl rfl (Nat.le_of_ble_eq_true rfl) dX4_lesson_10 ?_
    rcases ite_elim hf with ⟨c4, hf⟩ | ⟨c4, hf⟩
    · refine J_if_neT (pc := 13) F (tgt := 18) dX4_lesson_13 (by decide) c4 ?_
      refine J_aload_n (pc := 18) F dX4_lesson_18 rfl 0 rfl ?_
      obtain ⟨q5, h5, hf⟩ := bind_elim hf
      refine J_callVU (pc := 19) F (c_X4_known hI ht h5) (by omega) (by decide) (modN ht) (ht.2.1 _) rfl wc_X4_known wd_784 rfl rfl (Nat.le_of_ble_eq_true rfl) dX4_lesson_19 ?_
      refine J_aload_n (pc := 22) F dX4_lesson_22 rfl 0 rfl ?_
      refine J_iconst (pc := 23) F dX4_lesson_23 ki_0 ?_
      refine J_iload_n (pc := 24) F dX4_lesson_24 rfl 1 rfl ?_
      refine J_iload_n (pc := 25) F dX4_lesson_25 rfl 2 rfl ?_
      obtain ⟨q6, h6, hf⟩ := bind_elim hf
      refine J_callVU (pc := 26) F (c_X4_learns hI ht h6) (by omega) (by decide) (modN ht) (ht.2.1 _) rfl wc_X4_learns wd_788 rfl rfl (Nat.le_of_ble_eq_true rfl) dX4_lesson_26 ?_
      refine J_aload_n (pc := 29) F dX4_lesson_29 rfl 0 rfl ?_
      refine J_iconst (pc := 30) F dX4_lesson_30 ki_0 ?_
      refine J_iload_n (pc := 31) F dX4_lesson_31 rfl 1 rfl ?_
      refine J_iload_n (pc := 32) F dX4_lesson_32 rfl 2 rfl ?_
      obtain ⟨q7, h7, hf⟩ := bind_elim hf
      refine J_callVI (pc := 33) F (c_X4_hasIt hI ht h7) (by omega) (by decide) (modN ht) (ht.2.1 _) rfl wc_X4_hasIt wd_761 rfl rfl (Nat.le_of_ble_eq_true rfl) dX4_lesson_33 ?_
      exact J_iret (pc := 36) F rfl dX4_lesson_36 hf
    · refine J_if_neF (pc := 13) F (tgt := 18) dX4_lesson_13 (by decide) c4 ?_
      refine J_iconst (pc := 16) F dX4_lesson_16 ki_m1 ?_
      exact J_iret (pc := 17) F rfl dX4_lesson_17 hf
set_option maxHeartbeats 4000000 in
set_option maxRecDepth 100000 in
theorem c_X4_tellings {l : Launch} {E : En} {ad : Nat → Nat} {G : Lay} {n : Nat} (hI : adI ad n) (ht : ModAt E ad G n) {a0 : Int32} {a1 : Int32} {σ : St} {res : Unit × St} (hf : f_X4_tellings a0 a1 σ = some res) : Ct l yX4_tellings cX4_tellings 6 none 1 E ad G n [.ref (ad 0), .int a0, .int a1] σ none res.2 := by
  unfold f_X4_tellings at hf
  refine J_start (own := RX4) (lv := [(0, .ref (ad 0)), (1, .int a0), (2, .int a1)]) pnX4 rfl hI (Nat.le_of_ble_eq_true rfl) rfl (fun p e s m args below meth c F => ?_)
  refine J_iconst (pc := 0) F dX4_tellings_0 ki_0 ?_
  refine J_istore_n (pc := 1) F (lv' := [(3, .int (0 : Int32)), (0, .ref (ad 0)), (1, .int a0), (2, .int a1)]) dX4_tellings_1 rfl (by decide) rfl ?_
  refine J_sub [1, 2, 3, 0] rfl ?_
  refine lp_ind (P := fun (b1 : Int32 × St) => J p l e 1 s m args below meth c E ad G n (QU below E ad G n args s res) 6 b1.2 2 [(0, .ref (ad 0)), (1, .int a0), (2, .int a1), (3, .int b1.1)] []) (fun r1 ih1 b1 hf => ?_) FU ((0 : Int32), σ) hf
  show J p l e 1 s m args below meth c E ad G n (QU below E ad G n args s res) 6 b1.2 2 [(0, .ref (ad 0)), (1, .int a0), (2, .int a1), (3, .int b1.1)] []
  refine J_iload_n (pc := 2) F dX4_tellings_2 rfl 3 rfl ?_
  refine J_aload_n (pc := 3) F dX4_tellings_3 rfl 0 rfl ?_
  refine gfX4_many (pc := 4) F ht wd_620 dX4_tellings_4 ?_
  rcases ite_elim hf with ⟨c2, hf⟩ | ⟨c2, hf⟩
  · refine J_icmp_geT (pc := 7) F (tgt := 135) dX4_tellings_7 (by decide) c2 ?_
    exact J_vret (pc := 135) F dX4_tellings_135 hf
  · refine J_icmp_geF (pc := 7) F (tgt := 135) dX4_tellings_7 (by decide) c2 ?_
    refine J_iload_n (pc := 10) F dX4_tellings_10 rfl 3 rfl ?_
    refine J_iconst (pc := 11) F dX4_tellings_11 ki_1 ?_
    refine J_iadd (pc := 12) F dX4_tellings_12 ?_
    refine J_aload_n (pc := 13) F dX4_tellings_13 rfl 0 rfl ?_
    refine gfX4_many (pc := 14) F ht wd_620 dX4_tellings_14 ?_
    obtain ⟨g3, hf⟩ := grd_elim hf
    refine J_irem (pc := 17) F dX4_tellings_17 g3 ?_
    obtain ⟨x4, ex4, hf⟩ := nm_elim hf
    refine J_ti ex4 ?_
    refine J_istore (pc := 18) F (lv' := [(4, .int x4), (0, .ref (ad 0)), (1, .int a0), (2, .int a1), (3, .int b1.1)]) dX4_tellings_18 (by decide) rfl ?_
    refine J_aload_n (pc := 20) F dX4_tellings_20 rfl 1 rfl ?_
    refine gfX4_tells (pc := 21) F ht wd_638 dX4_tellings_21 ?_
    refine J_iload_n (pc := 24) F dX4_tellings_24 rfl 4 rfl ?_
    refine J_bipush (pc := 25) F dX4_tellings_25 kb_m4 ?_
    obtain ⟨g5, hf⟩ := grd_elim hf
    obtain ⟨σ6, eσ6, hf⟩ := nm_elim hf
    refine J_iast (pc := 27) F ht.2.2.2.2.2.2.2.2.2.1 g5 dX4_tellings_27 eσ6 ?_
    refine J_aload_n (pc := 28) F dX4_tellings_28 rfl 1 rfl ?_
    refine gfX4_words (pc := 29) F ht wd_618 dX4_tellings_29 ?_
    refine J_iconst (pc := 32) F dX4_tellings_32 ki_1 ?_
    refine J_isub (pc := 33) F dX4_tellings_33 ?_
    obtain ⟨x7, ex7, hf⟩ := nm_elim hf
    refine J_ti ex7 ?_
    refine J_istore (pc := 34) F (lv' := [(5, .int x7), (4, .int x4), (0, .ref (ad 0)), (1, .int a0), (2, .int a1), (3, .int b1.1)]) dX4_tellings_34 (by decide) rfl ?_
    refine J_sub [2, 3, 4, 5, 1, 0] rfl ?_
    refine lp_ind (P := fun (b8 : Int32 × St) => J p l e 1 s m args below meth c E ad G n (QU below E ad G n args s res) 6 b8.2 36 [(0, .ref (ad 0)), (1, .int a0), (2, .int a1), (3, .int b1.1), (4, .int x4), (5, .int b8.1)] []) (fun r8 ih8 b8 hf => ?_) FU (x7, σ6) hf
    show J p l e 1 s m args below meth c E ad G n (QU below E ad G n args s res) 6 b8.2 36 [(0, .ref (ad 0)), (1, .int a0), (2, .int a1), (3, .int b1.1), (4, .int x4), (5, .int b8.1)] []
    refine J_iload (pc := 36) F dX4_tellings_36 5 rfl ?_
    obtain ⟨k9, hk9, hf⟩ := jn_elim hf
    have hJk9 : ∀ (q9 : St), k9 q9 = some res → J p l e 1 s m args below meth c E ad G n (QU below E ad G n args s res) 6 q9 97 [(0, .ref (ad 0)), (1, .int a0), (2, .int a1), (3, .int b1.1)] [] := by
      intro q9 hf
      replace hf := hk9 q9 hf
      refine J_aload_n (pc := 97) F dX4_tellings_97 rfl 0 rfl ?_
      refine gfX4_how (pc := 98) F ht wd_639 dX4_tellings_98 ?_
      refine J_iload_n (pc := 101) F dX4_tellings_101 rfl 3 rfl ?_
      refine J_aload_n (pc := 102) F dX4_tellings_102 rfl 0 rfl ?_
      refine gfX4_tells (pc := 103) F ht wd_638 dX4_tellings_103 ?_
      refine J_iload_n (pc := 106) F dX4_tellings_106 rfl 3 rfl ?_
      obtain ⟨g23, hf⟩ := grd_elim hf
      refine J_iald (pc := 107) F ht.2.2.2.2.2.2.2.2.2.1 g23 dX4_tellings_107 ?_
      obtain ⟨k24, hk24, hf⟩ := jn_elim hf
      have hJk24 : ∀ (q24 : Int32 × St), k24 q24 = some res → J p l e 1 s m args below meth c E ad G n (QU below E ad G n args s res) 6 q24.2 128 [(0, .ref (ad 0)), (1, .int a0), (2, .int a1), (3, .int b1.1)] [.int q24.1, .int b1.1, .ref (ad 9)] := by
        intro q24 hf
        replace hf := hk24 q24 hf
        obtain ⟨g28, hf⟩ := grd_elim hf
        obtain ⟨σ29, eσ29, hf⟩ := nm_elim hf
        refine J_iast (pc := 128) F ht.2.2.2.2.2.2.2.2.2.2 g28 dX4_tellings_128 eσ29 ?_
        obtain ⟨x30, ex30, hf⟩ := nm_elim hf
        refine J_iinc (pc := 129) F (lv' := [(3, .int x30), (0, .ref (ad 0)), (1, .int a0), (2, .int a1)]) dX4_tellings_129 3 rfl (ex30.trans (congrArg _ ki_1.symm)) (by decide) rfl ?_
        refine J_goto (pc := 132) F (tgt := 2) dX4_tellings_132 (by decide) ?_
        refine J_sub [1, 2, 3, 0] rfl ?_
        exact ih1 (x30, σ29) hf
      clear hk24
      rcases ite_elim hf with ⟨c25, hf⟩ | ⟨c25, hf⟩
      · refine J_if_geT (pc := 108) F (tgt := 116) dX4_tellings_108 (by decide) c25 ?_
        refine J_aload_n (pc := 116) F dX4_tellings_116 rfl 0 rfl ?_
        refine J_iload_n (pc := 117) F dX4_tellings_117 rfl 1 rfl ?_
        refine J_iload_n (pc := 118) F dX4_tellings_118 rfl 3 rfl ?_
        refine J_aload_n (pc := 119) F dX4_tellings_119 rfl 0 rfl ?_
        refine gfX4_tells (pc := 120) F ht wd_638 dX4_tellings_120 ?_
        refine J_iload_n (pc := 123) F dX4_tellings_123 rfl 3 rfl ?_
        obtain ⟨g26, hf⟩ := grd_elim hf
        refine J_iald (pc := 124) F ht.2.2.2.2.2.2.2.2.2.1 g26 dX4_tellings_124 ?_
        obtain ⟨q27, h27, hf⟩ := bind_elim hf
        refine J_callVI (pc := 125) F (c_X4_hasIt hI ht h27) (by omega) (by decide) (modN ht) (ht.2.1 _) rfl wc_X4_hasIt wd_761 rfl rfl (Nat.le_of_ble_eq_true rfl) dX4_tellings_125 ?_
        exact hJk24 (q27.1, q27.2) hf
      · refine J_if_geF (pc := 108) F (tgt := 116) dX4_tellings_108 (by decide) c25 ?_
        refine J_bipush (pc := 111) F dX4_tellings_111 kb_m4 ?_
        refine J_goto (pc := 113) F (tgt := 128) dX4_tellings_113 (by decide) ?_
        exact hJk24 ((-4 : Int32), q9) hf
    clear hk9
    rcases ite_elim hf with ⟨c10, hf⟩ | ⟨c10, hf⟩
    · refine J_if_ltT (pc := 38) F (tgt := 97) dX4_tellings_38 (by decide) c10 ?_
      refine J_sub [0, 1, 2, 3] rfl ?_
      exact hJk9 b8.2 hf
    · refine J_if_ltF (pc := 38) F (tgt := 97) dX4_tellings_38 (by decide) c10 ?_
      refine J_iload (pc := 41) F dX4_tellings_41 4 rfl ?_
      refine J_iload_n (pc := 43) F dX4_tellings_43 rfl 3 rfl ?_
      rcases ite_elim hf with ⟨c11, hf⟩ | ⟨c11, hf⟩
      · refine J_icmp_eqT (pc := 44) F (tgt := 97) dX4_tellings_44 (by decide) c11 ?_
        refine J_sub [0, 1, 2, 3] rfl ?_
        exact hJk9 b8.2 hf
      · refine J_icmp_eqF (pc := 44) F (tgt := 97) dX4_tellings_44 (by decide) c11 ?_
        refine J_iload_n (pc := 47) F dX4_tellings_47 rfl 2 rfl ?_
        rcases ite_elim hf with ⟨c12, hf⟩ | ⟨c12, hf⟩
        · refine J_if_neT (pc := 48) F (tgt := 97) dX4_tellings_48 (by decide) c12 ?_
          refine J_sub [0, 1, 2, 3] rfl ?_
          exact hJk9 b8.2 hf
        · refine J_if_neF (pc := 48) F (tgt := 97) dX4_tellings_48 (by decide) c12 ?_
          refine J_aload_n (pc := 51) F dX4_tellings_51 rfl 0 rfl ?_
          refine gfX4_tells (pc := 52) F ht wd_638 dX4_tellings_52 ?_
          refine J_iload_n (pc := 55) F dX4_tellings_55 rfl 3 rfl ?_
          refine J_aload_n (pc := 56) F dX4_tellings_56 rfl 0 rfl ?_
          refine J_iload_n (pc := 57) F dX4_tellings_57 rfl 1 rfl ?_
          refine J_iload_n (pc := 58) F dX4_tellings_58 rfl 3 rfl ?_
          refine J_iload (pc := 59) F dX4_tellings_59 5 rfl ?_
          obtain ⟨q13, h13, hf⟩ := bind_elim hf
          refine J_callVI (pc := 61) F (c_X4_hasIt hI ht h13) (by omega) (by decide) (modN ht) (ht.2.1 _) rfl wc_X4_hasIt wd_761 rfl rfl (Nat.le_of_ble_eq_true rfl) dX4_tellings_61 ?_
          obtain ⟨k14, hk14, hf⟩ := jn_elim hf
          have hJk14 : ∀ (q14 : Int32 × St), k14 q14 = some res → J p l e 1 s m args below meth c E ad G n (QU below E ad G n args s res) 6 q14.2 90 [(0, .ref (ad 0)), (1, .int a0), (2, .int a1), (3, .int b1.1), (4, .int x4), (5, .int b8.1)] [.int q14.1, .int b1.1, .ref (ad 8)] := by
            intro q14 hf
            replace hf := hk14 q14 hf
            obtain ⟨g20, hf⟩ := grd_elim hf
            obtain ⟨σ21, eσ21, hf⟩ := nm_elim hf
            refine J_iast (pc := 90) F ht.2.2.2.2.2.2.2.2.2.1 g20 dX4_tellings_90 eσ21 ?_
            obtain ⟨x22, ex22, hf⟩ := nm_elim hf
            refine J_iinc (pc := 91) F (lv' := [(5, .int x22), (0, .ref (ad 0)), (1, .int a0), (2, .int a1), (3, .int b1.1), (4, .int x4)]) dX4_tellings_91 5 rfl (ex22.trans (congrArg _ ki_m1.symm)) (by decide) rfl ?_
            refine J_goto (pc := 94) F (tgt := 36) dX4_tellings_94 (by decide) ?_
            refine J_sub [1, 2, 3, 4, 5, 0] rfl ?_
            exact ih8 (x22, σ21) hf
          clear hk14
          obtain ⟨k15, hk15, hf⟩ := jn_elim hf
          have hJk15 : ∀ (q15 : St), k15 q15 = some res → J p l e 1 s m args below meth c E ad G n (QU below E ad G n args s res) 6 q15 84 [(0, .ref (ad 0)), (1, .int a0), (2, .int a1), (3, .int b1.1), (4, .int x4), (5, .int b8.1)] [.int b1.1, .ref (ad 8)] := by
            intro q15 hf
            replace hf := hk15 q15 hf
            refine J_aload_n (pc := 84) F dX4_tellings_84 rfl 0 rfl ?_
            refine gfX4_tells (pc := 85) F ht wd_638 dX4_tellings_85 ?_
            refine J_iload_n (pc := 88) F dX4_tellings_88 rfl 3 rfl ?_
            obtain ⟨g19, hf⟩ := grd_elim hf
            refine J_iald (pc := 89) F ht.2.2.2.2.2.2.2.2.2.1 g19 dX4_tellings_89 ?_
            exact hJk14 ((q15 8 b1.1.toNatClampNeg), q15) hf
          clear hk15
          rcases ite_elim hf with ⟨c16, hf⟩ | ⟨c16, hf⟩
          · refine J_if_ltT (pc := 64) F (tgt := 84) dX4_tellings_64 (by decide) c16 ?_
            exact hJk15 q13.2 hf
          · refine J_if_ltF (pc := 64) F (tgt := 84) dX4_tellings_64 (by decide) c16 ?_
            refine J_aload_n (pc := 67) F dX4_tellings_67 rfl 0 rfl ?_
            refine J_iload_n (pc := 68) F dX4_tellings_68 rfl 1 rfl ?_
            refine J_iload (pc := 69) F dX4_tellings_69 4 rfl ?_
            refine J_iload (pc := 71) F dX4_tellings_71 5 rfl ?_
            obtain ⟨q17, h17, hf⟩ := bind_elim hf
            refine J_callVI (pc := 73) F (c_X4_hasIt hI ht h17) (by omega) (by decide) (modN ht) (ht.2.1 _) rfl wc_X4_hasIt wd_761 rfl rfl (Nat.le_of_ble_eq_true rfl) dX4_tellings_73 ?_
            rcases ite_elim hf with ⟨c18, hf⟩ | ⟨c18, hf⟩
            · refine J_if_geT (pc := 76) F (tgt := 84) dX4_tellings_76 (by decide) c18 ?_
              exact hJk15 q17.2 hf
            · refine J_if_geF (pc := 76) F (tgt := 84) dX4_tellings_76 (by decide) c18 ?_
              refine J_iload (pc := 79) F dX4_tellings_79 5 rfl ?_
              refine J_goto (pc := 81) F (tgt := 90) dX4_tellings_81 (by decide) ?_
              exact hJk14 (b8.1, q17.2) hf
set_option maxHeartbeats 4000000 in
set_option maxRecDepth 100000 in
theorem c_X4_grows {l : Launch} {E : En} {ad : Nat → Nat} {G : Lay} {n : Nat} (hI : adI ad n) (ht : ModAt E ad G n) {a0 : Int32} {a1 : Int32} {σ : St} {res : Unit × St} (hf : f_X4_grows a0 a1 σ = some res) : Ct l yX4_grows cX4_grows 5 none 1 E ad G n [.ref (ad 0), .int a0, .int a1] σ none res.2 := by
  unfold f_X4_grows at hf
  refine J_start (own := RX4) (lv := [(0, .ref (ad 0)), (1, .int a0), (2, .int a1)]) pnX4 rfl hI (Nat.le_of_ble_eq_true rfl) rfl (fun p e s m args below meth c F => ?_)
  refine J_iconst (pc := 0) F dX4_grows_0 ki_0 ?_
  refine J_istore_n (pc := 1) F (lv' := [(3, .int (0 : Int32)), (0, .ref (ad 0)), (1, .int a0), (2, .int a1)]) dX4_grows_1 rfl (by decide) rfl ?_
  refine J_sub [1, 2, 3, 0] rfl ?_
  refine lp_ind (P := fun (b1 : Int32 × St) => J p l e 1 s m args below meth c E ad G n (QU below E ad G n args s res) 5 b1.2 2 [(0, .ref (ad 0)), (1, .int a0), (2, .int a1), (3, .int b1.1)] []) (fun r1 ih1 b1 hf => ?_) FU ((0 : Int32), σ) hf
  show J p l e 1 s m args below meth c E ad G n (QU below E ad G n args s res) 5 b1.2 2 [(0, .ref (ad 0)), (1, .int a0), (2, .int a1), (3, .int b1.1)] []
  refine J_iload_n (pc := 2) F dX4_grows_2 rfl 3 rfl ?_
  refine J_aload_n (pc := 3) F dX4_grows_3 rfl 0 rfl ?_
  refine gfX4_words (pc := 4) F ht wd_618 dX4_grows_4 ?_
  rcases ite_elim hf with ⟨c2, hf⟩ | ⟨c2, hf⟩
  · refine J_icmp_geT (pc := 7) F (tgt := 114) dX4_grows_7 (by decide) c2 ?_
    exact J_vret (pc := 114) F dX4_grows_114 hf
  · refine J_icmp_geF (pc := 7) F (tgt := 114) dX4_grows_7 (by decide) c2 ?_
    refine J_aload_n (pc := 10) F dX4_grows_10 rfl 0 rfl ?_
    refine J_iload_n (pc := 11) F dX4_grows_11 rfl 1 rfl ?_
    refine J_iload_n (pc := 12) F dX4_grows_12 rfl 2 rfl ?_
    refine J_iload_n (pc := 13) F dX4_grows_13 rfl 3 rfl ?_
    obtain ⟨q3, h3, hf⟩ := bind_elim hf
    refine J_callVI (pc := 14) F (c_X4_hasIt hI ht h3) (by omega) (by decide) (modN ht) (ht.2.1 _) rfl wc_X4_hasIt wd_761 rfl rfl (Nat.le_of_ble_eq_true rfl) dX4_grows_14 ?_
    obtain ⟨k4, hk4, hf⟩ := jn_elim hf
    have hJk4 : ∀ (q4 : St), k4 q4 = some res → J p l e 1 s m args below meth c E ad G n (QU below E ad G n args s res) 5 q4 108 [(0, .ref (ad 0)), (1, .int a0), (2, .int a1), (3, .int b1.1)] [] := by
      intro q4 hf
      replace hf := hk4 q4 hf
      obtain ⟨x17, ex17, hf⟩ := nm_elim hf
      refine J_iinc (pc := 108) F (lv' := [(3, .int x17), (0, .ref (ad 0)), (1, .int a0), (2, .int a1)]) dX4_grows_108 3 rfl (ex17.trans (congrArg _ ki_1.symm)) (by decide) rfl ?_
      refine J_goto (pc := 111) F (tgt := 2) dX4_grows_111 (by decide) ?_
      refine J_sub [1, 2, 3, 0] rfl ?_
      exact ih1 (x17, q4) hf
    clear hk4
    rcases ite_elim hf with ⟨c5, hf⟩ | ⟨c5, hf⟩
    · refine J_if_ltT (pc := 17) F (tgt := 108) dX4_grows_17 (by decide) c5 ?_
      exact hJk4 q3.2 hf
    · refine J_if_ltF (pc := 17) F (tgt := 108) dX4_grows_17 (by decide) c5 ?_
      refine J_iload_n (pc := 20) F dX4_grows_20 rfl 3 rfl ?_
      refine J_aload_n (pc := 21) F dX4_grows_21 rfl 0 rfl ?_
      refine gfX4_tells (pc := 22) F ht wd_638 dX4_grows_22 ?_
      refine J_iload_n (pc := 25) F dX4_grows_25 rfl 2 rfl ?_
      obtain ⟨g6, hf⟩ := grd_elim hf
      refine J_iald (pc := 26) F ht.2.2.2.2.2.2.2.2.2.1 g6 dX4_grows_26 ?_
      obtain ⟨k7, hk7, hf⟩ := jn_elim hf
      have hJk7 : ∀ (q7 : Int32 × St), k7 q7 = some res → J p l e 1 s m args below meth c E ad G n (QU below E ad G n args s res) 5 q7.2 52 [(0, .ref (ad 0)), (1, .int a0), (2, .int a1), (3, .int b1.1)] [.int q7.1] := by
        intro q7 hf
        replace hf := hk7 q7 hf
        refine J_istore (pc := 52) F (lv' := [(4, .int q7.1), (0, .ref (ad 0)), (1, .int a0), (2, .int a1), (3, .int b1.1)]) dX4_grows_52 (by decide) rfl ?_
        refine J_aload_n (pc := 54) F dX4_grows_54 rfl 1 rfl ?_
        refine gfX4_slot (pc := 55) F ht wd_626 dX4_grows_55 ?_
        refine J_iload_n (pc := 58) F dX4_grows_58 rfl 2 rfl ?_
        refine J_bipush (pc := 59) F dX4_grows_59 kb_18 ?_
        refine J_iload_n (pc := 61) F dX4_grows_61 rfl 3 rfl ?_
        refine J_imul (pc := 62) F dX4_grows_62 ?_
        refine J_iadd (pc := 63) F dX4_grows_63 ?_
        refine J_bipush (pc := 64) F dX4_grows_64 kb_10 ?_
        refine J_iadd (pc := 66) F dX4_grows_66 ?_
        refine J_iload_n (pc := 67) F dX4_grows_67 rfl 4 rfl ?_
        refine J_iadd (pc := 68) F dX4_grows_68 ?_
        refine J_iload (pc := 69) F dX4_grows_69 0 rfl ?_
        obtain ⟨g10, hf⟩ := grd_elim hf
        obtain ⟨σ11, eσ11, hf⟩ := nm_elim hf
        refine J_iast (pc := 71) F ht.2.2.2.2.1 g10 dX4_grows_71 eσ11 ?_
        refine J_iload (pc := 72) F dX4_grows_72 0 rfl ?_
        refine J_aload_n (pc := 74) F dX4_grows_74 rfl 1 rfl ?_
        refine gfX4_slot (pc := 75) F ht wd_626 dX4_grows_75 ?_
        refine J_iload_n (pc := 78) F dX4_grows_78 rfl 2 rfl ?_
        refine J_bipush (pc := 79) F dX4_grows_79 kb_18 ?_
        refine J_iload_n (pc := 81) F dX4_grows_81 rfl 3 rfl ?_
        refine J_imul (pc := 82) F dX4_grows_82 ?_
        refine J_iadd (pc := 83) F dX4_grows_83 ?_
        refine J_iconst (pc := 84) F dX4_grows_84 ki_1 ?_
        refine J_iadd (pc := 85) F dX4_grows_85 ?_
        obtain ⟨g12, hf⟩ := grd_elim hf
        refine J_iald (pc := 86) F ht.2.2.2.2.1 g12 dX4_grows_86 ?_
        rcases ite_elim hf with ⟨c13, hf⟩ | ⟨c13, hf⟩
        · refine J_icmp_ltT (pc := 87) F (tgt := 108) dX4_grows_87 (by decide) c13 ?_
          refine J_sub [1, 2, 3, 4] rfl ?_
          exact hJk4 σ11 hf
        · refine J_icmp_ltF (pc := 87) F (tgt := 108) dX4_grows_87 (by decide) c13 ?_
          refine J_iload_n (pc := 90) F dX4_grows_90 rfl 4 rfl ?_
          refine J_aload_n (pc := 91) F dX4_grows_91 rfl 1 rfl ?_
          refine gfX4_tells (pc := 92) F ht wd_638 dX4_grows_92 ?_
          refine J_iload_n (pc := 95) F dX4_grows_95 rfl 3 rfl ?_
          obtain ⟨g14, hf⟩ := grd_elim hf
          refine J_iald (pc := 96) F ht.2.2.2.2.2.2.2.2.2.1 g14 dX4_grows_96 ?_
          rcases ite_elim hf with ⟨c15, hf⟩ | ⟨c15, hf⟩
          · refine J_icmp_eqT (pc := 97) F (tgt := 108) dX4_grows_97 (by decide) c15 ?_
            refine J_sub [1, 2, 3, 4] rfl ?_
            exact hJk4 σ11 hf
          · refine J_icmp_eqF (pc := 97) F (tgt := 108) dX4_grows_97 (by decide) c15 ?_
            refine J_aload_n (pc := 100) F dX4_grows_100 rfl 1 rfl ?_
            refine J_iload_n (pc := 101) F dX4_grows_101 rfl 2 rfl ?_
            refine J_iload_n (pc := 102) F dX4_grows_102 rfl 3 rfl ?_
            refine J_iload_n (pc := 103) F dX4_grows_103 rfl 4 rfl ?_
            refine J_iconst (pc := 104) F dX4_grows_104 ki_m1 ?_
            obtain ⟨q16, h16, hf⟩ := bind_elim hf
            refine J_callVU (pc := 105) F (c_X4_gets hI ht h16) (by omega) (by decide) (modN ht) (ht.2.1 _) rfl wc_X4_gets wd_796 rfl rfl (Nat.le_of_ble_eq_true rfl) dX4_grows_105 ?_
            refine J_sub [1, 2, 3, 4] rfl ?_
            exact hJk4 q16.2 hf
      clear hk7
      rcases ite_elim hf with ⟨c8, hf⟩ | ⟨c8, hf⟩
      · refine J_icmp_neT (pc := 27) F (tgt := 34) dX4_grows_27 (by decide) c8 ?_
        refine J_aload_n (pc := 34) F dX4_grows_34 rfl 0 rfl ?_
        refine gfX4_slot (pc := 35) F ht wd_626 dX4_grows_35 ?_
        refine J_iload_n (pc := 38) F dX4_grows_38 rfl 1 rfl ?_
        refine J_bipush (pc := 39) F dX4_grows_39 kb_18 ?_
        refine J_iload_n (pc := 41) F dX4_grows_41 rfl 2 rfl ?_
        refine J_imul (pc := 42) F dX4_grows_42 ?_
        refine J_iadd (pc := 43) F dX4_grows_43 ?_
        refine J_bipush (pc := 44) F dX4_grows_44 kb_10 ?_
        refine J_iadd (pc := 46) F dX4_grows_46 ?_
        refine J_iload_n (pc := 47) F dX4_grows_47 rfl 3 rfl ?_
        refine J_iadd (pc := 48) F dX4_grows_48 ?_
        obtain ⟨g9, hf⟩ := grd_elim hf
        refine J_iald (pc := 49) F ht.2.2.2.2.1 g9 dX4_grows_49 ?_
        refine J_iconst (pc := 50) F dX4_grows_50 ki_1 ?_
        refine J_iadd (pc := 51) F dX4_grows_51 ?_
        exact hJk7 (((q3.2 3 (((a0 + ((18 : Int32) * a1)) + (10 : Int32)) + b1.1).toNatClampNeg) + (1 : Int32)), q3.2) hf
      · refine J_icmp_neF (pc := 27) F (tgt := 34) dX4_grows_27 (by decide) c8 ?_
        refine J_iconst (pc := 30) F dX4_grows_30 ki_0 ?_
        refine J_goto (pc := 31) F (tgt := 52) dX4_grows_31 (by decide) ?_
        exact hJk7 ((0 : Int32), q3.2) hf
set_option maxHeartbeats 4000000 in
set_option maxRecDepth 100000 in
theorem c_X4_goesOn {l : Launch} {E : En} {ad : Nat → Nat} {G : Lay} {n : Nat} (hI : adI ad n) (ht : ModAt E ad G n) {a0 : Int32} {a1 : Int32} {σ : St} {res : Unit × St} (hf : f_X4_goesOn a0 a1 σ = some res) : Ct l yX4_goesOn cX4_goesOn 5 none 2 E ad G n [.ref (ad 0), .int a0, .int a1] σ none res.2 := by
  unfold f_X4_goesOn at hf
  refine J_start (own := RX4) (lv := [(0, .ref (ad 0)), (1, .int a0), (2, .int a1)]) pnX4 rfl hI (Nat.le_of_ble_eq_true rfl) rfl (fun p e s m args below meth c F => ?_)
  refine J_aload_n (pc := 0) F dX4_goesOn_0 rfl 0 rfl ?_
  refine J_iload_n (pc := 1) F dX4_goesOn_1 rfl 1 rfl ?_
  refine J_iload_n (pc := 2) F dX4_goesOn_2 rfl 2 rfl ?_
  obtain ⟨q1, h1, hf⟩ := bind_elim hf
  refine J_callVU (pc := 3) F (c_X4_tellings hI ht h1) (by omega) (by decide) (modN ht) (ht.2.1 _) rfl wc_X4_tellings wd_813 rfl rfl (Nat.le_of_ble_eq_true rfl) dX4_goesOn_3 ?_
  refine J_iconst (pc := 6) F dX4_goesOn_6 ki_0 ?_
  refine J_istore_n (pc := 7) F (lv' := [(3, .int (0 : Int32)), (0, .ref (ad 0)), (1, .int a0), (2, .int a1)]) dX4_goesOn_7 rfl (by decide) rfl ?_
  refine J_sub [1, 2, 0] rfl ?_
  refine lp_ind (P := fun (b2 : Int32 × St) => J p l e 2 s m args below meth c E ad G n (QU below E ad G n args s res) 5 b2.2 8 [(0, .ref (ad 0)), (1, .int a0), (3, .int b2.1)] []) (fun r2 ih2 b2 hf => ?_) FU ((0 : Int32), q1.2) hf
  show J p l e 2 s m args below meth c E ad G n (QU below E ad G n args s res) 5 b2.2 8 [(0, .ref (ad 0)), (1, .int a0), (3, .int b2.1)] []
  refine J_iload_n (pc := 8) F dX4_goesOn_8 rfl 2 rfl ?_
  refine J_aload_n (pc := 9) F dX4_goesOn_9 rfl 0 rfl ?_
  refine gfX4_many (pc := 10) F ht wd_620 dX4_goesOn_10 ?_
  rcases ite_elim hf with ⟨c3, hf⟩ | ⟨c3, hf⟩
  · refine J_icmp_geT (pc := 13) F (tgt := 28) dX4_goesOn_13 (by decide) c3 ?_
    refine J_iconst (pc := 28) F dX4_goesOn_28 ki_0 ?_
    refine J_istore_n (pc := 29) F (lv' := [(3, .int (0 : Int32)), (0, .ref (ad 0)), (1, .int a0)]) dX4_goesOn_29 rfl (by decide) rfl ?_
    refine J_sub [1, 2, 0] rfl ?_
    refine lp_ind (P := fun (b4 : Int32 × St) => J p l e 2 s m args below meth c E ad G n (QU below E ad G n args s res) 5 b4.2 30 [(0, .ref (ad 0)), (1, .int a0), (3, .int b4.1)] []) (fun r4 ih4 b4 hf => ?_) FU ((0 : Int32), b2.2) hf
    show J p l e 2 s m args below meth c E ad G n (QU below E ad G n args s res) 5 b4.2 30 [(0, .ref (ad 0)), (1, .int a0), (3, .int b4.1)] []
    refine J_iload_n (pc := 30) F dX4_goesOn_30 rfl 2 rfl ?_
    refine J_aload_n (pc := 31) F dX4_goesOn_31 rfl 0 rfl ?_
    refine gfX4_many (pc := 32) F ht wd_620 dX4_goesOn_32 ?_
    rcases ite_elim hf with ⟨c5, hf⟩ | ⟨c5, hf⟩
    · refine J_icmp_geT (pc := 35) F (tgt := 89) dX4_goesOn_35 (by decide) c5 ?_
      refine J_aload_n (pc := 89) F dX4_goesOn_89 rfl 0 rfl ?_
      refine gfX4_slot (pc := 90) F ht wd_626 dX4_goesOn_90 ?_
      refine J_iload_n (pc := 93) F dX4_goesOn_93 rfl 1 rfl ?_
      refine J_bipush (pc := 94) F dX4_goesOn_94 kb_90 ?_
      refine J_iadd (pc := 96) F dX4_goesOn_96 ?_
      refine J_dup2 (pc := 97) F dX4_goesOn_97 rfl rfl ?_
      obtain ⟨g6, hf⟩ := grd_elim hf
      refine J_iald (pc := 98) F ht.2.2.2.2.1 g6 dX4_goesOn_98 ?_
      refine J_iconst (pc := 99) F dX4_goesOn_99 ki_1 ?_
      refine J_iadd (pc := 100) F dX4_goesOn_100 ?_
      obtain ⟨g7, hf⟩ := grd_elim hf
      obtain ⟨σ8, eσ8, hf⟩ := nm_elim hf
      refine J_iast (pc := 101) F ht.2.2.2.2.1 g7 dX4_goesOn_101 eσ8 ?_
      exact J_vret (pc := 102) F dX4_goesOn_102 hf
    · refine J_icmp_geF (pc := 35) F (tgt := 89) dX4_goesOn_35 (by decide) c5 ?_
      refine J_aload_n (pc := 38) F dX4_goesOn_38 rfl 0 rfl ?_
      refine gfX4_tells (pc := 39) F ht wd_638 dX4_goesOn_39 ?_
      refine J_iload_n (pc := 42) F dX4_goesOn_42 rfl 2 rfl ?_
      obtain ⟨g9, hf⟩ := grd_elim hf
      refine J_iald (pc := 43) F ht.2.2.2.2.2.2.2.2.2.1 g9 dX4_goesOn_43 ?_
      obtain ⟨k10, hk10, hf⟩ := jn_elim hf
      have hJk10 : ∀ (q10 : St), k10 q10 = some res → J p l e 2 s m args below meth c E ad G n (QU below E ad G n args s res) 5 q10 83 [(0, .ref (ad 0)), (1, .int a0), (3, .int b4.1)] [] := by
        intro q10 hf
        replace hf := hk10 q10 hf
        obtain ⟨x18, ex18, hf⟩ := nm_elim hf
        refine J_iinc (pc := 83) F (lv' := [(3, .int x18), (0, .ref (ad 0)), (1, .int a0)]) dX4_goesOn_83 2 rfl (ex18.trans (congrArg _ ki_1.symm)) (by decide) rfl ?_
        refine J_goto (pc := 86) F (tgt := 30) dX4_goesOn_86 (by decide) ?_
        refine J_sub [1, 2, 0] rfl ?_
        exact ih4 (x18, q10) hf
      clear hk10
      rcases ite_elim hf with ⟨c11, hf⟩ | ⟨c11, hf⟩
      · refine J_if_ltT (pc := 44) F (tgt := 83) dX4_goesOn_44 (by decide) c11 ?_
        exact hJk10 b4.2 hf
      · refine J_if_ltF (pc := 44) F (tgt := 83) dX4_goesOn_44 (by decide) c11 ?_
        refine J_iload_n (pc := 47) F dX4_goesOn_47 rfl 2 rfl ?_
        refine J_iconst (pc := 48) F dX4_goesOn_48 ki_1 ?_
        refine J_iadd (pc := 49) F dX4_goesOn_49 ?_
        refine J_aload_n (pc := 50) F dX4_goesOn_50 rfl 0 rfl ?_
        refine gfX4_many (pc := 51) F ht wd_620 dX4_goesOn_51 ?_
        obtain ⟨g12, hf⟩ := grd_elim hf
        refine J_irem (pc := 54) F dX4_goesOn_54 g12 ?_
        obtain ⟨x13, ex13, hf⟩ := nm_elim hf
        refine J_ti ex13 ?_
        refine J_istore (pc := 55) F (lv' := [(4, .int x13), (0, .ref (ad 0)), (1, .int a0), (3, .int b4.1)]) dX4_goesOn_55 (by decide) rfl ?_
        refine J_aload_n (pc := 57) F dX4_goesOn_57 rfl 1 rfl ?_
        refine J_iload_n (pc := 58) F dX4_goesOn_58 rfl 2 rfl ?_
        refine J_iload (pc := 59) F dX4_goesOn_59 0 rfl ?_
        refine J_aload_n (pc := 61) F dX4_goesOn_61 rfl 1 rfl ?_
        refine gfX4_tells (pc := 62) F ht wd_638 dX4_goesOn_62 ?_
        refine J_iload_n (pc := 65) F dX4_goesOn_65 rfl 3 rfl ?_
        obtain ⟨g14, hf⟩ := grd_elim hf
        refine J_iald (pc := 66) F ht.2.2.2.2.2.2.2.2.2.1 g14 dX4_goesOn_66 ?_
        refine J_aload_n (pc := 67) F dX4_goesOn_67 rfl 1 rfl ?_
        refine J_iload_n (pc := 68) F dX4_goesOn_68 rfl 2 rfl ?_
        refine J_iload (pc := 69) F dX4_goesOn_69 0 rfl ?_
        refine J_aload_n (pc := 71) F dX4_goesOn_71 rfl 1 rfl ?_
        refine gfX4_how (pc := 72) F ht wd_639 dX4_goesOn_72 ?_
        refine J_iload_n (pc := 75) F dX4_goesOn_75 rfl 3 rfl ?_
        obtain ⟨g15, hf⟩ := grd_elim hf
        refine J_iald (pc := 76) F ht.2.2.2.2.2.2.2.2.2.2 g15 dX4_goesOn_76 ?_
        obtain ⟨q16, h16, hf⟩ := bind_elim hf
        refine J_callVI (pc := 77) F (c_X4_hears hI ht h16) (by omega) (by decide) (modN ht) (ht.2.1 _) rfl wc_X4_hears wd_792 rfl rfl (Nat.le_of_ble_eq_true rfl) dX4_goesOn_77 ?_
        obtain ⟨q17, h17, hf⟩ := bind_elim hf
        refine J_callVU (pc := 80) F (c_X4_gets hI ht h17) (by omega) (by decide) (modN ht) (ht.2.1 _) rfl wc_X4_gets wd_796 rfl rfl (Nat.le_of_ble_eq_true rfl) dX4_goesOn_80 ?_
        refine J_sub [1, 2, 3] rfl ?_
        exact hJk10 q17.2 hf
  · refine J_icmp_geF (pc := 13) F (tgt := 28) dX4_goesOn_13 (by decide) c3 ?_
    refine J_aload_n (pc := 16) F dX4_goesOn_16 rfl 0 rfl ?_
    refine J_iload_n (pc := 17) F dX4_goesOn_17 rfl 1 rfl ?_
    refine J_iload_n (pc := 18) F dX4_goesOn_18 rfl 2 rfl ?_
    obtain ⟨q19, h19, hf⟩ := bind_elim hf
    refine J_callVU (pc := 19) F (c_X4_grows hI ht h19) (by omega) (by decide) (modN ht) (ht.2.1 _) rfl wc_X4_grows wd_817 rfl rfl (Nat.le_of_ble_eq_true rfl) dX4_goesOn_19 ?_
    obtain ⟨x20, ex20, hf⟩ := nm_elim hf
    refine J_iinc (pc := 22) F (lv' := [(3, .int x20), (0, .ref (ad 0)), (1, .int a0)]) dX4_goesOn_22 2 rfl (ex20.trans (congrArg _ ki_1.symm)) (by decide) rfl ?_
    refine J_goto (pc := 25) F (tgt := 8) dX4_goesOn_25 (by decide) ?_
    refine J_sub [1, 2, 0] rfl ?_
    exact ih2 (x20, q19.2) hf
set_option maxHeartbeats 4000000 in
set_option maxRecDepth 100000 in
theorem c_X4_days {l : Launch} {E : En} {ad : Nat → Nat} {G : Lay} {n : Nat} (hI : adI ad n) (ht : ModAt E ad G n) {a0 : Int32} {a1 : Int32} {σ : St} {res : Unit × St} (hf : f_X4_days a0 a1 σ = some res) : Ct l yX4_days cX4_days 4 none 3 E ad G n [.ref (ad 0), .int a0, .int a1] σ none res.2 := by
  unfold f_X4_days at hf
  refine J_start (own := RX4) (lv := [(0, .ref (ad 0)), (1, .int a0), (2, .int a1)]) pnX4 rfl hI (Nat.le_of_ble_eq_true rfl) rfl (fun p e s m args below meth c F => ?_)
  refine J_iconst (pc := 0) F dX4_days_0 ki_0 ?_
  refine J_istore_n (pc := 1) F (lv' := [(3, .int (0 : Int32)), (0, .ref (ad 0)), (1, .int a0), (2, .int a1)]) dX4_days_1 rfl (by decide) rfl ?_
  refine J_sub [1, 2, 3, 0] rfl ?_
  refine lp_ind (P := fun (b1 : Int32 × St) => J p l e 3 s m args below meth c E ad G n (QU below E ad G n args s res) 4 b1.2 2 [(0, .ref (ad 0)), (1, .int a0), (2, .int a1), (3, .int b1.1)] []) (fun r1 ih1 b1 hf => ?_) FU ((0 : Int32), σ) hf
  show J p l e 3 s m args below meth c E ad G n (QU below E ad G n args s res) 4 b1.2 2 [(0, .ref (ad 0)), (1, .int a0), (2, .int a1), (3, .int b1.1)] []
  refine J_iload_n (pc := 2) F dX4_days_2 rfl 3 rfl ?_
  refine J_iload_n (pc := 3) F dX4_days_3 rfl 2 rfl ?_
  rcases ite_elim hf with ⟨c2, hf⟩ | ⟨c2, hf⟩
  · refine J_icmp_geT (pc := 4) F (tgt := 19) dX4_days_4 (by decide) c2 ?_
    exact J_vret (pc := 19) F dX4_days_19 hf
  · refine J_icmp_geF (pc := 4) F (tgt := 19) dX4_days_4 (by decide) c2 ?_
    refine J_aload_n (pc := 7) F dX4_days_7 rfl 0 rfl ?_
    refine J_iload_n (pc := 8) F dX4_days_8 rfl 1 rfl ?_
    refine J_iconst (pc := 9) F dX4_days_9 ki_0 ?_
    obtain ⟨q3, h3, hf⟩ := bind_elim hf
    refine J_callVU (pc := 10) F (c_X4_goesOn hI ht h3) (by omega) (by decide) (modN ht) (ht.2.1 _) rfl wc_X4_goesOn wd_809 rfl rfl (Nat.le_of_ble_eq_true rfl) dX4_days_10 ?_
    obtain ⟨x4, ex4, hf⟩ := nm_elim hf
    refine J_iinc (pc := 13) F (lv' := [(3, .int x4), (0, .ref (ad 0)), (1, .int a0), (2, .int a1)]) dX4_days_13 3 rfl (ex4.trans (congrArg _ ki_1.symm)) (by decide) rfl ?_
    refine J_goto (pc := 16) F (tgt := 2) dX4_days_16 (by decide) ?_
    refine J_sub [1, 2, 3, 0] rfl ?_
    exact ih1 (x4, q3.2) hf
set_option maxHeartbeats 4000000 in
set_option maxRecDepth 100000 in
theorem c_X4_speakers {l : Launch} {E : En} {ad : Nat → Nat} {G : Lay} {n : Nat} (hI : adI ad n) (ht : ModAt E ad G n) {a0 : Int32} {σ : St} {res : Int32 × St} (hf : f_X4_speakers a0 σ = some res) : Ct l yX4_speakers cX4_speakers 4 (some .int) 3 E ad G n [.ref (ad 0), .int a0] σ (some (.int res.1)) res.2 := by
  unfold f_X4_speakers at hf
  refine J_start (own := RX4) (lv := [(0, .ref (ad 0)), (1, .int a0)]) pnX4 rfl hI (Nat.le_of_ble_eq_true rfl) rfl (fun p e s m args below meth c F => ?_)
  refine J_iconst (pc := 0) F dX4_speakers_0 ki_0 ?_
  refine J_istore_n (pc := 1) F (lv' := [(2, .int (0 : Int32)), (0, .ref (ad 0)), (1, .int a0)]) dX4_speakers_1 rfl (by decide) rfl ?_
  refine J_iconst (pc := 2) F dX4_speakers_2 ki_0 ?_
  refine J_istore_n (pc := 3) F (lv' := [(3, .int (0 : Int32)), (2, .int (0 : Int32)), (0, .ref (ad 0)), (1, .int a0)]) dX4_speakers_3 rfl (by decide) rfl ?_
  refine J_sub [2, 3, 1, 0] rfl ?_
  refine lp_ind (P := fun (b1 : Int32 × Int32 × St) => J p l e 3 s m args below meth c E ad G n (QI below E ad G n args s res) 4 b1.2.2 4 [(0, .ref (ad 0)), (1, .int a0), (2, .int b1.1), (3, .int b1.2.1)] []) (fun r1 ih1 b1 hf => ?_) FU ((0 : Int32), (0 : Int32), σ) hf
  show J p l e 3 s m args below meth c E ad G n (QI below E ad G n args s res) 4 b1.2.2 4 [(0, .ref (ad 0)), (1, .int a0), (2, .int b1.1), (3, .int b1.2.1)] []
  refine J_iload_n (pc := 4) F dX4_speakers_4 rfl 3 rfl ?_
  refine J_aload_n (pc := 5) F dX4_speakers_5 rfl 0 rfl ?_
  refine gfX4_many (pc := 6) F ht wd_620 dX4_speakers_6 ?_
  rcases ite_elim hf with ⟨c2, hf⟩ | ⟨c2, hf⟩
  · refine J_icmp_geT (pc := 9) F (tgt := 35) dX4_speakers_9 (by decide) c2 ?_
    refine J_iload_n (pc := 35) F dX4_speakers_35 rfl 2 rfl ?_
    exact J_iret (pc := 36) F rfl dX4_speakers_36 hf
  · refine J_icmp_geF (pc := 9) F (tgt := 35) dX4_speakers_9 (by decide) c2 ?_
    refine J_iload_n (pc := 12) F dX4_speakers_12 rfl 2 rfl ?_
    refine J_aload_n (pc := 13) F dX4_speakers_13 rfl 0 rfl ?_
    refine J_iload_n (pc := 14) F dX4_speakers_14 rfl 1 rfl ?_
    refine J_iload_n (pc := 15) F dX4_speakers_15 rfl 3 rfl ?_
    obtain ⟨q3, h3, hf⟩ := bind_elim hf
    refine J_callVI (pc := 16) F (c_X4_isSpeaker hI ht h3) (by omega) (by decide) (modN ht) (ht.2.1 _) rfl wc_X4_isSpeaker wd_769 rfl rfl (Nat.le_of_ble_eq_true rfl) dX4_speakers_16 ?_
    obtain ⟨k4, hk4, hf⟩ := jn_elim hf
    have hJk4 : ∀ (q4 : Int32 × St), k4 q4 = some res → J p l e 3 s m args below meth c E ad G n (QI below E ad G n args s res) 4 q4.2 27 [(0, .ref (ad 0)), (1, .int a0), (3, .int b1.2.1)] [.int q4.1, .int b1.1] := by
      intro q4 hf
      replace hf := hk4 q4 hf
      refine J_iadd (pc := 27) F dX4_speakers_27 ?_
      obtain ⟨x6, ex6, hf⟩ := nm_elim hf
      refine J_ti ex6 ?_
      refine J_istore_n (pc := 28) F (lv' := [(2, .int x6), (0, .ref (ad 0)), (1, .int a0), (3, .int b1.2.1)]) dX4_speakers_28 rfl (by decide) rfl ?_
      obtain ⟨x7, ex7, hf⟩ := nm_elim hf
      refine J_iinc (pc := 29) F (lv' := [(3, .int x7), (2, .int x6), (0, .ref (ad 0)), (1, .int a0)]) dX4_speakers_29 3 rfl (ex7.trans (congrArg _ ki_1.symm)) (by decide) rfl ?_
      refine J_goto (pc := 32) F (tgt := 4) dX4_speakers_32 (by decide) ?_
      refine J_sub [2, 3, 1, 0] rfl ?_
      exact ih1 (x6, x7, q4.2) hf
    clear hk4
    rcases ite_elim hf with ⟨c5, hf⟩ | ⟨c5, hf⟩
    · refine J_if_eqT (pc := 19) F (tgt := 26) dX4_speakers_19 (by decide) c5 ?_
      refine J_iconst (pc := 26) F dX4_speakers_26 ki_0 ?_
      refine J_sub [0, 1, 3] rfl ?_
      exact hJk4 ((0 : Int32), q3.2) hf
    · refine J_if_eqF (pc := 19) F (tgt := 26) dX4_speakers_19 (by decide) c5 ?_
      refine J_iconst (pc := 22) F dX4_speakers_22 ki_1 ?_
      refine J_goto (pc := 23) F (tgt := 27) dX4_speakers_23 (by decide) ?_
      refine J_sub [0, 1, 3] rfl ?_
      exact hJk4 ((1 : Int32), q3.2) hf
set_option maxHeartbeats 4000000 in
set_option maxRecDepth 100000 in
theorem c_X4_rights {l : Launch} {E : En} {ad : Nat → Nat} {G : Lay} {n : Nat} (hI : adI ad n) (ht : ModAt E ad G n) {a0 : Int32} {σ : St} {res : Int32 × St} (hf : f_X4_rights a0 σ = some res) : Ct l yX4_rights cX4_rights 4 (some .int) 2 E ad G n [.ref (ad 0), .int a0] σ (some (.int res.1)) res.2 := by
  unfold f_X4_rights at hf
  refine J_start (own := RX4) (lv := [(0, .ref (ad 0)), (1, .int a0)]) pnX4 rfl hI (Nat.le_of_ble_eq_true rfl) rfl (fun p e s m args below meth c F => ?_)
  refine J_iconst (pc := 0) F dX4_rights_0 ki_0 ?_
  refine J_istore_n (pc := 1) F (lv' := [(2, .int (0 : Int32)), (0, .ref (ad 0)), (1, .int a0)]) dX4_rights_1 rfl (by decide) rfl ?_
  refine J_iconst (pc := 2) F dX4_rights_2 ki_0 ?_
  refine J_istore_n (pc := 3) F (lv' := [(3, .int (0 : Int32)), (2, .int (0 : Int32)), (0, .ref (ad 0)), (1, .int a0)]) dX4_rights_3 rfl (by decide) rfl ?_
  refine J_sub [2, 3, 1, 0] rfl ?_
  refine lp_ind (P := fun (b1 : Int32 × Int32 × St) => J p l e 2 s m args below meth c E ad G n (QI below E ad G n args s res) 4 b1.2.2 4 [(0, .ref (ad 0)), (1, .int a0), (2, .int b1.1), (3, .int b1.2.1)] []) (fun r1 ih1 b1 hf => ?_) FU ((0 : Int32), (0 : Int32), σ) hf
  show J p l e 2 s m args below meth c E ad G n (QI below E ad G n args s res) 4 b1.2.2 4 [(0, .ref (ad 0)), (1, .int a0), (2, .int b1.1), (3, .int b1.2.1)] []
  refine J_iload_n (pc := 4) F dX4_rights_4 rfl 3 rfl ?_
  refine J_aload_n (pc := 5) F dX4_rights_5 rfl 0 rfl ?_
  refine gfX4_many (pc := 6) F ht wd_620 dX4_rights_6 ?_
  rcases ite_elim hf with ⟨c2, hf⟩ | ⟨c2, hf⟩
  · refine J_icmp_geT (pc := 9) F (tgt := 30) dX4_rights_9 (by decide) c2 ?_
    refine J_iload_n (pc := 30) F dX4_rights_30 rfl 2 rfl ?_
    exact J_iret (pc := 31) F rfl dX4_rights_31 hf
  · refine J_icmp_geF (pc := 9) F (tgt := 30) dX4_rights_9 (by decide) c2 ?_
    refine J_iload_n (pc := 12) F dX4_rights_12 rfl 2 rfl ?_
    refine J_aload_n (pc := 13) F dX4_rights_13 rfl 0 rfl ?_
    refine J_iload_n (pc := 14) F dX4_rights_14 rfl 1 rfl ?_
    refine J_iload_n (pc := 15) F dX4_rights_15 rfl 3 rfl ?_
    obtain ⟨q3, h3, hf⟩ := bind_elim hf
    refine J_callVI (pc := 16) F (c_X4_right hI ht h3) (by omega) (by decide) (modN ht) (ht.2.1 _) rfl wc_X4_right wd_765 rfl rfl (Nat.le_of_ble_eq_true rfl) dX4_rights_16 ?_
    obtain ⟨q4, h4, hf⟩ := bind_elim hf
    refine J_callSI (pc := 19) F (c_X4_bits hI  h4) (by omega) (by decide) wc_X4_bits wd_773 rfl rfl (Nat.le_of_ble_eq_true rfl) dX4_rights_19 ?_
    refine J_iadd (pc := 22) F dX4_rights_22 ?_
    obtain ⟨x5, ex5, hf⟩ := nm_elim hf
    refine J_ti ex5 ?_
    refine J_istore_n (pc := 23) F (lv' := [(2, .int x5), (0, .ref (ad 0)), (1, .int a0), (3, .int b1.2.1)]) dX4_rights_23 rfl (by decide) rfl ?_
    obtain ⟨x6, ex6, hf⟩ := nm_elim hf
    refine J_iinc (pc := 24) F (lv' := [(3, .int x6), (2, .int x5), (0, .ref (ad 0)), (1, .int a0)]) dX4_rights_24 3 rfl (ex6.trans (congrArg _ ki_1.symm)) (by decide) rfl ?_
    refine J_goto (pc := 27) F (tgt := 4) dX4_rights_27 (by decide) ?_
    refine J_sub [2, 3, 1, 0] rfl ?_
    exact ih1 (x5, x6, q4.2) hf
set_option maxHeartbeats 4000000 in
set_option maxRecDepth 100000 in
theorem c_X4_pass {l : Launch} {E : En} {ad : Nat → Nat} {G : Lay} {n : Nat} (hI : adI ad n) (ht : ModAt E ad G n) {a0 : Int32} {σ : St} {res : Int32 × St} (hf : f_X4_pass a0 σ = some res) : Ct l yX4_pass cX4_pass 2 (some .int) 4 E ad G n [.ref (ad 0), .int a0] σ (some (.int res.1)) res.2 := by
  unfold f_X4_pass at hf
  refine J_start (own := RX4) (lv := [(0, .ref (ad 0)), (1, .int a0)]) pnX4 rfl hI (Nat.le_of_ble_eq_true rfl) rfl (fun p e s m args below meth c F => ?_)
  refine J_iload_n (pc := 0) F dX4_pass_0 rfl 1 rfl ?_
  refine J_i2l (pc := 1) F dX4_pass_1 ?_
  refine J_lconst (pc := 2) F (v := 1) dX4_pass_2 (by decide +kernel) ?_
  refine J_ldc2 (pc := 3) F wd_804 dX4_pass_3 ?_
  obtain ⟨q1, h1, hf⟩ := bind_elim hf
  refine J_callSI (pc := 6) F (c_X4_in hI  h1) (by omega) (by decide) wc_X4_in wd_691 rfl rfl (Nat.le_of_ble_eq_true rfl) dX4_pass_6 ?_
  rcases ite_elim hf with ⟨c2, hf⟩ | ⟨c2, hf⟩
  · refine J_if_neT (pc := 9) F (tgt := 14) dX4_pass_9 (by decide) c2 ?_
    refine J_aload_n (pc := 14) F dX4_pass_14 rfl 0 rfl ?_
    refine gfX4_slot (pc := 15) F ht wd_626 dX4_pass_15 ?_
    refine J_bipush (pc := 18) F dX4_pass_18 kb_90 ?_
    obtain ⟨g3, hf⟩ := grd_elim hf
    refine J_iald (pc := 20) F ht.2.2.2.2.1 g3 dX4_pass_20 ?_
    refine J_iload_n (pc := 21) F dX4_pass_21 rfl 1 rfl ?_
    refine J_iadd (pc := 22) F dX4_pass_22 ?_
    refine J_sipush (pc := 23) F dX4_pass_23 ks_999 ?_
    rcases ite_elim hf with ⟨c4, hf⟩ | ⟨c4, hf⟩
    · refine J_icmp_leT (pc := 26) F (tgt := 32) dX4_pass_26 (by decide) c4 ?_
      refine J_aload_n (pc := 32) F dX4_pass_32 rfl 0 rfl ?_
      obtain ⟨q5, h5, hf⟩ := bind_elim hf
      refine J_callVU (pc := 33) F (c_X4_known hI ht h5) (by omega) (by decide) (modN ht) (ht.2.1 _) rfl wc_X4_known wd_784 rfl rfl (Nat.le_of_ble_eq_true rfl) dX4_pass_33 ?_
      refine J_aload_n (pc := 36) F dX4_pass_36 rfl 0 rfl ?_
      refine J_iconst (pc := 37) F dX4_pass_37 ki_0 ?_
      refine J_iload_n (pc := 38) F dX4_pass_38 rfl 1 rfl ?_
      obtain ⟨q6, h6, hf⟩ := bind_elim hf
      refine J_callVU (pc := 39) F (c_X4_days hI ht h6) (by omega) (by decide) (modN ht) (ht.2.1 _) rfl wc_X4_days wd_805 rfl rfl (Nat.le_of_ble_eq_true rfl) dX4_pass_39 ?_
      refine J_aload_n (pc := 42) F dX4_pass_42 rfl 0 rfl ?_
      refine J_iconst (pc := 43) F dX4_pass_43 ki_0 ?_
      obtain ⟨q7, h7, hf⟩ := bind_elim hf
      refine J_callVI (pc := 44) F (c_X4_speakers hI ht h7) (by omega) (by decide) (modN ht) (ht.2.1 _) rfl wc_X4_speakers wd_821 rfl rfl (Nat.le_of_ble_eq_true rfl) dX4_pass_44 ?_
      exact J_iret (pc := 47) F rfl dX4_pass_47 hf
    · refine J_icmp_leF (pc := 26) F (tgt := 32) dX4_pass_26 (by decide) c4 ?_
      refine J_bipush (pc := 29) F dX4_pass_29 kb_m2 ?_
      exact J_iret (pc := 31) F rfl dX4_pass_31 hf
  · refine J_if_neF (pc := 9) F (tgt := 14) dX4_pass_9 (by decide) c2 ?_
    refine J_iconst (pc := 12) F dX4_pass_12 ki_m1 ?_
    exact J_iret (pc := 13) F rfl dX4_pass_13 hf
set_option maxHeartbeats 4000000 in
set_option maxRecDepth 100000 in
theorem c_X4_canMend {l : Launch} {E : En} {ad : Nat → Nat} {G : Lay} {n : Nat} (hI : adI ad n) (ht : ModAt E ad G n) {a0 : Int32} {a1 : Int32} {a2 : Int32} {σ : St} {res : Int32 × St} (hf : f_X4_canMend a0 a1 a2 σ = some res) : Ct l yX4_canMend cX4_canMend 4 (some .boolean) 1 E ad G n [.ref (ad 0), .int a0, .int a1, .int a2] σ (some (.int res.1)) res.2 := by
  unfold f_X4_canMend at hf
  refine J_start (own := RX4) (lv := [(0, .ref (ad 0)), (1, .int a0), (2, .int a1), (3, .int a2)]) pnX4 rfl hI (Nat.le_of_ble_eq_true rfl) rfl (fun p e s m args below meth c F => ?_)
  refine J_aload_n (pc := 0) F dX4_canMend_0 rfl 0 rfl ?_
  refine J_iload_n (pc := 1) F dX4_canMend_1 rfl 1 rfl ?_
  refine J_iload_n (pc := 2) F dX4_canMend_2 rfl 2 rfl ?_
  refine J_iload_n (pc := 3) F dX4_canMend_3 rfl 3 rfl ?_
  obtain ⟨q1, h1, hf⟩ := bind_elim hf
  refine J_callVI (pc := 4) F (c_X4_hasIt hI ht h1) (by omega) (by decide) (modN ht) (ht.2.1 _) rfl wc_X4_hasIt wd_761 rfl rfl (Nat.le_of_ble_eq_true rfl) dX4_canMend_4 ?_
  obtain ⟨k2, hk2, hf⟩ := jn_elim hf
  have hJk2 : ∀ (q2 : St), k2 q2 = some res → J p l e 1 s m args below meth c E ad G n (QI below E ad G n args s res) 4 q2 30 [] [] := by
    intro q2 hf
    replace hf := hk2 q2 hf
    refine J_iconst (pc := 30) F dX4_canMend_30 ki_0 ?_
    exact J_iret (pc := 31) F rfl dX4_canMend_31 hf
  clear hk2
  rcases ite_elim hf with ⟨c3, hf⟩ | ⟨c3, hf⟩
  · refine J_if_ltT (pc := 7) F (tgt := 30) dX4_canMend_7 (by decide) c3 ?_
    refine J_sub [] rfl ?_
    exact hJk2 q1.2 hf
  · refine J_if_ltF (pc := 7) F (tgt := 30) dX4_canMend_7 (by decide) c3 ?_
    refine J_aload_n (pc := 10) F dX4_canMend_10 rfl 0 rfl ?_
    refine J_iload_n (pc := 11) F dX4_canMend_11 rfl 1 rfl ?_
    refine J_iload_n (pc := 12) F dX4_canMend_12 rfl 2 rfl ?_
    refine J_iload_n (pc := 13) F dX4_canMend_13 rfl 3 rfl ?_
    obtain ⟨q4, h4, hf⟩ := bind_elim hf
    refine J_callVI (pc := 14) F (c_X4_hasIt hI ht h4) (by omega) (by decide) (modN ht) (ht.2.1 _) rfl wc_X4_hasIt wd_761 rfl rfl (Nat.le_of_ble_eq_true rfl) dX4_canMend_14 ?_
    refine J_aload_n (pc := 17) F dX4_canMend_17 rfl 0 rfl ?_
    refine gfX4_sounds (pc := 18) F ht wd_619 dX4_canMend_18 ?_
    refine J_iload_n (pc := 21) F dX4_canMend_21 rfl 3 rfl ?_
    obtain ⟨g5, hf⟩ := grd_elim hf
    refine J_iald (pc := 22) F ht.2.2.1 g5 dX4_canMend_22 ?_
    rcases ite_elim hf with ⟨c6, hf⟩ | ⟨c6, hf⟩
    · refine J_icmp_eqT (pc := 23) F (tgt := 30) dX4_canMend_23 (by decide) c6 ?_
      refine J_sub [] rfl ?_
      exact hJk2 q4.2 hf
    · refine J_icmp_eqF (pc := 23) F (tgt := 30) dX4_canMend_23 (by decide) c6 ?_
      refine J_iconst (pc := 26) F dX4_canMend_26 ki_1 ?_
      refine J_goto (pc := 27) F (tgt := 31) dX4_canMend_27 (by decide) ?_
      exact J_iret (pc := 31) F rfl dX4_canMend_31 hf
set_option maxHeartbeats 4000000 in
set_option maxRecDepth 100000 in
theorem c_X4_mend {l : Launch} {E : En} {ad : Nat → Nat} {G : Lay} {n : Nat} (hI : adI ad n) (ht : ModAt E ad G n) {a0 : Int32} {a1 : Int32} {σ : St} {res : Int32 × St} (hf : f_X4_mend a0 a1 σ = some res) : Ct l yX4_mend cX4_mend 4 (some .int) 2 E ad G n [.ref (ad 0), .int a0, .int a1] σ (some (.int res.1)) res.2 := by
  unfold f_X4_mend at hf
  refine J_start (own := RX4) (lv := [(0, .ref (ad 0)), (1, .int a0), (2, .int a1)]) pnX4 rfl hI (Nat.le_of_ble_eq_true rfl) rfl (fun p e s m args below meth c F => ?_)
  refine J_aload_n (pc := 0) F dX4_mend_0 rfl 0 rfl ?_
  refine J_iload_n (pc := 1) F dX4_mend_1 rfl 1 rfl ?_
  obtain ⟨q1, h1, hf⟩ := bind_elim hf
  refine J_callVI (pc := 2) F (c_X4_isOne hI ht h1) (by omega) (by decide) (modN ht) (ht.2.1 _) rfl wc_X4_isOne wd_752 rfl rfl (Nat.le_of_ble_eq_true rfl) dX4_mend_2 ?_
  rcases ite_elim hf with ⟨c2, hf⟩ | ⟨c2, hf⟩
  · refine J_if_eqT (pc := 5) F (tgt := 16) dX4_mend_5 (by decide) c2 ?_
    refine J_iconst (pc := 16) F dX4_mend_16 ki_m1 ?_
    exact J_iret (pc := 17) F rfl dX4_mend_17 hf
  · refine J_if_eqF (pc := 5) F (tgt := 16) dX4_mend_5 (by decide) c2 ?_
    refine J_aload_n (pc := 8) F dX4_mend_8 rfl 0 rfl ?_
    refine J_iload_n (pc := 9) F dX4_mend_9 rfl 2 rfl ?_
    obtain ⟨q3, h3, hf⟩ := bind_elim hf
    refine J_callVI (pc := 10) F (c_X4_isWord hI ht h3) (by omega) (by decide) (modN ht) (ht.2.1 _) rfl wc_X4_isWord wd_744 rfl rfl (Nat.le_of_ble_eq_true rfl) dX4_mend_10 ?_
    rcases ite_elim hf with ⟨c4, hf⟩ | ⟨c4, hf⟩
    · refine J_if_neT (pc := 13) F (tgt := 18) dX4_mend_13 (by decide) c4 ?_
      refine J_aload_n (pc := 18) F dX4_mend_18 rfl 0 rfl ?_
      refine J_iconst (pc := 19) F dX4_mend_19 ki_0 ?_
      refine J_iload_n (pc := 20) F dX4_mend_20 rfl 1 rfl ?_
      refine J_iload_n (pc := 21) F dX4_mend_21 rfl 2 rfl ?_
      obtain ⟨q5, h5, hf⟩ := bind_elim hf
      refine J_callVI (pc := 22) F (c_X4_canMend hI ht h5) (by omega) (by decide) (modN ht) (ht.2.1 _) rfl wc_X4_canMend wd_829 rfl rfl (Nat.le_of_ble_eq_true rfl) dX4_mend_22 ?_
      rcases ite_elim hf with ⟨c6, hf⟩ | ⟨c6, hf⟩
      · refine J_if_neT (pc := 25) F (tgt := 31) dX4_mend_25 (by decide) c6 ?_
        refine J_aload_n (pc := 31) F dX4_mend_31 rfl 0 rfl ?_
        obtain ⟨q7, h7, hf⟩ := bind_elim hf
        refine J_callVU (pc := 32) F (c_X4_known hI ht h7) (by omega) (by decide) (modN ht) (ht.2.1 _) rfl wc_X4_known wd_784 rfl rfl (Nat.le_of_ble_eq_true rfl) dX4_mend_32 ?_
        refine J_aload_n (pc := 35) F dX4_mend_35 rfl 0 rfl ?_
        refine J_iconst (pc := 36) F dX4_mend_36 ki_0 ?_
        refine J_iload_n (pc := 37) F dX4_mend_37 rfl 1 rfl ?_
        refine J_iload_n (pc := 38) F dX4_mend_38 rfl 2 rfl ?_
        obtain ⟨q8, h8, hf⟩ := bind_elim hf
        refine J_callVI (pc := 39) F (c_X4_hasIt hI ht h8) (by omega) (by decide) (modN ht) (ht.2.1 _) rfl wc_X4_hasIt wd_761 rfl rfl (Nat.le_of_ble_eq_true rfl) dX4_mend_39 ?_
        refine J_istore_n (pc := 42) F (lv' := [(3, .int q8.1), (0, .ref (ad 0)), (1, .int a0), (2, .int a1)]) dX4_mend_42 rfl (by decide) rfl ?_
        refine J_aload_n (pc := 43) F dX4_mend_43 rfl 1 rfl ?_
        refine J_iconst (pc := 44) F dX4_mend_44 ki_0 ?_
        refine J_iload_n (pc := 45) F dX4_mend_45 rfl 2 rfl ?_
        refine J_iload_n (pc := 46) F dX4_mend_46 rfl 3 rfl ?_
        refine J_aload_n (pc := 47) F dX4_mend_47 rfl 1 rfl ?_
        refine gfX4_sounds (pc := 48) F ht wd_619 dX4_mend_48 ?_
        refine J_iload_n (pc := 51) F dX4_mend_51 rfl 3 rfl ?_
        obtain ⟨g9, hf⟩ := grd_elim hf
        refine J_iald (pc := 52) F ht.2.2.1 g9 dX4_mend_52 ?_
        obtain ⟨q10, h10, hf⟩ := bind_elim hf
        refine J_callVU (pc := 53) F (c_X4_gets hI ht h10) (by omega) (by decide) (modN ht) (ht.2.1 _) rfl wc_X4_gets wd_796 rfl rfl (Nat.le_of_ble_eq_true rfl) dX4_mend_53 ?_
        refine J_iload_n (pc := 56) F dX4_mend_56 rfl 0 rfl ?_
        exact J_iret (pc := 57) F rfl dX4_mend_57 hf
      · refine J_if_neF (pc := 25) F (tgt := 31) dX4_mend_25 (by decide) c6 ?_
        refine J_bipush (pc := 28) F dX4_mend_28 kb_m2 ?_
        exact J_iret (pc := 30) F rfl dX4_mend_30 hf
    · refine J_if_neF (pc := 13) F (tgt := 18) dX4_mend_13 (by decide) c4 ?_
      refine J_iconst (pc := 16) F dX4_mend_16 ki_m1 ?_
      exact J_iret (pc := 17) F rfl dX4_mend_17 hf
set_option maxHeartbeats 4000000 in
set_option maxRecDepth 100000 in
theorem c_X4_swaps {l : Launch} {E : En} {ad : Nat → Nat} {G : Lay} {n : Nat} (hI : adI ad n) (ht : ModAt E ad G n) {a0 : Int32} {a1 : Int32} {a2 : Int32} {σ : St} {res : Unit × St} (hf : f_X4_swaps a0 a1 a2 σ = some res) : Ct l yX4_swaps cX4_swaps 6 none 0 E ad G n [.ref (ad 0), .int a0, .int a1, .int a2] σ none res.2 := by
  unfold f_X4_swaps at hf
  refine J_start (own := RX4) (lv := [(0, .ref (ad 0)), (1, .int a0), (2, .int a1), (3, .int a2)]) pnX4 rfl hI (Nat.le_of_ble_eq_true rfl) rfl (fun p e s m args below meth c F => ?_)
  refine J_iconst (pc := 0) F dX4_swaps_0 ki_0 ?_
  refine J_istore (pc := 1) F (lv' := [(4, .int (0 : Int32)), (0, .ref (ad 0)), (1, .int a0), (2, .int a1), (3, .int a2)]) dX4_swaps_1 (by decide) rfl ?_
  refine J_sub [1, 2, 3, 4, 0] rfl ?_
  refine lp_ind (P := fun (b1 : Int32 × St) => J p l e 0 s m args below meth c E ad G n (QU below E ad G n args s res) 6 b1.2 3 [(0, .ref (ad 0)), (1, .int a0), (2, .int a1), (3, .int a2), (4, .int b1.1)] []) (fun r1 ih1 b1 hf => ?_) FU ((0 : Int32), σ) hf
  show J p l e 0 s m args below meth c E ad G n (QU below E ad G n args s res) 6 b1.2 3 [(0, .ref (ad 0)), (1, .int a0), (2, .int a1), (3, .int a2), (4, .int b1.1)] []
  refine J_iload (pc := 3) F dX4_swaps_3 4 rfl ?_
  refine J_bipush (pc := 5) F dX4_swaps_5 kb_18 ?_
  rcases ite_elim hf with ⟨c2, hf⟩ | ⟨c2, hf⟩
  · refine J_icmp_geT (pc := 7) F (tgt := 76) dX4_swaps_7 (by decide) c2 ?_
    exact J_vret (pc := 76) F dX4_swaps_76 hf
  · refine J_icmp_geF (pc := 7) F (tgt := 76) dX4_swaps_7 (by decide) c2 ?_
    refine J_aload_n (pc := 10) F dX4_swaps_10 rfl 0 rfl ?_
    refine gfX4_slot (pc := 11) F ht wd_626 dX4_swaps_11 ?_
    refine J_iload_n (pc := 14) F dX4_swaps_14 rfl 1 rfl ?_
    refine J_bipush (pc := 15) F dX4_swaps_15 kb_18 ?_
    refine J_iload_n (pc := 17) F dX4_swaps_17 rfl 2 rfl ?_
    refine J_imul (pc := 18) F dX4_swaps_18 ?_
    refine J_iadd (pc := 19) F dX4_swaps_19 ?_
    refine J_iload (pc := 20) F dX4_swaps_20 4 rfl ?_
    refine J_iadd (pc := 22) F dX4_swaps_22 ?_
    obtain ⟨g3, hf⟩ := grd_elim hf
    refine J_iald (pc := 23) F ht.2.2.2.2.1 g3 dX4_swaps_23 ?_
    obtain ⟨x4, ex4, hf⟩ := nm_elim hf
    refine J_ti ex4 ?_
    refine J_istore (pc := 24) F (lv' := [(5, .int x4), (0, .ref (ad 0)), (1, .int a0), (2, .int a1), (3, .int a2), (4, .int b1.1)]) dX4_swaps_24 (by decide) rfl ?_
    refine J_aload_n (pc := 26) F dX4_swaps_26 rfl 1 rfl ?_
    refine gfX4_slot (pc := 27) F ht wd_626 dX4_swaps_27 ?_
    refine J_iload_n (pc := 30) F dX4_swaps_30 rfl 2 rfl ?_
    refine J_bipush (pc := 31) F dX4_swaps_31 kb_18 ?_
    refine J_iload_n (pc := 33) F dX4_swaps_33 rfl 3 rfl ?_
    refine J_imul (pc := 34) F dX4_swaps_34 ?_
    refine J_iadd (pc := 35) F dX4_swaps_35 ?_
    refine J_iload (pc := 36) F dX4_swaps_36 5 rfl ?_
    refine J_iadd (pc := 38) F dX4_swaps_38 ?_
    refine J_aload_n (pc := 39) F dX4_swaps_39 rfl 1 rfl ?_
    refine gfX4_slot (pc := 40) F ht wd_626 dX4_swaps_40 ?_
    refine J_iload_n (pc := 43) F dX4_swaps_43 rfl 2 rfl ?_
    refine J_bipush (pc := 44) F dX4_swaps_44 kb_18 ?_
    refine J_iload_n (pc := 46) F dX4_swaps_46 rfl 4 rfl ?_
    refine J_imul (pc := 47) F dX4_swaps_47 ?_
    refine J_iadd (pc := 48) F dX4_swaps_48 ?_
    refine J_iload (pc := 49) F dX4_swaps_49 5 rfl ?_
    refine J_iadd (pc := 51) F dX4_swaps_51 ?_
    obtain ⟨g5, hf⟩ := grd_elim hf
    refine J_iald (pc := 52) F ht.2.2.2.2.1 g5 dX4_swaps_52 ?_
    obtain ⟨g6, hf⟩ := grd_elim hf
    obtain ⟨σ7, eσ7, hf⟩ := nm_elim hf
    refine J_iast (pc := 53) F ht.2.2.2.2.1 g6 dX4_swaps_53 eσ7 ?_
    refine J_aload_n (pc := 54) F dX4_swaps_54 rfl 1 rfl ?_
    refine gfX4_slot (pc := 55) F ht wd_626 dX4_swaps_55 ?_
    refine J_iload_n (pc := 58) F dX4_swaps_58 rfl 2 rfl ?_
    refine J_bipush (pc := 59) F dX4_swaps_59 kb_18 ?_
    refine J_iload_n (pc := 61) F dX4_swaps_61 rfl 4 rfl ?_
    refine J_imul (pc := 62) F dX4_swaps_62 ?_
    refine J_iadd (pc := 63) F dX4_swaps_63 ?_
    refine J_iload (pc := 64) F dX4_swaps_64 5 rfl ?_
    refine J_iadd (pc := 66) F dX4_swaps_66 ?_
    refine J_iload (pc := 67) F dX4_swaps_67 0 rfl ?_
    obtain ⟨g8, hf⟩ := grd_elim hf
    obtain ⟨σ9, eσ9, hf⟩ := nm_elim hf
    refine J_iast (pc := 69) F ht.2.2.2.2.1 g8 dX4_swaps_69 eσ9 ?_
    obtain ⟨x10, ex10, hf⟩ := nm_elim hf
    refine J_iinc (pc := 70) F (lv' := [(4, .int x10), (5, .int x4), (0, .ref (ad 0)), (1, .int a0), (2, .int a1), (3, .int a2)]) dX4_swaps_70 5 rfl (ex10.trans (congrArg _ ki_1.symm)) (by decide) rfl ?_
    refine J_goto (pc := 73) F (tgt := 3) dX4_swaps_73 (by decide) ?_
    refine J_sub [2, 3, 4, 5, 0] rfl ?_
    exact ih1 (x10, σ9) hf
set_option maxHeartbeats 4000000 in
set_option maxRecDepth 100000 in
theorem c_X4_change {l : Launch} {E : En} {ad : Nat → Nat} {G : Lay} {n : Nat} (hI : adI ad n) (ht : ModAt E ad G n) {a0 : Int32} {a1 : Int32} {σ : St} {res : Int32 × St} (hf : f_X4_change a0 a1 σ = some res) : Ct l yX4_change cX4_change 3 (some .int) 2 E ad G n [.ref (ad 0), .int a0, .int a1] σ (some (.int res.1)) res.2 := by
  unfold f_X4_change at hf
  refine J_start (own := RX4) (lv := [(0, .ref (ad 0)), (1, .int a0), (2, .int a1)]) pnX4 rfl hI (Nat.le_of_ble_eq_true rfl) rfl (fun p e s m args below meth c F => ?_)
  refine J_aload_n (pc := 0) F dX4_change_0 rfl 0 rfl ?_
  refine J_iload_n (pc := 1) F dX4_change_1 rfl 1 rfl ?_
  obtain ⟨q1, h1, hf⟩ := bind_elim hf
  refine J_callVI (pc := 2) F (c_X4_isOne hI ht h1) (by omega) (by decide) (modN ht) (ht.2.1 _) rfl wc_X4_isOne wd_752 rfl rfl (Nat.le_of_ble_eq_true rfl) dX4_change_2 ?_
  rcases ite_elim hf with ⟨c2, hf⟩ | ⟨c2, hf⟩
  · refine J_if_eqT (pc := 5) F (tgt := 21) dX4_change_5 (by decide) c2 ?_
    refine J_iconst (pc := 21) F dX4_change_21 ki_m1 ?_
    exact J_iret (pc := 22) F rfl dX4_change_22 hf
  · refine J_if_eqF (pc := 5) F (tgt := 21) dX4_change_5 (by decide) c2 ?_
    refine J_aload_n (pc := 8) F dX4_change_8 rfl 0 rfl ?_
    refine J_iload_n (pc := 9) F dX4_change_9 rfl 2 rfl ?_
    obtain ⟨q3, h3, hf⟩ := bind_elim hf
    refine J_callVI (pc := 10) F (c_X4_isOne hI ht h3) (by omega) (by decide) (modN ht) (ht.2.1 _) rfl wc_X4_isOne wd_752 rfl rfl (Nat.le_of_ble_eq_true rfl) dX4_change_10 ?_
    rcases ite_elim hf with ⟨c4, hf⟩ | ⟨c4, hf⟩
    · refine J_if_eqT (pc := 13) F (tgt := 21) dX4_change_13 (by decide) c4 ?_
      refine J_iconst (pc := 21) F dX4_change_21 ki_m1 ?_
      exact J_iret (pc := 22) F rfl dX4_change_22 hf
    · refine J_if_eqF (pc := 13) F (tgt := 21) dX4_change_13 (by decide) c4 ?_
      refine J_iload_n (pc := 16) F dX4_change_16 rfl 1 rfl ?_
      refine J_iload_n (pc := 17) F dX4_change_17 rfl 2 rfl ?_
      rcases ite_elim hf with ⟨c5, hf⟩ | ⟨c5, hf⟩
      · refine J_icmp_neT (pc := 18) F (tgt := 23) dX4_change_18 (by decide) c5 ?_
        refine J_aload_n (pc := 23) F dX4_change_23 rfl 0 rfl ?_
        obtain ⟨q6, h6, hf⟩ := bind_elim hf
        refine J_callVU (pc := 24) F (c_X4_known hI ht h6) (by omega) (by decide) (modN ht) (ht.2.1 _) rfl wc_X4_known wd_784 rfl rfl (Nat.le_of_ble_eq_true rfl) dX4_change_24 ?_
        refine J_aload_n (pc := 27) F dX4_change_27 rfl 0 rfl ?_
        refine J_iconst (pc := 28) F dX4_change_28 ki_0 ?_
        refine J_iload_n (pc := 29) F dX4_change_29 rfl 1 rfl ?_
        refine J_iload_n (pc := 30) F dX4_change_30 rfl 2 rfl ?_
        obtain ⟨q7, h7, hf⟩ := bind_elim hf
        refine J_callVU (pc := 31) F (c_X4_swaps hI ht h7) (by omega) (by decide) (modN ht) (ht.2.1 _) rfl wc_X4_swaps wd_837 rfl rfl (Nat.le_of_ble_eq_true rfl) dX4_change_31 ?_
        refine J_aload_n (pc := 34) F dX4_change_34 rfl 0 rfl ?_
        refine gfX4_slot (pc := 35) F ht wd_626 dX4_change_35 ?_
        refine J_bipush (pc := 38) F dX4_change_38 kb_18 ?_
        refine J_iload_n (pc := 40) F dX4_change_40 rfl 1 rfl ?_
        refine J_imul (pc := 41) F dX4_change_41 ?_
        obtain ⟨g8, hf⟩ := grd_elim hf
        refine J_iald (pc := 42) F ht.2.2.2.2.1 g8 dX4_change_42 ?_
        exact J_iret (pc := 43) F rfl dX4_change_43 hf
      · refine J_icmp_neF (pc := 18) F (tgt := 23) dX4_change_18 (by decide) c5 ?_
        refine J_iconst (pc := 21) F dX4_change_21 ki_m1 ?_
        exact J_iret (pc := 22) F rfl dX4_change_22 hf
