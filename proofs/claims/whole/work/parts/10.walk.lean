theorem tableAt_tab {E : En} {ad : Nat → Nat} {G : Lay} {n r L : Nat} {i : Int32} {σ : St} {q : Option Nat × St} (hr : RowA E ad G n r L) (h : f_X3_tableAt r L i σ = some q) : ∀ y, q.1 = some y → TabAt E ad G n y := by
  intro y hy
  unfold f_X3_tableAt at h
  simp only [jn] at h
  repeat' split at h
  all_goals first | (cases h; done) | (cases h; cases hy; done) | (cases h; cases hy; exact hr.2 _ (rowIn (by assumption)))

set_option maxHeartbeats 4000000 in
set_option maxRecDepth 100000 in
theorem c_J6_bitCount_0f7a4 {l : Launch} {E : En} {ad : Nat → Nat} {G : Lay} {n : Nat} (hI : adI ad n) {a0 : Int32} {σ : St} {res : Int32 × St} (hf : f_J6_bitCount_0f7a4 a0 σ = some res) : Ct l yJ6_bitCount_0f7a4 cJ6_bitCount_0f7a4 1 (some .int) 0 E ad G n [.int a0] σ (some (.int res.1)) res.2 := by
  unfold f_J6_bitCount_0f7a4 at hf
  refine J_start (own := RJ6) (lv := [(0, .int a0)]) pnJ6 rfl hI (Nat.le_of_ble_eq_true rfl) rfl (fun p e s m args below meth c F => ?_)
  refine J_iload_n (pc := 0) F dJ6_bitCount_0f7a4_0 rfl 0 rfl ?_
  refine J_iload_n (pc := 1) F dJ6_bitCount_0f7a4_1 rfl 0 rfl ?_
  refine J_iconst (pc := 2) F dJ6_bitCount_0f7a4_2 ki_1 ?_
  refine J_iushr (pc := 3) F dJ6_bitCount_0f7a4_3 ?_
  refine J_ldcw (pc := 4) F wd_331 dJ6_bitCount_0f7a4_4 ?_
  refine J_iand (pc := 7) F dJ6_bitCount_0f7a4_7 ?_
  refine J_isub (pc := 8) F dJ6_bitCount_0f7a4_8 ?_
  obtain ⟨x1, ex1, hf⟩ := nm_elim hf
  refine J_ti ex1 ?_
  refine J_istore_n (pc := 9) F (lv' := [(0, .int x1)]) dJ6_bitCount_0f7a4_9 rfl (by decide) rfl ?_
  refine J_iload_n (pc := 10) F dJ6_bitCount_0f7a4_10 rfl 0 rfl ?_
  refine J_ldcw (pc := 11) F wd_332 dJ6_bitCount_0f7a4_11 ?_
  refine J_iand (pc := 14) F dJ6_bitCount_0f7a4_14 ?_
  refine J_iload_n (pc := 15) F dJ6_bitCount_0f7a4_15 rfl 0 rfl ?_
  refine J_iconst (pc := 16) F dJ6_bitCount_0f7a4_16 ki_2 ?_
  refine J_iushr (pc := 17) F dJ6_bitCount_0f7a4_17 ?_
  refine J_ldcw (pc := 18) F wd_332 dJ6_bitCount_0f7a4_18 ?_
  refine J_iand (pc := 21) F dJ6_bitCount_0f7a4_21 ?_
  refine J_iadd (pc := 22) F dJ6_bitCount_0f7a4_22 ?_
  obtain ⟨x2, ex2, hf⟩ := nm_elim hf
  refine J_ti ex2 ?_
  refine J_istore_n (pc := 23) F (lv' := [(0, .int x2)]) dJ6_bitCount_0f7a4_23 rfl (by decide) rfl ?_
  refine J_iload_n (pc := 24) F dJ6_bitCount_0f7a4_24 rfl 0 rfl ?_
  refine J_iload_n (pc := 25) F dJ6_bitCount_0f7a4_25 rfl 0 rfl ?_
  refine J_iconst (pc := 26) F dJ6_bitCount_0f7a4_26 ki_4 ?_
  refine J_iushr (pc := 27) F dJ6_bitCount_0f7a4_27 ?_
  refine J_iadd (pc := 28) F dJ6_bitCount_0f7a4_28 ?_
  refine J_ldcw (pc := 29) F wd_333 dJ6_bitCount_0f7a4_29 ?_
  refine J_iand (pc := 32) F dJ6_bitCount_0f7a4_32 ?_
  obtain ⟨x3, ex3, hf⟩ := nm_elim hf
  refine J_ti ex3 ?_
  refine J_istore_n (pc := 33) F (lv' := [(0, .int x3)]) dJ6_bitCount_0f7a4_33 rfl (by decide) rfl ?_
  refine J_iload_n (pc := 34) F dJ6_bitCount_0f7a4_34 rfl 0 rfl ?_
  refine J_iload_n (pc := 35) F dJ6_bitCount_0f7a4_35 rfl 0 rfl ?_
  refine J_bipush (pc := 36) F dJ6_bitCount_0f7a4_36 kb_8 ?_
  refine J_iushr (pc := 38) F dJ6_bitCount_0f7a4_38 ?_
  refine J_iadd (pc := 39) F dJ6_bitCount_0f7a4_39 ?_
  obtain ⟨x4, ex4, hf⟩ := nm_elim hf
  refine J_ti ex4 ?_
  refine J_istore_n (pc := 40) F (lv' := [(0, .int x4)]) dJ6_bitCount_0f7a4_40 rfl (by decide) rfl ?_
  refine J_iload_n (pc := 41) F dJ6_bitCount_0f7a4_41 rfl 0 rfl ?_
  refine J_iload_n (pc := 42) F dJ6_bitCount_0f7a4_42 rfl 0 rfl ?_
  refine J_bipush (pc := 43) F dJ6_bitCount_0f7a4_43 kb_16 ?_
  refine J_iushr (pc := 45) F dJ6_bitCount_0f7a4_45 ?_
  refine J_iadd (pc := 46) F dJ6_bitCount_0f7a4_46 ?_
  obtain ⟨x5, ex5, hf⟩ := nm_elim hf
  refine J_ti ex5 ?_
  refine J_istore_n (pc := 47) F (lv' := [(0, .int x5)]) dJ6_bitCount_0f7a4_47 rfl (by decide) rfl ?_
  refine J_iload_n (pc := 48) F dJ6_bitCount_0f7a4_48 rfl 0 rfl ?_
  refine J_bipush (pc := 49) F dJ6_bitCount_0f7a4_49 kb_63 ?_
  refine J_iand (pc := 51) F dJ6_bitCount_0f7a4_51 ?_
  exact J_iret (pc := 52) F rfl dJ6_bitCount_0f7a4_52 hf
set_option maxHeartbeats 4000000 in
set_option maxRecDepth 100000 in
theorem c_X3_put {l : Launch} {E : En} {ad : Nat → Nat} {G : Lay} {n : Nat} (hI : adI ad n) {a0 a0L : Nat} (ha0 : ArrI E G n a0 a0L) {a1 : Int32} {a2 : Int32} {σ : St} {res : Unit × St} (hf : f_X3_put a0 a0L a1 a2 σ = some res) : Ct l yX3_put cX3_put 3 none 0 E ad G n [.ref (ad a0), .int a1, .int a2] σ none res.2 := by
  unfold f_X3_put at hf
  refine J_start (own := RX3) (lv := [(0, .ref (ad a0)), (1, .int a1), (2, .int a2)]) pnX3 rfl hI (Nat.le_of_ble_eq_true rfl) rfl (fun p e s m args below meth c F => ?_)
  refine J_aload_n (pc := 0) F dX3_put_0 rfl 0 rfl ?_
  refine J_ifnull (pc := 1) F dX3_put_1 ?_
  refine J_iload_n (pc := 4) F dX3_put_4 rfl 1 rfl ?_
  rcases ite_elim hf with ⟨c1, hf⟩ | ⟨c1, hf⟩
  · refine J_if_ltT (pc := 5) F (tgt := 18) dX3_put_5 (by decide) c1 ?_
    exact J_vret (pc := 18) F dX3_put_18 hf
  · refine J_if_ltF (pc := 5) F (tgt := 18) dX3_put_5 (by decide) c1 ?_
    refine J_iload_n (pc := 8) F dX3_put_8 rfl 1 rfl ?_
    refine J_aload_n (pc := 9) F dX3_put_9 rfl 0 rfl ?_
    refine J_alenI (pc := 10) F ha0 dX3_put_10 ?_
    rcases ite_elim hf with ⟨c2, hf⟩ | ⟨c2, hf⟩
    · refine J_icmp_geT (pc := 11) F (tgt := 18) dX3_put_11 (by decide) c2 ?_
      exact J_vret (pc := 18) F dX3_put_18 hf
    · refine J_icmp_geF (pc := 11) F (tgt := 18) dX3_put_11 (by decide) c2 ?_
      refine J_aload_n (pc := 14) F dX3_put_14 rfl 0 rfl ?_
      refine J_iload_n (pc := 15) F dX3_put_15 rfl 1 rfl ?_
      refine J_iload_n (pc := 16) F dX3_put_16 rfl 2 rfl ?_
      obtain ⟨g3, hf⟩ := grd_elim hf
      obtain ⟨σ4, eσ4, hf⟩ := nm_elim hf
      refine J_iast (pc := 17) F ha0 g3 dX3_put_17 eσ4 ?_
      exact J_vret (pc := 18) F dX3_put_18 hf
set_option maxHeartbeats 4000000 in
set_option maxRecDepth 100000 in
theorem c_X0_add {l : Launch} {E : En} {ad : Nat → Nat} {G : Lay} {n : Nat} (hI : adI ad n) (ht : HeaAt E ad G n) {a0 : Int32} {a1 : Int32} {a2 : Int32} {σ : St} {res : Int32 × St} (hf : f_X0_add a0 a1 a2 σ = some res) : Ct l yX0_add cX0_add 4 (some .boolean) 1 E ad G n [.ref (ad 203), .int a0, .int a1, .int a2] σ (some (.int res.1)) res.2 := by
  unfold f_X0_add at hf
  refine J_start (own := RX0) (lv := [(0, .ref (ad 203)), (1, .int a0), (2, .int a1), (3, .int a2)]) pnX0 rfl hI (Nat.le_of_ble_eq_true rfl) rfl (fun p e s m args below meth c F => ?_)
  refine J_aload_n (pc := 0) F dX0_add_0 rfl 0 rfl ?_
  refine gfX0_count (pc := 1) F ht wd_224 dX0_add_1 ?_
  refine J_bipush (pc := 4) F dX0_add_4 kb_6 ?_
  rcases ite_elim hf with ⟨c1, hf⟩ | ⟨c1, hf⟩
  · refine J_icmp_ltT (pc := 6) F (tgt := 11) dX0_add_6 (by decide) c1 ?_
    refine J_aload_n (pc := 11) F dX0_add_11 rfl 0 rfl ?_
    refine gfX0_word (pc := 12) F ht wd_221 dX0_add_12 ?_
    refine J_aload_n (pc := 15) F dX0_add_15 rfl 0 rfl ?_
    refine gfX0_count (pc := 16) F ht wd_224 dX0_add_16 ?_
    refine J_iload_n (pc := 19) F dX0_add_19 rfl 1 rfl ?_
    obtain ⟨q2, h2, hf⟩ := bind_elim hf
    refine J_callNU (pc := 20) F (host := RX3) (c_X3_put hI ht.2.2.1 h2) (by omega) (by decide) wc_X3_put (by simp [nestL]) rfl rfl (Nat.le_of_ble_eq_true rfl) dX0_add_20 ?_
    refine J_aload_n (pc := 23) F dX0_add_23 rfl 0 rfl ?_
    refine gfX0_sound (pc := 24) F ht wd_222 dX0_add_24 ?_
    refine J_aload_n (pc := 27) F dX0_add_27 rfl 0 rfl ?_
    refine gfX0_count (pc := 28) F ht wd_224 dX0_add_28 ?_
    refine J_iload_n (pc := 31) F dX0_add_31 rfl 2 rfl ?_
    obtain ⟨q3, h3, hf⟩ := bind_elim hf
    refine J_callNU (pc := 32) F (host := RX3) (c_X3_put hI ht.2.2.2.1 h3) (by omega) (by decide) wc_X3_put (by simp [nestL]) rfl rfl (Nat.le_of_ble_eq_true rfl) dX0_add_32 ?_
    refine J_aload_n (pc := 35) F dX0_add_35 rfl 0 rfl ?_
    refine gfX0_day (pc := 36) F ht wd_223 dX0_add_36 ?_
    refine J_aload_n (pc := 39) F dX0_add_39 rfl 0 rfl ?_
    refine gfX0_count (pc := 40) F ht wd_224 dX0_add_40 ?_
    refine J_iload_n (pc := 43) F dX0_add_43 rfl 3 rfl ?_
    obtain ⟨q4, h4, hf⟩ := bind_elim hf
    refine J_callNU (pc := 44) F (host := RX3) (c_X3_put hI ht.2.2.2.2 h4) (by omega) (by decide) wc_X3_put (by simp [nestL]) rfl rfl (Nat.le_of_ble_eq_true rfl) dX0_add_44 ?_
    refine J_aload_n (pc := 47) F dX0_add_47 rfl 0 rfl ?_
    refine J_dup (pc := 48) F dX0_add_48 rfl ?_
    refine gfX0_count (pc := 49) F ht wd_224 dX0_add_49 ?_
    refine J_iconst (pc := 52) F dX0_add_52 ki_1 ?_
    refine J_iadd (pc := 53) F dX0_add_53 ?_
    obtain ⟨σ5, eσ5, hf⟩ := nm_elim hf
    refine pfX0_count (pc := 54) F ht wd_224 dX0_add_54 eσ5 ?_
    refine J_iconst (pc := 57) F dX0_add_57 ki_1 ?_
    exact J_iret (pc := 58) F rfl dX0_add_58 hf
  · refine J_icmp_ltF (pc := 6) F (tgt := 11) dX0_add_6 (by decide) c1 ?_
    refine J_iconst (pc := 9) F dX0_add_9 ki_0 ?_
    exact J_iret (pc := 10) F rfl dX0_add_10 hf
set_option maxHeartbeats 4000000 in
set_option maxRecDepth 100000 in
theorem c_X3_at {l : Launch} {E : En} {ad : Nat → Nat} {G : Lay} {n : Nat} (hI : adI ad n) {a0 a0L : Nat} (ha0 : ArrI E G n a0 a0L) {a1 : Int32} {σ : St} {res : Int32 × St} (hf : f_X3_at a0 a0L a1 σ = some res) : Ct l yX3_at cX3_at 2 (some .int) 0 E ad G n [.ref (ad a0), .int a1] σ (some (.int res.1)) res.2 := by
  unfold f_X3_at at hf
  refine J_start (own := RX3) (lv := [(0, .ref (ad a0)), (1, .int a1)]) pnX3 rfl hI (Nat.le_of_ble_eq_true rfl) rfl (fun p e s m args below meth c F => ?_)
  refine J_aload_n (pc := 0) F dX3_at_0 rfl 0 rfl ?_
  obtain ⟨k1, hk1, hf⟩ := jn_elim hf
  have hJk1 : ∀ (q1 : St), k1 q1 = some res → J p l e 0 s m args below meth c E ad G n (QI below E ad G n args s res) 2 q1 20 [] [] := by
    intro q1 hf
    replace hf := hk1 q1 hf
    refine J_iconst (pc := 20) F dX3_at_20 ki_0 ?_
    exact J_iret (pc := 21) F rfl dX3_at_21 hf
  clear hk1
  refine J_ifnull (pc := 1) F dX3_at_1 ?_
  refine J_iload_n (pc := 4) F dX3_at_4 rfl 1 rfl ?_
  rcases ite_elim hf with ⟨c2, hf⟩ | ⟨c2, hf⟩
  · refine J_if_ltT (pc := 5) F (tgt := 20) dX3_at_5 (by decide) c2 ?_
    refine J_sub [] rfl ?_
    exact hJk1 σ hf
  · refine J_if_ltF (pc := 5) F (tgt := 20) dX3_at_5 (by decide) c2 ?_
    refine J_iload_n (pc := 8) F dX3_at_8 rfl 1 rfl ?_
    refine J_aload_n (pc := 9) F dX3_at_9 rfl 0 rfl ?_
    refine J_alenI (pc := 10) F ha0 dX3_at_10 ?_
    rcases ite_elim hf with ⟨c3, hf⟩ | ⟨c3, hf⟩
    · refine J_icmp_geT (pc := 11) F (tgt := 20) dX3_at_11 (by decide) c3 ?_
      refine J_sub [] rfl ?_
      exact hJk1 σ hf
    · refine J_icmp_geF (pc := 11) F (tgt := 20) dX3_at_11 (by decide) c3 ?_
      refine J_aload_n (pc := 14) F dX3_at_14 rfl 0 rfl ?_
      refine J_iload_n (pc := 15) F dX3_at_15 rfl 1 rfl ?_
      obtain ⟨g4, hf⟩ := grd_elim hf
      refine J_iald (pc := 16) F ha0 g4 dX3_at_16 ?_
      refine J_goto (pc := 17) F (tgt := 21) dX3_at_17 (by decide) ?_
      exact J_iret (pc := 21) F rfl dX3_at_21 hf
set_option maxHeartbeats 4000000 in
set_option maxRecDepth 100000 in
theorem c_X0_lastDay {l : Launch} {E : En} {ad : Nat → Nat} {G : Lay} {n : Nat} (hI : adI ad n) (ht : HeaAt E ad G n) {σ : St} {res : Int32 × St} (hf : f_X0_lastDay  σ = some res) : Ct l yX0_lastDay cX0_lastDay 3 (some .int) 2 E ad G n [.ref (ad 203)] σ (some (.int res.1)) res.2 := by
  unfold f_X0_lastDay at hf
  refine J_start (own := RX0) (lv := [(0, .ref (ad 203))]) pnX0 rfl hI (Nat.le_of_ble_eq_true rfl) rfl (fun p e s m args below meth c F => ?_)
  refine J_iconst (pc := 0) F dX0_lastDay_0 ki_0 ?_
  refine J_istore_n (pc := 1) F (lv' := [(1, .int (0 : Int32)), (0, .ref (ad 203))]) dX0_lastDay_1 rfl (by decide) rfl ?_
  refine J_iconst (pc := 2) F dX0_lastDay_2 ki_0 ?_
  refine J_istore_n (pc := 3) F (lv' := [(2, .int (0 : Int32)), (1, .int (0 : Int32)), (0, .ref (ad 203))]) dX0_lastDay_3 rfl (by decide) rfl ?_
  refine J_sub [2, 1, 0] rfl ?_
  refine lp_ind (P := fun (b1 : Int32 × Int32 × St) => J p l e 2 s m args below meth c E ad G n (QI below E ad G n args s res) 3 b1.2.2 4 [(0, .ref (ad 203)), (1, .int b1.1), (2, .int b1.2.1)] []) (fun r1 ih1 b1 hf => ?_) FU ((0 : Int32), (0 : Int32), σ) hf
  show J p l e 2 s m args below meth c E ad G n (QI below E ad G n args s res) 3 b1.2.2 4 [(0, .ref (ad 203)), (1, .int b1.1), (2, .int b1.2.1)] []
  refine J_iload_n (pc := 4) F dX0_lastDay_4 rfl 2 rfl ?_
  refine J_aload_n (pc := 5) F dX0_lastDay_5 rfl 0 rfl ?_
  refine gfX0_count (pc := 6) F ht wd_224 dX0_lastDay_6 ?_
  rcases ite_elim hf with ⟨c2, hf⟩ | ⟨c2, hf⟩
  · refine J_icmp_geT (pc := 9) F (tgt := 31) dX0_lastDay_9 (by decide) c2 ?_
    refine J_iload_n (pc := 31) F dX0_lastDay_31 rfl 1 rfl ?_
    exact J_iret (pc := 32) F rfl dX0_lastDay_32 hf
  · refine J_icmp_geF (pc := 9) F (tgt := 31) dX0_lastDay_9 (by decide) c2 ?_
    refine J_iload_n (pc := 12) F dX0_lastDay_12 rfl 1 rfl ?_
    refine J_aload_n (pc := 13) F dX0_lastDay_13 rfl 0 rfl ?_
    refine gfX0_day (pc := 14) F ht wd_223 dX0_lastDay_14 ?_
    refine J_iload_n (pc := 17) F dX0_lastDay_17 rfl 2 rfl ?_
    obtain ⟨q3, h3, hf⟩ := bind_elim hf
    refine J_callNI (pc := 18) F (host := RX3) (c_X3_at hI ht.2.2.2.2 h3) (by omega) (by decide) wc_X3_at (by simp [nestL]) rfl rfl (Nat.le_of_ble_eq_true rfl) dX0_lastDay_18 ?_
    refine J_mmax (pc := 21) F (by omega) wd_539 wd_212 wd_8 wd_213 (Nat.le_of_ble_eq_true rfl) dX0_lastDay_21 ?_
    obtain ⟨x4, ex4, hf⟩ := nm_elim hf
    refine J_ti ex4 ?_
    refine J_istore_n (pc := 24) F (lv' := [(1, .int x4), (0, .ref (ad 203)), (2, .int b1.2.1)]) dX0_lastDay_24 rfl (by decide) rfl ?_
    obtain ⟨x5, ex5, hf⟩ := nm_elim hf
    refine J_iinc (pc := 25) F (lv' := [(2, .int x5), (1, .int x4), (0, .ref (ad 203))]) dX0_lastDay_25 2 rfl (ex5.trans (congrArg _ ki_1.symm)) (by decide) rfl ?_
    refine J_goto (pc := 28) F (tgt := 4) dX0_lastDay_28 (by decide) ?_
    refine J_sub [2, 1, 0] rfl ?_
    exact ih1 (x4, x5, q3.2) hf
set_option maxHeartbeats 4000000 in
set_option maxRecDepth 100000 in
theorem c_X1_holds {l : Launch} {E : En} {ad : Nat → Nat} {G : Lay} {n : Nat} (hI : adI ad n) {t : Nat} (ht : TabAt E ad G n t) {a0 : Int32} {a1 : Int32} {σ : St} {res : Int32 × St} (hf : f_X1_holds t a0 a1 σ = some res) : Ct l yX1_holds cX1_holds 3 (some .boolean) 1 E ad G n [.ref (ad t), .int a0, .int a1] σ (some (.int res.1)) res.2 := by
  unfold f_X1_holds at hf
  refine J_start (own := RX1) (lv := [(0, .ref (ad t)), (1, .int a0), (2, .int a1)]) pnX1 rfl hI (Nat.le_of_ble_eq_true rfl) rfl (fun p e s m args below meth c F => ?_)
  refine J_aload_n (pc := 0) F dX1_holds_0 rfl 0 rfl ?_
  refine gfX1_has (pc := 1) F ht wd_55 dX1_holds_1 ?_
  refine J_iload_n (pc := 4) F dX1_holds_4 rfl 1 rfl ?_
  obtain ⟨q1, h1, hf⟩ := bind_elim hf
  refine J_callNI (pc := 5) F (host := RX3) (c_X3_at hI (tabA4 ht) h1) (by omega) (by decide) wc_X3_at (by simp [nestL]) rfl rfl (Nat.le_of_ble_eq_true rfl) dX1_holds_5 ?_
  refine J_iload_n (pc := 8) F dX1_holds_8 rfl 2 rfl ?_
  refine J_ishr (pc := 9) F dX1_holds_9 ?_
  refine J_iconst (pc := 10) F dX1_holds_10 ki_1 ?_
  refine J_iand (pc := 11) F dX1_holds_11 ?_
  refine J_iconst (pc := 12) F dX1_holds_12 ki_1 ?_
  rcases ite_elim hf with ⟨c2, hf⟩ | ⟨c2, hf⟩
  · refine J_icmp_neT (pc := 13) F (tgt := 20) dX1_holds_13 (by decide) c2 ?_
    refine J_iconst (pc := 20) F dX1_holds_20 ki_0 ?_
    exact J_iret (pc := 21) F rfl dX1_holds_21 hf
  · refine J_icmp_neF (pc := 13) F (tgt := 20) dX1_holds_13 (by decide) c2 ?_
    refine J_iconst (pc := 16) F dX1_holds_16 ki_1 ?_
    refine J_goto (pc := 17) F (tgt := 21) dX1_holds_17 (by decide) ?_
    exact J_iret (pc := 21) F rfl dX1_holds_21 hf
set_option maxHeartbeats 4000000 in
set_option maxRecDepth 100000 in
theorem c_X1_wayOf {l : Launch} {E : En} {ad : Nat → Nat} {G : Lay} {n : Nat} (hI : adI ad n) {t : Nat} (ht : TabAt E ad G n t) {a0 : Int32} {a1 : Int32} {σ : St} {res : Int32 × St} (hf : f_X1_wayOf t a0 a1 σ = some res) : Ct l yX1_wayOf cX1_wayOf 3 (some .int) 1 E ad G n [.ref (ad t), .int a0, .int a1] σ (some (.int res.1)) res.2 := by
  unfold f_X1_wayOf at hf
  refine J_start (own := RX1) (lv := [(0, .ref (ad t)), (1, .int a0), (2, .int a1)]) pnX1 rfl hI (Nat.le_of_ble_eq_true rfl) rfl (fun p e s m args below meth c F => ?_)
  refine J_aload_n (pc := 0) F dX1_wayOf_0 rfl 0 rfl ?_
  refine gfX1_way (pc := 1) F ht wd_59 dX1_wayOf_1 ?_
  refine J_bipush (pc := 4) F dX1_wayOf_4 kb_8 ?_
  refine J_iload_n (pc := 6) F dX1_wayOf_6 rfl 1 rfl ?_
  refine J_imul (pc := 7) F dX1_wayOf_7 ?_
  refine J_iload_n (pc := 8) F dX1_wayOf_8 rfl 2 rfl ?_
  refine J_iadd (pc := 9) F dX1_wayOf_9 ?_
  obtain ⟨q1, h1, hf⟩ := bind_elim hf
  refine J_callNI (pc := 10) F (host := RX3) (c_X3_at hI (tabA6 ht) h1) (by omega) (by decide) wc_X3_at (by simp [nestL]) rfl rfl (Nat.le_of_ble_eq_true rfl) dX1_wayOf_10 ?_
  exact J_iret (pc := 13) F rfl dX1_wayOf_13 hf
set_option maxHeartbeats 4000000 in
set_option maxRecDepth 100000 in
theorem c_X1_having {l : Launch} {E : En} {ad : Nat → Nat} {G : Lay} {n : Nat} (hI : adI ad n) {t : Nat} (ht : TabAt E ad G n t) {a0 : Int32} {a1 : Int32} {σ : St} {res : Int32 × St} (hf : f_X1_having t a0 a1 σ = some res) : Ct l yX1_having cX1_having 6 (some .int) 2 E ad G n [.ref (ad t), .int a0, .int a1] σ (some (.int res.1)) res.2 := by
  unfold f_X1_having at hf
  refine J_start (own := RX1) (lv := [(0, .ref (ad t)), (1, .int a0), (2, .int a1)]) pnX1 rfl hI (Nat.le_of_ble_eq_true rfl) rfl (fun p e s m args below meth c F => ?_)
  refine J_iconst (pc := 0) F dX1_having_0 ki_0 ?_
  refine J_istore_n (pc := 1) F (lv' := [(3, .int (0 : Int32)), (0, .ref (ad t)), (1, .int a0), (2, .int a1)]) dX1_having_1 rfl (by decide) rfl ?_
  refine J_iconst (pc := 2) F dX1_having_2 ki_0 ?_
  refine J_istore (pc := 3) F (lv' := [(4, .int (0 : Int32)), (3, .int (0 : Int32)), (0, .ref (ad t)), (1, .int a0), (2, .int a1)]) dX1_having_3 (by decide) rfl ?_
  refine J_sub [2, 3, 4, 1, 0] rfl ?_
  refine lp_ind (P := fun (b1 : Int32 × Int32 × St) => J p l e 2 s m args below meth c E ad G n (QI below E ad G n args s res) 6 b1.2.2 5 [(0, .ref (ad t)), (1, .int a0), (2, .int a1), (3, .int b1.1), (4, .int b1.2.1)] []) (fun r1 ih1 b1 hf => ?_) FU ((0 : Int32), (0 : Int32), σ) hf
  show J p l e 2 s m args below meth c E ad G n (QI below E ad G n args s res) 6 b1.2.2 5 [(0, .ref (ad t)), (1, .int a0), (2, .int a1), (3, .int b1.1), (4, .int b1.2.1)] []
  refine J_iload (pc := 5) F dX1_having_5 4 rfl ?_
  refine J_aload_n (pc := 7) F dX1_having_7 rfl 0 rfl ?_
  refine gfX1_wooers (pc := 8) F ht wd_65 dX1_having_8 ?_
  rcases ite_elim hf with ⟨c2, hf⟩ | ⟨c2, hf⟩
  · refine J_icmp_geT (pc := 11) F (tgt := 84) dX1_having_11 (by decide) c2 ?_
    refine J_iload_n (pc := 84) F dX1_having_84 rfl 3 rfl ?_
    exact J_iret (pc := 85) F rfl dX1_having_85 hf
  · refine J_icmp_geF (pc := 11) F (tgt := 84) dX1_having_11 (by decide) c2 ?_
    refine J_iload_n (pc := 14) F dX1_having_14 rfl 2 rfl ?_
    refine J_bipush (pc := 15) F dX1_having_15 kb_10 ?_
    obtain ⟨k3, hk3, hf⟩ := jn_elim hf
    have hJk3 : ∀ (q3 : Int32 × St), k3 q3 = some res → J p l e 2 s m args below meth c E ad G n (QI below E ad G n args s res) 6 q3.2 64 [(0, .ref (ad t)), (1, .int a0), (2, .int a1), (3, .int b1.1), (4, .int b1.2.1)] [.int q3.1] := by
      intro q3 hf
      replace hf := hk3 q3 hf
      refine J_istore (pc := 64) F (lv' := [(5, .int q3.1), (0, .ref (ad t)), (1, .int a0), (2, .int a1), (3, .int b1.1), (4, .int b1.2.1)]) dX1_having_64 (by decide) rfl ?_
      refine J_iload (pc := 66) F dX1_having_66 0 rfl ?_
      obtain ⟨k12, hk12, hf⟩ := jn_elim hf
      have hJk12 : ∀ (q12 : Int32 × St), k12 q12 = some res → J p l e 2 s m args below meth c E ad G n (QI below E ad G n args s res) 6 q12.2 78 [(0, .ref (ad t)), (1, .int a0), (2, .int a1), (3, .int q12.1), (4, .int b1.2.1)] [] := by
        intro q12 hf
        replace hf := hk12 q12 hf
        obtain ⟨x15, ex15, hf⟩ := nm_elim hf
        refine J_iinc (pc := 78) F (lv' := [(4, .int x15), (0, .ref (ad t)), (1, .int a0), (2, .int a1), (3, .int q12.1)]) dX1_having_78 4 rfl (ex15.trans (congrArg _ ki_1.symm)) (by decide) rfl ?_
        refine J_goto (pc := 81) F (tgt := 5) dX1_having_81 (by decide) ?_
        refine J_sub [1, 2, 3, 4, 0] rfl ?_
        exact ih1 (q12.1, x15, q12.2) hf
      clear hk12
      rcases ite_elim hf with ⟨c13, hf⟩ | ⟨c13, hf⟩
      · refine J_if_eqT (pc := 68) F (tgt := 78) dX1_having_68 (by decide) c13 ?_
        refine J_sub [1, 2, 3, 4, 5] rfl ?_
        exact hJk12 (b1.1, q3.2) hf
      · refine J_if_eqF (pc := 68) F (tgt := 78) dX1_having_68 (by decide) c13 ?_
        refine J_iload_n (pc := 71) F dX1_having_71 rfl 4 rfl ?_
        refine J_iconst (pc := 72) F dX1_having_72 ki_1 ?_
        refine J_iload (pc := 73) F dX1_having_73 5 rfl ?_
        refine J_ishl (pc := 75) F dX1_having_75 ?_
        refine J_ior (pc := 76) F dX1_having_76 ?_
        obtain ⟨x14, ex14, hf⟩ := nm_elim hf
        refine J_ti ex14 ?_
        refine J_istore_n (pc := 77) F (lv' := [(3, .int x14), (5, .int q3.1), (0, .ref (ad t)), (1, .int a0), (2, .int a1), (4, .int b1.2.1)]) dX1_having_77 rfl (by decide) rfl ?_
        refine J_sub [2, 3, 4, 0, 5] rfl ?_
        exact hJk12 (x14, q3.2) hf
    clear hk3
    rcases ite_elim hf with ⟨c4, hf⟩ | ⟨c4, hf⟩
    · refine J_icmp_neT (pc := 17) F (tgt := 38) dX1_having_17 (by decide) c4 ?_
      refine J_aload_n (pc := 38) F dX1_having_38 rfl 0 rfl ?_
      refine J_iload (pc := 39) F dX1_having_39 4 rfl ?_
      refine J_iload_n (pc := 41) F dX1_having_41 rfl 1 rfl ?_
      obtain ⟨q5, h5, hf⟩ := bind_elim hf
      refine J_callVI (pc := 42) F (c_X1_holds hI ht h5) (by omega) (by decide) (tabN ht) (ht.2.1 _) rfl wc_X1_holds wd_369 rfl rfl (Nat.le_of_ble_eq_true rfl) dX1_having_42 ?_
      obtain ⟨k6, hk6, hf⟩ := jn_elim hf
      have hJk6 : ∀ (q6 : St), k6 q6 = some res → J p l e 2 s m args below meth c E ad G n (QI below E ad G n args s res) 6 q6 63 [(0, .ref (ad t)), (1, .int a0), (2, .int a1), (3, .int b1.1), (4, .int b1.2.1)] [] := by
        intro q6 hf
        replace hf := hk6 q6 hf
        refine J_iconst (pc := 63) F dX1_having_63 ki_0 ?_
        exact hJk3 ((0 : Int32), q6) hf
      clear hk6
      rcases ite_elim hf with ⟨c7, hf⟩ | ⟨c7, hf⟩
      · refine J_if_eqT (pc := 45) F (tgt := 63) dX1_having_45 (by decide) c7 ?_
        exact hJk6 q5.2 hf
      · refine J_if_eqF (pc := 45) F (tgt := 63) dX1_having_45 (by decide) c7 ?_
        refine J_aload_n (pc := 48) F dX1_having_48 rfl 0 rfl ?_
        refine J_iload (pc := 49) F dX1_having_49 4 rfl ?_
        refine J_iload_n (pc := 51) F dX1_having_51 rfl 1 rfl ?_
        obtain ⟨q8, h8, hf⟩ := bind_elim hf
        refine J_callVI (pc := 52) F (c_X1_wayOf hI ht h8) (by omega) (by decide) (tabN ht) (ht.2.1 _) rfl wc_X1_wayOf wd_370 rfl rfl (Nat.le_of_ble_eq_true rfl) dX1_having_52 ?_
        refine J_iload_n (pc := 55) F dX1_having_55 rfl 2 rfl ?_
        rcases ite_elim hf with ⟨c9, hf⟩ | ⟨c9, hf⟩
        · refine J_icmp_neT (pc := 56) F (tgt := 63) dX1_having_56 (by decide) c9 ?_
          exact hJk6 q8.2 hf
        · refine J_icmp_neF (pc := 56) F (tgt := 63) dX1_having_56 (by decide) c9 ?_
          refine J_iconst (pc := 59) F dX1_having_59 ki_1 ?_
          refine J_goto (pc := 60) F (tgt := 64) dX1_having_60 (by decide) ?_
          exact hJk3 ((1 : Int32), q8.2) hf
    · refine J_icmp_neF (pc := 17) F (tgt := 38) dX1_having_17 (by decide) c4 ?_
      refine J_aload_n (pc := 20) F dX1_having_20 rfl 0 rfl ?_
      refine J_iload (pc := 21) F dX1_having_21 4 rfl ?_
      refine J_iload_n (pc := 23) F dX1_having_23 rfl 1 rfl ?_
      obtain ⟨q10, h10, hf⟩ := bind_elim hf
      refine J_callVI (pc := 24) F (c_X1_holds hI ht h10) (by omega) (by decide) (tabN ht) (ht.2.1 _) rfl wc_X1_holds wd_369 rfl rfl (Nat.le_of_ble_eq_true rfl) dX1_having_24 ?_
      rcases ite_elim hf with ⟨c11, hf⟩ | ⟨c11, hf⟩
      · refine J_if_neT (pc := 27) F (tgt := 34) dX1_having_27 (by decide) c11 ?_
        refine J_iconst (pc := 34) F dX1_having_34 ki_0 ?_
        refine J_goto (pc := 35) F (tgt := 64) dX1_having_35 (by decide) ?_
        exact hJk3 ((0 : Int32), q10.2) hf
      · refine J_if_neF (pc := 27) F (tgt := 34) dX1_having_27 (by decide) c11 ?_
        refine J_iconst (pc := 30) F dX1_having_30 ki_1 ?_
        refine J_goto (pc := 31) F (tgt := 64) dX1_having_31 (by decide) ?_
        exact hJk3 ((1 : Int32), q10.2) hf
set_option maxHeartbeats 4000000 in
set_option maxRecDepth 100000 in
theorem c_X1_ageOf {l : Launch} {E : En} {ad : Nat → Nat} {G : Lay} {n : Nat} (hI : adI ad n) {t : Nat} (ht : TabAt E ad G n t) {a0 : Int32} {a1 : Int32} {σ : St} {res : Int32 × St} (hf : f_X1_ageOf t a0 a1 σ = some res) : Ct l yX1_ageOf cX1_ageOf 3 (some .int) 1 E ad G n [.ref (ad t), .int a0, .int a1] σ (some (.int res.1)) res.2 := by
  unfold f_X1_ageOf at hf
  refine J_start (own := RX1) (lv := [(0, .ref (ad t)), (1, .int a0), (2, .int a1)]) pnX1 rfl hI (Nat.le_of_ble_eq_true rfl) rfl (fun p e s m args below meth c F => ?_)
  refine J_aload_n (pc := 0) F dX1_ageOf_0 rfl 0 rfl ?_
  refine gfX1_age (pc := 1) F ht wd_60 dX1_ageOf_1 ?_
  refine J_bipush (pc := 4) F dX1_ageOf_4 kb_8 ?_
  refine J_iload_n (pc := 6) F dX1_ageOf_6 rfl 1 rfl ?_
  refine J_imul (pc := 7) F dX1_ageOf_7 ?_
  refine J_iload_n (pc := 8) F dX1_ageOf_8 rfl 2 rfl ?_
  refine J_iadd (pc := 9) F dX1_ageOf_9 ?_
  obtain ⟨q1, h1, hf⟩ := bind_elim hf
  refine J_callNI (pc := 10) F (host := RX3) (c_X3_at hI (tabA7 ht) h1) (by omega) (by decide) wc_X3_at (by simp [nestL]) rfl rfl (Nat.le_of_ble_eq_true rfl) dX1_ageOf_10 ?_
  exact J_iret (pc := 13) F rfl dX1_ageOf_13 hf
set_option maxHeartbeats 4000000 in
set_option maxRecDepth 100000 in
theorem c_X1_drop {l : Launch} {E : En} {ad : Nat → Nat} {G : Lay} {n : Nat} (hI : adI ad n) {t : Nat} (ht : TabAt E ad G n t) {a0 : Int32} {a1 : Int32} {σ : St} {res : Unit × St} (hf : f_X1_drop t a0 a1 σ = some res) : Ct l yX1_drop cX1_drop 4 none 1 E ad G n [.ref (ad t), .int a0, .int a1] σ none res.2 := by
  unfold f_X1_drop at hf
  refine J_start (own := RX1) (lv := [(0, .ref (ad t)), (1, .int a0), (2, .int a1)]) pnX1 rfl hI (Nat.le_of_ble_eq_true rfl) rfl (fun p e s m args below meth c F => ?_)
  refine J_iconst (pc := 0) F dX1_drop_0 ki_1 ?_
  refine J_iload_n (pc := 1) F dX1_drop_1 rfl 2 rfl ?_
  refine J_ishl (pc := 2) F dX1_drop_2 ?_
  obtain ⟨x1, ex1, hf⟩ := nm_elim hf
  refine J_ti ex1 ?_
  refine J_istore_n (pc := 3) F (lv' := [(3, .int x1), (0, .ref (ad t)), (1, .int a0), (2, .int a1)]) dX1_drop_3 rfl (by decide) rfl ?_
  refine J_aload_n (pc := 4) F dX1_drop_4 rfl 1 rfl ?_
  refine gfX1_has (pc := 5) F ht wd_55 dX1_drop_5 ?_
  refine J_iload_n (pc := 8) F dX1_drop_8 rfl 2 rfl ?_
  refine J_aload_n (pc := 9) F dX1_drop_9 rfl 1 rfl ?_
  refine gfX1_has (pc := 10) F ht wd_55 dX1_drop_10 ?_
  refine J_iload_n (pc := 13) F dX1_drop_13 rfl 2 rfl ?_
  obtain ⟨q2, h2, hf⟩ := bind_elim hf
  refine J_callNI (pc := 14) F (host := RX3) (c_X3_at hI (tabA4 ht) h2) (by omega) (by decide) wc_X3_at (by simp [nestL]) rfl rfl (Nat.le_of_ble_eq_true rfl) dX1_drop_14 ?_
  refine J_iload_n (pc := 17) F dX1_drop_17 rfl 0 rfl ?_
  refine J_iconst (pc := 18) F dX1_drop_18 ki_m1 ?_
  refine J_ixor (pc := 19) F dX1_drop_19 ?_
  refine J_iand (pc := 20) F dX1_drop_20 ?_
  obtain ⟨q3, h3, hf⟩ := bind_elim hf
  refine J_callNU (pc := 21) F (host := RX3) (c_X3_put hI (tabA4 ht) h3) (by omega) (by decide) wc_X3_put (by simp [nestL]) rfl rfl (Nat.le_of_ble_eq_true rfl) dX1_drop_21 ?_
  refine J_aload_n (pc := 24) F dX1_drop_24 rfl 1 rfl ?_
  refine gfX1_right (pc := 25) F ht wd_57 dX1_drop_25 ?_
  refine J_iload_n (pc := 28) F dX1_drop_28 rfl 2 rfl ?_
  refine J_aload_n (pc := 29) F dX1_drop_29 rfl 1 rfl ?_
  refine gfX1_right (pc := 30) F ht wd_57 dX1_drop_30 ?_
  refine J_iload_n (pc := 33) F dX1_drop_33 rfl 2 rfl ?_
  obtain ⟨q4, h4, hf⟩ := bind_elim hf
  refine J_callNI (pc := 34) F (host := RX3) (c_X3_at hI (tabA5 ht) h4) (by omega) (by decide) wc_X3_at (by simp [nestL]) rfl rfl (Nat.le_of_ble_eq_true rfl) dX1_drop_34 ?_
  refine J_iload_n (pc := 37) F dX1_drop_37 rfl 0 rfl ?_
  refine J_iconst (pc := 38) F dX1_drop_38 ki_m1 ?_
  refine J_ixor (pc := 39) F dX1_drop_39 ?_
  refine J_iand (pc := 40) F dX1_drop_40 ?_
  obtain ⟨q5, h5, hf⟩ := bind_elim hf
  refine J_callNU (pc := 41) F (host := RX3) (c_X3_put hI (tabA5 ht) h5) (by omega) (by decide) wc_X3_put (by simp [nestL]) rfl rfl (Nat.le_of_ble_eq_true rfl) dX1_drop_41 ?_
  exact J_vret (pc := 44) F dX1_drop_44 hf
set_option maxHeartbeats 4000000 in
set_option maxRecDepth 100000 in
theorem c_X1_growOlder {l : Launch} {E : En} {ad : Nat → Nat} {G : Lay} {n : Nat} (hI : adI ad n) {t : Nat} (ht : TabAt E ad G n t) {a0 : Int32} {a1 : Int32} {σ : St} {res : Unit × St} (hf : f_X1_growOlder t a0 a1 σ = some res) : Ct l yX1_growOlder cX1_growOlder 6 none 2 E ad G n [.ref (ad t), .int a0, .int a1] σ none res.2 := by
  unfold f_X1_growOlder at hf
  refine J_start (own := RX1) (lv := [(0, .ref (ad t)), (1, .int a0), (2, .int a1)]) pnX1 rfl hI (Nat.le_of_ble_eq_true rfl) rfl (fun p e s m args below meth c F => ?_)
  refine J_aload_n (pc := 0) F dX1_growOlder_0 rfl 0 rfl ?_
  refine gfX1_memory (pc := 1) F ht wd_53 dX1_growOlder_1 ?_
  refine J_iload_n (pc := 4) F dX1_growOlder_4 rfl 1 rfl ?_
  obtain ⟨q1, h1, hf⟩ := bind_elim hf
  refine J_callNI (pc := 5) F (host := RX3) (c_X3_at hI (tabA3 ht) h1) (by omega) (by decide) wc_X3_at (by simp [nestL]) rfl rfl (Nat.le_of_ble_eq_true rfl) dX1_growOlder_5 ?_
  refine J_istore_n (pc := 8) F (lv' := [(3, .int q1.1), (0, .ref (ad t)), (1, .int a0), (2, .int a1)]) dX1_growOlder_8 rfl (by decide) rfl ?_
  refine J_iconst (pc := 9) F dX1_growOlder_9 ki_0 ?_
  refine J_istore (pc := 10) F (lv' := [(4, .int (0 : Int32)), (3, .int q1.1), (0, .ref (ad t)), (1, .int a0), (2, .int a1)]) dX1_growOlder_10 (by decide) rfl ?_
  refine J_sub [2, 3, 4, 1, 0] rfl ?_
  refine lp_ind (P := fun (b2 : Int32 × St) => J p l e 2 s m args below meth c E ad G n (QU below E ad G n args s res) 6 b2.2 12 [(0, .ref (ad t)), (1, .int a0), (2, .int a1), (3, .int q1.1), (4, .int b2.1)] []) (fun r2 ih2 b2 hf => ?_) FU ((0 : Int32), q1.2) hf
  show J p l e 2 s m args below meth c E ad G n (QU below E ad G n args s res) 6 b2.2 12 [(0, .ref (ad t)), (1, .int a0), (2, .int a1), (3, .int q1.1), (4, .int b2.1)] []
  refine J_iload (pc := 12) F dX1_growOlder_12 4 rfl ?_
  refine J_aload_n (pc := 14) F dX1_growOlder_14 rfl 0 rfl ?_
  refine gfX1_words (pc := 15) F ht wd_62 dX1_growOlder_15 ?_
  rcases ite_elim hf with ⟨c3, hf⟩ | ⟨c3, hf⟩
  · refine J_icmp_geT (pc := 18) F (tgt := 87) dX1_growOlder_18 (by decide) c3 ?_
    exact J_vret (pc := 87) F dX1_growOlder_87 hf
  · refine J_icmp_geF (pc := 18) F (tgt := 87) dX1_growOlder_18 (by decide) c3 ?_
    refine J_aload_n (pc := 21) F dX1_growOlder_21 rfl 0 rfl ?_
    refine J_iload_n (pc := 22) F dX1_growOlder_22 rfl 1 rfl ?_
    refine J_iload (pc := 23) F dX1_growOlder_23 4 rfl ?_
    obtain ⟨q4, h4, hf⟩ := bind_elim hf
    refine J_callVI (pc := 25) F (c_X1_holds hI ht h4) (by omega) (by decide) (tabN ht) (ht.2.1 _) rfl wc_X1_holds wd_369 rfl rfl (Nat.le_of_ble_eq_true rfl) dX1_growOlder_25 ?_
    obtain ⟨k5, hk5, hf⟩ := jn_elim hf
    have hJk5 : ∀ (q5 : St), k5 q5 = some res → J p l e 2 s m args below meth c E ad G n (QU below E ad G n args s res) 6 q5 81 [(0, .ref (ad t)), (1, .int a0), (2, .int a1), (3, .int q1.1), (4, .int b2.1)] [] := by
      intro q5 hf
      replace hf := hk5 q5 hf
      obtain ⟨x13, ex13, hf⟩ := nm_elim hf
      refine J_iinc (pc := 81) F (lv' := [(4, .int x13), (0, .ref (ad t)), (1, .int a0), (2, .int a1), (3, .int q1.1)]) dX1_growOlder_81 4 rfl (ex13.trans (congrArg _ ki_1.symm)) (by decide) rfl ?_
      refine J_goto (pc := 84) F (tgt := 12) dX1_growOlder_84 (by decide) ?_
      refine J_sub [1, 2, 3, 4, 0] rfl ?_
      exact ih2 (x13, q5) hf
    clear hk5
    rcases ite_elim hf with ⟨c6, hf⟩ | ⟨c6, hf⟩
    · refine J_if_eqT (pc := 28) F (tgt := 81) dX1_growOlder_28 (by decide) c6 ?_
      exact hJk5 q4.2 hf
    · refine J_if_eqF (pc := 28) F (tgt := 81) dX1_growOlder_28 (by decide) c6 ?_
      refine J_iload (pc := 31) F dX1_growOlder_31 4 rfl ?_
      refine J_iload_n (pc := 33) F dX1_growOlder_33 rfl 2 rfl ?_
      obtain ⟨k7, hk7, hf⟩ := jn_elim hf
      have hJk7 : ∀ (q7 : Int32 × St), k7 q7 = some res → J p l e 2 s m args below meth c E ad G n (QU below E ad G n args s res) 6 q7.2 50 [(0, .ref (ad t)), (1, .int a0), (2, .int a1), (3, .int q1.1), (4, .int b2.1)] [.int q7.1] := by
        intro q7 hf
        replace hf := hk7 q7 hf
        refine J_istore (pc := 50) F (lv' := [(5, .int q7.1), (0, .ref (ad t)), (1, .int a0), (2, .int a1), (3, .int q1.1), (4, .int b2.1)]) dX1_growOlder_50 (by decide) rfl ?_
        refine J_aload_n (pc := 52) F dX1_growOlder_52 rfl 1 rfl ?_
        refine gfX1_age (pc := 53) F ht wd_60 dX1_growOlder_53 ?_
        refine J_bipush (pc := 56) F dX1_growOlder_56 kb_8 ?_
        refine J_iload_n (pc := 58) F dX1_growOlder_58 rfl 2 rfl ?_
        refine J_imul (pc := 59) F dX1_growOlder_59 ?_
        refine J_iload (pc := 60) F dX1_growOlder_60 5 rfl ?_
        refine J_iadd (pc := 62) F dX1_growOlder_62 ?_
        refine J_iload (pc := 63) F dX1_growOlder_63 0 rfl ?_
        obtain ⟨q10, h10, hf⟩ := bind_elim hf
        refine J_callNU (pc := 65) F (host := RX3) (c_X3_put hI (tabA7 ht) h10) (by omega) (by decide) wc_X3_put (by simp [nestL]) rfl rfl (Nat.le_of_ble_eq_true rfl) dX1_growOlder_65 ?_
        refine J_iload (pc := 68) F dX1_growOlder_68 0 rfl ?_
        refine J_iload_n (pc := 70) F dX1_growOlder_70 rfl 4 rfl ?_
        rcases ite_elim hf with ⟨c11, hf⟩ | ⟨c11, hf⟩
        · refine J_icmp_ltT (pc := 71) F (tgt := 81) dX1_growOlder_71 (by decide) c11 ?_
          refine J_sub [1, 2, 3, 4, 5] rfl ?_
          exact hJk5 q10.2 hf
        · refine J_icmp_ltF (pc := 71) F (tgt := 81) dX1_growOlder_71 (by decide) c11 ?_
          refine J_aload_n (pc := 74) F dX1_growOlder_74 rfl 1 rfl ?_
          refine J_iload_n (pc := 75) F dX1_growOlder_75 rfl 2 rfl ?_
          refine J_iload (pc := 76) F dX1_growOlder_76 5 rfl ?_
          obtain ⟨q12, h12, hf⟩ := bind_elim hf
          refine J_callVU (pc := 78) F (c_X1_drop hI ht h12) (by omega) (by decide) (tabN ht) (ht.2.1 _) rfl wc_X1_drop wd_401 rfl rfl (Nat.le_of_ble_eq_true rfl) dX1_growOlder_78 ?_
          refine J_sub [1, 2, 3, 4, 5] rfl ?_
          exact hJk5 q12.2 hf
      clear hk7
      rcases ite_elim hf with ⟨c8, hf⟩ | ⟨c8, hf⟩
      · refine J_icmp_neT (pc := 34) F (tgt := 41) dX1_growOlder_34 (by decide) c8 ?_
        refine J_aload_n (pc := 41) F dX1_growOlder_41 rfl 0 rfl ?_
        refine J_iload_n (pc := 42) F dX1_growOlder_42 rfl 1 rfl ?_
        refine J_iload (pc := 43) F dX1_growOlder_43 4 rfl ?_
        obtain ⟨q9, h9, hf⟩ := bind_elim hf
        refine J_callVI (pc := 45) F (c_X1_ageOf hI ht h9) (by omega) (by decide) (tabN ht) (ht.2.1 _) rfl wc_X1_ageOf wd_400 rfl rfl (Nat.le_of_ble_eq_true rfl) dX1_growOlder_45 ?_
        refine J_iconst (pc := 48) F dX1_growOlder_48 ki_1 ?_
        refine J_iadd (pc := 49) F dX1_growOlder_49 ?_
        exact hJk7 ((q9.1 + (1 : Int32)), q9.2) hf
      · refine J_icmp_neF (pc := 34) F (tgt := 41) dX1_growOlder_34 (by decide) c8 ?_
        refine J_iconst (pc := 37) F dX1_growOlder_37 ki_0 ?_
        refine J_goto (pc := 38) F (tgt := 50) dX1_growOlder_38 (by decide) ?_
        exact hJk7 ((0 : Int32), q4.2) hf
set_option maxHeartbeats 4000000 in
set_option maxRecDepth 100000 in
theorem c_X1_lowest {l : Launch} {E : En} {ad : Nat → Nat} {G : Lay} {n : Nat} (hI : adI ad n) {t : Nat} (ht : TabAt E ad G n t) {a0 : Int32} {σ : St} {res : Int32 × St} (hf : f_X1_lowest t a0 σ = some res) : Ct l yX1_lowest cX1_lowest 2 (some .int) 1 E ad G n [.ref (ad t), .int a0] σ (some (.int res.1)) res.2 := by
  unfold f_X1_lowest at hf
  refine J_start (own := RX1) (lv := [(0, .ref (ad t)), (1, .int a0)]) pnX1 rfl hI (Nat.le_of_ble_eq_true rfl) rfl (fun p e s m args below meth c F => ?_)
  refine J_iload_n (pc := 0) F dX1_lowest_0 rfl 1 rfl ?_
  rcases ite_elim hf with ⟨c1, hf⟩ | ⟨c1, hf⟩
  · refine J_if_neT (pc := 1) F (tgt := 9) dX1_lowest_1 (by decide) c1 ?_
    refine J_iload_n (pc := 9) F dX1_lowest_9 rfl 1 rfl ?_
    refine J_iload_n (pc := 10) F dX1_lowest_10 rfl 1 rfl ?_
    refine J_ineg (pc := 11) F dX1_lowest_11 ?_
    refine J_iand (pc := 12) F dX1_lowest_12 ?_
    refine J_iconst (pc := 13) F dX1_lowest_13 ki_1 ?_
    refine J_isub (pc := 14) F dX1_lowest_14 ?_
    obtain ⟨q2, h2, hf⟩ := bind_elim hf
    refine J_callSI (pc := 15) F (c_J6_bitCount_0f7a4 hI  h2) (by omega) (by decide) wc_J6_bitCount_0f7a4 wd_328 rfl rfl (Nat.le_of_ble_eq_true rfl) dX1_lowest_15 ?_
    exact J_iret (pc := 18) F rfl dX1_lowest_18 hf
  · refine J_if_neF (pc := 1) F (tgt := 9) dX1_lowest_1 (by decide) c1 ?_
    refine J_bipush (pc := 4) F dX1_lowest_4 kb_m4 ?_
    refine J_goto (pc := 6) F (tgt := 18) dX1_lowest_6 (by decide) ?_
    exact J_iret (pc := 18) F rfl dX1_lowest_18 hf
set_option maxHeartbeats 4000000 in
set_option maxRecDepth 100000 in
theorem c_X1_nextSeat {l : Launch} {E : En} {ad : Nat → Nat} {G : Lay} {n : Nat} (hI : adI ad n) {t : Nat} (ht : TabAt E ad G n t) {a0 : Int32} {σ : St} {res : Int32 × St} (hf : f_X1_nextSeat t a0 σ = some res) : Ct l yX1_nextSeat cX1_nextSeat 2 (some .int) 0 E ad G n [.ref (ad t), .int a0] σ (some (.int res.1)) res.2 := by
  unfold f_X1_nextSeat at hf
  refine J_start (own := RX1) (lv := [(0, .ref (ad t)), (1, .int a0)]) pnX1 rfl hI (Nat.le_of_ble_eq_true rfl) rfl (fun p e s m args below meth c F => ?_)
  refine J_iload_n (pc := 0) F dX1_nextSeat_0 rfl 1 rfl ?_
  refine J_iconst (pc := 1) F dX1_nextSeat_1 ki_1 ?_
  refine J_iadd (pc := 2) F dX1_nextSeat_2 ?_
  refine J_aload_n (pc := 3) F dX1_nextSeat_3 rfl 0 rfl ?_
  refine gfX1_wooers (pc := 4) F ht wd_65 dX1_nextSeat_4 ?_
  rcases ite_elim hf with ⟨c1, hf⟩ | ⟨c1, hf⟩
  · refine J_icmp_geT (pc := 7) F (tgt := 16) dX1_nextSeat_7 (by decide) c1 ?_
    refine J_iconst (pc := 16) F dX1_nextSeat_16 ki_0 ?_
    exact J_iret (pc := 17) F rfl dX1_nextSeat_17 hf
  · refine J_icmp_geF (pc := 7) F (tgt := 16) dX1_nextSeat_7 (by decide) c1 ?_
    refine J_iload_n (pc := 10) F dX1_nextSeat_10 rfl 1 rfl ?_
    refine J_iconst (pc := 11) F dX1_nextSeat_11 ki_1 ?_
    refine J_iadd (pc := 12) F dX1_nextSeat_12 ?_
    refine J_goto (pc := 13) F (tgt := 17) dX1_nextSeat_13 (by decide) ?_
    exact J_iret (pc := 17) F rfl dX1_nextSeat_17 hf
set_option maxHeartbeats 4000000 in
set_option maxRecDepth 100000 in
theorem c_X1_asHeardBy {l : Launch} {E : En} {ad : Nat → Nat} {G : Lay} {n : Nat} (hI : adI ad n) {t : Nat} (ht : TabAt E ad G n t) {a0 : Int32} {a1 : Int32} {σ : St} {res : Int32 × St} (hf : f_X1_asHeardBy t a0 a1 σ = some res) : Ct l yX1_asHeardBy cX1_asHeardBy 3 (some .int) 1 E ad G n [.ref (ad t), .int a0, .int a1] σ (some (.int res.1)) res.2 := by
  unfold f_X1_asHeardBy at hf
  refine J_start (own := RX1) (lv := [(0, .ref (ad t)), (1, .int a0), (2, .int a1)]) pnX1 rfl hI (Nat.le_of_ble_eq_true rfl) rfl (fun p e s m args below meth c F => ?_)
  refine J_aload_n (pc := 0) F dX1_asHeardBy_0 rfl 0 rfl ?_
  refine gfX1_kind (pc := 1) F ht wd_51 dX1_asHeardBy_1 ?_
  refine J_iload_n (pc := 4) F dX1_asHeardBy_4 rfl 1 rfl ?_
  obtain ⟨q1, h1, hf⟩ := bind_elim hf
  refine J_callNI (pc := 5) F (host := RX3) (c_X3_at hI (tabA2 ht) h1) (by omega) (by decide) wc_X3_at (by simp [nestL]) rfl rfl (Nat.le_of_ble_eq_true rfl) dX1_asHeardBy_5 ?_
  refine J_iconst (pc := 8) F dX1_asHeardBy_8 ki_1 ?_
  obtain ⟨k2, hk2, hf⟩ := jn_elim hf
  have hJk2 : ∀ (q2 : St), k2 q2 = some res → J p l e 1 s m args below meth c E ad G n (QI below E ad G n args s res) 3 q2 28 [(2, .int a1)] [] := by
    intro q2 hf
    replace hf := hk2 q2 hf
    refine J_iload_n (pc := 28) F dX1_asHeardBy_28 rfl 0 rfl ?_
    exact J_iret (pc := 29) F rfl dX1_asHeardBy_29 hf
  clear hk2
  rcases ite_elim hf with ⟨c3, hf⟩ | ⟨c3, hf⟩
  · refine J_icmp_neT (pc := 9) F (tgt := 28) dX1_asHeardBy_9 (by decide) c3 ?_
    refine J_sub [2] rfl ?_
    exact hJk2 q1.2 hf
  · refine J_icmp_neF (pc := 9) F (tgt := 28) dX1_asHeardBy_9 (by decide) c3 ?_
    refine J_iload_n (pc := 12) F dX1_asHeardBy_12 rfl 2 rfl ?_
    refine J_iconst (pc := 13) F dX1_asHeardBy_13 ki_2 ?_
    refine J_irem (pc := 14) F dX1_asHeardBy_14 (by decide +kernel) ?_
    refine J_iconst (pc := 15) F dX1_asHeardBy_15 ki_1 ?_
    rcases ite_elim hf with ⟨c4, hf⟩ | ⟨c4, hf⟩
    · refine J_icmp_neT (pc := 16) F (tgt := 28) dX1_asHeardBy_16 (by decide) c4 ?_
      refine J_sub [2] rfl ?_
      exact hJk2 q1.2 hf
    · refine J_icmp_neF (pc := 16) F (tgt := 28) dX1_asHeardBy_16 (by decide) c4 ?_
      refine J_iload_n (pc := 19) F dX1_asHeardBy_19 rfl 2 rfl ?_
      refine J_iconst (pc := 20) F dX1_asHeardBy_20 ki_1 ?_
      refine J_iadd (pc := 21) F dX1_asHeardBy_21 ?_
      refine J_bipush (pc := 22) F dX1_asHeardBy_22 kb_10 ?_
      refine J_irem (pc := 24) F dX1_asHeardBy_24 (by decide +kernel) ?_
      refine J_goto (pc := 25) F (tgt := 29) dX1_asHeardBy_25 (by decide) ?_
      exact J_iret (pc := 29) F rfl dX1_asHeardBy_29 hf
set_option maxHeartbeats 4000000 in
set_option maxRecDepth 100000 in
theorem c_X1_give {l : Launch} {E : En} {ad : Nat → Nat} {G : Lay} {n : Nat} (hI : adI ad n) {t : Nat} (ht : TabAt E ad G n t) {a0 : Int32} {a1 : Int32} {a2 : Int32} {σ : St} {res : Unit × St} (hf : f_X1_give t a0 a1 a2 σ = some res) : Ct l yX1_give cX1_give 5 none 1 E ad G n [.ref (ad t), .int a0, .int a1, .int a2] σ none res.2 := by
  unfold f_X1_give at hf
  refine J_start (own := RX1) (lv := [(0, .ref (ad t)), (1, .int a0), (2, .int a1), (3, .int a2)]) pnX1 rfl hI (Nat.le_of_ble_eq_true rfl) rfl (fun p e s m args below meth c F => ?_)
  refine J_iconst (pc := 0) F dX1_give_0 ki_1 ?_
  refine J_iload_n (pc := 1) F dX1_give_1 rfl 2 rfl ?_
  refine J_ishl (pc := 2) F dX1_give_2 ?_
  obtain ⟨x1, ex1, hf⟩ := nm_elim hf
  refine J_ti ex1 ?_
  refine J_istore (pc := 3) F (lv' := [(4, .int x1), (0, .ref (ad t)), (1, .int a0), (2, .int a1), (3, .int a2)]) dX1_give_3 (by decide) rfl ?_
  refine J_aload_n (pc := 5) F dX1_give_5 rfl 1 rfl ?_
  refine gfX1_has (pc := 6) F ht wd_55 dX1_give_6 ?_
  refine J_iload_n (pc := 9) F dX1_give_9 rfl 2 rfl ?_
  refine J_aload_n (pc := 10) F dX1_give_10 rfl 1 rfl ?_
  refine gfX1_has (pc := 11) F ht wd_55 dX1_give_11 ?_
  refine J_iload_n (pc := 14) F dX1_give_14 rfl 2 rfl ?_
  obtain ⟨q2, h2, hf⟩ := bind_elim hf
  refine J_callNI (pc := 15) F (host := RX3) (c_X3_at hI (tabA4 ht) h2) (by omega) (by decide) wc_X3_at (by simp [nestL]) rfl rfl (Nat.le_of_ble_eq_true rfl) dX1_give_15 ?_
  refine J_iload (pc := 18) F dX1_give_18 0 rfl ?_
  refine J_ior (pc := 20) F dX1_give_20 ?_
  obtain ⟨q3, h3, hf⟩ := bind_elim hf
  refine J_callNU (pc := 21) F (host := RX3) (c_X3_put hI (tabA4 ht) h3) (by omega) (by decide) wc_X3_put (by simp [nestL]) rfl rfl (Nat.le_of_ble_eq_true rfl) dX1_give_21 ?_
  refine J_aload_n (pc := 24) F dX1_give_24 rfl 1 rfl ?_
  refine gfX1_right (pc := 25) F ht wd_57 dX1_give_25 ?_
  refine J_iload_n (pc := 28) F dX1_give_28 rfl 2 rfl ?_
  refine J_iload_n (pc := 29) F dX1_give_29 rfl 4 rfl ?_
  refine J_aload_n (pc := 30) F dX1_give_30 rfl 1 rfl ?_
  refine gfX1_sounds (pc := 31) F ht wd_48 dX1_give_31 ?_
  refine J_iload_n (pc := 34) F dX1_give_34 rfl 3 rfl ?_
  obtain ⟨q4, h4, hf⟩ := bind_elim hf
  refine J_callNI (pc := 35) F (host := RX3) (c_X3_at hI (tabA1 ht) h4) (by omega) (by decide) wc_X3_at (by simp [nestL]) rfl rfl (Nat.le_of_ble_eq_true rfl) dX1_give_35 ?_
  obtain ⟨k5, hk5, hf⟩ := jn_elim hf
  have hJk5 : ∀ (q5 : Int32 × St), k5 q5 = some res → J p l e 1 s m args below meth c E ad G n (QU below E ad G n args s res) 5 q5.2 68 [(0, .ref (ad t)), (1, .int a0), (2, .int a1), (3, .int a2)] [.int q5.1, .int a0, .ref (ad (t + 5))] := by
    intro q5 hf
    replace hf := hk5 q5 hf
    obtain ⟨q9, h9, hf⟩ := bind_elim hf
    refine J_callNU (pc := 68) F (host := RX3) (c_X3_put hI (tabA5 ht) h9) (by omega) (by decide) wc_X3_put (by simp [nestL]) rfl rfl (Nat.le_of_ble_eq_true rfl) dX1_give_68 ?_
    refine J_aload_n (pc := 71) F dX1_give_71 rfl 0 rfl ?_
    refine gfX1_way (pc := 72) F ht wd_59 dX1_give_72 ?_
    refine J_bipush (pc := 75) F dX1_give_75 kb_8 ?_
    refine J_iload_n (pc := 77) F dX1_give_77 rfl 1 rfl ?_
    refine J_imul (pc := 78) F dX1_give_78 ?_
    refine J_iload_n (pc := 79) F dX1_give_79 rfl 2 rfl ?_
    refine J_iadd (pc := 80) F dX1_give_80 ?_
    refine J_iload_n (pc := 81) F dX1_give_81 rfl 3 rfl ?_
    obtain ⟨q10, h10, hf⟩ := bind_elim hf
    refine J_callNU (pc := 82) F (host := RX3) (c_X3_put hI (tabA6 ht) h10) (by omega) (by decide) wc_X3_put (by simp [nestL]) rfl rfl (Nat.le_of_ble_eq_true rfl) dX1_give_82 ?_
    refine J_aload_n (pc := 85) F dX1_give_85 rfl 0 rfl ?_
    refine gfX1_age (pc := 86) F ht wd_60 dX1_give_86 ?_
    refine J_bipush (pc := 89) F dX1_give_89 kb_8 ?_
    refine J_iload_n (pc := 91) F dX1_give_91 rfl 1 rfl ?_
    refine J_imul (pc := 92) F dX1_give_92 ?_
    refine J_iload_n (pc := 93) F dX1_give_93 rfl 2 rfl ?_
    refine J_iadd (pc := 94) F dX1_give_94 ?_
    refine J_iconst (pc := 95) F dX1_give_95 ki_0 ?_
    obtain ⟨q11, h11, hf⟩ := bind_elim hf
    refine J_callNU (pc := 96) F (host := RX3) (c_X3_put hI (tabA7 ht) h11) (by omega) (by decide) wc_X3_put (by simp [nestL]) rfl rfl (Nat.le_of_ble_eq_true rfl) dX1_give_96 ?_
    exact J_vret (pc := 99) F dX1_give_99 hf
  clear hk5
  rcases ite_elim hf with ⟨c6, hf⟩ | ⟨c6, hf⟩
  · refine J_icmp_neT (pc := 38) F (tgt := 55) dX1_give_38 (by decide) c6 ?_
    refine J_aload_n (pc := 55) F dX1_give_55 rfl 1 rfl ?_
    refine gfX1_right (pc := 56) F ht wd_57 dX1_give_56 ?_
    refine J_iload_n (pc := 59) F dX1_give_59 rfl 2 rfl ?_
    obtain ⟨q7, h7, hf⟩ := bind_elim hf
    refine J_callNI (pc := 60) F (host := RX3) (c_X3_at hI (tabA5 ht) h7) (by omega) (by decide) wc_X3_at (by simp [nestL]) rfl rfl (Nat.le_of_ble_eq_true rfl) dX1_give_60 ?_
    refine J_iload (pc := 63) F dX1_give_63 0 rfl ?_
    refine J_iconst (pc := 65) F dX1_give_65 ki_m1 ?_
    refine J_ixor (pc := 66) F dX1_give_66 ?_
    refine J_iand (pc := 67) F dX1_give_67 ?_
    refine J_sub [1, 2, 3, 4] rfl ?_
    exact hJk5 ((q7.1 &&& (x1 ^^^ (-1 : Int32))), q7.2) hf
  · refine J_icmp_neF (pc := 38) F (tgt := 55) dX1_give_38 (by decide) c6 ?_
    refine J_aload_n (pc := 41) F dX1_give_41 rfl 1 rfl ?_
    refine gfX1_right (pc := 42) F ht wd_57 dX1_give_42 ?_
    refine J_iload_n (pc := 45) F dX1_give_45 rfl 2 rfl ?_
    obtain ⟨q8, h8, hf⟩ := bind_elim hf
    refine J_callNI (pc := 46) F (host := RX3) (c_X3_at hI (tabA5 ht) h8) (by omega) (by decide) wc_X3_at (by simp [nestL]) rfl rfl (Nat.le_of_ble_eq_true rfl) dX1_give_46 ?_
    refine J_iload (pc := 49) F dX1_give_49 0 rfl ?_
    refine J_ior (pc := 51) F dX1_give_51 ?_
    refine J_goto (pc := 52) F (tgt := 68) dX1_give_52 (by decide) ?_
    refine J_sub [1, 2, 3, 4] rfl ?_
    exact hJk5 ((q8.1 ||| x1), q8.2) hf
set_option maxHeartbeats 4000000 in
set_option maxRecDepth 100000 in
theorem c_X1_tellNext {l : Launch} {E : En} {ad : Nat → Nat} {G : Lay} {n : Nat} (hI : adI ad n) {t : Nat} (ht : TabAt E ad G n t) {a0 : Int32} {a1 : Int32} {σ : St} {res : Unit × St} (hf : f_X1_tellNext t a0 a1 σ = some res) : Ct l yX1_tellNext cX1_tellNext 4 none 2 E ad G n [.ref (ad t), .int a0, .int a1] σ none res.2 := by
  unfold f_X1_tellNext at hf
  refine J_start (own := RX1) (lv := [(0, .ref (ad t)), (1, .int a0), (2, .int a1)]) pnX1 rfl hI (Nat.le_of_ble_eq_true rfl) rfl (fun p e s m args below meth c F => ?_)
  refine J_iload_n (pc := 0) F dX1_tellNext_0 rfl 2 rfl ?_
  rcases ite_elim hf with ⟨c1, hf⟩ | ⟨c1, hf⟩
  · refine J_if_ltT (pc := 1) F (tgt := 27) dX1_tellNext_1 (by decide) c1 ?_
    exact J_vret (pc := 27) F dX1_tellNext_27 hf
  · refine J_if_ltF (pc := 1) F (tgt := 27) dX1_tellNext_1 (by decide) c1 ?_
    refine J_aload_n (pc := 4) F dX1_tellNext_4 rfl 0 rfl ?_
    refine J_iload_n (pc := 5) F dX1_tellNext_5 rfl 1 rfl ?_
    obtain ⟨q2, h2, hf⟩ := bind_elim hf
    refine J_callVI (pc := 6) F (c_X1_nextSeat hI ht h2) (by omega) (by decide) (tabN ht) (ht.2.1 _) rfl wc_X1_nextSeat wd_388 rfl rfl (Nat.le_of_ble_eq_true rfl) dX1_tellNext_6 ?_
    refine J_istore_n (pc := 9) F (lv' := [(3, .int q2.1), (0, .ref (ad t)), (1, .int a0), (2, .int a1)]) dX1_tellNext_9 rfl (by decide) rfl ?_
    refine J_aload_n (pc := 10) F dX1_tellNext_10 rfl 1 rfl ?_
    refine J_iload_n (pc := 11) F dX1_tellNext_11 rfl 0 rfl ?_
    refine J_iload_n (pc := 12) F dX1_tellNext_12 rfl 3 rfl ?_
    refine J_aload_n (pc := 13) F dX1_tellNext_13 rfl 1 rfl ?_
    refine J_iload_n (pc := 14) F dX1_tellNext_14 rfl 0 rfl ?_
    refine J_aload_n (pc := 15) F dX1_tellNext_15 rfl 1 rfl ?_
    refine J_iload_n (pc := 16) F dX1_tellNext_16 rfl 2 rfl ?_
    refine J_iload_n (pc := 17) F dX1_tellNext_17 rfl 3 rfl ?_
    obtain ⟨q3, h3, hf⟩ := bind_elim hf
    refine J_callVI (pc := 18) F (c_X1_wayOf hI ht h3) (by omega) (by decide) (tabN ht) (ht.2.1 _) rfl wc_X1_wayOf wd_370 rfl rfl (Nat.le_of_ble_eq_true rfl) dX1_tellNext_18 ?_
    obtain ⟨q4, h4, hf⟩ := bind_elim hf
    refine J_callVI (pc := 21) F (c_X1_asHeardBy hI ht h4) (by omega) (by decide) (tabN ht) (ht.2.1 _) rfl wc_X1_asHeardBy wd_372 rfl rfl (Nat.le_of_ble_eq_true rfl) dX1_tellNext_21 ?_
    obtain ⟨q5, h5, hf⟩ := bind_elim hf
    refine J_callVU (pc := 24) F (c_X1_give hI ht h5) (by omega) (by decide) (tabN ht) (ht.2.1 _) rfl wc_X1_give wd_371 rfl rfl (Nat.le_of_ble_eq_true rfl) dX1_tellNext_24 ?_
    exact J_vret (pc := 27) F dX1_tellNext_27 hf
set_option maxHeartbeats 4000000 in
set_option maxRecDepth 100000 in
theorem c_X1_spendDay {l : Launch} {E : En} {ad : Nat → Nat} {G : Lay} {n : Nat} (hI : adI ad n) {t : Nat} (ht : TabAt E ad G n t) {a0 : Int32} {σ : St} {res : Unit × St} (hf : f_X1_spendDay t a0 σ = some res) : Ct l yX1_spendDay cX1_spendDay 3 none 3 E ad G n [.ref (ad t), .int a0] σ none res.2 := by
  unfold f_X1_spendDay at hf
  refine J_start (own := RX1) (lv := [(0, .ref (ad t)), (1, .int a0)]) pnX1 rfl hI (Nat.le_of_ble_eq_true rfl) rfl (fun p e s m args below meth c F => ?_)
  refine J_iconst (pc := 0) F dX1_spendDay_0 ki_0 ?_
  refine J_istore_n (pc := 1) F (lv' := [(2, .int (0 : Int32)), (0, .ref (ad t)), (1, .int a0)]) dX1_spendDay_1 rfl (by decide) rfl ?_
  refine J_sub [1, 2, 0] rfl ?_
  refine lp_ind (P := fun (b1 : Int32 × St) => J p l e 3 s m args below meth c E ad G n (QU below E ad G n args s res) 3 b1.2 2 [(0, .ref (ad t)), (1, .int a0), (2, .int b1.1)] []) (fun r1 ih1 b1 hf => ?_) FU ((0 : Int32), σ) hf
  show J p l e 3 s m args below meth c E ad G n (QU below E ad G n args s res) 3 b1.2 2 [(0, .ref (ad t)), (1, .int a0), (2, .int b1.1)] []
  refine J_iload_n (pc := 2) F dX1_spendDay_2 rfl 2 rfl ?_
  refine J_aload_n (pc := 3) F dX1_spendDay_3 rfl 0 rfl ?_
  refine gfX1_wooers (pc := 4) F ht wd_65 dX1_spendDay_4 ?_
  rcases ite_elim hf with ⟨c2, hf⟩ | ⟨c2, hf⟩
  · refine J_icmp_geT (pc := 7) F (tgt := 60) dX1_spendDay_7 (by decide) c2 ?_
    refine J_iconst (pc := 60) F dX1_spendDay_60 ki_0 ?_
    refine J_istore_n (pc := 61) F (lv' := [(2, .int (0 : Int32)), (0, .ref (ad t)), (1, .int a0)]) dX1_spendDay_61 rfl (by decide) rfl ?_
    refine J_sub [1, 0] rfl ?_
    refine lp_ind (P := fun (b3 : Int32 × St) => J p l e 3 s m args below meth c E ad G n (QU below E ad G n args s res) 3 b3.2 62 [(0, .ref (ad t)), (2, .int b3.1)] []) (fun r3 ih3 b3 hf => ?_) FU ((0 : Int32), b1.2) hf
    show J p l e 3 s m args below meth c E ad G n (QU below E ad G n args s res) 3 b3.2 62 [(0, .ref (ad t)), (2, .int b3.1)] []
    refine J_iload_n (pc := 62) F dX1_spendDay_62 rfl 1 rfl ?_
    refine J_aload_n (pc := 63) F dX1_spendDay_63 rfl 0 rfl ?_
    refine gfX1_wooers (pc := 64) F ht wd_65 dX1_spendDay_64 ?_
    rcases ite_elim hf with ⟨c4, hf⟩ | ⟨c4, hf⟩
    · refine J_icmp_geT (pc := 67) F (tgt := 89) dX1_spendDay_67 (by decide) c4 ?_
      refine J_iconst (pc := 89) F dX1_spendDay_89 ki_0 ?_
      refine J_istore_n (pc := 90) F (lv' := [(2, .int (0 : Int32)), (0, .ref (ad t))]) dX1_spendDay_90 rfl (by decide) rfl ?_
      refine J_sub [1, 0] rfl ?_
      refine lp_ind (P := fun (b5 : Int32 × St) => J p l e 3 s m args below meth c E ad G n (QU below E ad G n args s res) 3 b5.2 91 [(0, .ref (ad t)), (2, .int b5.1)] []) (fun r5 ih5 b5 hf => ?_) FU ((0 : Int32), b3.2) hf
      show J p l e 3 s m args below meth c E ad G n (QU below E ad G n args s res) 3 b5.2 91 [(0, .ref (ad t)), (2, .int b5.1)] []
      refine J_iload_n (pc := 91) F dX1_spendDay_91 rfl 1 rfl ?_
      refine J_aload_n (pc := 92) F dX1_spendDay_92 rfl 0 rfl ?_
      refine gfX1_wooers (pc := 93) F ht wd_65 dX1_spendDay_93 ?_
      rcases ite_elim hf with ⟨c6, hf⟩ | ⟨c6, hf⟩
      · refine J_icmp_geT (pc := 96) F (tgt := 118) dX1_spendDay_96 (by decide) c6 ?_
        refine J_aload_n (pc := 118) F dX1_spendDay_118 rfl 0 rfl ?_
        refine J_dup (pc := 119) F dX1_spendDay_119 rfl ?_
        refine gfX1_days (pc := 120) F ht wd_72 dX1_spendDay_120 ?_
        refine J_iconst (pc := 123) F dX1_spendDay_123 ki_1 ?_
        refine J_iadd (pc := 124) F dX1_spendDay_124 ?_
        obtain ⟨σ7, eσ7, hf⟩ := nm_elim hf
        refine pfX1_days (pc := 125) F ht wd_72 dX1_spendDay_125 eσ7 ?_
        exact J_vret (pc := 128) F dX1_spendDay_128 hf
      · refine J_icmp_geF (pc := 96) F (tgt := 118) dX1_spendDay_96 (by decide) c6 ?_
        refine J_aload_n (pc := 99) F dX1_spendDay_99 rfl 0 rfl ?_
        refine J_iload_n (pc := 100) F dX1_spendDay_100 rfl 1 rfl ?_
        refine J_aload_n (pc := 101) F dX1_spendDay_101 rfl 0 rfl ?_
        refine gfX1_told (pc := 102) F ht wd_61 dX1_spendDay_102 ?_
        refine J_iload_n (pc := 105) F dX1_spendDay_105 rfl 1 rfl ?_
        obtain ⟨q8, h8, hf⟩ := bind_elim hf
        refine J_callNI (pc := 106) F (host := RX3) (c_X3_at hI (tabA8 ht) h8) (by omega) (by decide) wc_X3_at (by simp [nestL]) rfl rfl (Nat.le_of_ble_eq_true rfl) dX1_spendDay_106 ?_
        obtain ⟨q9, h9, hf⟩ := bind_elim hf
        refine J_callVU (pc := 109) F (c_X1_tellNext hI ht h9) (by omega) (by decide) (tabN ht) (ht.2.1 _) rfl wc_X1_tellNext wd_405 rfl rfl (Nat.le_of_ble_eq_true rfl) dX1_spendDay_109 ?_
        obtain ⟨x10, ex10, hf⟩ := nm_elim hf
        refine J_iinc (pc := 112) F (lv' := [(2, .int x10), (0, .ref (ad t))]) dX1_spendDay_112 1 rfl (ex10.trans (congrArg _ ki_1.symm)) (by decide) rfl ?_
        refine J_goto (pc := 115) F (tgt := 91) dX1_spendDay_115 (by decide) ?_
        refine J_sub [1, 0] rfl ?_
        exact ih5 (x10, q9.2) hf
    · refine J_icmp_geF (pc := 67) F (tgt := 89) dX1_spendDay_67 (by decide) c4 ?_
      refine J_aload_n (pc := 70) F dX1_spendDay_70 rfl 0 rfl ?_
      refine J_iload_n (pc := 71) F dX1_spendDay_71 rfl 1 rfl ?_
      refine J_aload_n (pc := 72) F dX1_spendDay_72 rfl 0 rfl ?_
      refine gfX1_told (pc := 73) F ht wd_61 dX1_spendDay_73 ?_
      refine J_iload_n (pc := 76) F dX1_spendDay_76 rfl 1 rfl ?_
      obtain ⟨q11, h11, hf⟩ := bind_elim hf
      refine J_callNI (pc := 77) F (host := RX3) (c_X3_at hI (tabA8 ht) h11) (by omega) (by decide) wc_X3_at (by simp [nestL]) rfl rfl (Nat.le_of_ble_eq_true rfl) dX1_spendDay_77 ?_
      obtain ⟨q12, h12, hf⟩ := bind_elim hf
      refine J_callVU (pc := 80) F (c_X1_growOlder hI ht h12) (by omega) (by decide) (tabN ht) (ht.2.1 _) rfl wc_X1_growOlder wd_396 rfl rfl (Nat.le_of_ble_eq_true rfl) dX1_spendDay_80 ?_
      obtain ⟨x13, ex13, hf⟩ := nm_elim hf
      refine J_iinc (pc := 83) F (lv' := [(2, .int x13), (0, .ref (ad t))]) dX1_spendDay_83 1 rfl (ex13.trans (congrArg _ ki_1.symm)) (by decide) rfl ?_
      refine J_goto (pc := 86) F (tgt := 62) dX1_spendDay_86 (by decide) ?_
      refine J_sub [1, 0] rfl ?_
      exact ih3 (x13, q12.2) hf
  · refine J_icmp_geF (pc := 7) F (tgt := 60) dX1_spendDay_7 (by decide) c2 ?_
    refine J_aload_n (pc := 10) F dX1_spendDay_10 rfl 0 rfl ?_
    refine gfX1_told (pc := 11) F ht wd_61 dX1_spendDay_11 ?_
    refine J_iload_n (pc := 14) F dX1_spendDay_14 rfl 2 rfl ?_
    refine J_iload_n (pc := 15) F dX1_spendDay_15 rfl 1 rfl ?_
    obtain ⟨k14, hk14, hf⟩ := jn_elim hf
    have hJk14 : ∀ (q14 : Int32 × St), k14 q14 = some res → J p l e 3 s m args below meth c E ad G n (QU below E ad G n args s res) 3 q14.2 51 [(0, .ref (ad t)), (1, .int a0), (2, .int b1.1)] [.int q14.1, .int b1.1, .ref (ad (t + 8))] := by
      intro q14 hf
      replace hf := hk14 q14 hf
      obtain ⟨q20, h20, hf⟩ := bind_elim hf
      refine J_callNU (pc := 51) F (host := RX3) (c_X3_put hI (tabA8 ht) h20) (by omega) (by decide) wc_X3_put (by simp [nestL]) rfl rfl (Nat.le_of_ble_eq_true rfl) dX1_spendDay_51 ?_
      obtain ⟨x21, ex21, hf⟩ := nm_elim hf
      refine J_iinc (pc := 54) F (lv' := [(2, .int x21), (0, .ref (ad t)), (1, .int a0)]) dX1_spendDay_54 2 rfl (ex21.trans (congrArg _ ki_1.symm)) (by decide) rfl ?_
      refine J_goto (pc := 57) F (tgt := 2) dX1_spendDay_57 (by decide) ?_
      refine J_sub [1, 2, 0] rfl ?_
      exact ih1 (x21, q20.2) hf
    clear hk14
    rcases ite_elim hf with ⟨c15, hf⟩ | ⟨c15, hf⟩
    · refine J_if_eqT (pc := 16) F (tgt := 49) dX1_spendDay_16 (by decide) c15 ?_
      refine J_bipush (pc := 49) F dX1_spendDay_49 kb_m4 ?_
      exact hJk14 ((-4 : Int32), b1.2) hf
    · refine J_if_eqF (pc := 16) F (tgt := 49) dX1_spendDay_16 (by decide) c15 ?_
      refine J_aload_n (pc := 19) F dX1_spendDay_19 rfl 0 rfl ?_
      refine J_aload_n (pc := 20) F dX1_spendDay_20 rfl 0 rfl ?_
      refine gfX1_has (pc := 21) F ht wd_55 dX1_spendDay_21 ?_
      refine J_iload_n (pc := 24) F dX1_spendDay_24 rfl 2 rfl ?_
      obtain ⟨q16, h16, hf⟩ := bind_elim hf
      refine J_callNI (pc := 25) F (host := RX3) (c_X3_at hI (tabA4 ht) h16) (by omega) (by decide) wc_X3_at (by simp [nestL]) rfl rfl (Nat.le_of_ble_eq_true rfl) dX1_spendDay_25 ?_
      refine J_aload_n (pc := 28) F dX1_spendDay_28 rfl 0 rfl ?_
      refine gfX1_has (pc := 29) F ht wd_55 dX1_spendDay_29 ?_
      refine J_aload_n (pc := 32) F dX1_spendDay_32 rfl 0 rfl ?_
      refine J_iload_n (pc := 33) F dX1_spendDay_33 rfl 2 rfl ?_
      obtain ⟨q17, h17, hf⟩ := bind_elim hf
      refine J_callVI (pc := 34) F (c_X1_nextSeat hI ht h17) (by omega) (by decide) (tabN ht) (ht.2.1 _) rfl wc_X1_nextSeat wd_388 rfl rfl (Nat.le_of_ble_eq_true rfl) dX1_spendDay_34 ?_
      obtain ⟨q18, h18, hf⟩ := bind_elim hf
      refine J_callNI (pc := 37) F (host := RX3) (c_X3_at hI (tabA4 ht) h18) (by omega) (by decide) wc_X3_at (by simp [nestL]) rfl rfl (Nat.le_of_ble_eq_true rfl) dX1_spendDay_37 ?_
      refine J_iconst (pc := 40) F dX1_spendDay_40 ki_m1 ?_
      refine J_ixor (pc := 41) F dX1_spendDay_41 ?_
      refine J_iand (pc := 42) F dX1_spendDay_42 ?_
      obtain ⟨q19, h19, hf⟩ := bind_elim hf
      refine J_callVI (pc := 43) F (c_X1_lowest hI ht h19) (by omega) (by decide) (tabN ht) (ht.2.1 _) rfl wc_X1_lowest wd_392 rfl rfl (Nat.le_of_ble_eq_true rfl) dX1_spendDay_43 ?_
      refine J_goto (pc := 46) F (tgt := 51) dX1_spendDay_46 (by decide) ?_
      exact hJk14 (q19.1, q19.2) hf
set_option maxHeartbeats 4000000 in
set_option maxRecDepth 100000 in
theorem c_X0_fitting {l : Launch} {E : En} {ad : Nat → Nat} {G : Lay} {n : Nat} (hI : adI ad n) (ht : HeaAt E ad G n) {a0 : Nat} (ha0 : TabAt E ad G n a0) {σ : St} {res : Int32 × St} (hf : f_X0_fitting a0 σ = some res) : Ct l yX0_fitting cX0_fitting 6 (some .int) 4 E ad G n [.ref (ad 203), .ref (ad a0)] σ (some (.int res.1)) res.2 := by
  unfold f_X0_fitting at hf
  refine J_start (own := RX0) (lv := [(0, .ref (ad 203)), (1, .ref (ad a0))]) pnX0 rfl hI (Nat.le_of_ble_eq_true rfl) rfl (fun p e s m args below meth c F => ?_)
  refine J_aload_n (pc := 0) F dX0_fitting_0 rfl 1 rfl ?_
  refine J_ifnonnull (pc := 1) F (tgt := 6) dX0_fitting_1 (by decide) ?_
  refine J_iconst (pc := 6) F dX0_fitting_6 ki_1 ?_
  refine J_aload_n (pc := 7) F dX0_fitting_7 rfl 1 rfl ?_
  refine gfX1_wooers (pc := 8) F ha0 wd_66 dX0_fitting_8 ?_
  refine J_ishl (pc := 11) F dX0_fitting_11 ?_
  refine J_iconst (pc := 12) F dX0_fitting_12 ki_1 ?_
  refine J_isub (pc := 13) F dX0_fitting_13 ?_
  obtain ⟨x1, ex1, hf⟩ := nm_elim hf
  refine J_ti ex1 ?_
  refine J_istore_n (pc := 14) F (lv' := [(2, .int x1), (0, .ref (ad 203)), (1, .ref (ad a0))]) dX0_fitting_14 rfl (by decide) rfl ?_
  refine J_aload_n (pc := 15) F dX0_fitting_15 rfl 1 rfl ?_
  obtain ⟨q2, h2, hf⟩ := bind_elim hf
  refine J_callVI (pc := 16) F (c_X0_lastDay hI ht h2) (by omega) (by decide) (heaN ht) (ht.2.1 _) rfl wc_X0_lastDay wd_534 rfl rfl (Nat.le_of_ble_eq_true rfl) dX0_fitting_16 ?_
  refine J_istore_n (pc := 19) F (lv' := [(3, .int q2.1), (2, .int x1), (0, .ref (ad 203)), (1, .ref (ad a0))]) dX0_fitting_19 rfl (by decide) rfl ?_
  refine J_iconst (pc := 20) F dX0_fitting_20 ki_0 ?_
  refine J_istore (pc := 21) F (lv' := [(4, .int (0 : Int32)), (3, .int q2.1), (2, .int x1), (0, .ref (ad 203)), (1, .ref (ad a0))]) dX0_fitting_21 (by decide) rfl ?_
  refine J_sub [3, 4, 2, 1, 0] rfl ?_
  refine lp_ind (P := fun (b3 : Int32 × Int32 × St) => J p l e 4 s m args below meth c E ad G n (QI below E ad G n args s res) 6 b3.2.2 23 [(0, .ref (ad 203)), (1, .ref (ad a0)), (2, .int b3.1), (3, .int q2.1), (4, .int b3.2.1)] []) (fun r3 ih3 b3 hf => ?_) FU (x1, (0 : Int32), q2.2) hf
  show J p l e 4 s m args below meth c E ad G n (QI below E ad G n args s res) 6 b3.2.2 23 [(0, .ref (ad 203)), (1, .ref (ad a0)), (2, .int b3.1), (3, .int q2.1), (4, .int b3.2.1)] []
  refine J_iload (pc := 23) F dX0_fitting_23 4 rfl ?_
  refine J_iload_n (pc := 25) F dX0_fitting_25 rfl 3 rfl ?_
  rcases ite_elim hf with ⟨c4, hf⟩ | ⟨c4, hf⟩
  · refine J_icmp_gtT (pc := 26) F (tgt := 97) dX0_fitting_26 (by decide) c4 ?_
    refine J_iload_n (pc := 97) F dX0_fitting_97 rfl 2 rfl ?_
    exact J_iret (pc := 98) F rfl dX0_fitting_98 hf
  · refine J_icmp_gtF (pc := 26) F (tgt := 97) dX0_fitting_26 (by decide) c4 ?_
    refine J_iconst (pc := 29) F dX0_fitting_29 ki_0 ?_
    refine J_istore (pc := 30) F (lv' := [(5, .int (0 : Int32)), (0, .ref (ad 203)), (1, .ref (ad a0)), (2, .int b3.1), (3, .int q2.1), (4, .int b3.2.1)]) dX0_fitting_30 (by decide) rfl ?_
    refine J_sub [1, 2, 3, 4, 5, 0] rfl ?_
    refine lp_ind (P := fun (b5 : Int32 × Int32 × St) => J p l e 4 s m args below meth c E ad G n (QI below E ad G n args s res) 6 b5.2.2 32 [(0, .ref (ad 203)), (1, .ref (ad a0)), (2, .int b5.1), (3, .int q2.1), (4, .int b3.2.1), (5, .int b5.2.1)] []) (fun r5 ih5 b5 hf => ?_) FU (b3.1, (0 : Int32), b3.2.2) hf
    show J p l e 4 s m args below meth c E ad G n (QI below E ad G n args s res) 6 b5.2.2 32 [(0, .ref (ad 203)), (1, .ref (ad a0)), (2, .int b5.1), (3, .int q2.1), (4, .int b3.2.1), (5, .int b5.2.1)] []
    refine J_iload (pc := 32) F dX0_fitting_32 5 rfl ?_
    refine J_aload_n (pc := 34) F dX0_fitting_34 rfl 0 rfl ?_
    refine gfX0_count (pc := 35) F ht wd_224 dX0_fitting_35 ?_
    rcases ite_elim hf with ⟨c6, hf⟩ | ⟨c6, hf⟩
    · refine J_icmp_geT (pc := 38) F (tgt := 86) dX0_fitting_38 (by decide) c6 ?_
      refine J_aload_n (pc := 86) F dX0_fitting_86 rfl 1 rfl ?_
      refine J_iconst (pc := 87) F dX0_fitting_87 ki_1 ?_
      obtain ⟨q7, h7, hf⟩ := bind_elim hf
      refine J_callVU (pc := 88) F (c_X1_spendDay hI ha0 h7) (by omega) (by decide) (tabN ha0) (ha0.2.1 _) rfl wc_X1_spendDay wd_544 rfl rfl (Nat.le_of_ble_eq_true rfl) dX0_fitting_88 ?_
      obtain ⟨x8, ex8, hf⟩ := nm_elim hf
      refine J_iinc (pc := 91) F (lv' := [(4, .int x8), (0, .ref (ad 203)), (1, .ref (ad a0)), (2, .int b5.1), (3, .int q2.1), (5, .int b5.2.1)]) dX0_fitting_91 4 rfl (ex8.trans (congrArg _ ki_1.symm)) (by decide) rfl ?_
      refine J_goto (pc := 94) F (tgt := 23) dX0_fitting_94 (by decide) ?_
      refine J_sub [1, 2, 3, 4, 0] rfl ?_
      exact ih3 (b5.1, x8, q7.2) hf
    · refine J_icmp_geF (pc := 38) F (tgt := 86) dX0_fitting_38 (by decide) c6 ?_
      refine J_aload_n (pc := 41) F dX0_fitting_41 rfl 0 rfl ?_
      refine gfX0_day (pc := 42) F ht wd_223 dX0_fitting_42 ?_
      refine J_iload (pc := 45) F dX0_fitting_45 5 rfl ?_
      obtain ⟨q9, h9, hf⟩ := bind_elim hf
      refine J_callNI (pc := 47) F (host := RX3) (c_X3_at hI ht.2.2.2.2 h9) (by omega) (by decide) wc_X3_at (by simp [nestL]) rfl rfl (Nat.le_of_ble_eq_true rfl) dX0_fitting_47 ?_
      refine J_iload (pc := 50) F dX0_fitting_50 4 rfl ?_
      obtain ⟨k10, hk10, hf⟩ := jn_elim hf
      have hJk10 : ∀ (q10 : Int32 × St), k10 q10 = some res → J p l e 4 s m args below meth c E ad G n (QI below E ad G n args s res) 6 q10.2 80 [(0, .ref (ad 203)), (1, .ref (ad a0)), (2, .int q10.1), (3, .int q2.1), (4, .int b3.2.1), (5, .int b5.2.1)] [] := by
        intro q10 hf
        replace hf := hk10 q10 hf
        obtain ⟨x16, ex16, hf⟩ := nm_elim hf
        refine J_iinc (pc := 80) F (lv' := [(5, .int x16), (0, .ref (ad 203)), (1, .ref (ad a0)), (2, .int q10.1), (3, .int q2.1), (4, .int b3.2.1)]) dX0_fitting_80 5 rfl (ex16.trans (congrArg _ ki_1.symm)) (by decide) rfl ?_
        refine J_goto (pc := 83) F (tgt := 32) dX0_fitting_83 (by decide) ?_
        refine J_sub [1, 2, 3, 4, 5, 0] rfl ?_
        exact ih5 (q10.1, x16, q10.2) hf
      clear hk10
      rcases ite_elim hf with ⟨c11, hf⟩ | ⟨c11, hf⟩
      · refine J_icmp_neT (pc := 52) F (tgt := 80) dX0_fitting_52 (by decide) c11 ?_
        exact hJk10 (b5.1, q9.2) hf
      · refine J_icmp_neF (pc := 52) F (tgt := 80) dX0_fitting_52 (by decide) c11 ?_
        refine J_iload_n (pc := 55) F dX0_fitting_55 rfl 2 rfl ?_
        refine J_aload_n (pc := 56) F dX0_fitting_56 rfl 1 rfl ?_
        refine J_aload_n (pc := 57) F dX0_fitting_57 rfl 0 rfl ?_
        refine gfX0_word (pc := 58) F ht wd_221 dX0_fitting_58 ?_
        refine J_iload (pc := 61) F dX0_fitting_61 5 rfl ?_
        obtain ⟨q12, h12, hf⟩ := bind_elim hf
        refine J_callNI (pc := 63) F (host := RX3) (c_X3_at hI ht.2.2.1 h12) (by omega) (by decide) wc_X3_at (by simp [nestL]) rfl rfl (Nat.le_of_ble_eq_true rfl) dX0_fitting_63 ?_
        refine J_aload_n (pc := 66) F dX0_fitting_66 rfl 0 rfl ?_
        refine gfX0_sound (pc := 67) F ht wd_222 dX0_fitting_67 ?_
        refine J_iload (pc := 70) F dX0_fitting_70 5 rfl ?_
        obtain ⟨q13, h13, hf⟩ := bind_elim hf
        refine J_callNI (pc := 72) F (host := RX3) (c_X3_at hI ht.2.2.2.1 h13) (by omega) (by decide) wc_X3_at (by simp [nestL]) rfl rfl (Nat.le_of_ble_eq_true rfl) dX0_fitting_72 ?_
        obtain ⟨q14, h14, hf⟩ := bind_elim hf
        refine J_callVI (pc := 75) F (c_X1_having hI ha0 h14) (by omega) (by decide) (tabN ha0) (ha0.2.1 _) rfl wc_X1_having wd_540 rfl rfl (Nat.le_of_ble_eq_true rfl) dX0_fitting_75 ?_
        refine J_iand (pc := 78) F dX0_fitting_78 ?_
        obtain ⟨x15, ex15, hf⟩ := nm_elim hf
        refine J_ti ex15 ?_
        refine J_istore_n (pc := 79) F (lv' := [(2, .int x15), (0, .ref (ad 203)), (1, .ref (ad a0)), (3, .int q2.1), (4, .int b3.2.1), (5, .int b5.2.1)]) dX0_fitting_79 rfl (by decide) rfl ?_
        refine J_sub [1, 2, 0, 3, 4, 5] rfl ?_
        exact hJk10 (x15, q14.2) hf
set_option maxHeartbeats 4000000 in
set_option maxRecDepth 100000 in
theorem c_X1_clear {l : Launch} {E : En} {ad : Nat → Nat} {G : Lay} {n : Nat} (hI : adI ad n) {t : Nat} (ht : TabAt E ad G n t) {σ : St} {res : Unit × St} (hf : f_X1_clear t σ = some res) : Ct l yX1_clear cX1_clear 1 none 0 E ad G n [.ref (ad t)] σ none res.2 := by
  unfold f_X1_clear at hf
  refine J_start (own := RX1) (lv := [(0, .ref (ad t))]) pnX1 rfl hI (Nat.le_of_ble_eq_true rfl) rfl (fun p e s m args below meth c F => ?_)
  refine J_aload_n (pc := 0) F dX1_clear_0 rfl 0 rfl ?_
  refine J_iconst (pc := 1) F dX1_clear_1 ki_0 ?_
  obtain ⟨σ1, eσ1, hf⟩ := nm_elim hf
  refine pfX1_words (pc := 2) F ht wd_62 dX1_clear_2 eσ1 ?_
  refine J_aload_n (pc := 5) F dX1_clear_5 rfl 0 rfl ?_
  refine J_iconst (pc := 6) F dX1_clear_6 ki_0 ?_
  obtain ⟨σ2, eσ2, hf⟩ := nm_elim hf
  refine pfX1_wooers (pc := 7) F ht wd_65 dX1_clear_7 eσ2 ?_
  refine J_aload_n (pc := 10) F dX1_clear_10 rfl 0 rfl ?_
  refine J_iconst (pc := 11) F dX1_clear_11 ki_3 ?_
  obtain ⟨σ3, eσ3, hf⟩ := nm_elim hf
  refine pfX1_need (pc := 12) F ht wd_69 dX1_clear_12 eσ3 ?_
  refine J_aload_n (pc := 15) F dX1_clear_15 rfl 0 rfl ?_
  refine J_iconst (pc := 16) F dX1_clear_16 ki_0 ?_
  obtain ⟨σ4, eσ4, hf⟩ := nm_elim hf
  refine pfX1_days (pc := 17) F ht wd_72 dX1_clear_17 eσ4 ?_
  exact J_vret (pc := 20) F dX1_clear_20 hf
set_option maxHeartbeats 4000000 in
set_option maxRecDepth 100000 in
theorem c_X3_copyRow {l : Launch} {E : En} {ad : Nat → Nat} {G : Lay} {n : Nat} (hI : adI ad n) {a0 a0L : Nat} (ha0 : ArrI E G n a0 a0L) {a1 a1L : Nat} (ha1 : ArrI E G n a1 a1L) {σ : St} {res : Unit × St} (hf : f_X3_copyRow a0 a0L a1 a1L σ = some res) : Ct l yX3_copyRow cX3_copyRow 2 none 2 E ad G n [.ref (ad a0), .ref (ad a1)] σ none res.2 := by
  unfold f_X3_copyRow at hf
  refine J_start (own := RX3) (lv := [(0, .ref (ad a0)), (1, .ref (ad a1))]) pnX3 rfl hI (Nat.le_of_ble_eq_true rfl) rfl (fun p e s m args below meth c F => ?_)
  refine J_aload_n (pc := 0) F dX3_copyRow_0 rfl 0 rfl ?_
  refine J_ifnull (pc := 1) F dX3_copyRow_1 ?_
  refine J_aload_n (pc := 4) F dX3_copyRow_4 rfl 1 rfl ?_
  refine J_ifnull (pc := 5) F dX3_copyRow_5 ?_
  refine J_aload_n (pc := 8) F dX3_copyRow_8 rfl 0 rfl ?_
  refine J_iconst (pc := 9) F dX3_copyRow_9 ki_0 ?_
  refine J_aload_n (pc := 10) F dX3_copyRow_10 rfl 1 rfl ?_
  refine J_iconst (pc := 11) F dX3_copyRow_11 ki_0 ?_
  refine J_aload_n (pc := 12) F dX3_copyRow_12 rfl 0 rfl ?_
  refine J_alenI (pc := 13) F ha0 dX3_copyRow_13 ?_
  refine J_aload_n (pc := 14) F dX3_copyRow_14 rfl 1 rfl ?_
  refine J_alenI (pc := 15) F ha1 dX3_copyRow_15 ?_
  refine J_mmin (pc := 16) F (by omega) wd_297 wd_298 wd_8 wd_299 (Nat.le_of_ble_eq_true rfl) dX3_copyRow_16 ?_
  obtain ⟨g1, hf⟩ := grd_elim hf
  obtain ⟨σ2, eσ2, hf⟩ := nm_elim hf
  refine J_copyI (pc := 19) F (by omega) wd_300 wd_302 wd_301 wd_11 ha0 ha1 g1 (Nat.le_of_ble_eq_true rfl) dX3_copyRow_19 eσ2 ?_
  exact J_vret (pc := 22) F dX3_copyRow_22 hf
set_option maxHeartbeats 4000000 in
set_option maxRecDepth 100000 in
theorem c_X1_copy {l : Launch} {E : En} {ad : Nat → Nat} {G : Lay} {n : Nat} (hI : adI ad n) {t : Nat} (ht : TabAt E ad G n t) {a0 : Option Nat} (ha0 : ∀ y, a0 = some y → TabAt E ad G n y) {σ : St} {res : Unit × St} (hf : f_X1_copy t a0 σ = some res) : Ct l yX1_copy cX1_copy 2 none 3 E ad G n [.ref (ad t), va_re ad a0] σ none res.2 := by
  unfold f_X1_copy at hf
  cases a0 with
  | none =>
    dsimp only [onul] at hf
    refine J_start (avs := [.ref (ad t), .null]) (own := RX1) (lv := [(0, .ref (ad t)), (1, .null)]) pnX1 rfl hI (Nat.le_of_ble_eq_true rfl) rfl (fun p e s m args below meth c F => ?_)
    refine J_aload_nN (pc := 0) F dX1_copy_0 rfl 1 rfl ?_
    refine J_ifnonnullN (pc := 1) F dX1_copy_1 ?_
    exact J_vret (pc := 4) F dX1_copy_4 hf
  | some y0 =>
    dsimp only [onul] at hf
    refine J_start (avs := [.ref (ad t), .ref (ad y0)]) (own := RX1) (lv := [(0, .ref (ad t)), (1, .ref (ad y0))]) pnX1 rfl hI (Nat.le_of_ble_eq_true rfl) rfl (fun p e s m args below meth c F => ?_)
    refine J_aload_n (pc := 0) F dX1_copy_0 rfl 1 rfl ?_
    refine J_ifnonnull (pc := 1) F (tgt := 5) dX1_copy_1 (by decide) ?_
    refine J_aload_n (pc := 5) F dX1_copy_5 rfl 1 rfl ?_
    refine gfX1_sounds (pc := 6) F (ha0 y0 rfl) wd_48 dX1_copy_6 ?_
    refine J_aload_n (pc := 9) F dX1_copy_9 rfl 0 rfl ?_
    refine gfX1_sounds (pc := 10) F ht wd_48 dX1_copy_10 ?_
    obtain ⟨q1, h1, hf⟩ := bind_elim hf
    refine J_callNU (pc := 13) F (host := RX3) (c_X3_copyRow hI (tabA1 (ha0 y0 rfl)) (tabA1 ht) h1) (by omega) (by decide) wc_X3_copyRow (by simp [nestL]) rfl rfl (Nat.le_of_ble_eq_true rfl) dX1_copy_13 ?_
    refine J_aload_n (pc := 16) F dX1_copy_16 rfl 1 rfl ?_
    refine gfX1_kind (pc := 17) F (ha0 y0 rfl) wd_51 dX1_copy_17 ?_
    refine J_aload_n (pc := 20) F dX1_copy_20 rfl 0 rfl ?_
    refine gfX1_kind (pc := 21) F ht wd_51 dX1_copy_21 ?_
    obtain ⟨q2, h2, hf⟩ := bind_elim hf
    refine J_callNU (pc := 24) F (host := RX3) (c_X3_copyRow hI (tabA2 (ha0 y0 rfl)) (tabA2 ht) h2) (by omega) (by decide) wc_X3_copyRow (by simp [nestL]) rfl rfl (Nat.le_of_ble_eq_true rfl) dX1_copy_24 ?_
    refine J_aload_n (pc := 27) F dX1_copy_27 rfl 1 rfl ?_
    refine gfX1_memory (pc := 28) F (ha0 y0 rfl) wd_53 dX1_copy_28 ?_
    refine J_aload_n (pc := 31) F dX1_copy_31 rfl 0 rfl ?_
    refine gfX1_memory (pc := 32) F ht wd_53 dX1_copy_32 ?_
    obtain ⟨q3, h3, hf⟩ := bind_elim hf
    refine J_callNU (pc := 35) F (host := RX3) (c_X3_copyRow hI (tabA3 (ha0 y0 rfl)) (tabA3 ht) h3) (by omega) (by decide) wc_X3_copyRow (by simp [nestL]) rfl rfl (Nat.le_of_ble_eq_true rfl) dX1_copy_35 ?_
    refine J_aload_n (pc := 38) F dX1_copy_38 rfl 1 rfl ?_
    refine gfX1_has (pc := 39) F (ha0 y0 rfl) wd_55 dX1_copy_39 ?_
    refine J_aload_n (pc := 42) F dX1_copy_42 rfl 0 rfl ?_
    refine gfX1_has (pc := 43) F ht wd_55 dX1_copy_43 ?_
    obtain ⟨q4, h4, hf⟩ := bind_elim hf
    refine J_callNU (pc := 46) F (host := RX3) (c_X3_copyRow hI (tabA4 (ha0 y0 rfl)) (tabA4 ht) h4) (by omega) (by decide) wc_X3_copyRow (by simp [nestL]) rfl rfl (Nat.le_of_ble_eq_true rfl) dX1_copy_46 ?_
    refine J_aload_n (pc := 49) F dX1_copy_49 rfl 1 rfl ?_
    refine gfX1_right (pc := 50) F (ha0 y0 rfl) wd_57 dX1_copy_50 ?_
    refine J_aload_n (pc := 53) F dX1_copy_53 rfl 0 rfl ?_
    refine gfX1_right (pc := 54) F ht wd_57 dX1_copy_54 ?_
    obtain ⟨q5, h5, hf⟩ := bind_elim hf
    refine J_callNU (pc := 57) F (host := RX3) (c_X3_copyRow hI (tabA5 (ha0 y0 rfl)) (tabA5 ht) h5) (by omega) (by decide) wc_X3_copyRow (by simp [nestL]) rfl rfl (Nat.le_of_ble_eq_true rfl) dX1_copy_57 ?_
    refine J_aload_n (pc := 60) F dX1_copy_60 rfl 1 rfl ?_
    refine gfX1_way (pc := 61) F (ha0 y0 rfl) wd_59 dX1_copy_61 ?_
    refine J_aload_n (pc := 64) F dX1_copy_64 rfl 0 rfl ?_
    refine gfX1_way (pc := 65) F ht wd_59 dX1_copy_65 ?_
    obtain ⟨q6, h6, hf⟩ := bind_elim hf
    refine J_callNU (pc := 68) F (host := RX3) (c_X3_copyRow hI (tabA6 (ha0 y0 rfl)) (tabA6 ht) h6) (by omega) (by decide) wc_X3_copyRow (by simp [nestL]) rfl rfl (Nat.le_of_ble_eq_true rfl) dX1_copy_68 ?_
    refine J_aload_n (pc := 71) F dX1_copy_71 rfl 1 rfl ?_
    refine gfX1_age (pc := 72) F (ha0 y0 rfl) wd_60 dX1_copy_72 ?_
    refine J_aload_n (pc := 75) F dX1_copy_75 rfl 0 rfl ?_
    refine gfX1_age (pc := 76) F ht wd_60 dX1_copy_76 ?_
    obtain ⟨q7, h7, hf⟩ := bind_elim hf
    refine J_callNU (pc := 79) F (host := RX3) (c_X3_copyRow hI (tabA7 (ha0 y0 rfl)) (tabA7 ht) h7) (by omega) (by decide) wc_X3_copyRow (by simp [nestL]) rfl rfl (Nat.le_of_ble_eq_true rfl) dX1_copy_79 ?_
    refine J_aload_n (pc := 82) F dX1_copy_82 rfl 0 rfl ?_
    refine J_aload_n (pc := 83) F dX1_copy_83 rfl 1 rfl ?_
    refine gfX1_words (pc := 84) F (ha0 y0 rfl) wd_62 dX1_copy_84 ?_
    obtain ⟨σ8, eσ8, hf⟩ := nm_elim hf
    refine pfX1_words (pc := 87) F ht wd_62 dX1_copy_87 eσ8 ?_
    refine J_aload_n (pc := 90) F dX1_copy_90 rfl 0 rfl ?_
    refine J_aload_n (pc := 91) F dX1_copy_91 rfl 1 rfl ?_
    refine gfX1_wooers (pc := 92) F (ha0 y0 rfl) wd_65 dX1_copy_92 ?_
    obtain ⟨σ9, eσ9, hf⟩ := nm_elim hf
    refine pfX1_wooers (pc := 95) F ht wd_65 dX1_copy_95 eσ9 ?_
    refine J_aload_n (pc := 98) F dX1_copy_98 rfl 0 rfl ?_
    refine J_aload_n (pc := 99) F dX1_copy_99 rfl 1 rfl ?_
    refine gfX1_need (pc := 100) F (ha0 y0 rfl) wd_69 dX1_copy_100 ?_
    obtain ⟨σ10, eσ10, hf⟩ := nm_elim hf
    refine pfX1_need (pc := 103) F ht wd_69 dX1_copy_103 eσ10 ?_
    refine J_aload_n (pc := 106) F dX1_copy_106 rfl 0 rfl ?_
    refine J_aload_n (pc := 107) F dX1_copy_107 rfl 1 rfl ?_
    refine gfX1_days (pc := 108) F (ha0 y0 rfl) wd_72 dX1_copy_108 ?_
    obtain ⟨σ11, eσ11, hf⟩ := nm_elim hf
    refine pfX1_days (pc := 111) F ht wd_72 dX1_copy_111 eσ11 ?_
    exact J_vret (pc := 114) F dX1_copy_114 hf
set_option maxHeartbeats 4000000 in
set_option maxRecDepth 100000 in
theorem c_X1_isWord {l : Launch} {E : En} {ad : Nat → Nat} {G : Lay} {n : Nat} (hI : adI ad n) {t : Nat} (ht : TabAt E ad G n t) {a0 : Int32} {σ : St} {res : Int32 × St} (hf : f_X1_isWord t a0 σ = some res) : Ct l yX1_isWord cX1_isWord 2 (some .boolean) 0 E ad G n [.ref (ad t), .int a0] σ (some (.int res.1)) res.2 := by
  unfold f_X1_isWord at hf
  refine J_start (own := RX1) (lv := [(0, .ref (ad t)), (1, .int a0)]) pnX1 rfl hI (Nat.le_of_ble_eq_true rfl) rfl (fun p e s m args below meth c F => ?_)
  refine J_iload_n (pc := 0) F dX1_isWord_0 rfl 1 rfl ?_
  obtain ⟨k1, hk1, hf⟩ := jn_elim hf
  have hJk1 : ∀ (q1 : St), k1 q1 = some res → J p l e 0 s m args below meth c E ad G n (QI below E ad G n args s res) 2 q1 16 [] [] := by
    intro q1 hf
    replace hf := hk1 q1 hf
    refine J_iconst (pc := 16) F dX1_isWord_16 ki_0 ?_
    exact J_iret (pc := 17) F rfl dX1_isWord_17 hf
  clear hk1
  rcases ite_elim hf with ⟨c2, hf⟩ | ⟨c2, hf⟩
  · refine J_if_ltT (pc := 1) F (tgt := 16) dX1_isWord_1 (by decide) c2 ?_
    refine J_sub [] rfl ?_
    exact hJk1 σ hf
  · refine J_if_ltF (pc := 1) F (tgt := 16) dX1_isWord_1 (by decide) c2 ?_
    refine J_iload_n (pc := 4) F dX1_isWord_4 rfl 1 rfl ?_
    refine J_aload_n (pc := 5) F dX1_isWord_5 rfl 0 rfl ?_
    refine gfX1_words (pc := 6) F ht wd_62 dX1_isWord_6 ?_
    rcases ite_elim hf with ⟨c3, hf⟩ | ⟨c3, hf⟩
    · refine J_icmp_geT (pc := 9) F (tgt := 16) dX1_isWord_9 (by decide) c3 ?_
      refine J_sub [] rfl ?_
      exact hJk1 σ hf
    · refine J_icmp_geF (pc := 9) F (tgt := 16) dX1_isWord_9 (by decide) c3 ?_
      refine J_iconst (pc := 12) F dX1_isWord_12 ki_1 ?_
      refine J_goto (pc := 13) F (tgt := 17) dX1_isWord_13 (by decide) ?_
      exact J_iret (pc := 17) F rfl dX1_isWord_17 hf
set_option maxHeartbeats 4000000 in
set_option maxRecDepth 100000 in
theorem c_X1_isWooer {l : Launch} {E : En} {ad : Nat → Nat} {G : Lay} {n : Nat} (hI : adI ad n) {t : Nat} (ht : TabAt E ad G n t) {a0 : Int32} {σ : St} {res : Int32 × St} (hf : f_X1_isWooer t a0 σ = some res) : Ct l yX1_isWooer cX1_isWooer 2 (some .boolean) 0 E ad G n [.ref (ad t), .int a0] σ (some (.int res.1)) res.2 := by
  unfold f_X1_isWooer at hf
  refine J_start (own := RX1) (lv := [(0, .ref (ad t)), (1, .int a0)]) pnX1 rfl hI (Nat.le_of_ble_eq_true rfl) rfl (fun p e s m args below meth c F => ?_)
  refine J_iload_n (pc := 0) F dX1_isWooer_0 rfl 1 rfl ?_
  obtain ⟨k1, hk1, hf⟩ := jn_elim hf
  have hJk1 : ∀ (q1 : St), k1 q1 = some res → J p l e 0 s m args below meth c E ad G n (QI below E ad G n args s res) 2 q1 16 [] [] := by
    intro q1 hf
    replace hf := hk1 q1 hf
    refine J_iconst (pc := 16) F dX1_isWooer_16 ki_0 ?_
    exact J_iret (pc := 17) F rfl dX1_isWooer_17 hf
  clear hk1
  rcases ite_elim hf with ⟨c2, hf⟩ | ⟨c2, hf⟩
  · refine J_if_ltT (pc := 1) F (tgt := 16) dX1_isWooer_1 (by decide) c2 ?_
    refine J_sub [] rfl ?_
    exact hJk1 σ hf
  · refine J_if_ltF (pc := 1) F (tgt := 16) dX1_isWooer_1 (by decide) c2 ?_
    refine J_iload_n (pc := 4) F dX1_isWooer_4 rfl 1 rfl ?_
    refine J_aload_n (pc := 5) F dX1_isWooer_5 rfl 0 rfl ?_
    refine gfX1_wooers (pc := 6) F ht wd_65 dX1_isWooer_6 ?_
    rcases ite_elim hf with ⟨c3, hf⟩ | ⟨c3, hf⟩
    · refine J_icmp_geT (pc := 9) F (tgt := 16) dX1_isWooer_9 (by decide) c3 ?_
      refine J_sub [] rfl ?_
      exact hJk1 σ hf
    · refine J_icmp_geF (pc := 9) F (tgt := 16) dX1_isWooer_9 (by decide) c3 ?_
      refine J_iconst (pc := 12) F dX1_isWooer_12 ki_1 ?_
      refine J_goto (pc := 13) F (tgt := 17) dX1_isWooer_13 (by decide) ?_
      exact J_iret (pc := 17) F rfl dX1_isWooer_17 hf
set_option maxHeartbeats 4000000 in
set_option maxRecDepth 100000 in
theorem c_X1_isRight {l : Launch} {E : En} {ad : Nat → Nat} {G : Lay} {n : Nat} (hI : adI ad n) {t : Nat} (ht : TabAt E ad G n t) {a0 : Int32} {a1 : Int32} {σ : St} {res : Int32 × St} (hf : f_X1_isRight t a0 a1 σ = some res) : Ct l yX1_isRight cX1_isRight 3 (some .boolean) 1 E ad G n [.ref (ad t), .int a0, .int a1] σ (some (.int res.1)) res.2 := by
  unfold f_X1_isRight at hf
  refine J_start (own := RX1) (lv := [(0, .ref (ad t)), (1, .int a0), (2, .int a1)]) pnX1 rfl hI (Nat.le_of_ble_eq_true rfl) rfl (fun p e s m args below meth c F => ?_)
  refine J_aload_n (pc := 0) F dX1_isRight_0 rfl 0 rfl ?_
  refine gfX1_right (pc := 1) F ht wd_57 dX1_isRight_1 ?_
  refine J_iload_n (pc := 4) F dX1_isRight_4 rfl 1 rfl ?_
  obtain ⟨q1, h1, hf⟩ := bind_elim hf
  refine J_callNI (pc := 5) F (host := RX3) (c_X3_at hI (tabA5 ht) h1) (by omega) (by decide) wc_X3_at (by simp [nestL]) rfl rfl (Nat.le_of_ble_eq_true rfl) dX1_isRight_5 ?_
  refine J_iload_n (pc := 8) F dX1_isRight_8 rfl 2 rfl ?_
  refine J_ishr (pc := 9) F dX1_isRight_9 ?_
  refine J_iconst (pc := 10) F dX1_isRight_10 ki_1 ?_
  refine J_iand (pc := 11) F dX1_isRight_11 ?_
  refine J_iconst (pc := 12) F dX1_isRight_12 ki_1 ?_
  rcases ite_elim hf with ⟨c2, hf⟩ | ⟨c2, hf⟩
  · refine J_icmp_neT (pc := 13) F (tgt := 20) dX1_isRight_13 (by decide) c2 ?_
    refine J_iconst (pc := 20) F dX1_isRight_20 ki_0 ?_
    exact J_iret (pc := 21) F rfl dX1_isRight_21 hf
  · refine J_icmp_neF (pc := 13) F (tgt := 20) dX1_isRight_13 (by decide) c2 ?_
    refine J_iconst (pc := 16) F dX1_isRight_16 ki_1 ?_
    refine J_goto (pc := 17) F (tgt := 21) dX1_isRight_17 (by decide) ?_
    exact J_iret (pc := 21) F rfl dX1_isRight_21 hf
set_option maxHeartbeats 4000000 in
set_option maxRecDepth 100000 in
theorem c_X1_rightOf {l : Launch} {E : En} {ad : Nat → Nat} {G : Lay} {n : Nat} (hI : adI ad n) {t : Nat} (ht : TabAt E ad G n t) {a0 : Int32} {σ : St} {res : Int32 × St} (hf : f_X1_rightOf t a0 σ = some res) : Ct l yX1_rightOf cX1_rightOf 2 (some .int) 1 E ad G n [.ref (ad t), .int a0] σ (some (.int res.1)) res.2 := by
  unfold f_X1_rightOf at hf
  refine J_start (own := RX1) (lv := [(0, .ref (ad t)), (1, .int a0)]) pnX1 rfl hI (Nat.le_of_ble_eq_true rfl) rfl (fun p e s m args below meth c F => ?_)
  refine J_aload_n (pc := 0) F dX1_rightOf_0 rfl 0 rfl ?_
  refine gfX1_right (pc := 1) F ht wd_57 dX1_rightOf_1 ?_
  refine J_iload_n (pc := 4) F dX1_rightOf_4 rfl 1 rfl ?_
  obtain ⟨q1, h1, hf⟩ := bind_elim hf
  refine J_callNI (pc := 5) F (host := RX3) (c_X3_at hI (tabA5 ht) h1) (by omega) (by decide) wc_X3_at (by simp [nestL]) rfl rfl (Nat.le_of_ble_eq_true rfl) dX1_rightOf_5 ?_
  obtain ⟨q2, h2, hf⟩ := bind_elim hf
  refine J_callSI (pc := 8) F (c_J6_bitCount_0f7a4 hI  h2) (by omega) (by decide) wc_J6_bitCount_0f7a4 wd_328 rfl rfl (Nat.le_of_ble_eq_true rfl) dX1_rightOf_8 ?_
  exact J_iret (pc := 11) F rfl dX1_rightOf_11 hf
set_option maxHeartbeats 4000000 in
set_option maxRecDepth 100000 in
theorem c_X1_isSpeaker {l : Launch} {E : En} {ad : Nat → Nat} {G : Lay} {n : Nat} (hI : adI ad n) {t : Nat} (ht : TabAt E ad G n t) {a0 : Int32} {σ : St} {res : Int32 × St} (hf : f_X1_isSpeaker t a0 σ = some res) : Ct l yX1_isSpeaker cX1_isSpeaker 2 (some .boolean) 2 E ad G n [.ref (ad t), .int a0] σ (some (.int res.1)) res.2 := by
  unfold f_X1_isSpeaker at hf
  refine J_start (own := RX1) (lv := [(0, .ref (ad t)), (1, .int a0)]) pnX1 rfl hI (Nat.le_of_ble_eq_true rfl) rfl (fun p e s m args below meth c F => ?_)
  refine J_aload_n (pc := 0) F dX1_isSpeaker_0 rfl 0 rfl ?_
  refine J_iload_n (pc := 1) F dX1_isSpeaker_1 rfl 1 rfl ?_
  obtain ⟨q1, h1, hf⟩ := bind_elim hf
  refine J_callVI (pc := 2) F (c_X1_rightOf hI ht h1) (by omega) (by decide) (tabN ht) (ht.2.1 _) rfl wc_X1_rightOf wd_324 rfl rfl (Nat.le_of_ble_eq_true rfl) dX1_isSpeaker_2 ?_
  refine J_aload_n (pc := 5) F dX1_isSpeaker_5 rfl 0 rfl ?_
  refine gfX1_need (pc := 6) F ht wd_69 dX1_isSpeaker_6 ?_
  rcases ite_elim hf with ⟨c2, hf⟩ | ⟨c2, hf⟩
  · refine J_icmp_ltT (pc := 9) F (tgt := 16) dX1_isSpeaker_9 (by decide) c2 ?_
    refine J_iconst (pc := 16) F dX1_isSpeaker_16 ki_0 ?_
    exact J_iret (pc := 17) F rfl dX1_isSpeaker_17 hf
  · refine J_icmp_ltF (pc := 9) F (tgt := 16) dX1_isSpeaker_9 (by decide) c2 ?_
    refine J_iconst (pc := 12) F dX1_isSpeaker_12 ki_1 ?_
    refine J_goto (pc := 13) F (tgt := 17) dX1_isSpeaker_13 (by decide) ?_
    exact J_iret (pc := 17) F rfl dX1_isSpeaker_17 hf
set_option maxHeartbeats 4000000 in
set_option maxRecDepth 100000 in
theorem c_X1_speakers {l : Launch} {E : En} {ad : Nat → Nat} {G : Lay} {n : Nat} (hI : adI ad n) {t : Nat} (ht : TabAt E ad G n t) {σ : St} {res : Int32 × St} (hf : f_X1_speakers t σ = some res) : Ct l yX1_speakers cX1_speakers 3 (some .int) 3 E ad G n [.ref (ad t)] σ (some (.int res.1)) res.2 := by
  unfold f_X1_speakers at hf
  refine J_start (own := RX1) (lv := [(0, .ref (ad t))]) pnX1 rfl hI (Nat.le_of_ble_eq_true rfl) rfl (fun p e s m args below meth c F => ?_)
  refine J_iconst (pc := 0) F dX1_speakers_0 ki_0 ?_
  refine J_istore_n (pc := 1) F (lv' := [(1, .int (0 : Int32)), (0, .ref (ad t))]) dX1_speakers_1 rfl (by decide) rfl ?_
  refine J_iconst (pc := 2) F dX1_speakers_2 ki_0 ?_
  refine J_istore_n (pc := 3) F (lv' := [(2, .int (0 : Int32)), (1, .int (0 : Int32)), (0, .ref (ad t))]) dX1_speakers_3 rfl (by decide) rfl ?_
  refine J_sub [2, 1, 0] rfl ?_
  refine lp_ind (P := fun (b1 : Int32 × Int32 × St) => J p l e 3 s m args below meth c E ad G n (QI below E ad G n args s res) 3 b1.2.2 4 [(0, .ref (ad t)), (1, .int b1.1), (2, .int b1.2.1)] []) (fun r1 ih1 b1 hf => ?_) FU ((0 : Int32), (0 : Int32), σ) hf
  show J p l e 3 s m args below meth c E ad G n (QI below E ad G n args s res) 3 b1.2.2 4 [(0, .ref (ad t)), (1, .int b1.1), (2, .int b1.2.1)] []
  refine J_iload_n (pc := 4) F dX1_speakers_4 rfl 2 rfl ?_
  refine J_aload_n (pc := 5) F dX1_speakers_5 rfl 0 rfl ?_
  refine gfX1_wooers (pc := 6) F ht wd_65 dX1_speakers_6 ?_
  rcases ite_elim hf with ⟨c2, hf⟩ | ⟨c2, hf⟩
  · refine J_icmp_geT (pc := 9) F (tgt := 29) dX1_speakers_9 (by decide) c2 ?_
    refine J_iload_n (pc := 29) F dX1_speakers_29 rfl 1 rfl ?_
    exact J_iret (pc := 30) F rfl dX1_speakers_30 hf
  · refine J_icmp_geF (pc := 9) F (tgt := 29) dX1_speakers_9 (by decide) c2 ?_
    refine J_aload_n (pc := 12) F dX1_speakers_12 rfl 0 rfl ?_
    refine J_iload_n (pc := 13) F dX1_speakers_13 rfl 2 rfl ?_
    obtain ⟨q3, h3, hf⟩ := bind_elim hf
    refine J_callVI (pc := 14) F (c_X1_isSpeaker hI ht h3) (by omega) (by decide) (tabN ht) (ht.2.1 _) rfl wc_X1_isSpeaker wd_413 rfl rfl (Nat.le_of_ble_eq_true rfl) dX1_speakers_14 ?_
    obtain ⟨k4, hk4, hf⟩ := jn_elim hf
    have hJk4 : ∀ (q4 : Int32 × St), k4 q4 = some res → J p l e 3 s m args below meth c E ad G n (QI below E ad G n args s res) 3 q4.2 23 [(0, .ref (ad t)), (1, .int q4.1), (2, .int b1.2.1)] [] := by
      intro q4 hf
      replace hf := hk4 q4 hf
      obtain ⟨x7, ex7, hf⟩ := nm_elim hf
      refine J_iinc (pc := 23) F (lv' := [(2, .int x7), (0, .ref (ad t)), (1, .int q4.1)]) dX1_speakers_23 2 rfl (ex7.trans (congrArg _ ki_1.symm)) (by decide) rfl ?_
      refine J_goto (pc := 26) F (tgt := 4) dX1_speakers_26 (by decide) ?_
      refine J_sub [1, 2, 0] rfl ?_
      exact ih1 (q4.1, x7, q4.2) hf
    clear hk4
    rcases ite_elim hf with ⟨c5, hf⟩ | ⟨c5, hf⟩
    · refine J_if_eqT (pc := 17) F (tgt := 23) dX1_speakers_17 (by decide) c5 ?_
      exact hJk4 (b1.1, q3.2) hf
    · refine J_if_eqF (pc := 17) F (tgt := 23) dX1_speakers_17 (by decide) c5 ?_
      obtain ⟨x6, ex6, hf⟩ := nm_elim hf
      refine J_iinc (pc := 20) F (lv' := [(1, .int x6), (0, .ref (ad t)), (2, .int b1.2.1)]) dX1_speakers_20 1 rfl (ex6.trans (congrArg _ ki_1.symm)) (by decide) rfl ?_
      refine J_sub [1, 0, 2] rfl ?_
      exact hJk4 (x6, q3.2) hf
set_option maxHeartbeats 4000000 in
set_option maxRecDepth 100000 in
theorem c_X1_allRight {l : Launch} {E : En} {ad : Nat → Nat} {G : Lay} {n : Nat} (hI : adI ad n) {t : Nat} (ht : TabAt E ad G n t) {σ : St} {res : Int32 × St} (hf : f_X1_allRight t σ = some res) : Ct l yX1_allRight cX1_allRight 3 (some .int) 2 E ad G n [.ref (ad t)] σ (some (.int res.1)) res.2 := by
  unfold f_X1_allRight at hf
  refine J_start (own := RX1) (lv := [(0, .ref (ad t))]) pnX1 rfl hI (Nat.le_of_ble_eq_true rfl) rfl (fun p e s m args below meth c F => ?_)
  refine J_iconst (pc := 0) F dX1_allRight_0 ki_0 ?_
  refine J_istore_n (pc := 1) F (lv' := [(1, .int (0 : Int32)), (0, .ref (ad t))]) dX1_allRight_1 rfl (by decide) rfl ?_
  refine J_iconst (pc := 2) F dX1_allRight_2 ki_0 ?_
  refine J_istore_n (pc := 3) F (lv' := [(2, .int (0 : Int32)), (1, .int (0 : Int32)), (0, .ref (ad t))]) dX1_allRight_3 rfl (by decide) rfl ?_
  refine J_sub [2, 1, 0] rfl ?_
  refine lp_ind (P := fun (b1 : Int32 × Int32 × St) => J p l e 2 s m args below meth c E ad G n (QI below E ad G n args s res) 3 b1.2.2 4 [(0, .ref (ad t)), (1, .int b1.1), (2, .int b1.2.1)] []) (fun r1 ih1 b1 hf => ?_) FU ((0 : Int32), (0 : Int32), σ) hf
  show J p l e 2 s m args below meth c E ad G n (QI below E ad G n args s res) 3 b1.2.2 4 [(0, .ref (ad t)), (1, .int b1.1), (2, .int b1.2.1)] []
  refine J_iload_n (pc := 4) F dX1_allRight_4 rfl 2 rfl ?_
  refine J_aload_n (pc := 5) F dX1_allRight_5 rfl 0 rfl ?_
  refine gfX1_wooers (pc := 6) F ht wd_65 dX1_allRight_6 ?_
  rcases ite_elim hf with ⟨c2, hf⟩ | ⟨c2, hf⟩
  · refine J_icmp_geT (pc := 9) F (tgt := 26) dX1_allRight_9 (by decide) c2 ?_
    refine J_iload_n (pc := 26) F dX1_allRight_26 rfl 1 rfl ?_
    exact J_iret (pc := 27) F rfl dX1_allRight_27 hf
  · refine J_icmp_geF (pc := 9) F (tgt := 26) dX1_allRight_9 (by decide) c2 ?_
    refine J_iload_n (pc := 12) F dX1_allRight_12 rfl 1 rfl ?_
    refine J_aload_n (pc := 13) F dX1_allRight_13 rfl 0 rfl ?_
    refine J_iload_n (pc := 14) F dX1_allRight_14 rfl 2 rfl ?_
    obtain ⟨q3, h3, hf⟩ := bind_elim hf
    refine J_callVI (pc := 15) F (c_X1_rightOf hI ht h3) (by omega) (by decide) (tabN ht) (ht.2.1 _) rfl wc_X1_rightOf wd_324 rfl rfl (Nat.le_of_ble_eq_true rfl) dX1_allRight_15 ?_
    refine J_iadd (pc := 18) F dX1_allRight_18 ?_
    obtain ⟨x4, ex4, hf⟩ := nm_elim hf
    refine J_ti ex4 ?_
    refine J_istore_n (pc := 19) F (lv' := [(1, .int x4), (0, .ref (ad t)), (2, .int b1.2.1)]) dX1_allRight_19 rfl (by decide) rfl ?_
    obtain ⟨x5, ex5, hf⟩ := nm_elim hf
    refine J_iinc (pc := 20) F (lv' := [(2, .int x5), (1, .int x4), (0, .ref (ad t))]) dX1_allRight_20 2 rfl (ex5.trans (congrArg _ ki_1.symm)) (by decide) rfl ?_
    refine J_goto (pc := 23) F (tgt := 4) dX1_allRight_23 (by decide) ?_
    refine J_sub [2, 1, 0] rfl ?_
    exact ih1 (x4, x5, q3.2) hf
set_option maxHeartbeats 4000000 in
set_option maxRecDepth 100000 in
theorem c_X1_allHad {l : Launch} {E : En} {ad : Nat → Nat} {G : Lay} {n : Nat} (hI : adI ad n) {t : Nat} (ht : TabAt E ad G n t) {σ : St} {res : Int32 × St} (hf : f_X1_allHad t σ = some res) : Ct l yX1_allHad cX1_allHad 3 (some .int) 1 E ad G n [.ref (ad t)] σ (some (.int res.1)) res.2 := by
  unfold f_X1_allHad at hf
  refine J_start (own := RX1) (lv := [(0, .ref (ad t))]) pnX1 rfl hI (Nat.le_of_ble_eq_true rfl) rfl (fun p e s m args below meth c F => ?_)
  refine J_iconst (pc := 0) F dX1_allHad_0 ki_0 ?_
  refine J_istore_n (pc := 1) F (lv' := [(1, .int (0 : Int32)), (0, .ref (ad t))]) dX1_allHad_1 rfl (by decide) rfl ?_
  refine J_iconst (pc := 2) F dX1_allHad_2 ki_0 ?_
  refine J_istore_n (pc := 3) F (lv' := [(2, .int (0 : Int32)), (1, .int (0 : Int32)), (0, .ref (ad t))]) dX1_allHad_3 rfl (by decide) rfl ?_
  refine J_sub [2, 1, 0] rfl ?_
  refine lp_ind (P := fun (b1 : Int32 × Int32 × St) => J p l e 1 s m args below meth c E ad G n (QI below E ad G n args s res) 3 b1.2.2 4 [(0, .ref (ad t)), (1, .int b1.1), (2, .int b1.2.1)] []) (fun r1 ih1 b1 hf => ?_) FU ((0 : Int32), (0 : Int32), σ) hf
  show J p l e 1 s m args below meth c E ad G n (QI below E ad G n args s res) 3 b1.2.2 4 [(0, .ref (ad t)), (1, .int b1.1), (2, .int b1.2.1)] []
  refine J_iload_n (pc := 4) F dX1_allHad_4 rfl 2 rfl ?_
  refine J_aload_n (pc := 5) F dX1_allHad_5 rfl 0 rfl ?_
  refine gfX1_wooers (pc := 6) F ht wd_65 dX1_allHad_6 ?_
  rcases ite_elim hf with ⟨c2, hf⟩ | ⟨c2, hf⟩
  · refine J_icmp_geT (pc := 9) F (tgt := 32) dX1_allHad_9 (by decide) c2 ?_
    refine J_iload_n (pc := 32) F dX1_allHad_32 rfl 1 rfl ?_
    exact J_iret (pc := 33) F rfl dX1_allHad_33 hf
  · refine J_icmp_geF (pc := 9) F (tgt := 32) dX1_allHad_9 (by decide) c2 ?_
    refine J_iload_n (pc := 12) F dX1_allHad_12 rfl 1 rfl ?_
    refine J_aload_n (pc := 13) F dX1_allHad_13 rfl 0 rfl ?_
    refine gfX1_has (pc := 14) F ht wd_55 dX1_allHad_14 ?_
    refine J_iload_n (pc := 17) F dX1_allHad_17 rfl 2 rfl ?_
    obtain ⟨q3, h3, hf⟩ := bind_elim hf
    refine J_callNI (pc := 18) F (host := RX3) (c_X3_at hI (tabA4 ht) h3) (by omega) (by decide) wc_X3_at (by simp [nestL]) rfl rfl (Nat.le_of_ble_eq_true rfl) dX1_allHad_18 ?_
    obtain ⟨q4, h4, hf⟩ := bind_elim hf
    refine J_callSI (pc := 21) F (c_J6_bitCount_0f7a4 hI  h4) (by omega) (by decide) wc_J6_bitCount_0f7a4 wd_328 rfl rfl (Nat.le_of_ble_eq_true rfl) dX1_allHad_21 ?_
    refine J_iadd (pc := 24) F dX1_allHad_24 ?_
    obtain ⟨x5, ex5, hf⟩ := nm_elim hf
    refine J_ti ex5 ?_
    refine J_istore_n (pc := 25) F (lv' := [(1, .int x5), (0, .ref (ad t)), (2, .int b1.2.1)]) dX1_allHad_25 rfl (by decide) rfl ?_
    obtain ⟨x6, ex6, hf⟩ := nm_elim hf
    refine J_iinc (pc := 26) F (lv' := [(2, .int x6), (1, .int x5), (0, .ref (ad t))]) dX1_allHad_26 2 rfl (ex6.trans (congrArg _ ki_1.symm)) (by decide) rfl ?_
    refine J_goto (pc := 29) F (tgt := 4) dX1_allHad_29 (by decide) ?_
    refine J_sub [2, 1, 0] rfl ?_
    exact ih1 (x5, x6, q4.2) hf
set_option maxHeartbeats 4000000 in
set_option maxRecDepth 100000 in
theorem c_X1_seat {l : Launch} {E : En} {ad : Nat → Nat} {G : Lay} {n : Nat} (hI : adI ad n) {t : Nat} (ht : TabAt E ad G n t) {a0 : Int32} {a1 : Int32} {σ : St} {res : Int32 × St} (hf : f_X1_seat t a0 a1 σ = some res) : Ct l yX1_seat cX1_seat 4 (some .int) 1 E ad G n [.ref (ad t), .int a0, .int a1] σ (some (.int res.1)) res.2 := by
  unfold f_X1_seat at hf
  refine J_start (own := RX1) (lv := [(0, .ref (ad t)), (1, .int a0), (2, .int a1)]) pnX1 rfl hI (Nat.le_of_ble_eq_true rfl) rfl (fun p e s m args below meth c F => ?_)
  refine J_aload_n (pc := 0) F dX1_seat_0 rfl 0 rfl ?_
  refine gfX1_wooers (pc := 1) F ht wd_65 dX1_seat_1 ?_
  obtain ⟨x1, ex1, hf⟩ := nm_elim hf
  refine J_ti ex1 ?_
  refine J_istore_n (pc := 4) F (lv' := [(3, .int x1), (0, .ref (ad t)), (1, .int a0), (2, .int a1)]) dX1_seat_4 rfl (by decide) rfl ?_
  refine J_aload_n (pc := 5) F dX1_seat_5 rfl 1 rfl ?_
  refine gfX1_kind (pc := 6) F ht wd_51 dX1_seat_6 ?_
  refine J_iload_n (pc := 9) F dX1_seat_9 rfl 0 rfl ?_
  refine J_iload_n (pc := 10) F dX1_seat_10 rfl 2 rfl ?_
  obtain ⟨q2, h2, hf⟩ := bind_elim hf
  refine J_callNU (pc := 11) F (host := RX3) (c_X3_put hI (tabA2 ht) h2) (by omega) (by decide) wc_X3_put (by simp [nestL]) rfl rfl (Nat.le_of_ble_eq_true rfl) dX1_seat_11 ?_
  refine J_aload_n (pc := 14) F dX1_seat_14 rfl 1 rfl ?_
  refine gfX1_memory (pc := 15) F ht wd_53 dX1_seat_15 ?_
  refine J_iload_n (pc := 18) F dX1_seat_18 rfl 0 rfl ?_
  refine J_iload_n (pc := 19) F dX1_seat_19 rfl 3 rfl ?_
  obtain ⟨q3, h3, hf⟩ := bind_elim hf
  refine J_callNU (pc := 20) F (host := RX3) (c_X3_put hI (tabA3 ht) h3) (by omega) (by decide) wc_X3_put (by simp [nestL]) rfl rfl (Nat.le_of_ble_eq_true rfl) dX1_seat_20 ?_
  refine J_aload_n (pc := 23) F dX1_seat_23 rfl 1 rfl ?_
  refine gfX1_has (pc := 24) F ht wd_55 dX1_seat_24 ?_
  refine J_iload_n (pc := 27) F dX1_seat_27 rfl 0 rfl ?_
  refine J_iconst (pc := 28) F dX1_seat_28 ki_0 ?_
  obtain ⟨q4, h4, hf⟩ := bind_elim hf
  refine J_callNU (pc := 29) F (host := RX3) (c_X3_put hI (tabA4 ht) h4) (by omega) (by decide) wc_X3_put (by simp [nestL]) rfl rfl (Nat.le_of_ble_eq_true rfl) dX1_seat_29 ?_
  refine J_aload_n (pc := 32) F dX1_seat_32 rfl 1 rfl ?_
  refine gfX1_right (pc := 33) F ht wd_57 dX1_seat_33 ?_
  refine J_iload_n (pc := 36) F dX1_seat_36 rfl 0 rfl ?_
  refine J_iconst (pc := 37) F dX1_seat_37 ki_0 ?_
  obtain ⟨q5, h5, hf⟩ := bind_elim hf
  refine J_callNU (pc := 38) F (host := RX3) (c_X3_put hI (tabA5 ht) h5) (by omega) (by decide) wc_X3_put (by simp [nestL]) rfl rfl (Nat.le_of_ble_eq_true rfl) dX1_seat_38 ?_
  refine J_aload_n (pc := 41) F dX1_seat_41 rfl 1 rfl ?_
  refine J_dup (pc := 42) F dX1_seat_42 rfl ?_
  refine gfX1_wooers (pc := 43) F ht wd_65 dX1_seat_43 ?_
  refine J_iconst (pc := 46) F dX1_seat_46 ki_1 ?_
  refine J_iadd (pc := 47) F dX1_seat_47 ?_
  obtain ⟨σ6, eσ6, hf⟩ := nm_elim hf
  refine pfX1_wooers (pc := 48) F ht wd_65 dX1_seat_48 eσ6 ?_
  refine J_iload_n (pc := 51) F dX1_seat_51 rfl 0 rfl ?_
  exact J_iret (pc := 52) F rfl dX1_seat_52 hf
set_option maxHeartbeats 4000000 in
set_option maxRecDepth 100000 in
theorem c_X1_teach {l : Launch} {E : En} {ad : Nat → Nat} {G : Lay} {n : Nat} (hI : adI ad n) {t : Nat} (ht : TabAt E ad G n t) {a0 : Int32} {a1 : Int32} {σ : St} {res : Unit × St} (hf : f_X1_teach t a0 a1 σ = some res) : Ct l yX1_teach cX1_teach 4 none 2 E ad G n [.ref (ad t), .int a0, .int a1] σ none res.2 := by
  unfold f_X1_teach at hf
  refine J_start (own := RX1) (lv := [(0, .ref (ad t)), (1, .int a0), (2, .int a1)]) pnX1 rfl hI (Nat.le_of_ble_eq_true rfl) rfl (fun p e s m args below meth c F => ?_)
  refine J_aload_n (pc := 0) F dX1_teach_0 rfl 0 rfl ?_
  refine gfX1_kind (pc := 1) F ht wd_51 dX1_teach_1 ?_
  refine J_iload_n (pc := 4) F dX1_teach_4 rfl 1 rfl ?_
  obtain ⟨q1, h1, hf⟩ := bind_elim hf
  refine J_callNI (pc := 5) F (host := RX3) (c_X3_at hI (tabA2 ht) h1) (by omega) (by decide) wc_X3_at (by simp [nestL]) rfl rfl (Nat.le_of_ble_eq_true rfl) dX1_teach_5 ?_
  refine J_iconst (pc := 8) F dX1_teach_8 ki_3 ?_
  obtain ⟨k2, hk2, hf⟩ := jn_elim hf
  have hJk2 : ∀ (q2 : St), k2 q2 = some res → J p l e 2 s m args below meth c E ad G n (QU below E ad G n args s res) 4 q2 34 [(0, .ref (ad t)), (1, .int a0), (2, .int a1)] [] := by
    intro q2 hf
    replace hf := hk2 q2 hf
    refine J_aload_n (pc := 34) F dX1_teach_34 rfl 0 rfl ?_
    refine J_iload_n (pc := 35) F dX1_teach_35 rfl 1 rfl ?_
    refine J_iload_n (pc := 36) F dX1_teach_36 rfl 2 rfl ?_
    refine J_aload_n (pc := 37) F dX1_teach_37 rfl 0 rfl ?_
    refine J_iload_n (pc := 38) F dX1_teach_38 rfl 1 rfl ?_
    refine J_aload_n (pc := 39) F dX1_teach_39 rfl 0 rfl ?_
    refine gfX1_sounds (pc := 40) F ht wd_48 dX1_teach_40 ?_
    refine J_iload_n (pc := 43) F dX1_teach_43 rfl 2 rfl ?_
    obtain ⟨q8, h8, hf⟩ := bind_elim hf
    refine J_callNI (pc := 44) F (host := RX3) (c_X3_at hI (tabA1 ht) h8) (by omega) (by decide) wc_X3_at (by simp [nestL]) rfl rfl (Nat.le_of_ble_eq_true rfl) dX1_teach_44 ?_
    obtain ⟨q9, h9, hf⟩ := bind_elim hf
    refine J_callVI (pc := 47) F (c_X1_asHeardBy hI ht h9) (by omega) (by decide) (tabN ht) (ht.2.1 _) rfl wc_X1_asHeardBy wd_372 rfl rfl (Nat.le_of_ble_eq_true rfl) dX1_teach_47 ?_
    obtain ⟨q10, h10, hf⟩ := bind_elim hf
    refine J_callVU (pc := 50) F (c_X1_give hI ht h10) (by omega) (by decide) (tabN ht) (ht.2.1 _) rfl wc_X1_give wd_371 rfl rfl (Nat.le_of_ble_eq_true rfl) dX1_teach_50 ?_
    refine J_iload_n (pc := 53) F dX1_teach_53 rfl 2 rfl ?_
    refine J_iconst (pc := 54) F dX1_teach_54 ki_1 ?_
    refine J_iadd (pc := 55) F dX1_teach_55 ?_
    refine J_aload_n (pc := 56) F dX1_teach_56 rfl 0 rfl ?_
    refine gfX1_words (pc := 57) F ht wd_62 dX1_teach_57 ?_
    obtain ⟨k11, hk11, hf⟩ := jn_elim hf
    have hJk11 : ∀ (q11 : Int32 × St), k11 q11 = some res → J p l e 2 s m args below meth c E ad G n (QU below E ad G n args s res) 4 q11.2 70 [(0, .ref (ad t)), (1, .int a0)] [.int q11.1] := by
      intro q11 hf
      replace hf := hk11 q11 hf
      refine J_istore_n (pc := 70) F (lv' := [(3, .int q11.1), (0, .ref (ad t)), (1, .int a0)]) dX1_teach_70 rfl (by decide) rfl ?_
      refine J_aload_n (pc := 71) F dX1_teach_71 rfl 1 rfl ?_
      refine gfX1_kind (pc := 72) F ht wd_51 dX1_teach_72 ?_
      refine J_iload_n (pc := 75) F dX1_teach_75 rfl 2 rfl ?_
      obtain ⟨q13, h13, hf⟩ := bind_elim hf
      refine J_callNI (pc := 76) F (host := RX3) (c_X3_at hI (tabA2 ht) h13) (by omega) (by decide) wc_X3_at (by simp [nestL]) rfl rfl (Nat.le_of_ble_eq_true rfl) dX1_teach_76 ?_
      refine J_iconst (pc := 79) F dX1_teach_79 ki_2 ?_
      rcases ite_elim hf with ⟨c14, hf⟩ | ⟨c14, hf⟩
      · refine J_icmp_neT (pc := 80) F (tgt := 106) dX1_teach_80 (by decide) c14 ?_
        exact J_vret (pc := 106) F dX1_teach_106 hf
      · refine J_icmp_neF (pc := 80) F (tgt := 106) dX1_teach_80 (by decide) c14 ?_
        refine J_aload_n (pc := 83) F dX1_teach_83 rfl 1 rfl ?_
        refine J_iload_n (pc := 84) F dX1_teach_84 rfl 2 rfl ?_
        refine J_iload_n (pc := 85) F dX1_teach_85 rfl 0 rfl ?_
        obtain ⟨q15, h15, hf⟩ := bind_elim hf
        refine J_callVI (pc := 86) F (c_X1_holds hI ht h15) (by omega) (by decide) (tabN ht) (ht.2.1 _) rfl wc_X1_holds wd_369 rfl rfl (Nat.le_of_ble_eq_true rfl) dX1_teach_86 ?_
        rcases ite_elim hf with ⟨c16, hf⟩ | ⟨c16, hf⟩
        · refine J_if_neT (pc := 89) F (tgt := 106) dX1_teach_89 (by decide) c16 ?_
          exact J_vret (pc := 106) F dX1_teach_106 hf
        · refine J_if_neF (pc := 89) F (tgt := 106) dX1_teach_89 (by decide) c16 ?_
          refine J_aload_n (pc := 92) F dX1_teach_92 rfl 1 rfl ?_
          refine J_iload_n (pc := 93) F dX1_teach_93 rfl 2 rfl ?_
          refine J_iload_n (pc := 94) F dX1_teach_94 rfl 0 rfl ?_
          refine J_aload_n (pc := 95) F dX1_teach_95 rfl 1 rfl ?_
          refine gfX1_sounds (pc := 96) F ht wd_48 dX1_teach_96 ?_
          refine J_iload_n (pc := 99) F dX1_teach_99 rfl 0 rfl ?_
          obtain ⟨q17, h17, hf⟩ := bind_elim hf
          refine J_callNI (pc := 100) F (host := RX3) (c_X3_at hI (tabA1 ht) h17) (by omega) (by decide) wc_X3_at (by simp [nestL]) rfl rfl (Nat.le_of_ble_eq_true rfl) dX1_teach_100 ?_
          obtain ⟨q18, h18, hf⟩ := bind_elim hf
          refine J_callVU (pc := 103) F (c_X1_give hI ht h18) (by omega) (by decide) (tabN ht) (ht.2.1 _) rfl wc_X1_give wd_371 rfl rfl (Nat.le_of_ble_eq_true rfl) dX1_teach_103 ?_
          exact J_vret (pc := 106) F dX1_teach_106 hf
    clear hk11
    rcases ite_elim hf with ⟨c12, hf⟩ | ⟨c12, hf⟩
    · refine J_icmp_geT (pc := 60) F (tgt := 69) dX1_teach_60 (by decide) c12 ?_
      refine J_iconst (pc := 69) F dX1_teach_69 ki_0 ?_
      refine J_sub [0, 1] rfl ?_
      exact hJk11 ((0 : Int32), q10.2) hf
    · refine J_icmp_geF (pc := 60) F (tgt := 69) dX1_teach_60 (by decide) c12 ?_
      refine J_iload_n (pc := 63) F dX1_teach_63 rfl 2 rfl ?_
      refine J_iconst (pc := 64) F dX1_teach_64 ki_1 ?_
      refine J_iadd (pc := 65) F dX1_teach_65 ?_
      refine J_goto (pc := 66) F (tgt := 70) dX1_teach_66 (by decide) ?_
      refine J_sub [0, 1] rfl ?_
      exact hJk11 ((a1 + (1 : Int32)), q10.2) hf
  clear hk2
  rcases ite_elim hf with ⟨c3, hf⟩ | ⟨c3, hf⟩
  · refine J_icmp_neT (pc := 9) F (tgt := 34) dX1_teach_9 (by decide) c3 ?_
    exact hJk2 q1.2 hf
  · refine J_icmp_neF (pc := 9) F (tgt := 34) dX1_teach_9 (by decide) c3 ?_
    refine J_aload_n (pc := 12) F dX1_teach_12 rfl 0 rfl ?_
    refine J_iload_n (pc := 13) F dX1_teach_13 rfl 1 rfl ?_
    refine J_iload_n (pc := 14) F dX1_teach_14 rfl 2 rfl ?_
    obtain ⟨q4, h4, hf⟩ := bind_elim hf
    refine J_callVI (pc := 15) F (c_X1_holds hI ht h4) (by omega) (by decide) (tabN ht) (ht.2.1 _) rfl wc_X1_holds wd_369 rfl rfl (Nat.le_of_ble_eq_true rfl) dX1_teach_15 ?_
    rcases ite_elim hf with ⟨c5, hf⟩ | ⟨c5, hf⟩
    · refine J_if_eqT (pc := 18) F (tgt := 34) dX1_teach_18 (by decide) c5 ?_
      exact hJk2 q4.2 hf
    · refine J_if_eqF (pc := 18) F (tgt := 34) dX1_teach_18 (by decide) c5 ?_
      refine J_aload_n (pc := 21) F dX1_teach_21 rfl 0 rfl ?_
      refine J_iload_n (pc := 22) F dX1_teach_22 rfl 1 rfl ?_
      refine J_iload_n (pc := 23) F dX1_teach_23 rfl 2 rfl ?_
      refine J_aload_n (pc := 24) F dX1_teach_24 rfl 0 rfl ?_
      refine J_iload_n (pc := 25) F dX1_teach_25 rfl 1 rfl ?_
      refine J_iload_n (pc := 26) F dX1_teach_26 rfl 2 rfl ?_
      obtain ⟨q6, h6, hf⟩ := bind_elim hf
      refine J_callVI (pc := 27) F (c_X1_wayOf hI ht h6) (by omega) (by decide) (tabN ht) (ht.2.1 _) rfl wc_X1_wayOf wd_370 rfl rfl (Nat.le_of_ble_eq_true rfl) dX1_teach_27 ?_
      obtain ⟨q7, h7, hf⟩ := bind_elim hf
      refine J_callVU (pc := 30) F (c_X1_give hI ht h7) (by omega) (by decide) (tabN ht) (ht.2.1 _) rfl wc_X1_give wd_371 rfl rfl (Nat.le_of_ble_eq_true rfl) dX1_teach_30 ?_
      exact J_vret (pc := 33) F dX1_teach_33 hf
set_option maxHeartbeats 4000000 in
set_option maxRecDepth 100000 in
theorem c_X1_canRepair {l : Launch} {E : En} {ad : Nat → Nat} {G : Lay} {n : Nat} (hI : adI ad n) {t : Nat} (ht : TabAt E ad G n t) {a0 : Int32} {a1 : Int32} {σ : St} {res : Int32 × St} (hf : f_X1_canRepair t a0 a1 σ = some res) : Ct l yX1_canRepair cX1_canRepair 3 (some .boolean) 2 E ad G n [.ref (ad t), .int a0, .int a1] σ (some (.int res.1)) res.2 := by
  unfold f_X1_canRepair at hf
  refine J_start (own := RX1) (lv := [(0, .ref (ad t)), (1, .int a0), (2, .int a1)]) pnX1 rfl hI (Nat.le_of_ble_eq_true rfl) rfl (fun p e s m args below meth c F => ?_)
  refine J_aload_n (pc := 0) F dX1_canRepair_0 rfl 0 rfl ?_
  refine J_iload_n (pc := 1) F dX1_canRepair_1 rfl 1 rfl ?_
  refine J_iload_n (pc := 2) F dX1_canRepair_2 rfl 2 rfl ?_
  obtain ⟨q1, h1, hf⟩ := bind_elim hf
  refine J_callVI (pc := 3) F (c_X1_holds hI ht h1) (by omega) (by decide) (tabN ht) (ht.2.1 _) rfl wc_X1_holds wd_369 rfl rfl (Nat.le_of_ble_eq_true rfl) dX1_canRepair_3 ?_
  obtain ⟨k2, hk2, hf⟩ := jn_elim hf
  have hJk2 : ∀ (q2 : St), k2 q2 = some res → J p l e 2 s m args below meth c E ad G n (QI below E ad G n args s res) 3 q2 22 [] [] := by
    intro q2 hf
    replace hf := hk2 q2 hf
    refine J_iconst (pc := 22) F dX1_canRepair_22 ki_0 ?_
    exact J_iret (pc := 23) F rfl dX1_canRepair_23 hf
  clear hk2
  rcases ite_elim hf with ⟨c3, hf⟩ | ⟨c3, hf⟩
  · refine J_if_eqT (pc := 6) F (tgt := 22) dX1_canRepair_6 (by decide) c3 ?_
    refine J_sub [] rfl ?_
    exact hJk2 q1.2 hf
  · refine J_if_eqF (pc := 6) F (tgt := 22) dX1_canRepair_6 (by decide) c3 ?_
    refine J_aload_n (pc := 9) F dX1_canRepair_9 rfl 0 rfl ?_
    refine J_iload_n (pc := 10) F dX1_canRepair_10 rfl 1 rfl ?_
    refine J_iload_n (pc := 11) F dX1_canRepair_11 rfl 2 rfl ?_
    obtain ⟨q4, h4, hf⟩ := bind_elim hf
    refine J_callVI (pc := 12) F (c_X1_isRight hI ht h4) (by omega) (by decide) (tabN ht) (ht.2.1 _) rfl wc_X1_isRight wd_422 rfl rfl (Nat.le_of_ble_eq_true rfl) dX1_canRepair_12 ?_
    rcases ite_elim hf with ⟨c5, hf⟩ | ⟨c5, hf⟩
    · refine J_if_neT (pc := 15) F (tgt := 22) dX1_canRepair_15 (by decide) c5 ?_
      refine J_sub [] rfl ?_
      exact hJk2 q4.2 hf
    · refine J_if_neF (pc := 15) F (tgt := 22) dX1_canRepair_15 (by decide) c5 ?_
      refine J_iconst (pc := 18) F dX1_canRepair_18 ki_1 ?_
      refine J_goto (pc := 19) F (tgt := 23) dX1_canRepair_19 (by decide) ?_
      exact J_iret (pc := 23) F rfl dX1_canRepair_23 hf
