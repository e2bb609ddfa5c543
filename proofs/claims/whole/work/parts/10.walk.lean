theorem tableAt_tab {E : En} {ad : Nat → Nat} {G : Lay} {n r L : Nat} {i : Int32} {σ : St} {q : Option Nat × St} (hr : RowA E ad G n r L) (h : f_X3_tableAt r L i σ = some q) : ∀ y, q.1 = some y → TabAt E ad G n y := by
  intro y hy
  unfold f_X3_tableAt at h
  simp only [jn] at h
  repeat' split at h
  all_goals first | (cases h; done) | (cases h; cases hy; done) | (cases h; cases hy; exact hr.2 _ (rowIn (by assumption)))

set_option maxHeartbeats 4000000 in
set_option maxRecDepth 100000 in
theorem c_X3_put {l : Launch} {E : En} {ad : Nat → Nat} {G : Lay} {n : Nat} (hI : adI ad n) {a0 a0L : Nat} (ha0 : ArrI E G n a0 a0L) {a1 : Int32} {a2 : Int32} {σ : St} {res : Unit × St} (hf : f_X3_put a0 a0L a1 a2 σ = some res) : Ct l yX3_put cX3_put 3 none 0 E ad G n [.ref (ad a0), .int a1, .int a2] σ none res.2 := by
  unfold f_X3_put at hf
  refine J_start (own := RX3) (lv := [(0, .ref (ad a0)), (1, .int a1), (2, .int a2)]) pnX3 rfl hI (Nat.le_of_ble_eq_true rfl) rfl (fun p e s m args below meth c F => ?_)
  refine J_aload_n (pc := 0) F dX3_put_0 rfl 0 rfl ?_
  refine J_ifnull (pc := 1) F dX3_put_1 ?_
  refine J_iload_n (pc := 4) F dX3_put_4 rfl 1 rfl ?_
  rcases ite_elim hf with ⟨c1, hf⟩ | ⟨c1, hf⟩
  · refine J_if_ltT (pc := 5) F (tgt := 18) dX3_put_5 (by decide) c1 ?_
    exact J_vret (pc := 18) F dX3_put_18 hf
  · refine J_if_ltF (pc := 5) F (tgt := 18) dX3_put_5 (by decide) c1 ?_
    refine J_iload_n (pc := 8) F dX3_put_8 rfl 1 rfl ?_
    refine J_aload_n (pc := 9) F dX3_put_9 rfl 0 rfl ?_
    refine J_alenI (pc := 10) F ha0 dX3_put_10 ?_
    rcases ite_elim hf with ⟨c2, hf⟩ | ⟨c2, hf⟩
    · refine J_icmp_geT (pc := 11) F (tgt := 18) dX3_put_11 (by decide) c2 ?_
      exact J_vret (pc := 18) F dX3_put_18 hf
    · refine J_icmp_geF (pc := 11) F (tgt := 18) dX3_put_11 (by decide) c2 ?_
      refine J_aload_n (pc := 14) F dX3_put_14 rfl 0 rfl ?_
      refine J_iload_n (pc := 15) F dX3_put_15 rfl 1 rfl ?_
      refine J_iload_n (pc := 16) F dX3_put_16 rfl 2 rfl ?_
      obtain ⟨g3, hf⟩ := grd_elim hf
      obtain ⟨σ4, eσ4, hf⟩ := nm_elim hf
      refine J_iast (pc := 17) F ha0 g3 dX3_put_17 eσ4 ?_
      exact J_vret (pc := 18) F dX3_put_18 hf
set_option maxHeartbeats 4000000 in
set_option maxRecDepth 100000 in
theorem c_X3_at {l : Launch} {E : En} {ad : Nat → Nat} {G : Lay} {n : Nat} (hI : adI ad n) {a0 a0L : Nat} (ha0 : ArrI E G n a0 a0L) {a1 : Int32} {σ : St} {res : Int32 × St} (hf : f_X3_at a0 a0L a1 σ = some res) : Ct l yX3_at cX3_at 2 (some .int) 0 E ad G n [.ref (ad a0), .int a1] σ (some (.int res.1)) res.2 := by
  unfold f_X3_at at hf
  refine J_start (own := RX3) (lv := [(0, .ref (ad a0)), (1, .int a1)]) pnX3 rfl hI (Nat.le_of_ble_eq_true rfl) rfl (fun p e s m args below meth c F => ?_)
  refine J_aload_n (pc := 0) F dX3_at_0 rfl 0 rfl ?_
  obtain ⟨k1, hk1, hf⟩ := jn_elim hf
  have hJk1 : ∀ (q1 : St), k1 q1 = some res → J p l e 0 s m args below meth c E ad G n (QI below E ad G n args s res) 2 q1 20 [] [] := by
    intro q1 hf
    replace hf := hk1 q1 hf
    refine J_iconst (pc := 20) F dX3_at_20 ki_0 ?_
    exact J_iret (pc := 21) F rfl dX3_at_21 hf
  clear hk1
  refine J_ifnull (pc := 1) F dX3_at_1 ?_
  refine J_iload_n (pc := 4) F dX3_at_4 rfl 1 rfl ?_
  rcases ite_elim hf with ⟨c2, hf⟩ | ⟨c2, hf⟩
  · refine J_if_ltT (pc := 5) F (tgt := 20) dX3_at_5 (by decide) c2 ?_
    refine J_sub [] rfl ?_
    exact hJk1 σ hf
  · refine J_if_ltF (pc := 5) F (tgt := 20) dX3_at_5 (by decide) c2 ?_
    refine J_iload_n (pc := 8) F dX3_at_8 rfl 1 rfl ?_
    refine J_aload_n (pc := 9) F dX3_at_9 rfl 0 rfl ?_
    refine J_alenI (pc := 10) F ha0 dX3_at_10 ?_
    rcases ite_elim hf with ⟨c3, hf⟩ | ⟨c3, hf⟩
    · refine J_icmp_geT (pc := 11) F (tgt := 20) dX3_at_11 (by decide) c3 ?_
      refine J_sub [] rfl ?_
      exact hJk1 σ hf
    · refine J_icmp_geF (pc := 11) F (tgt := 20) dX3_at_11 (by decide) c3 ?_
      refine J_aload_n (pc := 14) F dX3_at_14 rfl 0 rfl ?_
      refine J_iload_n (pc := 15) F dX3_at_15 rfl 1 rfl ?_
      obtain ⟨g4, hf⟩ := grd_elim hf
      refine J_iald (pc := 16) F ha0 g4 dX3_at_16 ?_
      refine J_goto (pc := 17) F (tgt := 21) dX3_at_17 (by decide) ?_
      exact J_iret (pc := 21) F rfl dX3_at_21 hf
set_option maxHeartbeats 4000000 in
set_option maxRecDepth 100000 in
theorem c_X1_holds {l : Launch} {E : En} {ad : Nat → Nat} {G : Lay} {n : Nat} (hI : adI ad n) {t : Nat} (ht : TabAt E ad G n t) {a0 : Int32} {a1 : Int32} {σ : St} {res : Int32 × St} (hf : f_X1_holds t a0 a1 σ = some res) : Ct l yX1_holds cX1_holds 3 (some .boolean) 1 E ad G n [.ref (ad t), .int a0, .int a1] σ (some (.int res.1)) res.2 := by
  unfold f_X1_holds at hf
  refine J_start (own := RX1) (lv := [(0, .ref (ad t)), (1, .int a0), (2, .int a1)]) pnX1 rfl hI (Nat.le_of_ble_eq_true rfl) rfl (fun p e s m args below meth c F => ?_)
  refine J_aload_n (pc := 0) F dX1_holds_0 rfl 0 rfl ?_
  refine gfX1_has (pc := 1) F ht wd_55 dX1_holds_1 ?_
  refine J_iload_n (pc := 4) F dX1_holds_4 rfl 1 rfl ?_
  obtain ⟨q1, h1, hf⟩ := bind_elim hf
  refine J_callNI (pc := 5) F (host := RX3) (c_X3_at hI (tabA4 ht) h1) (by omega) (by decide) wc_X3_at (by simp [nestL]) rfl rfl (Nat.le_of_ble_eq_true rfl) dX1_holds_5 ?_
  refine J_iload_n (pc := 8) F dX1_holds_8 rfl 2 rfl ?_
  refine J_ishr (pc := 9) F dX1_holds_9 ?_
  refine J_iconst (pc := 10) F dX1_holds_10 ki_1 ?_
  refine J_iand (pc := 11) F dX1_holds_11 ?_
  refine J_iconst (pc := 12) F dX1_holds_12 ki_1 ?_
  rcases ite_elim hf with ⟨c2, hf⟩ | ⟨c2, hf⟩
  · refine J_icmp_neT (pc := 13) F (tgt := 20) dX1_holds_13 (by decide) c2 ?_
    refine J_iconst (pc := 20) F dX1_holds_20 ki_0 ?_
    exact J_iret (pc := 21) F rfl dX1_holds_21 hf
  · refine J_icmp_neF (pc := 13) F (tgt := 20) dX1_holds_13 (by decide) c2 ?_
    refine J_iconst (pc := 16) F dX1_holds_16 ki_1 ?_
    refine J_goto (pc := 17) F (tgt := 21) dX1_holds_17 (by decide) ?_
    exact J_iret (pc := 21) F rfl dX1_holds_21 hf
set_option maxHeartbeats 4000000 in
set_option maxRecDepth 100000 in
theorem c_X1_wayOf {l : Launch} {E : En} {ad : Nat → Nat} {G : Lay} {n : Nat} (hI : adI ad n) {t : Nat} (ht : TabAt E ad G n t) {a0 : Int32} {a1 : Int32} {σ : St} {res : Int32 × St} (hf : f_X1_wayOf t a0 a1 σ = some res) : Ct l yX1_wayOf cX1_wayOf 3 (some .int) 1 E ad G n [.ref (ad t), .int a0, .int a1] σ (some (.int res.1)) res.2 := by
  unfold f_X1_wayOf at hf
  refine J_start (own := RX1) (lv := [(0, .ref (ad t)), (1, .int a0), (2, .int a1)]) pnX1 rfl hI (Nat.le_of_ble_eq_true rfl) rfl (fun p e s m args below meth c F => ?_)
  refine J_aload_n (pc := 0) F dX1_wayOf_0 rfl 0 rfl ?_
  refine gfX1_way (pc := 1) F ht wd_59 dX1_wayOf_1 ?_
  refine J_bipush (pc := 4) F dX1_wayOf_4 kb_8 ?_
  refine J_iload_n (pc := 6) F dX1_wayOf_6 rfl 1 rfl ?_
  refine J_imul (pc := 7) F dX1_wayOf_7 ?_
  refine J_iload_n (pc := 8) F dX1_wayOf_8 rfl 2 rfl ?_
  refine J_iadd (pc := 9) F dX1_wayOf_9 ?_
  obtain ⟨q1, h1, hf⟩ := bind_elim hf
  refine J_callNI (pc := 10) F (host := RX3) (c_X3_at hI (tabA6 ht) h1) (by omega) (by decide) wc_X3_at (by simp [nestL]) rfl rfl (Nat.le_of_ble_eq_true rfl) dX1_wayOf_10 ?_
  exact J_iret (pc := 13) F rfl dX1_wayOf_13 hf
set_option maxHeartbeats 4000000 in
set_option maxRecDepth 100000 in
theorem c_X1_isRight {l : Launch} {E : En} {ad : Nat → Nat} {G : Lay} {n : Nat} (hI : adI ad n) {t : Nat} (ht : TabAt E ad G n t) {a0 : Int32} {a1 : Int32} {σ : St} {res : Int32 × St} (hf : f_X1_isRight t a0 a1 σ = some res) : Ct l yX1_isRight cX1_isRight 3 (some .boolean) 1 E ad G n [.ref (ad t), .int a0, .int a1] σ (some (.int res.1)) res.2 := by
  unfold f_X1_isRight at hf
  refine J_start (own := RX1) (lv := [(0, .ref (ad t)), (1, .int a0), (2, .int a1)]) pnX1 rfl hI (Nat.le_of_ble_eq_true rfl) rfl (fun p e s m args below meth c F => ?_)
  refine J_aload_n (pc := 0) F dX1_isRight_0 rfl 0 rfl ?_
  refine gfX1_right (pc := 1) F ht wd_57 dX1_isRight_1 ?_
  refine J_iload_n (pc := 4) F dX1_isRight_4 rfl 1 rfl ?_
  obtain ⟨q1, h1, hf⟩ := bind_elim hf
  refine J_callNI (pc := 5) F (host := RX3) (c_X3_at hI (tabA5 ht) h1) (by omega) (by decide) wc_X3_at (by simp [nestL]) rfl rfl (Nat.le_of_ble_eq_true rfl) dX1_isRight_5 ?_
  refine J_iload_n (pc := 8) F dX1_isRight_8 rfl 2 rfl ?_
  refine J_ishr (pc := 9) F dX1_isRight_9 ?_
  refine J_iconst (pc := 10) F dX1_isRight_10 ki_1 ?_
  refine J_iand (pc := 11) F dX1_isRight_11 ?_
  refine J_iconst (pc := 12) F dX1_isRight_12 ki_1 ?_
  rcases ite_elim hf with ⟨c2, hf⟩ | ⟨c2, hf⟩
  · refine J_icmp_neT (pc := 13) F (tgt := 20) dX1_isRight_13 (by decide) c2 ?_
    refine J_iconst (pc := 20) F dX1_isRight_20 ki_0 ?_
    exact J_iret (pc := 21) F rfl dX1_isRight_21 hf
  · refine J_icmp_neF (pc := 13) F (tgt := 20) dX1_isRight_13 (by decide) c2 ?_
    refine J_iconst (pc := 16) F dX1_isRight_16 ki_1 ?_
    refine J_goto (pc := 17) F (tgt := 21) dX1_isRight_17 (by decide) ?_
    exact J_iret (pc := 21) F rfl dX1_isRight_21 hf
set_option maxHeartbeats 4000000 in
set_option maxRecDepth 100000 in
theorem c_X3_tableAt {l : Launch} {E : En} {ad : Nat → Nat} {G : Lay} {n : Nat} (hI : adI ad n) {a0 a0L : Nat} (ha0 : RowA E ad G n a0 a0L) {a1 : Int32} {σ : St} {res : Option Nat × St} (hf : f_X3_tableAt a0 a0L a1 σ = some res) : Ct l yX3_tableAt cX3_tableAt 2 (some (.object "LastTongue$Table")) 0 E ad G n [.ref (ad a0), .int a1] σ (some (va_re ad res.1)) res.2 := by
  unfold f_X3_tableAt at hf
  refine J_start (own := RX3) (lv := [(0, .ref (ad a0)), (1, .int a1)]) pnX3 rfl hI (Nat.le_of_ble_eq_true rfl) rfl (fun p e s m args below meth c F => ?_)
  refine J_aload_n (pc := 0) F dX3_tableAt_0 rfl 0 rfl ?_
  obtain ⟨k1, hk1, hf⟩ := jn_elim hf
  have hJk1 : ∀ (q1 : St), k1 q1 = some res → J p l e 0 s m args below meth c E ad G n (QR below E ad G n args s res) 2 q1 20 [] [] := by
    intro q1 hf
    replace hf := hk1 q1 hf
    refine J_null (pc := 20) F dX3_tableAt_20 ?_
    exact J_aretN (pc := 21) F dX3_tableAt_21 hf
  clear hk1
  refine J_ifnull (pc := 1) F dX3_tableAt_1 ?_
  refine J_iload_n (pc := 4) F dX3_tableAt_4 rfl 1 rfl ?_
  rcases ite_elim hf with ⟨c2, hf⟩ | ⟨c2, hf⟩
  · refine J_if_ltT (pc := 5) F (tgt := 20) dX3_tableAt_5 (by decide) c2 ?_
    refine J_sub [] rfl ?_
    exact hJk1 σ hf
  · refine J_if_ltF (pc := 5) F (tgt := 20) dX3_tableAt_5 (by decide) c2 ?_
    refine J_iload_n (pc := 8) F dX3_tableAt_8 rfl 1 rfl ?_
    refine J_aload_n (pc := 9) F dX3_tableAt_9 rfl 0 rfl ?_
    refine J_alenT (pc := 10) F ha0.1 dX3_tableAt_10 ?_
    rcases ite_elim hf with ⟨c3, hf⟩ | ⟨c3, hf⟩
    · refine J_icmp_geT (pc := 11) F (tgt := 20) dX3_tableAt_11 (by decide) c3 ?_
      refine J_sub [] rfl ?_
      exact hJk1 σ hf
    · refine J_icmp_geF (pc := 11) F (tgt := 20) dX3_tableAt_11 (by decide) c3 ?_
      refine J_aload_n (pc := 14) F dX3_tableAt_14 rfl 0 rfl ?_
      refine J_iload_n (pc := 15) F dX3_tableAt_15 rfl 1 rfl ?_
      obtain ⟨g4, hf⟩ := grd_elim hf
      refine J_aald (pc := 16) F ha0.1 g4 dX3_tableAt_16 ?_
      refine J_goto (pc := 17) F (tgt := 21) dX3_tableAt_17 (by decide) ?_
      exact J_aret (pc := 21) F dX3_tableAt_21 hf
