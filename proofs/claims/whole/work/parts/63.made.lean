/-! constructors of the class's parts, by program out of their bytecode -/
theorem we_19 : Cond.instanceMethod Lib.objectInit ∈ gtbl := gtbl_of (List.mem_append_right _ (List.mem_of_getElem? (i := 19) (by decide +kernel))) rfl
theorem we_20 : Cond.code Lib.objectInit ⟨#[0xb1]⟩ 1 none ∈ gtbl := gtbl_of (List.mem_append_right _ (List.mem_of_getElem? (i := 20) (by decide +kernel))) rfl
theorem we_26 : Cond.methodLink RX2 3 Lib.objectInit ∈ gtbl := gtbl_of (List.mem_append_right _ (List.mem_of_getElem? (i := 26) (by decide +kernel))) rfl
theorem we_41 : Cond.arrayClass .int ∈ gtbl := gtbl_of (List.mem_append_right _ (List.mem_of_getElem? (i := 41) (by decide +kernel))) rfl
theorem we_47 : Cond.methodLink RX1 3 Lib.objectInit ∈ gtbl := gtbl_of (List.mem_append_right _ (List.mem_of_getElem? (i := 47) (by decide +kernel))) rfl
theorem we_220 : Cond.methodLink RX0 3 Lib.objectInit ∈ gtbl := gtbl_of (List.mem_append_right _ (List.mem_of_getElem? (i := 220) (by decide +kernel))) rfl
def rX1 (E : En) (h0 : Nat) (w : va_W) : Prop := ∃ q1 q2 q3 q4 q5 q6 q7 q8 : Nat, w = [(h0, .inr (1, [.ref q1, .ref q2, .ref q3, .ref q4, .ref q5, .ref q6, .ref q7, .ref q8, .int 0, .int 0, .int 3, .int 0])), (q1, .inl (E.2.1, 8, .inl (fun _ => 0))), (q2, .inl (E.2.1, 5, .inl (fun _ => 0))), (q3, .inl (E.2.1, 5, .inl (fun _ => 0))), (q4, .inl (E.2.1, 5, .inl (fun _ => 0))), (q5, .inl (E.2.1, 5, .inl (fun _ => 0))), (q6, .inl (E.2.1, 40, .inl (fun _ => 0))), (q7, .inl (E.2.1, 40, .inl (fun _ => 0))), (q8, .inl (E.2.1, 5, .inl (fun _ => 0)))]
set_option maxHeartbeats 4000000 in
set_option maxRecDepth 100000 in
theorem n_X1_init {l : Launch} {E : En} : CtN l yX1_init cX1_init 1 1 20 E 1 [.null, .null, .null, .null, .null, .null, .null, .null, .int 0, .int 0, .int 0, .int 0] 8 113 (rX1 E) := by
  refine N_start (own := RX1) pnX1 rfl rfl (Nat.le_of_ble_eq_true rfl) (fun p e s m args below meth c A h0 F hi => ?_)
  refine N_aload_n F dX1_init_0 rfl 0 rfl ?_
  refine N_objInit F we_47 we_19 we_20 (by decide) (by decide) (by decide) dX1_init_1 ?_
  refine N_aload_n F dX1_init_4 rfl 0 rfl ?_
  refine N_bipush F (v := (8 : Int32)) dX1_init_5 rfl ?_
  refine N_newI F (L := 8) we_41 (by decide) (by decide) (by decide) (Nat.le_of_ble_eq_true rfl) (Nat.le_of_ble_eq_true rfl) dX1_init_7 (fun q1 => ?_)
  show JL _ _ _ _ _ _ _ _ _ _ _ _ _ _ 1 8 [(h0, .inr (1, [.null, .null, .null, .null, .null, .null, .null, .null, .int 0, .int 0, .int 0, .int 0])), (q1, .inl (E.2.1, 8, .inl (fun _ => 0)))] _ _ _
  refine N_putF F (C := RX1) (T := TX1) (N := 12) (ci := 1) (k := 0) (q0 := 0) (ty := tyX1 0) (ws' := [(h0, .inr (1, [.ref q1, .null, .null, .null, .null, .null, .null, .null, .int 0, .int 0, .int 0, .int 0])), (q1, .inl (E.2.1, 8, .inl (fun _ => 0)))]) hi inGX1 tyX1 tyX1_ok nmX1 rfl rfl (by decide) wd_48 rfl rfl (tyX1_ok 0 (by decide)) rfl rfl (Nat.le_of_ble_eq_true rfl) rfl dX1_init_9 ?_
  refine N_aload_n F dX1_init_12 rfl 0 rfl ?_
  refine N_iconst F (v := (5 : Int32)) dX1_init_13 rfl ?_
  refine N_newI F (L := 5) we_41 (by decide) (by decide) (by decide) (Nat.le_of_ble_eq_true rfl) (Nat.le_of_ble_eq_true rfl) dX1_init_14 (fun q2 => ?_)
  show JL _ _ _ _ _ _ _ _ _ _ _ _ _ _ 2 13 [(h0, .inr (1, [.ref q1, .null, .null, .null, .null, .null, .null, .null, .int 0, .int 0, .int 0, .int 0])), (q1, .inl (E.2.1, 8, .inl (fun _ => 0))), (q2, .inl (E.2.1, 5, .inl (fun _ => 0)))] _ _ _
  refine N_putF F (C := RX1) (T := TX1) (N := 12) (ci := 1) (k := 1) (q0 := 0) (ty := tyX1 1) (ws' := [(h0, .inr (1, [.ref q1, .ref q2, .null, .null, .null, .null, .null, .null, .int 0, .int 0, .int 0, .int 0])), (q1, .inl (E.2.1, 8, .inl (fun _ => 0))), (q2, .inl (E.2.1, 5, .inl (fun _ => 0)))]) hi inGX1 tyX1 tyX1_ok nmX1 rfl rfl (by decide) wd_51 rfl rfl (tyX1_ok 1 (by decide)) rfl rfl (Nat.le_of_ble_eq_true rfl) rfl dX1_init_16 ?_
  refine N_aload_n F dX1_init_19 rfl 0 rfl ?_
  refine N_iconst F (v := (5 : Int32)) dX1_init_20 rfl ?_
  refine N_newI F (L := 5) we_41 (by decide) (by decide) (by decide) (Nat.le_of_ble_eq_true rfl) (Nat.le_of_ble_eq_true rfl) dX1_init_21 (fun q3 => ?_)
  show JL _ _ _ _ _ _ _ _ _ _ _ _ _ _ 3 18 [(h0, .inr (1, [.ref q1, .ref q2, .null, .null, .null, .null, .null, .null, .int 0, .int 0, .int 0, .int 0])), (q1, .inl (E.2.1, 8, .inl (fun _ => 0))), (q2, .inl (E.2.1, 5, .inl (fun _ => 0))), (q3, .inl (E.2.1, 5, .inl (fun _ => 0)))] _ _ _
  refine N_putF F (C := RX1) (T := TX1) (N := 12) (ci := 1) (k := 2) (q0 := 0) (ty := tyX1 2) (ws' := [(h0, .inr (1, [.ref q1, .ref q2, .ref q3, .null, .null, .null, .null, .null, .int 0, .int 0, .int 0, .int 0])), (q1, .inl (E.2.1, 8, .inl (fun _ => 0))), (q2, .inl (E.2.1, 5, .inl (fun _ => 0))), (q3, .inl (E.2.1, 5, .inl (fun _ => 0)))]) hi inGX1 tyX1 tyX1_ok nmX1 rfl rfl (by decide) wd_53 rfl rfl (tyX1_ok 2 (by decide)) rfl rfl (Nat.le_of_ble_eq_true rfl) rfl dX1_init_23 ?_
  refine N_aload_n F dX1_init_26 rfl 0 rfl ?_
  refine N_iconst F (v := (5 : Int32)) dX1_init_27 rfl ?_
  refine N_newI F (L := 5) we_41 (by decide) (by decide) (by decide) (Nat.le_of_ble_eq_true rfl) (Nat.le_of_ble_eq_true rfl) dX1_init_28 (fun q4 => ?_)
  show JL _ _ _ _ _ _ _ _ _ _ _ _ _ _ 4 23 [(h0, .inr (1, [.ref q1, .ref q2, .ref q3, .null, .null, .null, .null, .null, .int 0, .int 0, .int 0, .int 0])), (q1, .inl (E.2.1, 8, .inl (fun _ => 0))), (q2, .inl (E.2.1, 5, .inl (fun _ => 0))), (q3, .inl (E.2.1, 5, .inl (fun _ => 0))), (q4, .inl (E.2.1, 5, .inl (fun _ => 0)))] _ _ _
  refine N_putF F (C := RX1) (T := TX1) (N := 12) (ci := 1) (k := 3) (q0 := 0) (ty := tyX1 3) (ws' := [(h0, .inr (1, [.ref q1, .ref q2, .ref q3, .ref q4, .null, .null, .null, .null, .int 0, .int 0, .int 0, .int 0])), (q1, .inl (E.2.1, 8, .inl (fun _ => 0))), (q2, .inl (E.2.1, 5, .inl (fun _ => 0))), (q3, .inl (E.2.1, 5, .inl (fun _ => 0))), (q4, .inl (E.2.1, 5, .inl (fun _ => 0)))]) hi inGX1 tyX1 tyX1_ok nmX1 rfl rfl (by decide) wd_55 rfl rfl (tyX1_ok 3 (by decide)) rfl rfl (Nat.le_of_ble_eq_true rfl) rfl dX1_init_30 ?_
  refine N_aload_n F dX1_init_33 rfl 0 rfl ?_
  refine N_iconst F (v := (5 : Int32)) dX1_init_34 rfl ?_
  refine N_newI F (L := 5) we_41 (by decide) (by decide) (by decide) (Nat.le_of_ble_eq_true rfl) (Nat.le_of_ble_eq_true rfl) dX1_init_35 (fun q5 => ?_)
  show JL _ _ _ _ _ _ _ _ _ _ _ _ _ _ 5 28 [(h0, .inr (1, [.ref q1, .ref q2, .ref q3, .ref q4, .null, .null, .null, .null, .int 0, .int 0, .int 0, .int 0])), (q1, .inl (E.2.1, 8, .inl (fun _ => 0))), (q2, .inl (E.2.1, 5, .inl (fun _ => 0))), (q3, .inl (E.2.1, 5, .inl (fun _ => 0))), (q4, .inl (E.2.1, 5, .inl (fun _ => 0))), (q5, .inl (E.2.1, 5, .inl (fun _ => 0)))] _ _ _
  refine N_putF F (C := RX1) (T := TX1) (N := 12) (ci := 1) (k := 4) (q0 := 0) (ty := tyX1 4) (ws' := [(h0, .inr (1, [.ref q1, .ref q2, .ref q3, .ref q4, .ref q5, .null, .null, .null, .int 0, .int 0, .int 0, .int 0])), (q1, .inl (E.2.1, 8, .inl (fun _ => 0))), (q2, .inl (E.2.1, 5, .inl (fun _ => 0))), (q3, .inl (E.2.1, 5, .inl (fun _ => 0))), (q4, .inl (E.2.1, 5, .inl (fun _ => 0))), (q5, .inl (E.2.1, 5, .inl (fun _ => 0)))]) hi inGX1 tyX1 tyX1_ok nmX1 rfl rfl (by decide) wd_57 rfl rfl (tyX1_ok 4 (by decide)) rfl rfl (Nat.le_of_ble_eq_true rfl) rfl dX1_init_37 ?_
  refine N_aload_n F dX1_init_40 rfl 0 rfl ?_
  refine N_bipush F (v := (40 : Int32)) dX1_init_41 rfl ?_
  refine N_newI F (L := 40) we_41 (by decide) (by decide) (by decide) (Nat.le_of_ble_eq_true rfl) (Nat.le_of_ble_eq_true rfl) dX1_init_43 (fun q6 => ?_)
  show JL _ _ _ _ _ _ _ _ _ _ _ _ _ _ 6 68 [(h0, .inr (1, [.ref q1, .ref q2, .ref q3, .ref q4, .ref q5, .null, .null, .null, .int 0, .int 0, .int 0, .int 0])), (q1, .inl (E.2.1, 8, .inl (fun _ => 0))), (q2, .inl (E.2.1, 5, .inl (fun _ => 0))), (q3, .inl (E.2.1, 5, .inl (fun _ => 0))), (q4, .inl (E.2.1, 5, .inl (fun _ => 0))), (q5, .inl (E.2.1, 5, .inl (fun _ => 0))), (q6, .inl (E.2.1, 40, .inl (fun _ => 0)))] _ _ _
  refine N_putF F (C := RX1) (T := TX1) (N := 12) (ci := 1) (k := 5) (q0 := 0) (ty := tyX1 5) (ws' := [(h0, .inr (1, [.ref q1, .ref q2, .ref q3, .ref q4, .ref q5, .ref q6, .null, .null, .int 0, .int 0, .int 0, .int 0])), (q1, .inl (E.2.1, 8, .inl (fun _ => 0))), (q2, .inl (E.2.1, 5, .inl (fun _ => 0))), (q3, .inl (E.2.1, 5, .inl (fun _ => 0))), (q4, .inl (E.2.1, 5, .inl (fun _ => 0))), (q5, .inl (E.2.1, 5, .inl (fun _ => 0))), (q6, .inl (E.2.1, 40, .inl (fun _ => 0)))]) hi inGX1 tyX1 tyX1_ok nmX1 rfl rfl (by decide) wd_59 rfl rfl (tyX1_ok 5 (by decide)) rfl rfl (Nat.le_of_ble_eq_true rfl) rfl dX1_init_45 ?_
  refine N_aload_n F dX1_init_48 rfl 0 rfl ?_
  refine N_bipush F (v := (40 : Int32)) dX1_init_49 rfl ?_
  refine N_newI F (L := 40) we_41 (by decide) (by decide) (by decide) (Nat.le_of_ble_eq_true rfl) (Nat.le_of_ble_eq_true rfl) dX1_init_51 (fun q7 => ?_)
  show JL _ _ _ _ _ _ _ _ _ _ _ _ _ _ 7 108 [(h0, .inr (1, [.ref q1, .ref q2, .ref q3, .ref q4, .ref q5, .ref q6, .null, .null, .int 0, .int 0, .int 0, .int 0])), (q1, .inl (E.2.1, 8, .inl (fun _ => 0))), (q2, .inl (E.2.1, 5, .inl (fun _ => 0))), (q3, .inl (E.2.1, 5, .inl (fun _ => 0))), (q4, .inl (E.2.1, 5, .inl (fun _ => 0))), (q5, .inl (E.2.1, 5, .inl (fun _ => 0))), (q6, .inl (E.2.1, 40, .inl (fun _ => 0))), (q7, .inl (E.2.1, 40, .inl (fun _ => 0)))] _ _ _
  refine N_putF F (C := RX1) (T := TX1) (N := 12) (ci := 1) (k := 6) (q0 := 0) (ty := tyX1 6) (ws' := [(h0, .inr (1, [.ref q1, .ref q2, .ref q3, .ref q4, .ref q5, .ref q6, .ref q7, .null, .int 0, .int 0, .int 0, .int 0])), (q1, .inl (E.2.1, 8, .inl (fun _ => 0))), (q2, .inl (E.2.1, 5, .inl (fun _ => 0))), (q3, .inl (E.2.1, 5, .inl (fun _ => 0))), (q4, .inl (E.2.1, 5, .inl (fun _ => 0))), (q5, .inl (E.2.1, 5, .inl (fun _ => 0))), (q6, .inl (E.2.1, 40, .inl (fun _ => 0))), (q7, .inl (E.2.1, 40, .inl (fun _ => 0)))]) hi inGX1 tyX1 tyX1_ok nmX1 rfl rfl (by decide) wd_60 rfl rfl (tyX1_ok 6 (by decide)) rfl rfl (Nat.le_of_ble_eq_true rfl) rfl dX1_init_53 ?_
  refine N_aload_n F dX1_init_56 rfl 0 rfl ?_
  refine N_iconst F (v := (5 : Int32)) dX1_init_57 rfl ?_
  refine N_newI F (L := 5) we_41 (by decide) (by decide) (by decide) (Nat.le_of_ble_eq_true rfl) (Nat.le_of_ble_eq_true rfl) dX1_init_58 (fun q8 => ?_)
  show JL _ _ _ _ _ _ _ _ _ _ _ _ _ _ 8 113 [(h0, .inr (1, [.ref q1, .ref q2, .ref q3, .ref q4, .ref q5, .ref q6, .ref q7, .null, .int 0, .int 0, .int 0, .int 0])), (q1, .inl (E.2.1, 8, .inl (fun _ => 0))), (q2, .inl (E.2.1, 5, .inl (fun _ => 0))), (q3, .inl (E.2.1, 5, .inl (fun _ => 0))), (q4, .inl (E.2.1, 5, .inl (fun _ => 0))), (q5, .inl (E.2.1, 5, .inl (fun _ => 0))), (q6, .inl (E.2.1, 40, .inl (fun _ => 0))), (q7, .inl (E.2.1, 40, .inl (fun _ => 0))), (q8, .inl (E.2.1, 5, .inl (fun _ => 0)))] _ _ _
  refine N_putF F (C := RX1) (T := TX1) (N := 12) (ci := 1) (k := 7) (q0 := 0) (ty := tyX1 7) (ws' := [(h0, .inr (1, [.ref q1, .ref q2, .ref q3, .ref q4, .ref q5, .ref q6, .ref q7, .ref q8, .int 0, .int 0, .int 0, .int 0])), (q1, .inl (E.2.1, 8, .inl (fun _ => 0))), (q2, .inl (E.2.1, 5, .inl (fun _ => 0))), (q3, .inl (E.2.1, 5, .inl (fun _ => 0))), (q4, .inl (E.2.1, 5, .inl (fun _ => 0))), (q5, .inl (E.2.1, 5, .inl (fun _ => 0))), (q6, .inl (E.2.1, 40, .inl (fun _ => 0))), (q7, .inl (E.2.1, 40, .inl (fun _ => 0))), (q8, .inl (E.2.1, 5, .inl (fun _ => 0)))]) hi inGX1 tyX1 tyX1_ok nmX1 rfl rfl (by decide) wd_61 rfl rfl (tyX1_ok 7 (by decide)) rfl rfl (Nat.le_of_ble_eq_true rfl) rfl dX1_init_60 ?_
  refine N_aload_n F dX1_init_63 rfl 0 rfl ?_
  refine N_iconst F (v := (0 : Int32)) dX1_init_64 rfl ?_
  refine N_put F (C := RX1) (T := TX1) (N := 12) (ci := 1) (k := 8) (q0 := 0) (ty := tyX1 8) (ws' := [(h0, .inr (1, [.ref q1, .ref q2, .ref q3, .ref q4, .ref q5, .ref q6, .ref q7, .ref q8, .int 0, .int 0, .int 0, .int 0])), (q1, .inl (E.2.1, 8, .inl (fun _ => 0))), (q2, .inl (E.2.1, 5, .inl (fun _ => 0))), (q3, .inl (E.2.1, 5, .inl (fun _ => 0))), (q4, .inl (E.2.1, 5, .inl (fun _ => 0))), (q5, .inl (E.2.1, 5, .inl (fun _ => 0))), (q6, .inl (E.2.1, 40, .inl (fun _ => 0))), (q7, .inl (E.2.1, 40, .inl (fun _ => 0))), (q8, .inl (E.2.1, 5, .inl (fun _ => 0)))]) inGX1 tyX1 tyX1_ok nmX1 rfl rfl (by decide) wd_62 rfl (tyX1_ok 8 (by decide)) rfl rfl (Nat.le_of_ble_eq_true rfl) rfl dX1_init_65 ?_
  refine N_aload_n F dX1_init_68 rfl 0 rfl ?_
  refine N_iconst F (v := (0 : Int32)) dX1_init_69 rfl ?_
  refine N_put F (C := RX1) (T := TX1) (N := 12) (ci := 1) (k := 9) (q0 := 0) (ty := tyX1 9) (ws' := [(h0, .inr (1, [.ref q1, .ref q2, .ref q3, .ref q4, .ref q5, .ref q6, .ref q7, .ref q8, .int 0, .int 0, .int 0, .int 0])), (q1, .inl (E.2.1, 8, .inl (fun _ => 0))), (q2, .inl (E.2.1, 5, .inl (fun _ => 0))), (q3, .inl (E.2.1, 5, .inl (fun _ => 0))), (q4, .inl (E.2.1, 5, .inl (fun _ => 0))), (q5, .inl (E.2.1, 5, .inl (fun _ => 0))), (q6, .inl (E.2.1, 40, .inl (fun _ => 0))), (q7, .inl (E.2.1, 40, .inl (fun _ => 0))), (q8, .inl (E.2.1, 5, .inl (fun _ => 0)))]) inGX1 tyX1 tyX1_ok nmX1 rfl rfl (by decide) wd_65 rfl (tyX1_ok 9 (by decide)) rfl rfl (Nat.le_of_ble_eq_true rfl) rfl dX1_init_70 ?_
  refine N_aload_n F dX1_init_73 rfl 0 rfl ?_
  refine N_iconst F (v := (3 : Int32)) dX1_init_74 rfl ?_
  refine N_put F (C := RX1) (T := TX1) (N := 12) (ci := 1) (k := 10) (q0 := 0) (ty := tyX1 10) (ws' := [(h0, .inr (1, [.ref q1, .ref q2, .ref q3, .ref q4, .ref q5, .ref q6, .ref q7, .ref q8, .int 0, .int 0, .int 3, .int 0])), (q1, .inl (E.2.1, 8, .inl (fun _ => 0))), (q2, .inl (E.2.1, 5, .inl (fun _ => 0))), (q3, .inl (E.2.1, 5, .inl (fun _ => 0))), (q4, .inl (E.2.1, 5, .inl (fun _ => 0))), (q5, .inl (E.2.1, 5, .inl (fun _ => 0))), (q6, .inl (E.2.1, 40, .inl (fun _ => 0))), (q7, .inl (E.2.1, 40, .inl (fun _ => 0))), (q8, .inl (E.2.1, 5, .inl (fun _ => 0)))]) inGX1 tyX1 tyX1_ok nmX1 rfl rfl (by decide) wd_69 rfl (tyX1_ok 10 (by decide)) rfl rfl (Nat.le_of_ble_eq_true rfl) rfl dX1_init_75 ?_
  refine N_aload_n F dX1_init_78 rfl 0 rfl ?_
  refine N_iconst F (v := (0 : Int32)) dX1_init_79 rfl ?_
  refine N_put F (C := RX1) (T := TX1) (N := 12) (ci := 1) (k := 11) (q0 := 0) (ty := tyX1 11) (ws' := [(h0, .inr (1, [.ref q1, .ref q2, .ref q3, .ref q4, .ref q5, .ref q6, .ref q7, .ref q8, .int 0, .int 0, .int 3, .int 0])), (q1, .inl (E.2.1, 8, .inl (fun _ => 0))), (q2, .inl (E.2.1, 5, .inl (fun _ => 0))), (q3, .inl (E.2.1, 5, .inl (fun _ => 0))), (q4, .inl (E.2.1, 5, .inl (fun _ => 0))), (q5, .inl (E.2.1, 5, .inl (fun _ => 0))), (q6, .inl (E.2.1, 40, .inl (fun _ => 0))), (q7, .inl (E.2.1, 40, .inl (fun _ => 0))), (q8, .inl (E.2.1, 5, .inl (fun _ => 0)))]) inGX1 tyX1 tyX1_ok nmX1 rfl rfl (by decide) wd_72 rfl (tyX1_ok 11 (by decide)) rfl rfl (Nat.le_of_ble_eq_true rfl) rfl dX1_init_80 ?_
  exact N_vret (Rr := rX1 E h0) F dX1_init_83 ⟨q1, q2, q3, q4, q5, q6, q7, q8, rfl⟩
def rX2 (E : En) (h0 : Nat) (w : va_W) : Prop := ∃ q1 : Nat, w = [(h0, .inr (2, [.ref q1, .int 0, .int 0, .int 0])), (q1, .inl (E.2.1, 200, .inl (fun _ => 0)))]
set_option maxHeartbeats 4000000 in
set_option maxRecDepth 100000 in
theorem n_X2_init {l : Launch} {E : En} : CtN l yX2_init cX2_init 1 1 20 E 2 [.null, .int 0, .int 0, .int 0] 1 200 (rX2 E) := by
  refine N_start (own := RX2) pnX2 rfl rfl (Nat.le_of_ble_eq_true rfl) (fun p e s m args below meth c A h0 F hi => ?_)
  refine N_aload_n F dX2_init_0 rfl 0 rfl ?_
  refine N_objInit F we_26 we_19 we_20 (by decide) (by decide) (by decide) dX2_init_1 ?_
  refine N_aload_n F dX2_init_4 rfl 0 rfl ?_
  refine N_sipush F (v := (200 : Int32)) dX2_init_5 rfl ?_
  refine N_newI F (L := 200) we_41 (by decide) (by decide) (by decide) (Nat.le_of_ble_eq_true rfl) (Nat.le_of_ble_eq_true rfl) dX2_init_8 (fun q1 => ?_)
  show JL _ _ _ _ _ _ _ _ _ _ _ _ _ _ 1 200 [(h0, .inr (2, [.null, .int 0, .int 0, .int 0])), (q1, .inl (E.2.1, 200, .inl (fun _ => 0)))] _ _ _
  refine N_putF F (C := RX2) (T := TX2) (N := 4) (ci := 2) (k := 0) (q0 := 0) (ty := tyX2 0) (ws' := [(h0, .inr (2, [.ref q1, .int 0, .int 0, .int 0])), (q1, .inl (E.2.1, 200, .inl (fun _ => 0)))]) hi inGX2 tyX2 tyX2_ok nmX2 rfl rfl (by decide) wd_27 rfl rfl (tyX2_ok 0 (by decide)) rfl rfl (Nat.le_of_ble_eq_true rfl) rfl dX2_init_10 ?_
  refine N_aload_n F dX2_init_13 rfl 0 rfl ?_
  refine N_iconst F (v := (0 : Int32)) dX2_init_14 rfl ?_
  refine N_put F (C := RX2) (T := TX2) (N := 4) (ci := 2) (k := 1) (q0 := 0) (ty := tyX2 1) (ws' := [(h0, .inr (2, [.ref q1, .int 0, .int 0, .int 0])), (q1, .inl (E.2.1, 200, .inl (fun _ => 0)))]) inGX2 tyX2 tyX2_ok nmX2 rfl rfl (by decide) wd_28 rfl (tyX2_ok 1 (by decide)) rfl rfl (Nat.le_of_ble_eq_true rfl) rfl dX2_init_15 ?_
  refine N_aload_n F dX2_init_18 rfl 0 rfl ?_
  refine N_iconst F (v := (0 : Int32)) dX2_init_19 rfl ?_
  refine N_put F (C := RX2) (T := TX2) (N := 4) (ci := 2) (k := 2) (q0 := 0) (ty := tyX2 2) (ws' := [(h0, .inr (2, [.ref q1, .int 0, .int 0, .int 0])), (q1, .inl (E.2.1, 200, .inl (fun _ => 0)))]) inGX2 tyX2 tyX2_ok nmX2 rfl rfl (by decide) wd_30 rfl (tyX2_ok 2 (by decide)) rfl rfl (Nat.le_of_ble_eq_true rfl) rfl dX2_init_20 ?_
  refine N_aload_n F dX2_init_23 rfl 0 rfl ?_
  refine N_iconst F (v := (0 : Int32)) dX2_init_24 rfl ?_
  refine N_put F (C := RX2) (T := TX2) (N := 4) (ci := 2) (k := 3) (q0 := 0) (ty := tyX2 3) (ws' := [(h0, .inr (2, [.ref q1, .int 0, .int 0, .int 0])), (q1, .inl (E.2.1, 200, .inl (fun _ => 0)))]) inGX2 tyX2 tyX2_ok nmX2 rfl rfl (by decide) wd_31 rfl (tyX2_ok 3 (by decide)) rfl rfl (Nat.le_of_ble_eq_true rfl) rfl dX2_init_25 ?_
  exact N_vret (Rr := rX2 E h0) F dX2_init_28 ⟨q1, rfl⟩
def rX0 (E : En) (h0 : Nat) (w : va_W) : Prop := ∃ q1 q2 q3 : Nat, w = [(h0, .inr (0, [.ref q1, .ref q2, .ref q3, .int 0])), (q1, .inl (E.2.1, 6, .inl (fun _ => 0))), (q2, .inl (E.2.1, 6, .inl (fun _ => 0))), (q3, .inl (E.2.1, 6, .inl (fun _ => 0)))]
set_option maxHeartbeats 4000000 in
set_option maxRecDepth 100000 in
theorem n_X0_init {l : Launch} {E : En} : CtN l yX0_init cX0_init 1 1 20 E 0 [.null, .null, .null, .int 0] 3 18 (rX0 E) := by
  refine N_start (own := RX0) pnX0 rfl rfl (Nat.le_of_ble_eq_true rfl) (fun p e s m args below meth c A h0 F hi => ?_)
  refine N_aload_n F dX0_init_0 rfl 0 rfl ?_
  refine N_objInit F we_220 we_19 we_20 (by decide) (by decide) (by decide) dX0_init_1 ?_
  refine N_aload_n F dX0_init_4 rfl 0 rfl ?_
  refine N_bipush F (v := (6 : Int32)) dX0_init_5 rfl ?_
  refine N_newI F (L := 6) we_41 (by decide) (by decide) (by decide) (Nat.le_of_ble_eq_true rfl) (Nat.le_of_ble_eq_true rfl) dX0_init_7 (fun q1 => ?_)
  show JL _ _ _ _ _ _ _ _ _ _ _ _ _ _ 1 6 [(h0, .inr (0, [.null, .null, .null, .int 0])), (q1, .inl (E.2.1, 6, .inl (fun _ => 0)))] _ _ _
  refine N_putF F (C := RX0) (T := TX0) (N := 4) (ci := 0) (k := 0) (q0 := 0) (ty := tyX0 0) (ws' := [(h0, .inr (0, [.ref q1, .null, .null, .int 0])), (q1, .inl (E.2.1, 6, .inl (fun _ => 0)))]) hi inGX0 tyX0 tyX0_ok nmX0 rfl rfl (by decide) wd_221 rfl rfl (tyX0_ok 0 (by decide)) rfl rfl (Nat.le_of_ble_eq_true rfl) rfl dX0_init_9 ?_
  refine N_aload_n F dX0_init_12 rfl 0 rfl ?_
  refine N_bipush F (v := (6 : Int32)) dX0_init_13 rfl ?_
  refine N_newI F (L := 6) we_41 (by decide) (by decide) (by decide) (Nat.le_of_ble_eq_true rfl) (Nat.le_of_ble_eq_true rfl) dX0_init_15 (fun q2 => ?_)
  show JL _ _ _ _ _ _ _ _ _ _ _ _ _ _ 2 12 [(h0, .inr (0, [.ref q1, .null, .null, .int 0])), (q1, .inl (E.2.1, 6, .inl (fun _ => 0))), (q2, .inl (E.2.1, 6, .inl (fun _ => 0)))] _ _ _
  refine N_putF F (C := RX0) (T := TX0) (N := 4) (ci := 0) (k := 1) (q0 := 0) (ty := tyX0 1) (ws' := [(h0, .inr (0, [.ref q1, .ref q2, .null, .int 0])), (q1, .inl (E.2.1, 6, .inl (fun _ => 0))), (q2, .inl (E.2.1, 6, .inl (fun _ => 0)))]) hi inGX0 tyX0 tyX0_ok nmX0 rfl rfl (by decide) wd_222 rfl rfl (tyX0_ok 1 (by decide)) rfl rfl (Nat.le_of_ble_eq_true rfl) rfl dX0_init_17 ?_
  refine N_aload_n F dX0_init_20 rfl 0 rfl ?_
  refine N_bipush F (v := (6 : Int32)) dX0_init_21 rfl ?_
  refine N_newI F (L := 6) we_41 (by decide) (by decide) (by decide) (Nat.le_of_ble_eq_true rfl) (Nat.le_of_ble_eq_true rfl) dX0_init_23 (fun q3 => ?_)
  show JL _ _ _ _ _ _ _ _ _ _ _ _ _ _ 3 18 [(h0, .inr (0, [.ref q1, .ref q2, .null, .int 0])), (q1, .inl (E.2.1, 6, .inl (fun _ => 0))), (q2, .inl (E.2.1, 6, .inl (fun _ => 0))), (q3, .inl (E.2.1, 6, .inl (fun _ => 0)))] _ _ _
  refine N_putF F (C := RX0) (T := TX0) (N := 4) (ci := 0) (k := 2) (q0 := 0) (ty := tyX0 2) (ws' := [(h0, .inr (0, [.ref q1, .ref q2, .ref q3, .int 0])), (q1, .inl (E.2.1, 6, .inl (fun _ => 0))), (q2, .inl (E.2.1, 6, .inl (fun _ => 0))), (q3, .inl (E.2.1, 6, .inl (fun _ => 0)))]) hi inGX0 tyX0 tyX0_ok nmX0 rfl rfl (by decide) wd_223 rfl rfl (tyX0_ok 2 (by decide)) rfl rfl (Nat.le_of_ble_eq_true rfl) rfl dX0_init_25 ?_
  refine N_aload_n F dX0_init_28 rfl 0 rfl ?_
  refine N_iconst F (v := (0 : Int32)) dX0_init_29 rfl ?_
  refine N_put F (C := RX0) (T := TX0) (N := 4) (ci := 0) (k := 3) (q0 := 0) (ty := tyX0 3) (ws' := [(h0, .inr (0, [.ref q1, .ref q2, .ref q3, .int 0])), (q1, .inl (E.2.1, 6, .inl (fun _ => 0))), (q2, .inl (E.2.1, 6, .inl (fun _ => 0))), (q3, .inl (E.2.1, 6, .inl (fun _ => 0)))]) inGX0 tyX0 tyX0_ok nmX0 rfl rfl (by decide) wd_224 rfl (tyX0_ok 3 (by decide)) rfl rfl (Nat.le_of_ble_eq_true rfl) rfl dX0_init_30 ?_
  exact N_vret (Rr := rX0 E h0) F dX0_init_33 ⟨q1, q2, q3, rfl⟩
