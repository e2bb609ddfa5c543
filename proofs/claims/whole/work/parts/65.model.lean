/-! LastTongueModel's constructor, by program out of its bytecode -/
theorem we_235 : Cond.arrayClass .byte ∈ gtbl := gtbl_of (List.mem_append_right _ (List.mem_of_getElem? (i := 235) (by decide +kernel))) rfl
theorem we_597 : Cond.methodLink RX4 1 Lib.objectInit ∈ gtbl := gtbl_of (List.mem_append_right _ (List.mem_of_getElem? (i := 597) (by decide +kernel))) rfl
def adL (l : List Nat) : Nat → Nat := fun k => l.getD k 0
def GM (E : En) (ad : Nat → Nat) : Lay := fun k f => match k with
  | 0 => .inr (4, [.int (f 0), .ref (ad 1), .int (f 1), .int (f 2), .int (f 3), .ref (ad 2), .int (f 4), .int (f 5), .ref (ad 3), .int (f 6), .int (f 7), .int (f 8), .ref (ad 4), .int (f 9), .int (f 10), .int (f 11), .int (f 12), .ref (ad 5), .ref (ad 6), .ref (ad 7), .ref (ad 8), .ref (ad 9)])
  | 1 => .inl (E.2.1, 8, .inl f)
  | 2 => .inl (E.2.1, 8, .inl f)
  | 3 => .inl (E.2.1, 1092, .inl f)
  | 4 => .inl (E.2.2.1, 200, .inl f)
  | 5 => .inl (E.2.1, 6, .inl f)
  | 6 => .inl (E.2.1, 6, .inl f)
  | 7 => .inl (E.2.1, 6, .inl f)
  | 8 => .inl (E.2.1, 5, .inl f)
  | _ => .inl (E.2.1, 5, .inl f)
theorem GM_at {E : En} {ad : Nat → Nat} : ModAt E ad (GM E ad) 10 := ⟨by decide, fun _ => rfl, ⟨by decide, fun _ => rfl⟩, ⟨by decide, fun _ => rfl⟩, ⟨by decide, fun _ => rfl⟩, ⟨by decide, fun _ => rfl⟩, ⟨by decide, fun _ => rfl⟩, ⟨by decide, fun _ => rfl⟩, ⟨by decide, fun _ => rfl⟩, ⟨by decide, fun _ => rfl⟩, ⟨by decide, fun _ => rfl⟩⟩
theorem wl_I {A : Nat → Prop} {ad : Nat → Nat} {G : Lay} {n : Nat} {σ : St} {wr : va_W} (h : va_D A (wl ad G n σ ++ wr)) : adI ad n := fun i j hi hj e => h.1 i j (ad i, G i (σ i)) (ad j, G j (σ j)) (by rw [List.getElem?_append_left (by rw [wl_len]; exact hi), wl_get hi]) (by rw [List.getElem?_append_left (by rw [wl_len]; exact hj), wl_get hj]) e
theorem N_as {p : Program} {l : Launch} {e : Env} {R : Room} {s : State} {m : MethodId} {args : Array Value} {below : List Frame} {meth : Method} {c : Code} {E : En} {A : Nat → Prop} {Q : State → Prop} {nL kc ks : Nat} {ws ws' : va_W} {pc : Nat} {lv : List (Nat × Value)} {st : List Value} (h : ws = ws') (kk : JL p l e R s m args below meth c E A Q nL kc ks ws' pc lv st) : JL p l e R s m args below meth c E A Q nL kc ks ws pc lv st := h ▸ kk
theorem N_D {p : Program} {l : Launch} {e : Env} {R : Room} {s : State} {m : MethodId} {args : Array Value} {below : List Frame} {meth : Method} {c : Code} {E : En} {A : Nat → Prop} {Q : State → Prop} {nL kc ks : Nat} {ws : va_W} {pc : Nat} {lv : List (Nat × Value)} {st : List Value} (kk : va_D A ws → JL p l e R s m args below meth c E A Q nL kc ks ws pc lv st) : JL p l e R s m args below meth c E A Q nL kc ks ws pc lv st := fun H locs ls hls hP hD hS => kk hD H locs ls hls hP hD hS
def mInit : Option St := (f_X4_clears  (fun _ _ => 0)).bind (fun q1 => (f_X4_sits (0 : Int32) (5 : Int32) (w2 (w2 (w2 (w2 (w2 (w2 (w2 (w2 (w2 q1.2 0 3 (8 : Int32)) 2 (0 : Int32).toNatClampNeg (3 : Int32)) 2 (1 : Int32).toNatClampNeg (7 : Int32)) 2 (2 : Int32).toNatClampNeg (1 : Int32)) 2 (3 : Int32).toNatClampNeg (0 : Int32)) 2 (4 : Int32).toNatClampNeg (4 : Int32)) 2 (5 : Int32).toNatClampNeg (9 : Int32)) 2 (6 : Int32).toNatClampNeg (2 : Int32)) 2 (7 : Int32).toNatClampNeg (5 : Int32))).bind (fun q2 => (f_X4_has (0 : Int32) (3 : Int32) q2.2).bind (fun q3 => (f_X4_has (4 : Int32) (4 : Int32) q3.2).bind (fun q4 => (f_X4_sits (1 : Int32) (9 : Int32) q4.2).bind (fun q5 => (f_X4_has (1 : Int32) (7 : Int32) q5.2).bind (fun q6 => (f_X4_sits (2 : Int32) (3 : Int32) q6.2).bind (fun q7 => (f_X4_has (3 : Int32) (1 : Int32) q7.2).bind (fun q8 => (f_X4_has (5 : Int32) (9 : Int32) q8.2).bind (fun q9 => (f_X4_sits (3 : Int32) (12 : Int32) q9.2).bind (fun q10 => (f_X4_has (0 : Int32) (3 : Int32) q10.2).bind (fun q11 => (f_X4_has (1 : Int32) (7 : Int32) q11.2).bind (fun q12 => (f_X4_has (3 : Int32) (6 : Int32) q12.2).bind (fun q13 => (f_X4_sits (0 : Int32) (8 : Int32) q13.2).bind (fun q14 => (f_X4_settles  (w2 q14.2 0 5 (4 : Int32))).bind (fun q15 => some q15.2)))))))))))))))
def rX4 (E : En) (σ : St) (h0 : Nat) (w : va_W) : Prop := ∃ ad : Nat → Nat, w = wl ad (GM E ad) 10 σ ∧ ad 0 = h0
set_option maxHeartbeats 4000000 in
set_option maxRecDepth 100000 in
theorem n_X4_init {l : Launch} {E : En} {σ : St} (hf : mInit = some σ) : CtN l yX4_init cX4_init 1 3 80 E 4 [.int 0, .null, .int 0, .int 0, .int 0, .null, .int 0, .int 0, .null, .int 0, .int 0, .int 0, .null, .int 0, .int 0, .int 0, .int 0, .null, .null, .null, .null, .null] 9 1336 (rX4 E σ) := by
  unfold mInit at hf
  refine N_start (own := RX4) pnX4 rfl rfl (Nat.le_of_ble_eq_true rfl) (fun p e s m args below meth c A h0 F hi => ?_)
  refine N_aload_n F dX4_init_0 rfl 0 rfl ?_
  refine N_objInit F we_597 we_19 we_20 (by decide) (by decide) (by decide) dX4_init_1 ?_
  refine N_aload_n F dX4_init_4 rfl 0 rfl ?_
  refine N_bipush F (v := (8 : Int32)) dX4_init_5 rfl ?_
  refine N_newI F (L := 8) we_41 (by decide) (by decide) (by decide) (Nat.le_of_ble_eq_true rfl) (Nat.le_of_ble_eq_true rfl) dX4_init_7 (fun q1 => ?_)
  show JL _ _ _ _ _ _ _ _ _ _ _ _ _ _ 1 8 [(h0, .inr (4, [.int 0, .null, .int 0, .int 0, .int 0, .null, .int 0, .int 0, .null, .int 0, .int 0, .int 0, .null, .int 0, .int 0, .int 0, .int 0, .null, .null, .null, .null, .null])), (q1, .inl (E.2.1, 8, .inl (fun _ => 0)))] _ _ _
  refine N_putF F (C := RX4) (T := TX4) (N := 22) (ci := 4) (k := 1) (q0 := 0) (ty := tyX4 1) (ws' := [(h0, .inr (4, [.int 0, .ref q1, .int 0, .int 0, .int 0, .null, .int 0, .int 0, .null, .int 0, .int 0, .int 0, .null, .int 0, .int 0, .int 0, .int 0, .null, .null, .null, .null, .null])), (q1, .inl (E.2.1, 8, .inl (fun _ => 0)))]) hi inGX4 tyX4 tyX4_ok nmX4 rfl rfl (by decide) wd_619 rfl rfl (tyX4_ok 1 (by decide)) rfl rfl (Nat.le_of_ble_eq_true rfl) rfl dX4_init_9 ?_
  refine N_aload_n F dX4_init_12 rfl 0 rfl ?_
  refine N_bipush F (v := (8 : Int32)) dX4_init_13 rfl ?_
  refine N_newI F (L := 8) we_41 (by decide) (by decide) (by decide) (Nat.le_of_ble_eq_true rfl) (Nat.le_of_ble_eq_true rfl) dX4_init_15 (fun q2 => ?_)
  show JL _ _ _ _ _ _ _ _ _ _ _ _ _ _ 2 16 [(h0, .inr (4, [.int 0, .ref q1, .int 0, .int 0, .int 0, .null, .int 0, .int 0, .null, .int 0, .int 0, .int 0, .null, .int 0, .int 0, .int 0, .int 0, .null, .null, .null, .null, .null])), (q1, .inl (E.2.1, 8, .inl (fun _ => 0))), (q2, .inl (E.2.1, 8, .inl (fun _ => 0)))] _ _ _
  refine N_putF F (C := RX4) (T := TX4) (N := 22) (ci := 4) (k := 5) (q0 := 0) (ty := tyX4 5) (ws' := [(h0, .inr (4, [.int 0, .ref q1, .int 0, .int 0, .int 0, .ref q2, .int 0, .int 0, .null, .int 0, .int 0, .int 0, .null, .int 0, .int 0, .int 0, .int 0, .null, .null, .null, .null, .null])), (q1, .inl (E.2.1, 8, .inl (fun _ => 0))), (q2, .inl (E.2.1, 8, .inl (fun _ => 0)))]) hi inGX4 tyX4 tyX4_ok nmX4 rfl rfl (by decide) wd_623 rfl rfl (tyX4_ok 5 (by decide)) rfl rfl (Nat.le_of_ble_eq_true rfl) rfl dX4_init_17 ?_
  refine N_aload_n F dX4_init_20 rfl 0 rfl ?_
  refine N_sipush F (v := (1092 : Int32)) dX4_init_21 rfl ?_
  refine N_newI F (L := 1092) we_41 (by decide) (by decide) (by decide) (Nat.le_of_ble_eq_true rfl) (Nat.le_of_ble_eq_true rfl) dX4_init_24 (fun q3 => ?_)
  show JL _ _ _ _ _ _ _ _ _ _ _ _ _ _ 3 1108 [(h0, .inr (4, [.int 0, .ref q1, .int 0, .int 0, .int 0, .ref q2, .int 0, .int 0, .null, .int 0, .int 0, .int 0, .null, .int 0, .int 0, .int 0, .int 0, .null, .null, .null, .null, .null])), (q1, .inl (E.2.1, 8, .inl (fun _ => 0))), (q2, .inl (E.2.1, 8, .inl (fun _ => 0))), (q3, .inl (E.2.1, 1092, .inl (fun _ => 0)))] _ _ _
  refine N_putF F (C := RX4) (T := TX4) (N := 22) (ci := 4) (k := 8) (q0 := 0) (ty := tyX4 8) (ws' := [(h0, .inr (4, [.int 0, .ref q1, .int 0, .int 0, .int 0, .ref q2, .int 0, .int 0, .ref q3, .int 0, .int 0, .int 0, .null, .int 0, .int 0, .int 0, .int 0, .null, .null, .null, .null, .null])), (q1, .inl (E.2.1, 8, .inl (fun _ => 0))), (q2, .inl (E.2.1, 8, .inl (fun _ => 0))), (q3, .inl (E.2.1, 1092, .inl (fun _ => 0)))]) hi inGX4 tyX4 tyX4_ok nmX4 rfl rfl (by decide) wd_626 rfl rfl (tyX4_ok 8 (by decide)) rfl rfl (Nat.le_of_ble_eq_true rfl) rfl dX4_init_26 ?_
  refine N_aload_n F dX4_init_29 rfl 0 rfl ?_
  refine N_sipush F (v := (200 : Int32)) dX4_init_30 rfl ?_
  refine N_newB F (L := 200) we_235 (by decide) (by decide) (by decide) (Nat.le_of_ble_eq_true rfl) (Nat.le_of_ble_eq_true rfl) dX4_init_33 (fun q4 => ?_)
  show JL _ _ _ _ _ _ _ _ _ _ _ _ _ _ 4 1308 [(h0, .inr (4, [.int 0, .ref q1, .int 0, .int 0, .int 0, .ref q2, .int 0, .int 0, .ref q3, .int 0, .int 0, .int 0, .null, .int 0, .int 0, .int 0, .int 0, .null, .null, .null, .null, .null])), (q1, .inl (E.2.1, 8, .inl (fun _ => 0))), (q2, .inl (E.2.1, 8, .inl (fun _ => 0))), (q3, .inl (E.2.1, 1092, .inl (fun _ => 0))), (q4, .inl (E.2.2.1, 200, .inl (fun _ => 0)))] _ _ _
  refine N_putF F (C := RX4) (T := TX4) (N := 22) (ci := 4) (k := 12) (q0 := 0) (ty := tyX4 12) (ws' := [(h0, .inr (4, [.int 0, .ref q1, .int 0, .int 0, .int 0, .ref q2, .int 0, .int 0, .ref q3, .int 0, .int 0, .int 0, .ref q4, .int 0, .int 0, .int 0, .int 0, .null, .null, .null, .null, .null])), (q1, .inl (E.2.1, 8, .inl (fun _ => 0))), (q2, .inl (E.2.1, 8, .inl (fun _ => 0))), (q3, .inl (E.2.1, 1092, .inl (fun _ => 0))), (q4, .inl (E.2.2.1, 200, .inl (fun _ => 0)))]) hi inGX4 tyX4 tyX4_ok nmX4 rfl rfl (by decide) wd_630 rfl rfl (tyX4_ok 12 (by decide)) rfl rfl (Nat.le_of_ble_eq_true rfl) rfl dX4_init_35 ?_
  refine N_aload_n F dX4_init_38 rfl 0 rfl ?_
  refine N_bipush F (v := (6 : Int32)) dX4_init_39 rfl ?_
  refine N_newI F (L := 6) we_41 (by decide) (by decide) (by decide) (Nat.le_of_ble_eq_true rfl) (Nat.le_of_ble_eq_true rfl) dX4_init_41 (fun q5 => ?_)
  show JL _ _ _ _ _ _ _ _ _ _ _ _ _ _ 5 1314 [(h0, .inr (4, [.int 0, .ref q1, .int 0, .int 0, .int 0, .ref q2, .int 0, .int 0, .ref q3, .int 0, .int 0, .int 0, .ref q4, .int 0, .int 0, .int 0, .int 0, .null, .null, .null, .null, .null])), (q1, .inl (E.2.1, 8, .inl (fun _ => 0))), (q2, .inl (E.2.1, 8, .inl (fun _ => 0))), (q3, .inl (E.2.1, 1092, .inl (fun _ => 0))), (q4, .inl (E.2.2.1, 200, .inl (fun _ => 0))), (q5, .inl (E.2.1, 6, .inl (fun _ => 0)))] _ _ _
  refine N_putF F (C := RX4) (T := TX4) (N := 22) (ci := 4) (k := 17) (q0 := 0) (ty := tyX4 17) (ws' := [(h0, .inr (4, [.int 0, .ref q1, .int 0, .int 0, .int 0, .ref q2, .int 0, .int 0, .ref q3, .int 0, .int 0, .int 0, .ref q4, .int 0, .int 0, .int 0, .int 0, .ref q5, .null, .null, .null, .null])), (q1, .inl (E.2.1, 8, .inl (fun _ => 0))), (q2, .inl (E.2.1, 8, .inl (fun _ => 0))), (q3, .inl (E.2.1, 1092, .inl (fun _ => 0))), (q4, .inl (E.2.2.1, 200, .inl (fun _ => 0))), (q5, .inl (E.2.1, 6, .inl (fun _ => 0)))]) hi inGX4 tyX4 tyX4_ok nmX4 rfl rfl (by decide) wd_635 rfl rfl (tyX4_ok 17 (by decide)) rfl rfl (Nat.le_of_ble_eq_true rfl) rfl dX4_init_43 ?_
  refine N_aload_n F dX4_init_46 rfl 0 rfl ?_
  refine N_bipush F (v := (6 : Int32)) dX4_init_47 rfl ?_
  refine N_newI F (L := 6) we_41 (by decide) (by decide) (by decide) (Nat.le_of_ble_eq_true rfl) (Nat.le_of_ble_eq_true rfl) dX4_init_49 (fun q6 => ?_)
  show JL _ _ _ _ _ _ _ _ _ _ _ _ _ _ 6 1320 [(h0, .inr (4, [.int 0, .ref q1, .int 0, .int 0, .int 0, .ref q2, .int 0, .int 0, .ref q3, .int 0, .int 0, .int 0, .ref q4, .int 0, .int 0, .int 0, .int 0, .ref q5, .null, .null, .null, .null])), (q1, .inl (E.2.1, 8, .inl (fun _ => 0))), (q2, .inl (E.2.1, 8, .inl (fun _ => 0))), (q3, .inl (E.2.1, 1092, .inl (fun _ => 0))), (q4, .inl (E.2.2.1, 200, .inl (fun _ => 0))), (q5, .inl (E.2.1, 6, .inl (fun _ => 0))), (q6, .inl (E.2.1, 6, .inl (fun _ => 0)))] _ _ _
  refine N_putF F (C := RX4) (T := TX4) (N := 22) (ci := 4) (k := 18) (q0 := 0) (ty := tyX4 18) (ws' := [(h0, .inr (4, [.int 0, .ref q1, .int 0, .int 0, .int 0, .ref q2, .int 0, .int 0, .ref q3, .int 0, .int 0, .int 0, .ref q4, .int 0, .int 0, .int 0, .int 0, .ref q5, .ref q6, .null, .null, .null])), (q1, .inl (E.2.1, 8, .inl (fun _ => 0))), (q2, .inl (E.2.1, 8, .inl (fun _ => 0))), (q3, .inl (E.2.1, 1092, .inl (fun _ => 0))), (q4, .inl (E.2.2.1, 200, .inl (fun _ => 0))), (q5, .inl (E.2.1, 6, .inl (fun _ => 0))), (q6, .inl (E.2.1, 6, .inl (fun _ => 0)))]) hi inGX4 tyX4 tyX4_ok nmX4 rfl rfl (by decide) wd_636 rfl rfl (tyX4_ok 18 (by decide)) rfl rfl (Nat.le_of_ble_eq_true rfl) rfl dX4_init_51 ?_
  refine N_aload_n F dX4_init_54 rfl 0 rfl ?_
  refine N_bipush F (v := (6 : Int32)) dX4_init_55 rfl ?_
  refine N_newI F (L := 6) we_41 (by decide) (by decide) (by decide) (Nat.le_of_ble_eq_true rfl) (Nat.le_of_ble_eq_true rfl) dX4_init_57 (fun q7 => ?_)
  show JL _ _ _ _ _ _ _ _ _ _ _ _ _ _ 7 1326 [(h0, .inr (4, [.int 0, .ref q1, .int 0, .int 0, .int 0, .ref q2, .int 0, .int 0, .ref q3, .int 0, .int 0, .int 0, .ref q4, .int 0, .int 0, .int 0, .int 0, .ref q5, .ref q6, .null, .null, .null])), (q1, .inl (E.2.1, 8, .inl (fun _ => 0))), (q2, .inl (E.2.1, 8, .inl (fun _ => 0))), (q3, .inl (E.2.1, 1092, .inl (fun _ => 0))), (q4, .inl (E.2.2.1, 200, .inl (fun _ => 0))), (q5, .inl (E.2.1, 6, .inl (fun _ => 0))), (q6, .inl (E.2.1, 6, .inl (fun _ => 0))), (q7, .inl (E.2.1, 6, .inl (fun _ => 0)))] _ _ _
  refine N_putF F (C := RX4) (T := TX4) (N := 22) (ci := 4) (k := 19) (q0 := 0) (ty := tyX4 19) (ws' := [(h0, .inr (4, [.int 0, .ref q1, .int 0, .int 0, .int 0, .ref q2, .int 0, .int 0, .ref q3, .int 0, .int 0, .int 0, .ref q4, .int 0, .int 0, .int 0, .int 0, .ref q5, .ref q6, .ref q7, .null, .null])), (q1, .inl (E.2.1, 8, .inl (fun _ => 0))), (q2, .inl (E.2.1, 8, .inl (fun _ => 0))), (q3, .inl (E.2.1, 1092, .inl (fun _ => 0))), (q4, .inl (E.2.2.1, 200, .inl (fun _ => 0))), (q5, .inl (E.2.1, 6, .inl (fun _ => 0))), (q6, .inl (E.2.1, 6, .inl (fun _ => 0))), (q7, .inl (E.2.1, 6, .inl (fun _ => 0)))]) hi inGX4 tyX4 tyX4_ok nmX4 rfl rfl (by decide) wd_637 rfl rfl (tyX4_ok 19 (by decide)) rfl rfl (Nat.le_of_ble_eq_true rfl) rfl dX4_init_59 ?_
  refine N_aload_n F dX4_init_62 rfl 0 rfl ?_
  refine N_iconst F (v := (5 : Int32)) dX4_init_63 rfl ?_
  refine N_newI F (L := 5) we_41 (by decide) (by decide) (by decide) (Nat.le_of_ble_eq_true rfl) (Nat.le_of_ble_eq_true rfl) dX4_init_64 (fun q8 => ?_)
  show JL _ _ _ _ _ _ _ _ _ _ _ _ _ _ 8 1331 [(h0, .inr (4, [.int 0, .ref q1, .int 0, .int 0, .int 0, .ref q2, .int 0, .int 0, .ref q3, .int 0, .int 0, .int 0, .ref q4, .int 0, .int 0, .int 0, .int 0, .ref q5, .ref q6, .ref q7, .null, .null])), (q1, .inl (E.2.1, 8, .inl (fun _ => 0))), (q2, .inl (E.2.1, 8, .inl (fun _ => 0))), (q3, .inl (E.2.1, 1092, .inl (fun _ => 0))), (q4, .inl (E.2.2.1, 200, .inl (fun _ => 0))), (q5, .inl (E.2.1, 6, .inl (fun _ => 0))), (q6, .inl (E.2.1, 6, .inl (fun _ => 0))), (q7, .inl (E.2.1, 6, .inl (fun _ => 0))), (q8, .inl (E.2.1, 5, .inl (fun _ => 0)))] _ _ _
  refine N_putF F (C := RX4) (T := TX4) (N := 22) (ci := 4) (k := 20) (q0 := 0) (ty := tyX4 20) (ws' := [(h0, .inr (4, [.int 0, .ref q1, .int 0, .int 0, .int 0, .ref q2, .int 0, .int 0, .ref q3, .int 0, .int 0, .int 0, .ref q4, .int 0, .int 0, .int 0, .int 0, .ref q5, .ref q6, .ref q7, .ref q8, .null])), (q1, .inl (E.2.1, 8, .inl (fun _ => 0))), (q2, .inl (E.2.1, 8, .inl (fun _ => 0))), (q3, .inl (E.2.1, 1092, .inl (fun _ => 0))), (q4, .inl (E.2.2.1, 200, .inl (fun _ => 0))), (q5, .inl (E.2.1, 6, .inl (fun _ => 0))), (q6, .inl (E.2.1, 6, .inl (fun _ => 0))), (q7, .inl (E.2.1, 6, .inl (fun _ => 0))), (q8, .inl (E.2.1, 5, .inl (fun _ => 0)))]) hi inGX4 tyX4 tyX4_ok nmX4 rfl rfl (by decide) wd_638 rfl rfl (tyX4_ok 20 (by decide)) rfl rfl (Nat.le_of_ble_eq_true rfl) rfl dX4_init_66 ?_
  refine N_aload_n F dX4_init_69 rfl 0 rfl ?_
  refine N_iconst F (v := (5 : Int32)) dX4_init_70 rfl ?_
  refine N_newI F (L := 5) we_41 (by decide) (by decide) (by decide) (Nat.le_of_ble_eq_true rfl) (Nat.le_of_ble_eq_true rfl) dX4_init_71 (fun q9 => ?_)
  show JL _ _ _ _ _ _ _ _ _ _ _ _ _ _ 9 1336 [(h0, .inr (4, [.int 0, .ref q1, .int 0, .int 0, .int 0, .ref q2, .int 0, .int 0, .ref q3, .int 0, .int 0, .int 0, .ref q4, .int 0, .int 0, .int 0, .int 0, .ref q5, .ref q6, .ref q7, .ref q8, .null])), (q1, .inl (E.2.1, 8, .inl (fun _ => 0))), (q2, .inl (E.2.1, 8, .inl (fun _ => 0))), (q3, .inl (E.2.1, 1092, .inl (fun _ => 0))), (q4, .inl (E.2.2.1, 200, .inl (fun _ => 0))), (q5, .inl (E.2.1, 6, .inl (fun _ => 0))), (q6, .inl (E.2.1, 6, .inl (fun _ => 0))), (q7, .inl (E.2.1, 6, .inl (fun _ => 0))), (q8, .inl (E.2.1, 5, .inl (fun _ => 0))), (q9, .inl (E.2.1, 5, .inl (fun _ => 0)))] _ _ _
  refine N_putF F (C := RX4) (T := TX4) (N := 22) (ci := 4) (k := 21) (q0 := 0) (ty := tyX4 21) (ws' := [(h0, .inr (4, [.int 0, .ref q1, .int 0, .int 0, .int 0, .ref q2, .int 0, .int 0, .ref q3, .int 0, .int 0, .int 0, .ref q4, .int 0, .int 0, .int 0, .int 0, .ref q5, .ref q6, .ref q7, .ref q8, .ref q9])), (q1, .inl (E.2.1, 8, .inl (fun _ => 0))), (q2, .inl (E.2.1, 8, .inl (fun _ => 0))), (q3, .inl (E.2.1, 1092, .inl (fun _ => 0))), (q4, .inl (E.2.2.1, 200, .inl (fun _ => 0))), (q5, .inl (E.2.1, 6, .inl (fun _ => 0))), (q6, .inl (E.2.1, 6, .inl (fun _ => 0))), (q7, .inl (E.2.1, 6, .inl (fun _ => 0))), (q8, .inl (E.2.1, 5, .inl (fun _ => 0))), (q9, .inl (E.2.1, 5, .inl (fun _ => 0)))]) hi inGX4 tyX4 tyX4_ok nmX4 rfl rfl (by decide) wd_639 rfl rfl (tyX4_ok 21 (by decide)) rfl rfl (Nat.le_of_ble_eq_true rfl) rfl dX4_init_73 ?_
  refine N_as (ws' := wl (adL [h0, q1, q2, q3, q4, q5, q6, q7, q8, q9]) (GM E (adL [h0, q1, q2, q3, q4, q5, q6, q7, q8, q9])) 10 (fun _ _ => 0) ++ []) rfl ?_
  obtain ⟨ad, had⟩ : ∃ ad, adL [h0, q1, q2, q3, q4, q5, q6, q7, q8, q9] = ad := ⟨_, rfl⟩
  have h0e : h0 = ad 0 := by rw [← had]; rfl
  rw [had]
  clear had
  subst h0e
  refine N_D (fun hD => ?_)
  have hI : adI ad 10 := wl_I hD
  have hm : ModAt E ad (GM E ad) 10 := GM_at
  clear hD
  refine N_aload_n F dX4_init_76 rfl 0 rfl ?_
  obtain ⟨q1, e1, hf⟩ := Option.bind_eq_some_iff.mp hf
  refine N_callV F (b := 0) (c_X4_clears hI hm e1) (by decide) (by decide) (Nat.le_of_ble_eq_true rfl) (Nat.le_of_ble_eq_true rfl) (modN hm) (hm.2.1 _) rfl wc_X4_clears wd_598 rfl rfl (by decide) dX4_init_77 ?_
  refine N_aload_n F dX4_init_80 rfl 0 rfl ?_
  refine N_bipush F (v := (8 : Int32)) dX4_init_81 rfl ?_
  refine N_putW F (C := RX4) (T := TX4) (N := 22) (ci := 4) (k := 4) (j := 3) (ty := .int) (fs := fun f => [.int (f 0), .ref (ad 1), .int (f 1), .int (f 2), .int (f 3), .ref (ad 2), .int (f 4), .int (f 5), .ref (ad 3), .int (f 6), .int (f 7), .int (f 8), .ref (ad 4), .int (f 9), .int (f 10), .int (f 11), .int (f 12), .ref (ad 5), .ref (ad 6), .ref (ad 7), .ref (ad 8), .ref (ad 9)]) inGX4 rfl tyX4 tyX4_ok nmX4 (modN hm) hm.2.1 (by decide) rfl (by decide +kernel) rfl rfl (fun _ => Nat.le_of_ble_eq_true rfl) (fun _ => rfl) wd_622 dX4_init_83 ?_
  refine N_aload_n F dX4_init_86 rfl 0 rfl ?_
  refine N_getW F (C := RX4) (T := TX4) (N := 22) (k := 5) inGX4 rfl (modN hm) (hm.2.1 _) (by decide) wd_623 rfl dX4_init_87 ?_
  refine N_iconst F (v := (0 : Int32)) dX4_init_90 rfl ?_
  refine N_iconst F (v := (3 : Int32)) dX4_init_91 rfl ?_
  refine N_iastW F (k := 2) (L := 8) hm.2.2.2.1 (by decide) dX4_init_92 ?_
  refine N_aload_n F dX4_init_93 rfl 0 rfl ?_
  refine N_getW F (C := RX4) (T := TX4) (N := 22) (k := 5) inGX4 rfl (modN hm) (hm.2.1 _) (by decide) wd_623 rfl dX4_init_94 ?_
  refine N_iconst F (v := (1 : Int32)) dX4_init_97 rfl ?_
  refine N_bipush F (v := (7 : Int32)) dX4_init_98 rfl ?_
  refine N_iastW F (k := 2) (L := 8) hm.2.2.2.1 (by decide) dX4_init_100 ?_
  refine N_aload_n F dX4_init_101 rfl 0 rfl ?_
  refine N_getW F (C := RX4) (T := TX4) (N := 22) (k := 5) inGX4 rfl (modN hm) (hm.2.1 _) (by decide) wd_623 rfl dX4_init_102 ?_
  refine N_iconst F (v := (2 : Int32)) dX4_init_105 rfl ?_
  refine N_iconst F (v := (1 : Int32)) dX4_init_106 rfl ?_
  refine N_iastW F (k := 2) (L := 8) hm.2.2.2.1 (by decide) dX4_init_107 ?_
  refine N_aload_n F dX4_init_108 rfl 0 rfl ?_
  refine N_getW F (C := RX4) (T := TX4) (N := 22) (k := 5) inGX4 rfl (modN hm) (hm.2.1 _) (by decide) wd_623 rfl dX4_init_109 ?_
  refine N_iconst F (v := (3 : Int32)) dX4_init_112 rfl ?_
  refine N_iconst F (v := (0 : Int32)) dX4_init_113 rfl ?_
  refine N_iastW F (k := 2) (L := 8) hm.2.2.2.1 (by decide) dX4_init_114 ?_
  refine N_aload_n F dX4_init_115 rfl 0 rfl ?_
  refine N_getW F (C := RX4) (T := TX4) (N := 22) (k := 5) inGX4 rfl (modN hm) (hm.2.1 _) (by decide) wd_623 rfl dX4_init_116 ?_
  refine N_iconst F (v := (4 : Int32)) dX4_init_119 rfl ?_
  refine N_iconst F (v := (4 : Int32)) dX4_init_120 rfl ?_
  refine N_iastW F (k := 2) (L := 8) hm.2.2.2.1 (by decide) dX4_init_121 ?_
  refine N_aload_n F dX4_init_122 rfl 0 rfl ?_
  refine N_getW F (C := RX4) (T := TX4) (N := 22) (k := 5) inGX4 rfl (modN hm) (hm.2.1 _) (by decide) wd_623 rfl dX4_init_123 ?_
  refine N_iconst F (v := (5 : Int32)) dX4_init_126 rfl ?_
  refine N_bipush F (v := (9 : Int32)) dX4_init_127 rfl ?_
  refine N_iastW F (k := 2) (L := 8) hm.2.2.2.1 (by decide) dX4_init_129 ?_
  refine N_aload_n F dX4_init_130 rfl 0 rfl ?_
  refine N_getW F (C := RX4) (T := TX4) (N := 22) (k := 5) inGX4 rfl (modN hm) (hm.2.1 _) (by decide) wd_623 rfl dX4_init_131 ?_
  refine N_bipush F (v := (6 : Int32)) dX4_init_134 rfl ?_
  refine N_iconst F (v := (2 : Int32)) dX4_init_136 rfl ?_
  refine N_iastW F (k := 2) (L := 8) hm.2.2.2.1 (by decide) dX4_init_137 ?_
  refine N_aload_n F dX4_init_138 rfl 0 rfl ?_
  refine N_getW F (C := RX4) (T := TX4) (N := 22) (k := 5) inGX4 rfl (modN hm) (hm.2.1 _) (by decide) wd_623 rfl dX4_init_139 ?_
  refine N_bipush F (v := (7 : Int32)) dX4_init_142 rfl ?_
  refine N_iconst F (v := (5 : Int32)) dX4_init_144 rfl ?_
  refine N_iastW F (k := 2) (L := 8) hm.2.2.2.1 (by decide) dX4_init_145 ?_
  refine N_aload_n F dX4_init_146 rfl 0 rfl ?_
  refine N_iconst F (v := (0 : Int32)) dX4_init_147 rfl ?_
  refine N_iconst F (v := (5 : Int32)) dX4_init_148 rfl ?_
  obtain ⟨q2, e2, hf⟩ := Option.bind_eq_some_iff.mp hf
  refine N_callV F (b := 0) (c_X4_sits hI hm e2) (by decide) (by decide) (Nat.le_of_ble_eq_true rfl) (Nat.le_of_ble_eq_true rfl) (modN hm) (hm.2.1 _) rfl wc_X4_sits wd_602 rfl rfl (by decide) dX4_init_149 ?_
  refine N_aload_n F dX4_init_152 rfl 0 rfl ?_
  refine N_iconst F (v := (0 : Int32)) dX4_init_153 rfl ?_
  refine N_iconst F (v := (3 : Int32)) dX4_init_154 rfl ?_
  obtain ⟨q3, e3, hf⟩ := Option.bind_eq_some_iff.mp hf
  refine N_callV F (b := 0) (c_X4_has hI hm e3) (by decide) (by decide) (Nat.le_of_ble_eq_true rfl) (Nat.le_of_ble_eq_true rfl) (modN hm) (hm.2.1 _) rfl wc_X4_has wd_606 rfl rfl (by decide) dX4_init_155 ?_
  refine N_aload_n F dX4_init_158 rfl 0 rfl ?_
  refine N_iconst F (v := (4 : Int32)) dX4_init_159 rfl ?_
  refine N_iconst F (v := (4 : Int32)) dX4_init_160 rfl ?_
  obtain ⟨q4, e4, hf⟩ := Option.bind_eq_some_iff.mp hf
  refine N_callV F (b := 0) (c_X4_has hI hm e4) (by decide) (by decide) (Nat.le_of_ble_eq_true rfl) (Nat.le_of_ble_eq_true rfl) (modN hm) (hm.2.1 _) rfl wc_X4_has wd_606 rfl rfl (by decide) dX4_init_161 ?_
  refine N_aload_n F dX4_init_164 rfl 0 rfl ?_
  refine N_iconst F (v := (1 : Int32)) dX4_init_165 rfl ?_
  refine N_bipush F (v := (9 : Int32)) dX4_init_166 rfl ?_
  obtain ⟨q5, e5, hf⟩ := Option.bind_eq_some_iff.mp hf
  refine N_callV F (b := 0) (c_X4_sits hI hm e5) (by decide) (by decide) (Nat.le_of_ble_eq_true rfl) (Nat.le_of_ble_eq_true rfl) (modN hm) (hm.2.1 _) rfl wc_X4_sits wd_602 rfl rfl (by decide) dX4_init_168 ?_
  refine N_aload_n F dX4_init_171 rfl 0 rfl ?_
  refine N_iconst F (v := (1 : Int32)) dX4_init_172 rfl ?_
  refine N_bipush F (v := (7 : Int32)) dX4_init_173 rfl ?_
  obtain ⟨q6, e6, hf⟩ := Option.bind_eq_some_iff.mp hf
  refine N_callV F (b := 0) (c_X4_has hI hm e6) (by decide) (by decide) (Nat.le_of_ble_eq_true rfl) (Nat.le_of_ble_eq_true rfl) (modN hm) (hm.2.1 _) rfl wc_X4_has wd_606 rfl rfl (by decide) dX4_init_175 ?_
  refine N_aload_n F dX4_init_178 rfl 0 rfl ?_
  refine N_iconst F (v := (2 : Int32)) dX4_init_179 rfl ?_
  refine N_iconst F (v := (3 : Int32)) dX4_init_180 rfl ?_
  obtain ⟨q7, e7, hf⟩ := Option.bind_eq_some_iff.mp hf
  refine N_callV F (b := 0) (c_X4_sits hI hm e7) (by decide) (by decide) (Nat.le_of_ble_eq_true rfl) (Nat.le_of_ble_eq_true rfl) (modN hm) (hm.2.1 _) rfl wc_X4_sits wd_602 rfl rfl (by decide) dX4_init_181 ?_
  refine N_aload_n F dX4_init_184 rfl 0 rfl ?_
  refine N_iconst F (v := (3 : Int32)) dX4_init_185 rfl ?_
  refine N_iconst F (v := (1 : Int32)) dX4_init_186 rfl ?_
  obtain ⟨q8, e8, hf⟩ := Option.bind_eq_some_iff.mp hf
  refine N_callV F (b := 0) (c_X4_has hI hm e8) (by decide) (by decide) (Nat.le_of_ble_eq_true rfl) (Nat.le_of_ble_eq_true rfl) (modN hm) (hm.2.1 _) rfl wc_X4_has wd_606 rfl rfl (by decide) dX4_init_187 ?_
  refine N_aload_n F dX4_init_190 rfl 0 rfl ?_
  refine N_iconst F (v := (5 : Int32)) dX4_init_191 rfl ?_
  refine N_bipush F (v := (9 : Int32)) dX4_init_192 rfl ?_
  obtain ⟨q9, e9, hf⟩ := Option.bind_eq_some_iff.mp hf
  refine N_callV F (b := 0) (c_X4_has hI hm e9) (by decide) (by decide) (Nat.le_of_ble_eq_true rfl) (Nat.le_of_ble_eq_true rfl) (modN hm) (hm.2.1 _) rfl wc_X4_has wd_606 rfl rfl (by decide) dX4_init_194 ?_
  refine N_aload_n F dX4_init_197 rfl 0 rfl ?_
  refine N_iconst F (v := (3 : Int32)) dX4_init_198 rfl ?_
  refine N_bipush F (v := (12 : Int32)) dX4_init_199 rfl ?_
  obtain ⟨q10, e10, hf⟩ := Option.bind_eq_some_iff.mp hf
  refine N_callV F (b := 0) (c_X4_sits hI hm e10) (by decide) (by decide) (Nat.le_of_ble_eq_true rfl) (Nat.le_of_ble_eq_true rfl) (modN hm) (hm.2.1 _) rfl wc_X4_sits wd_602 rfl rfl (by decide) dX4_init_201 ?_
  refine N_aload_n F dX4_init_204 rfl 0 rfl ?_
  refine N_iconst F (v := (0 : Int32)) dX4_init_205 rfl ?_
  refine N_iconst F (v := (3 : Int32)) dX4_init_206 rfl ?_
  obtain ⟨q11, e11, hf⟩ := Option.bind_eq_some_iff.mp hf
  refine N_callV F (b := 0) (c_X4_has hI hm e11) (by decide) (by decide) (Nat.le_of_ble_eq_true rfl) (Nat.le_of_ble_eq_true rfl) (modN hm) (hm.2.1 _) rfl wc_X4_has wd_606 rfl rfl (by decide) dX4_init_207 ?_
  refine N_aload_n F dX4_init_210 rfl 0 rfl ?_
  refine N_iconst F (v := (1 : Int32)) dX4_init_211 rfl ?_
  refine N_bipush F (v := (7 : Int32)) dX4_init_212 rfl ?_
  obtain ⟨q12, e12, hf⟩ := Option.bind_eq_some_iff.mp hf
  refine N_callV F (b := 0) (c_X4_has hI hm e12) (by decide) (by decide) (Nat.le_of_ble_eq_true rfl) (Nat.le_of_ble_eq_true rfl) (modN hm) (hm.2.1 _) rfl wc_X4_has wd_606 rfl rfl (by decide) dX4_init_214 ?_
  refine N_aload_n F dX4_init_217 rfl 0 rfl ?_
  refine N_iconst F (v := (3 : Int32)) dX4_init_218 rfl ?_
  refine N_bipush F (v := (6 : Int32)) dX4_init_219 rfl ?_
  obtain ⟨q13, e13, hf⟩ := Option.bind_eq_some_iff.mp hf
  refine N_callV F (b := 0) (c_X4_has hI hm e13) (by decide) (by decide) (Nat.le_of_ble_eq_true rfl) (Nat.le_of_ble_eq_true rfl) (modN hm) (hm.2.1 _) rfl wc_X4_has wd_606 rfl rfl (by decide) dX4_init_221 ?_
  refine N_aload_n F dX4_init_224 rfl 0 rfl ?_
  refine N_iconst F (v := (0 : Int32)) dX4_init_225 rfl ?_
  refine N_bipush F (v := (8 : Int32)) dX4_init_226 rfl ?_
  obtain ⟨q14, e14, hf⟩ := Option.bind_eq_some_iff.mp hf
  refine N_callV F (b := 0) (c_X4_sits hI hm e14) (by decide) (by decide) (Nat.le_of_ble_eq_true rfl) (Nat.le_of_ble_eq_true rfl) (modN hm) (hm.2.1 _) rfl wc_X4_sits wd_602 rfl rfl (by decide) dX4_init_228 ?_
  refine N_aload_n F dX4_init_231 rfl 0 rfl ?_
  refine N_iconst F (v := (4 : Int32)) dX4_init_232 rfl ?_
  refine N_putW F (C := RX4) (T := TX4) (N := 22) (ci := 4) (k := 7) (j := 5) (ty := .int) (fs := fun f => [.int (f 0), .ref (ad 1), .int (f 1), .int (f 2), .int (f 3), .ref (ad 2), .int (f 4), .int (f 5), .ref (ad 3), .int (f 6), .int (f 7), .int (f 8), .ref (ad 4), .int (f 9), .int (f 10), .int (f 11), .int (f 12), .ref (ad 5), .ref (ad 6), .ref (ad 7), .ref (ad 8), .ref (ad 9)]) inGX4 rfl tyX4 tyX4_ok nmX4 (modN hm) hm.2.1 (by decide) rfl (by decide +kernel) rfl rfl (fun _ => Nat.le_of_ble_eq_true rfl) (fun _ => rfl) wd_625 dX4_init_233 ?_
  refine N_aload_n F dX4_init_236 rfl 0 rfl ?_
  obtain ⟨q15, e15, hf⟩ := Option.bind_eq_some_iff.mp hf
  refine N_callV F (b := 0) (c_X4_settles hI hm e15) (by decide) (by decide) (Nat.le_of_ble_eq_true rfl) (Nat.le_of_ble_eq_true rfl) (modN hm) (hm.2.1 _) rfl wc_X4_settles wd_610 rfl rfl (by decide) dX4_init_237 ?_
  cases hf
  exact N_vret (Rr := rX4 E _ _) F dX4_init_240 ⟨ad, List.append_nil _, rfl⟩
