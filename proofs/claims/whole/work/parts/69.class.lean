/-! LastTongue's constructor -/
theorem we_18 : Cond.methodLink RX3 1 Lib.objectInit ∈ gtbl := gtbl_of (List.mem_append_right _ (List.mem_of_getElem? (i := 18) (by decide +kernel))) rfl
theorem we_21 : Cond.classLink RX3 7 RX2 ∈ gtbl := gtbl_of (List.mem_append_right _ (List.mem_of_getElem? (i := 21) (by decide +kernel))) rfl
theorem we_22 : Cond.instantiable RX2 4 ∈ gtbl := gtbl_of (List.mem_append_right _ (List.mem_of_getElem? (i := 22) (by decide +kernel))) rfl
theorem we_2 : Cond.initialized RX2 ∈ gtbl := gtbl_of (List.mem_append_right _ (List.mem_of_getElem? (i := 2) (by decide +kernel))) rfl
theorem we_23 : Cond.methodLink RX3 9 yX2_init ∈ gtbl := gtbl_of (List.mem_append_right _ (List.mem_of_getElem? (i := 23) (by decide +kernel))) rfl
theorem we_24 : Cond.instanceMethod yX2_init ∈ gtbl := gtbl_of (List.mem_append_right _ (List.mem_of_getElem? (i := 24) (by decide +kernel))) rfl
theorem we_25 : Cond.code yX2_init cX2_init 1 none ∈ gtbl := gtbl_of (List.mem_append_right _ (List.mem_of_getElem? (i := 25) (by decide +kernel))) rfl
theorem we_215 : Cond.classLink RX3 57 RX0 ∈ gtbl := gtbl_of (List.mem_append_right _ (List.mem_of_getElem? (i := 215) (by decide +kernel))) rfl
theorem we_216 : Cond.instantiable RX0 4 ∈ gtbl := gtbl_of (List.mem_append_right _ (List.mem_of_getElem? (i := 216) (by decide +kernel))) rfl
theorem we_9 : Cond.initialized RX0 ∈ gtbl := gtbl_of (List.mem_append_right _ (List.mem_of_getElem? (i := 9) (by decide +kernel))) rfl
theorem we_217 : Cond.methodLink RX3 59 yX0_init ∈ gtbl := gtbl_of (List.mem_append_right _ (List.mem_of_getElem? (i := 217) (by decide +kernel))) rfl
theorem we_218 : Cond.instanceMethod yX0_init ∈ gtbl := gtbl_of (List.mem_append_right _ (List.mem_of_getElem? (i := 218) (by decide +kernel))) rfl
theorem we_219 : Cond.code yX0_init cX0_init 1 none ∈ gtbl := gtbl_of (List.mem_append_right _ (List.mem_of_getElem? (i := 219) (by decide +kernel))) rfl
theorem wi_X2 : yX2_init.cls ≠ "java/lang/invoke/MethodHandle" ∧ yX2_init.cls ≠ "java/lang/invoke/VarHandle" ∧ (parseMethodDescriptor yX2_init.desc).map (fun d => d.parameters.length) = some 0 := ⟨by decide +kernel, by decide +kernel, by decide +kernel⟩
theorem wi_X0 : yX0_init.cls ≠ "java/lang/invoke/MethodHandle" ∧ yX0_init.cls ≠ "java/lang/invoke/VarHandle" ∧ (parseMethodDescriptor yX0_init.desc).map (fun d => d.parameters.length) = some 0 := ⟨by decide +kernel, by decide +kernel, by decide +kernel⟩
def tx0 : String := "t37104925;w0,5,3---4---;w1,9,-7------;w2,3,---1-9--;w3,12,37-6----;w0,8,--------;s4;"
theorem dfX2 : ∀ j, j < 4 → defaultValue (tyX2 j) = vp_V [.null, .int 0, .int 0, .int 0] j := by
  intro j hj
  rcases (show j = 0 ∨ j = 1 ∨ j = 2 ∨ j = 3 by omega) with rfl | rfl | rfl | rfl <;> rfl
theorem dfX0 : ∀ j, j < 4 → defaultValue (tyX0 j) = vp_V [.null, .null, .null, .int 0] j := by
  intro j hj
  rcases (show j = 0 ∨ j = 1 ∨ j = 2 ∨ j = 3 by omega) with rfl | rfl | rfl | rfl <;> rfl
def sF (σ : St) : St := fun k => if k < 11 then σ k else bS k
def rX3 (E : En) (σ : St) (h0 : Nat) (w : va_W) : Prop := ∃ ad : Nat → Nat, w = wl ad (GC E ad) 209 σ ∧ ad 208 = h0
theorem seg_cut {ad : Nat → Nat} {G : Lay} {σ : St} {a m m' b n : Nat} {X Y : va_W} (h1 : seg ad G σ a m = X) (h2 : seg ad G σ b m' = Y) (hb : a + m = b) (hn : m + m' = n) : seg ad G σ a n = X ++ Y := by
  subst hb; subst hn
  rw [seg_app, h1, h2]
set_option maxHeartbeats 4000000 in
set_option maxRecDepth 100000 in
theorem fin_eq {E : En} {a0 a1 a2 : Nat → Nat} {q9 : Nat} {t9 : Nat → Nat → Nat} {q8 : Nat} {t8 : Nat → Nat → Nat} {q2 : Nat} {t2 : Nat → Nat → Nat} {g0 g1 g2 g3 qp h0 : Nat} {σ : St} :
    wl a0 (GC E a0) 11 σ ++ tabW E a1 ++ tabW E a2 ++ (rowW E q9 9 9 t9 :: tabsW E t9 9) ++ (rowW E q8 8 8 t8 :: tabsW E t8 8) ++ (rowW E q2 2 2 t2 :: tabsW E t2 2) ++ [(g0, .inr (0, [.ref g1, .ref g2, .ref g3, .int 0])), (g1, .inl (E.2.1, 6, .inl (fun _ => 0))), (g2, .inl (E.2.1, 6, .inl (fun _ => 0))), (g3, .inl (E.2.1, 6, .inl (fun _ => 0)))] ++ [(qp, .inl (E.2.1, 10, .inl (fun _ => 0)))] ++ [(h0, .inr (3, [.ref (a0 0), .ref (a0 2), .ref (a1 0), .ref (a2 0), .ref q9, .ref q8, .ref q2, .ref g0, .ref qp, .int 0, .int 0, .int 0]))] = wl (adF a0 a1 a2 q9 t9 q8 t8 q2 t2 (adL [g0, g1, g2, g3]) qp h0) (GC E (adF a0 a1 a2 q9 t9 q8 t8 q2 t2 (adL [g0, g1, g2, g3]) qp h0)) 209 (sF σ) := by
  have f9 : (fun j => if j < 9 then some (adF a0 a1 a2 q9 t9 q8 t8 q2 t2 (adL [g0, g1, g2, g3]) qp h0 (29 + 1 + 9 * j)) else none) = fun j => if j < 9 then some (t9 j 0) else none := by
    funext j
    by_cases hj : j < 9
    · rw [if_pos hj, if_pos hj]
      rcases (show j = 0 ∨ j = 1 ∨ j = 2 ∨ j = 3 ∨ j = 4 ∨ j = 5 ∨ j = 6 ∨ j = 7 ∨ j = 8 by omega) with rfl | rfl | rfl | rfl | rfl | rfl | rfl | rfl | rfl <;> rfl
    · rw [if_neg hj, if_neg hj]
  have f8 : (fun j => if j < 8 then some (adF a0 a1 a2 q9 t9 q8 t8 q2 t2 (adL [g0, g1, g2, g3]) qp h0 (111 + 1 + 9 * j)) else none) = fun j => if j < 8 then some (t8 j 0) else none := by
    funext j
    by_cases hj : j < 8
    · rw [if_pos hj, if_pos hj]
      rcases (show j = 0 ∨ j = 1 ∨ j = 2 ∨ j = 3 ∨ j = 4 ∨ j = 5 ∨ j = 6 ∨ j = 7 by omega) with rfl | rfl | rfl | rfl | rfl | rfl | rfl | rfl <;> rfl
    · rw [if_neg hj, if_neg hj]
  have f2 : (fun j => if j < 2 then some (adF a0 a1 a2 q9 t9 q8 t8 q2 t2 (adL [g0, g1, g2, g3]) qp h0 (184 + 1 + 9 * j)) else none) = fun j => if j < 2 then some (t2 j 0) else none := by
    funext j
    by_cases hj : j < 2
    · rw [if_pos hj, if_pos hj]
      rcases (show j = 0 ∨ j = 1 by omega) with rfl | rfl <;> rfl
    · rw [if_neg hj, if_neg hj]
  have s3 : seg (adF a0 a1 a2 q9 t9 q8 t8 q2 t2 (adL [g0, g1, g2, g3]) qp h0) (GC E (adF a0 a1 a2 q9 t9 q8 t8 q2 t2 (adL [g0, g1, g2, g3]) qp h0)) (sF σ) 29 1 = [rowW E q9 9 9 t9] := by
    unfold rowW
    rw [← f9]
    rfl
  have s5 : seg (adF a0 a1 a2 q9 t9 q8 t8 q2 t2 (adL [g0, g1, g2, g3]) qp h0) (GC E (adF a0 a1 a2 q9 t9 q8 t8 q2 t2 (adL [g0, g1, g2, g3]) qp h0)) (sF σ) 111 1 = [rowW E q8 8 8 t8] := by
    unfold rowW
    rw [← f8]
    rfl
  have s7 : seg (adF a0 a1 a2 q9 t9 q8 t8 q2 t2 (adL [g0, g1, g2, g3]) qp h0) (GC E (adF a0 a1 a2 q9 t9 q8 t8 q2 t2 (adL [g0, g1, g2, g3]) qp h0)) (sF σ) 184 1 = [rowW E q2 2 2 t2] := by
    unfold rowW
    rw [← f2]
    rfl
  have s4 : seg (adF a0 a1 a2 q9 t9 q8 t8 q2 t2 (adL [g0, g1, g2, g3]) qp h0) (GC E (adF a0 a1 a2 q9 t9 q8 t8 q2 t2 (adL [g0, g1, g2, g3]) qp h0)) (sF σ) 30 (9 * 9) = tabsW E t9 9 := seg_tabs 9 (fun j hj => by
    rcases (show j = 0 ∨ j = 1 ∨ j = 2 ∨ j = 3 ∨ j = 4 ∨ j = 5 ∨ j = 6 ∨ j = 7 ∨ j = 8 by omega) with rfl | rfl | rfl | rfl | rfl | rfl | rfl | rfl | rfl <;> rfl)
  have s6 : seg (adF a0 a1 a2 q9 t9 q8 t8 q2 t2 (adL [g0, g1, g2, g3]) qp h0) (GC E (adF a0 a1 a2 q9 t9 q8 t8 q2 t2 (adL [g0, g1, g2, g3]) qp h0)) (sF σ) 112 (9 * 8) = tabsW E t8 8 := seg_tabs 8 (fun j hj => by
    rcases (show j = 0 ∨ j = 1 ∨ j = 2 ∨ j = 3 ∨ j = 4 ∨ j = 5 ∨ j = 6 ∨ j = 7 by omega) with rfl | rfl | rfl | rfl | rfl | rfl | rfl | rfl <;> rfl)
  have s8 : seg (adF a0 a1 a2 q9 t9 q8 t8 q2 t2 (adL [g0, g1, g2, g3]) qp h0) (GC E (adF a0 a1 a2 q9 t9 q8 t8 q2 t2 (adL [g0, g1, g2, g3]) qp h0)) (sF σ) 185 (9 * 2) = tabsW E t2 2 := seg_tabs 2 (fun j hj => by
    rcases (show j = 0 ∨ j = 1 by omega) with rfl | rfl <;> rfl)
  rw [wl_seg (n := 209)]
  refine (seg_cut (m := 208) (b := 208) (m' := 1) (seg_cut (m := 207) (b := 207) (m' := 1) (seg_cut (m := 203) (b := 203) (m' := 4) (seg_cut (m := 184) (b := 184) (m' := 19) (seg_cut (m := 111) (b := 111) (m' := 73) (seg_cut (m := 29) (b := 29) (m' := 82) (seg_cut (m := 20) (b := 20) (m' := 9) (seg_cut (m := 11) (b := 11) (m' := 9) ?_ ?_ rfl rfl) ?_ rfl rfl) (seg_cut (m := 1) (b := 30) (m' := 9 * 9) s3 s4 rfl rfl) rfl rfl) (seg_cut (m := 1) (b := 112) (m' := 9 * 8) s5 s6 rfl rfl) rfl rfl) (seg_cut (m := 1) (b := 185) (m' := 9 * 2) s7 s8 rfl rfl) rfl rfl) ?_ rfl rfl) ?_ rfl rfl) ?_ rfl rfl).symm
  all_goals rfl
section NX
variable {p : Program} {l : Launch} {e : Env} {R : Room} {s : State} {m : MethodId} {args : Array Value} {below : List Frame} {meth : Method} {c : Code} {E : En} {A : Nat → Prop} {Q : State → Prop} {nL kc ks : Nat} {ws wr : va_W} {pc : Nat} {lv : List (Nat × Value)} {st : List Value} {cc : ByteArray} {own : String} {ret : Option FieldType} {ad : Nat → Nat} {G : Lay} {n : Nat} {σ : St}
theorem N_ldcS (F : Fy p s m args meth c cc nL own E A ret) {idx k : Nat} {tx : String} (hR : vk_R own idx tx k s) (hdg : decode cc pc = .ok (.ldc idx, 2)) (kk : JL p l e R s m args below meth c E A Q nL kc ks ws (pc + 2) lv (.ref k :: st)) : JL p l e R s m args below meth c E A Q nL kc ks ws pc lv st := fun H locs ls hls hP hD hS => va_ldcS F.1 F.2.1 F.2.2.2.1 hR hdg (kk H locs ls hls hP hD hS)
theorem N_callTake (F : Fy p s m args meth c cc nL own E A ret) {k v idx : Nat} {rest : List Value} (hSP : SP k v A s s.heap) (hT : TxtAt E ad G n) (hfr : 5 ≤ R.frames) (hlo : 182 ≤ R.locals) (hc : kc ≤ R.cells) (hs : ks ≤ R.slots) (hw : Cond.methodLink own idx yX2_take ∈ gtbl) (hcat : (rest.map fun v => v.category).sum ≤ 8) (hdg : decode cc pc = .ok (.invokevirtual idx, 3)) (kk : JL p l e R s m args below meth c E A Q nL kc ks (wl ad G n (tkS σ 84) ++ wr) (pc + 3) lv rest) : JL p l e R s m args below meth c E A Q nL kc ks (wl ad G n σ ++ wr) pc lv (.ref k :: .ref (ad 0) :: rest) := by
  refine N_D (fun hD => ?_)
  have hI := wl_I hD
  obtain ⟨dA, -, -⟩ := D_laid (σ' := σ) hD
  obtain ⟨w0, w1, w2, w3, w4⟩ := wc_X2_take
  have hts := F.2.2.2.2.1
  refine N_run (o := none) (rest := rest) (a := ([.ref (ad 0), .ref k] : List Value).toArray) (σ' := tkS σ 84) (fun H locs ls hls hP hS => ?_) kk
  have he : (wl ad G n σ)[0]? = some (ad 0, .inr (2, [.ref (ad 1), .int (σ 0 0), .int (σ 0 1), .int (σ 0 2)])) := by rw [wl_get (txtN hT), hT.2.1]
  exact va_runV (Ts := gtbl) (C := yX2_take.cls) (As := [.ref k]) ⟨F.1, F.2.1, F.2.2.1, F.2.2.2.1, hts⟩ (c_X2_take hI hT) ⟨callB_of 1 hts (gcons w3) rfl rfl rfl (hts _ w2) (hts _ hw) w4 ⟨hfr, hlo⟩, hts _ w0, hts _ w1⟩ ⟨WS_blind, va_recv F.2.2.2.2.2.2.1 hP (show vwCl[2]? = some (yX2_take.cls, TX2, 4) from rfl) he, fun U hU hW => ⟨rfl, ⟨by rw [hU]; exact hP, va_K.moved hW.alike F.2.2.2.2.2.2.1, NWs.warm hW F.2.2.2.2.2.1⟩, by show SP k v (adA ad n) U U.heap; rw [hU]; exact ((hSP.kept hS.2.1).narrow dA).moved hW.alike⟩⟩ rfl rfl hls.1 rfl (lv_room hcat) hdg ⟨hc, hs⟩
end NX
def CtC (l : Launch) (E : En) (σ : St) (k v : Nat) : Prop := ∀ (h0 sz : Nat), Met l yX3_init (.code yX3_init cX3_init 3 none :: gtbl) { frames := 6, cells := 208, slots := 3005, locals := 240 } (va_Pc [.ref h0] (fun U => U.heap.size = sz ∧ va_P E.1 vwCl [(h0, .inr (3, [.null, .null, .null, .null, .null, .null, .null, .null, .null, .int 0, .int 0, .int 0]))] U.heap ∧ va_K E.1 vwCl (tysE E) U ∧ NWs U ∧ va_AO RX1 U ∧ vk_R RX3 15 tx0 k U ∧ SP k v (va_A [(h0, .inr (3, [.null, .null, .null, .null, .null, .null, .null, .null, .null, .int 0, .int 0, .int 0]))] sz) U U.heap)) (va_Qv (fun w : va_W => rX3 E σ h0 w) (fun w t => va_P E.1 vwCl w t.heap ∧ va_D (va_A [(h0, .inr (3, [.null, .null, .null, .null, .null, .null, .null, .null, .null, .int 0, .int 0, .int 0]))] sz) w) (va_A [(h0, .inr (3, [.null, .null, .null, .null, .null, .null, .null, .null, .null, .int 0, .int 0, .int 0]))] sz)) 208 3005 (va_A [(h0, .inr (3, [.null, .null, .null, .null, .null, .null, .null, .null, .null, .int 0, .int 0, .int 0]))] sz)
set_option maxHeartbeats 4000000 in
set_option maxRecDepth 100000 in
theorem n_X3_init {l : Launch} {E : En} {r : Int32 × St} {k v : Nat} (hf : f_X2_readInto 2 (tkS bS 84) = some r) : CtC l E (sF (w2 r.2 0 0 (0 : Int32))) k v := by
  intro h0 sz
  refine Met.ofW (cc := cX3_init) (maxL := 3) (ret := none) pnX3 rfl ?_
  intro p e s m args below meth c s₁ B hml hv
  obtain ⟨rfl, hsz, hP, hK, hN, hAO, hR, hSP⟩ := hv
  have hts := atoms_spec (ws := .code yX3_init cX3_init 3 none :: gtbl) B.pre
  have hi : meth.name = "<init>" := ((name_of_methodNamed B.named B.method).1).trans rfl
  subst hsz
  have hD0 : va_D (fun _ => True) [(h0, (.inr (3, [.null, .null, .null, .null, .null, .null, .null, .null, .null, .int 0, .int 0, .int 0]) : va_E))] := ⟨fun i j x z hi hj _ => by
    have a : i < 1 := (List.getElem?_eq_some_iff.mp hi).1
    have b : j < 1 := (List.getElem?_eq_some_iff.mp hj).1
    omega, fun _ _ _ => trivial⟩
  have hD := hD0.self (sz := s.heap.size)
  obtain ⟨A, hAe⟩ : ∃ A, va_A [(h0, (.inr (3, [.null, .null, .null, .null, .null, .null, .null, .null, .null, .int 0, .int 0, .int 0]) : va_E))] s.heap.size = A := ⟨_, rfl⟩
  have hA : ∀ q : Nat, s.heap.size ≤ q → A q := fun q h => hAe ▸ Or.inr h
  rw [hAe] at hD hSP ⊢
  have F : Fy p s m ([.ref h0] : List Value).toArray meth c cX3_init 3 RX3 E A none := ⟨B.exec, B.bytes, hml, findClass_of_methodNamed B.named, fun w hw => hts w (List.mem_cons_of_mem _ hw), hN, hK, hA, B.returns, B.notSynchronized⟩
  have start : JL p l e { frames := 6, cells := 208, slots := 3005, locals := 240 } s m ([.ref h0] : List Value).toArray below meth c E A (MQ below (va_Qv (fun w : va_W => rX3 E (sF (w2 r.2 0 0 (0 : Int32))) h0 w) (fun w t => va_P E.1 vwCl w t.heap ∧ va_D A w) A) ([.ref h0] : List Value).toArray s 208 3005 A) 3 0 0 [(h0, .inr (3, [.null, .null, .null, .null, .null, .null, .null, .null, .null, .int 0, .int 0, .int 0]))] 0 [(0, .ref h0)] [] := by
    refine N_aload_n F dX3_init_0 rfl 0 rfl ?_
    refine N_objInit (pc := 1) F we_18 we_19 we_20 (by decide) (by decide) (by decide) dX3_init_1 ?_
    refine N_new (pc := 4) F (C := RX2) (T := TX2) (N := 4) (ci := 2) (fs := [.null, .int 0, .int 0, .int 0]) inGX2 tyX2 tyX2_ok we_21 we_22 we_2 rfl dfX2 (Nat.le_of_ble_eq_true rfl) (Nat.le_of_ble_eq_true rfl) dX3_init_4 (fun q => ?_)
    refine N_dup (pc := 7) F dX3_init_7 rfl ?_
    refine N_callInit (pc := 8) F n_X2_init rfl we_24 we_2 we_25 wi_X2 we_23 (Nat.le_of_ble_eq_true rfl) (Nat.le_of_ble_eq_true rfl) (Nat.le_of_ble_eq_true rfl) (Nat.le_of_ble_eq_true rfl) rfl (Nat.le_of_ble_eq_true rfl) dX3_init_8 (fun w1 hw1 => ?_)
    obtain ⟨q1, rfl⟩ := hw1
    refine N_astore_n (pc := 11) F (lv' := [(1, .ref q), (0, .ref h0)]) dX3_init_11 rfl (by decide) rfl ?_
    refine N_new (pc := 12) F (C := RX1) (T := TX1) (N := 12) (ci := 1) (fs := [.null, .null, .null, .null, .null, .null, .null, .null, .int 0, .int 0, .int 0, .int 0]) inGX1 tyX1 tyX1_ok we_42 we_43 we_3 rfl dfX1 (Nat.le_of_ble_eq_true rfl) (Nat.le_of_ble_eq_true rfl) dX3_init_12 (fun t0 => ?_)
    refine N_dup (pc := 15) F dX3_init_15 rfl ?_
    refine N_callInit (pc := 16) F n_X1_init rfl we_45 we_3 we_46 wi_X1 we_44 (Nat.le_of_ble_eq_true rfl) (Nat.le_of_ble_eq_true rfl) (Nat.le_of_ble_eq_true rfl) (Nat.le_of_ble_eq_true rfl) rfl (Nat.le_of_ble_eq_true rfl) dX3_init_16 (fun w1 hw1 => ?_)
    obtain ⟨a, ha0, rfl⟩ := rX1_tab hw1
    subst ha0
    refine N_astore_n (pc := 19) F (lv' := [(2, .ref (a 0)), (1, .ref q), (0, .ref h0)]) dX3_init_19 rfl (by decide) rfl ?_
    refine N_as (ws' := [(h0, .inr (3, [.null, .null, .null, .null, .null, .null, .null, .null, .null, .int 0, .int 0, .int 0]))] ++ wl (adL [q, q1, a 0, a 1, a 2, a 3, a 4, a 5, a 6, a 7, a 8]) (GC E (adL [q, q1, a 0, a 1, a 2, a 3, a 4, a 5, a 6, a 7, a 8])) 11 bS) rfl ?_
    refine N_swap ?_
    obtain ⟨ad, had⟩ : ∃ ad, adL [q, q1, a 0, a 1, a 2, a 3, a 4, a 5, a 6, a 7, a 8] = ad := ⟨_, rfl⟩
    have hq : q = ad 0 := by rw [← had]; rfl
    have ha : a 0 = ad 2 := by rw [← had]; rfl
    rw [had, hq, ha]
    clear had hq ha
    refine N_D (fun hD => ?_)
    have hI := wl_I hD
    have hT11 : TxtAt E ad (GC E ad) 11 := GC_tx11
    have hB11 : TabAt E ad (GC E ad) 11 2 := GC_tb11
    clear hD
    refine N_aload_n (pc := 20) F dX3_init_20 rfl 1 rfl ?_
    refine N_ldcS (pc := 21) F hR dX3_init_21 ?_
    refine N_callTake (pc := 23) (rest := []) F hSP hT11 (Nat.le_of_ble_eq_true rfl) (Nat.le_of_ble_eq_true rfl) (Nat.le_of_ble_eq_true rfl) (Nat.le_of_ble_eq_true rfl) wq_100 (Nat.le_of_ble_eq_true rfl) dX3_init_23 ?_
    refine N_aload_n (pc := 26) F dX3_init_26 rfl 1 rfl ?_
    refine N_aload_n (pc := 27) F dX3_init_27 rfl 0 rfl ?_
    refine N_callV (pc := 28) (rest := []) F (b := 0) (c_X2_readInto hI hT11 hB11 hf) (Nat.le_of_ble_eq_true rfl) (Nat.le_of_ble_eq_true rfl) (Nat.le_of_ble_eq_true rfl) (Nat.le_of_ble_eq_true rfl) (txtN hT11) (hT11.2.1 _) rfl wc_X2_readInto wd_159 rfl rfl (Nat.le_of_ble_eq_true rfl) dX3_init_28 ?_
    refine N_pop (pc := 31) F dX3_init_31 rfl ?_
    refine N_aload_n (pc := 32) F dX3_init_32 rfl 1 rfl ?_
    refine N_iconst (pc := 33) F (v := (0 : Int32)) dX3_init_33 rfl ?_
    refine N_putW (pc := 34) F (C := RX2) (T := TX2) (N := 4) (ci := 2) (k := 1) (j := 0) (ty := .int) (fs := fun f => [.ref (ad 1), .int (f 0), .int (f 1), .int (f 2)]) inGX2 rfl tyX2 tyX2_ok nmX2 (txtN hT11) hT11.2.1 (by decide) rfl (by decide +kernel) rfl rfl (fun _ => Nat.le_of_ble_eq_true rfl) (fun _ => rfl) wd_29 dX3_init_34 ?_
    generalize w2 r.2 0 0 (0 : Int32) = σ
    refine N_swap ?_
    obtain ⟨W, hW⟩ : ∃ W, wl ad (GC E ad) 11 σ = W := ⟨_, rfl⟩
    rw [hW]
    refine N_aload_n (pc := 37) F dX3_init_37 rfl 2 rfl ?_
    refine N_aload_n (pc := 38) F dX3_init_38 rfl 1 rfl ?_
    refine N_putF (pc := 39) F (C := RX3) (T := TX3) (N := 12) (ci := 3) (k := 0) (q0 := 0) (ty := tyX3 0) (ws' := (h0, .inr (3, [.ref (ad 0), .null, .null, .null, .null, .null, .null, .null, .null, .int 0, .int 0, .int 0])) :: W) hi inGX3 tyX3 tyX3_ok nmX3 rfl rfl (by decide) wd_236 rfl rfl (tyX3_ok 0 (by decide)) rfl rfl (Nat.le_of_ble_eq_true rfl) rfl dX3_init_39 ?_
    refine N_aload_n (pc := 42) F dX3_init_42 rfl 2 rfl ?_
    refine N_aload_n (pc := 43) F dX3_init_43 rfl 0 rfl ?_
    refine N_putF (pc := 44) F (C := RX3) (T := TX3) (N := 12) (ci := 3) (k := 1) (q0 := 0) (ty := tyX3 1) (ws' := (h0, .inr (3, [.ref (ad 0), .ref (ad 2), .null, .null, .null, .null, .null, .null, .null, .int 0, .int 0, .int 0])) :: W) hi inGX3 tyX3 tyX3_ok nmX3 rfl rfl (by decide) wd_237 rfl rfl (tyX3_ok 1 (by decide)) rfl rfl (Nat.le_of_ble_eq_true rfl) rfl dX3_init_44 ?_
    refine N_aload_n (pc := 47) F dX3_init_47 rfl 2 rfl ?_
    refine N_new (pc := 48) F (C := RX1) (T := TX1) (N := 12) (ci := 1) (fs := [.null, .null, .null, .null, .null, .null, .null, .null, .int 0, .int 0, .int 0, .int 0]) inGX1 tyX1 tyX1_ok we_42 we_43 we_3 rfl dfX1 (Nat.le_of_ble_eq_true rfl) (Nat.le_of_ble_eq_true rfl) dX3_init_48 (fun q => ?_)
    refine N_dup (pc := 51) F dX3_init_51 rfl ?_
    refine N_callInit (pc := 52) F n_X1_init rfl we_45 we_3 we_46 wi_X1 we_44 (Nat.le_of_ble_eq_true rfl) (Nat.le_of_ble_eq_true rfl) (Nat.le_of_ble_eq_true rfl) (Nat.le_of_ble_eq_true rfl) rfl (Nat.le_of_ble_eq_true rfl) dX3_init_52 (fun w1 hw1 => ?_)
    obtain ⟨a1, ha0, rfl⟩ := rX1_tab hw1
    subst ha0
    refine N_putF (pc := 55) F (C := RX3) (T := TX3) (N := 12) (ci := 3) (k := 2) (q0 := 0) (ty := tyX3 2) (ws' := (h0, .inr (3, [.ref (ad 0), .ref (ad 2), .ref (a1 0), .null, .null, .null, .null, .null, .null, .int 0, .int 0, .int 0])) :: W ++ tabW E a1) hi inGX3 tyX3 tyX3_ok nmX3 rfl rfl (by decide) wd_238 rfl rfl (tyX3_ok 2 (by decide)) rfl rfl (Nat.le_of_ble_eq_true rfl) rfl dX3_init_55 ?_
    refine N_aload_n (pc := 58) F dX3_init_58 rfl 2 rfl ?_
    refine N_new (pc := 59) F (C := RX1) (T := TX1) (N := 12) (ci := 1) (fs := [.null, .null, .null, .null, .null, .null, .null, .null, .int 0, .int 0, .int 0, .int 0]) inGX1 tyX1 tyX1_ok we_42 we_43 we_3 rfl dfX1 (Nat.le_of_ble_eq_true rfl) (Nat.le_of_ble_eq_true rfl) dX3_init_59 (fun q => ?_)
    refine N_dup (pc := 62) F dX3_init_62 rfl ?_
    refine N_callInit (pc := 63) F n_X1_init rfl we_45 we_3 we_46 wi_X1 we_44 (Nat.le_of_ble_eq_true rfl) (Nat.le_of_ble_eq_true rfl) (Nat.le_of_ble_eq_true rfl) (Nat.le_of_ble_eq_true rfl) rfl (Nat.le_of_ble_eq_true rfl) dX3_init_63 (fun w1 hw1 => ?_)
    obtain ⟨a2, ha0, rfl⟩ := rX1_tab hw1
    subst ha0
    refine N_putF (pc := 66) F (C := RX3) (T := TX3) (N := 12) (ci := 3) (k := 3) (q0 := 0) (ty := tyX3 3) (ws' := (h0, .inr (3, [.ref (ad 0), .ref (ad 2), .ref (a1 0), .ref (a2 0), .null, .null, .null, .null, .null, .int 0, .int 0, .int 0])) :: W ++ tabW E a1 ++ tabW E a2) hi inGX3 tyX3 tyX3_ok nmX3 rfl rfl (by decide) wd_239 rfl rfl (tyX3_ok 3 (by decide)) rfl rfl (Nat.le_of_ble_eq_true rfl) rfl dX3_init_66 ?_
    refine N_aload_n (pc := 69) F dX3_init_69 rfl 2 rfl ?_
    refine N_bipush (pc := 70) F (v := nI 9) dX3_init_70 rfl ?_
    refine N_callT (pc := 72) (L := 9) F hAO (by decide) (Nat.le_of_ble_eq_true rfl) (Nat.le_of_ble_eq_true rfl) (Nat.le_of_ble_eq_true rfl) (Nat.le_of_ble_eq_true rfl) we_208 (Nat.le_of_ble_eq_true rfl) dX3_init_72 (fun q9 t9 => ?_)
    refine N_putF (pc := 75) F (C := RX3) (T := TX3) (N := 12) (ci := 3) (k := 4) (q0 := 0) (ty := tyX3 4) (ws' := (h0, .inr (3, [.ref (ad 0), .ref (ad 2), .ref (a1 0), .ref (a2 0), .ref q9, .null, .null, .null, .null, .int 0, .int 0, .int 0])) :: W ++ tabW E a1 ++ tabW E a2 ++ (rowW E q9 9 9 t9 :: tabsW E t9 9)) hi inGX3 tyX3 tyX3_ok nmX3 rfl rfl (by decide) wd_240 rfl rfl (tyX3_ok 4 (by decide)) rfl rfl (Nat.le_of_ble_eq_true rfl) rfl dX3_init_75 ?_
    refine N_aload_n (pc := 78) F dX3_init_78 rfl 2 rfl ?_
    refine N_bipush (pc := 79) F (v := nI 8) dX3_init_79 rfl ?_
    refine N_callT (pc := 81) (L := 8) F hAO (by decide) (Nat.le_of_ble_eq_true rfl) (Nat.le_of_ble_eq_true rfl) (Nat.le_of_ble_eq_true rfl) (Nat.le_of_ble_eq_true rfl) we_208 (Nat.le_of_ble_eq_true rfl) dX3_init_81 (fun q8 t8 => ?_)
    refine N_putF (pc := 84) F (C := RX3) (T := TX3) (N := 12) (ci := 3) (k := 5) (q0 := 0) (ty := tyX3 5) (ws' := (h0, .inr (3, [.ref (ad 0), .ref (ad 2), .ref (a1 0), .ref (a2 0), .ref q9, .ref q8, .null, .null, .null, .int 0, .int 0, .int 0])) :: W ++ tabW E a1 ++ tabW E a2 ++ (rowW E q9 9 9 t9 :: tabsW E t9 9) ++ (rowW E q8 8 8 t8 :: tabsW E t8 8)) hi inGX3 tyX3 tyX3_ok nmX3 rfl rfl (by decide) wd_241 rfl rfl (tyX3_ok 5 (by decide)) rfl rfl (Nat.le_of_ble_eq_true rfl) rfl dX3_init_84 ?_
    refine N_aload_n (pc := 87) F dX3_init_87 rfl 2 rfl ?_
    refine N_iconst (pc := 88) F (v := nI 2) dX3_init_88 rfl ?_
    refine N_callT (pc := 89) (L := 2) F hAO (by decide) (Nat.le_of_ble_eq_true rfl) (Nat.le_of_ble_eq_true rfl) (Nat.le_of_ble_eq_true rfl) (Nat.le_of_ble_eq_true rfl) we_208 (Nat.le_of_ble_eq_true rfl) dX3_init_89 (fun q2 t2 => ?_)
    refine N_putF (pc := 92) F (C := RX3) (T := TX3) (N := 12) (ci := 3) (k := 6) (q0 := 0) (ty := tyX3 6) (ws' := (h0, .inr (3, [.ref (ad 0), .ref (ad 2), .ref (a1 0), .ref (a2 0), .ref q9, .ref q8, .ref q2, .null, .null, .int 0, .int 0, .int 0])) :: W ++ tabW E a1 ++ tabW E a2 ++ (rowW E q9 9 9 t9 :: tabsW E t9 9) ++ (rowW E q8 8 8 t8 :: tabsW E t8 8) ++ (rowW E q2 2 2 t2 :: tabsW E t2 2)) hi inGX3 tyX3 tyX3_ok nmX3 rfl rfl (by decide) wd_242 rfl rfl (tyX3_ok 6 (by decide)) rfl rfl (Nat.le_of_ble_eq_true rfl) rfl dX3_init_92 ?_
    refine N_aload_n (pc := 95) F dX3_init_95 rfl 2 rfl ?_
    refine N_new (pc := 96) F (C := RX0) (T := TX0) (N := 4) (ci := 0) (fs := [.null, .null, .null, .int 0]) inGX0 tyX0 tyX0_ok we_215 we_216 we_9 rfl dfX0 (Nat.le_of_ble_eq_true rfl) (Nat.le_of_ble_eq_true rfl) dX3_init_96 (fun g0 => ?_)
    refine N_dup (pc := 99) F dX3_init_99 rfl ?_
    refine N_callInit (pc := 100) F n_X0_init rfl we_218 we_9 we_219 wi_X0 we_217 (Nat.le_of_ble_eq_true rfl) (Nat.le_of_ble_eq_true rfl) (Nat.le_of_ble_eq_true rfl) (Nat.le_of_ble_eq_true rfl) rfl (Nat.le_of_ble_eq_true rfl) dX3_init_100 (fun w1 hw1 => ?_)
    obtain ⟨g1, g2, g3, rfl⟩ := hw1
    refine N_putF (pc := 103) F (C := RX3) (T := TX3) (N := 12) (ci := 3) (k := 7) (q0 := 0) (ty := tyX3 7) (ws' := (h0, .inr (3, [.ref (ad 0), .ref (ad 2), .ref (a1 0), .ref (a2 0), .ref q9, .ref q8, .ref q2, .ref g0, .null, .int 0, .int 0, .int 0])) :: W ++ tabW E a1 ++ tabW E a2 ++ (rowW E q9 9 9 t9 :: tabsW E t9 9) ++ (rowW E q8 8 8 t8 :: tabsW E t8 8) ++ (rowW E q2 2 2 t2 :: tabsW E t2 2) ++ [(g0, .inr (0, [.ref g1, .ref g2, .ref g3, .int 0])), (g1, .inl (E.2.1, 6, .inl (fun _ => 0))), (g2, .inl (E.2.1, 6, .inl (fun _ => 0))), (g3, .inl (E.2.1, 6, .inl (fun _ => 0)))]) hi inGX3 tyX3 tyX3_ok nmX3 rfl rfl (by decide) wd_243 rfl rfl (tyX3_ok 7 (by decide)) rfl rfl (Nat.le_of_ble_eq_true rfl) rfl dX3_init_103 ?_
    refine N_aload_n (pc := 106) F dX3_init_106 rfl 2 rfl ?_
    refine N_bipush (pc := 107) F (v := nI 10) dX3_init_107 rfl ?_
    refine N_newI (pc := 109) F (L := 10) we_41 (by decide) (by decide) (by decide) (Nat.le_of_ble_eq_true rfl) (Nat.le_of_ble_eq_true rfl) dX3_init_109 (fun qp => ?_)
    refine N_putF (pc := 111) F (C := RX3) (T := TX3) (N := 12) (ci := 3) (k := 8) (q0 := 0) (ty := tyX3 8) (ws' := (h0, .inr (3, [.ref (ad 0), .ref (ad 2), .ref (a1 0), .ref (a2 0), .ref q9, .ref q8, .ref q2, .ref g0, .ref qp, .int 0, .int 0, .int 0])) :: W ++ tabW E a1 ++ tabW E a2 ++ (rowW E q9 9 9 t9 :: tabsW E t9 9) ++ (rowW E q8 8 8 t8 :: tabsW E t8 8) ++ (rowW E q2 2 2 t2 :: tabsW E t2 2) ++ [(g0, .inr (0, [.ref g1, .ref g2, .ref g3, .int 0])), (g1, .inl (E.2.1, 6, .inl (fun _ => 0))), (g2, .inl (E.2.1, 6, .inl (fun _ => 0))), (g3, .inl (E.2.1, 6, .inl (fun _ => 0)))] ++ [(qp, .inl (E.2.1, 10, .inl (fun _ => 0)))]) hi inGX3 tyX3 tyX3_ok nmX3 rfl rfl (by decide) wd_244 rfl rfl (tyX3_ok 8 (by decide)) rfl rfl (Nat.le_of_ble_eq_true rfl) rfl dX3_init_111 ?_
    refine N_aload_n (pc := 114) F dX3_init_114 rfl 2 rfl ?_
    refine N_iconst (pc := 115) F (v := (0 : Int32)) dX3_init_115 rfl ?_
    refine N_put (pc := 116) F (C := RX3) (T := TX3) (N := 12) (ci := 3) (k := 9) (q0 := 0) (ty := tyX3 9) (ws' := (h0, .inr (3, [.ref (ad 0), .ref (ad 2), .ref (a1 0), .ref (a2 0), .ref q9, .ref q8, .ref q2, .ref g0, .ref qp, .int 0, .int 0, .int 0])) :: W ++ tabW E a1 ++ tabW E a2 ++ (rowW E q9 9 9 t9 :: tabsW E t9 9) ++ (rowW E q8 8 8 t8 :: tabsW E t8 8) ++ (rowW E q2 2 2 t2 :: tabsW E t2 2) ++ [(g0, .inr (0, [.ref g1, .ref g2, .ref g3, .int 0])), (g1, .inl (E.2.1, 6, .inl (fun _ => 0))), (g2, .inl (E.2.1, 6, .inl (fun _ => 0))), (g3, .inl (E.2.1, 6, .inl (fun _ => 0)))] ++ [(qp, .inl (E.2.1, 10, .inl (fun _ => 0)))]) inGX3 tyX3 tyX3_ok nmX3 rfl rfl (by decide) wd_245 rfl (tyX3_ok 9 (by decide)) rfl rfl (Nat.le_of_ble_eq_true rfl) rfl dX3_init_116 ?_
    refine N_aload_n (pc := 119) F dX3_init_119 rfl 2 rfl ?_
    refine N_iconst (pc := 120) F (v := (0 : Int32)) dX3_init_120 rfl ?_
    refine N_put (pc := 121) F (C := RX3) (T := TX3) (N := 12) (ci := 3) (k := 10) (q0 := 0) (ty := tyX3 10) (ws' := (h0, .inr (3, [.ref (ad 0), .ref (ad 2), .ref (a1 0), .ref (a2 0), .ref q9, .ref q8, .ref q2, .ref g0, .ref qp, .int 0, .int 0, .int 0])) :: W ++ tabW E a1 ++ tabW E a2 ++ (rowW E q9 9 9 t9 :: tabsW E t9 9) ++ (rowW E q8 8 8 t8 :: tabsW E t8 8) ++ (rowW E q2 2 2 t2 :: tabsW E t2 2) ++ [(g0, .inr (0, [.ref g1, .ref g2, .ref g3, .int 0])), (g1, .inl (E.2.1, 6, .inl (fun _ => 0))), (g2, .inl (E.2.1, 6, .inl (fun _ => 0))), (g3, .inl (E.2.1, 6, .inl (fun _ => 0)))] ++ [(qp, .inl (E.2.1, 10, .inl (fun _ => 0)))]) inGX3 tyX3 tyX3_ok nmX3 rfl rfl (by decide) wd_246 rfl (tyX3_ok 10 (by decide)) rfl rfl (Nat.le_of_ble_eq_true rfl) rfl dX3_init_121 ?_
    refine N_aload_n (pc := 124) F dX3_init_124 rfl 2 rfl ?_
    refine N_iconst (pc := 125) F (v := (0 : Int32)) dX3_init_125 rfl ?_
    refine N_put (pc := 126) F (C := RX3) (T := TX3) (N := 12) (ci := 3) (k := 11) (q0 := 0) (ty := tyX3 11) (ws' := (h0, .inr (3, [.ref (ad 0), .ref (ad 2), .ref (a1 0), .ref (a2 0), .ref q9, .ref q8, .ref q2, .ref g0, .ref qp, .int 0, .int 0, .int 0])) :: W ++ tabW E a1 ++ tabW E a2 ++ (rowW E q9 9 9 t9 :: tabsW E t9 9) ++ (rowW E q8 8 8 t8 :: tabsW E t8 8) ++ (rowW E q2 2 2 t2 :: tabsW E t2 2) ++ [(g0, .inr (0, [.ref g1, .ref g2, .ref g3, .int 0])), (g1, .inl (E.2.1, 6, .inl (fun _ => 0))), (g2, .inl (E.2.1, 6, .inl (fun _ => 0))), (g3, .inl (E.2.1, 6, .inl (fun _ => 0)))] ++ [(qp, .inl (E.2.1, 10, .inl (fun _ => 0)))]) inGX3 tyX3 tyX3_ok nmX3 rfl rfl (by decide) wd_247 rfl (tyX3_ok 11 (by decide)) rfl rfl (Nat.le_of_ble_eq_true rfl) rfl dX3_init_126 ?_
    refine N_as (ws' := [(h0, .inr (3, [.ref (ad 0), .ref (ad 2), .ref (a1 0), .ref (a2 0), .ref q9, .ref q8, .ref q2, .ref g0, .ref qp, .int 0, .int 0, .int 0]))] ++ (W ++ tabW E a1 ++ tabW E a2 ++ (rowW E q9 9 9 t9 :: tabsW E t9 9) ++ (rowW E q8 8 8 t8 :: tabsW E t8 8) ++ (rowW E q2 2 2 t2 :: tabsW E t2 2) ++ [(g0, .inr (0, [.ref g1, .ref g2, .ref g3, .int 0])), (g1, .inl (E.2.1, 6, .inl (fun _ => 0))), (g2, .inl (E.2.1, 6, .inl (fun _ => 0))), (g3, .inl (E.2.1, 6, .inl (fun _ => 0)))] ++ [(qp, .inl (E.2.1, 10, .inl (fun _ => 0)))])) rfl ?_
    refine N_swap ?_
    rw [← hW]
    exact N_vret (pc := 129) (Rr := rX3 E (sF σ) h0) F dX3_init_129 ⟨_, fin_eq, rfl⟩
  have hl := lv_entry ([.ref h0]) (n := 3) (Nat.le_of_ble_eq_true rfl)
  rw [lg_entry_eq]
  exact start s.heap [] _ hl hP hD va_S.rf
