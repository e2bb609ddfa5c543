/-! the law's start: what it gives; the call of LastTongue's constructor -/
theorem we_13 : Cond.classLink R_law 7 RX3 ∈ gtbl := gtbl_of (List.mem_append_right _ (List.mem_of_getElem? (i := 13) (by decide +kernel))) rfl
theorem we_14 : Cond.instantiable RX3 12 ∈ gtbl := gtbl_of (List.mem_append_right _ (List.mem_of_getElem? (i := 14) (by decide +kernel))) rfl
theorem we_1 : Cond.initialized RX3 ∈ gtbl := gtbl_of (List.mem_append_right _ (List.mem_of_getElem? (i := 1) (by decide +kernel))) rfl
theorem we_15 : Cond.methodLink R_law 9 yX3_init ∈ gtbl := gtbl_of (List.mem_append_right _ (List.mem_of_getElem? (i := 15) (by decide +kernel))) rfl
theorem we_16 : Cond.instanceMethod yX3_init ∈ gtbl := gtbl_of (List.mem_append_right _ (List.mem_of_getElem? (i := 16) (by decide +kernel))) rfl
theorem we_17 : Cond.code yX3_init cX3_init 3 none ∈ gtbl := gtbl_of (List.mem_append_right _ (List.mem_of_getElem? (i := 17) (by decide +kernel))) rfl
theorem we_592 : Cond.classLink R_law 10 RX4 ∈ gtbl := gtbl_of (List.mem_append_right _ (List.mem_of_getElem? (i := 592) (by decide +kernel))) rfl
theorem we_593 : Cond.instantiable RX4 22 ∈ gtbl := gtbl_of (List.mem_append_right _ (List.mem_of_getElem? (i := 593) (by decide +kernel))) rfl
theorem we_10 : Cond.initialized RX4 ∈ gtbl := gtbl_of (List.mem_append_right _ (List.mem_of_getElem? (i := 10) (by decide +kernel))) rfl
theorem we_594 : Cond.methodLink R_law 12 yX4_init ∈ gtbl := gtbl_of (List.mem_append_right _ (List.mem_of_getElem? (i := 594) (by decide +kernel))) rfl
theorem we_595 : Cond.instanceMethod yX4_init ∈ gtbl := gtbl_of (List.mem_append_right _ (List.mem_of_getElem? (i := 595) (by decide +kernel))) rfl
theorem we_596 : Cond.code yX4_init cX4_init 1 none ∈ gtbl := gtbl_of (List.mem_append_right _ (List.mem_of_getElem? (i := 596) (by decide +kernel))) rfl
theorem wi_X3 : yX3_init.cls ≠ "java/lang/invoke/MethodHandle" ∧ yX3_init.cls ≠ "java/lang/invoke/VarHandle" ∧ (parseMethodDescriptor yX3_init.desc).map (fun d => d.parameters.length) = some 0 := ⟨by decide +kernel, by decide +kernel, by decide +kernel⟩
theorem wi_X4 : yX4_init.cls ≠ "java/lang/invoke/MethodHandle" ∧ yX4_init.cls ≠ "java/lang/invoke/VarHandle" ∧ (parseMethodDescriptor yX4_init.desc).map (fun d => d.parameters.length) = some 0 := ⟨by decide +kernel, by decide +kernel, by decide +kernel⟩
theorem dfX3 : ∀ j, j < 12 → defaultValue (tyX3 j) = vp_V [.null, .null, .null, .null, .null, .null, .null, .null, .null, .int 0, .int 0, .int 0] j := by
  intro j hj
  rcases (show j = 0 ∨ j = 1 ∨ j = 2 ∨ j = 3 ∨ j = 4 ∨ j = 5 ∨ j = 6 ∨ j = 7 ∨ j = 8 ∨ j = 9 ∨ j = 10 ∨ j = 11 by omega) with rfl | rfl | rfl | rfl | rfl | rfl | rfl | rfl | rfl | rfl | rfl | rfl <;> rfl
theorem dfX4 : ∀ j, j < 22 → defaultValue (tyX4 j) = vp_V [.int 0, .null, .int 0, .int 0, .int 0, .null, .int 0, .int 0, .null, .int 0, .int 0, .int 0, .null, .int 0, .int 0, .int 0, .int 0, .null, .null, .null, .null, .null] j := by
  intro j hj
  rcases (show j = 0 ∨ j = 1 ∨ j = 2 ∨ j = 3 ∨ j = 4 ∨ j = 5 ∨ j = 6 ∨ j = 7 ∨ j = 8 ∨ j = 9 ∨ j = 10 ∨ j = 11 ∨ j = 12 ∨ j = 13 ∨ j = 14 ∨ j = 15 ∨ j = 16 ∨ j = 17 ∨ j = 18 ∨ j = 19 ∨ j = 20 ∨ j = 21 by omega) with rfl | rfl | rfl | rfl | rfl | rfl | rfl | rfl | rfl | rfl | rfl | rfl | rfl | rfl | rfl | rfl | rfl | rfl | rfl | rfl | rfl | rfl <;> rfl
theorem N_callC {p : Program} {l : Launch} {e : Env} {R : Room} {s : State} {m : MethodId} {args : Array Value} {below : List Frame} {meth : Method} {c : Code} {E : En} {A : Nat → Prop} {Q : State → Prop} {nL kc ks : Nat} {pc : Nat} {lv : List (Nat × Value)} {st : List Value} {cc : ByteArray} {own : String} {ret : Option FieldType} (F : Fy p s m args meth c cc nL own E A ret) {q idx k v : Nat} {σ : St} (hC : CtC l E σ k v) (hAO : va_AO RX1 s) (hR : vk_R RX3 15 tx0 k s) (hSP : SP k v A s s.heap) (hfr : 7 ≤ R.frames) (hlo : 262 ≤ R.locals) (hc : kc + 208 ≤ R.cells) (hs : ks + 3005 ≤ R.slots) (hw : Cond.methodLink own idx yX3_init ∈ gtbl) (hcat : (st.map fun v => v.category).sum ≤ 8) (hdg : decode cc pc = .ok (.invokespecial idx, 3)) (kk : ∀ w1, rX3 E σ q w1 → JL p l e R s m args below meth c E A Q nL (kc + 208) (ks + 3005) w1 (pc + 3) lv st) : JL p l e R s m args below meth c E A Q nL kc ks [(q, .inr (3, [.null, .null, .null, .null, .null, .null, .null, .null, .null, .int 0, .int 0, .int 0]))] pc lv (.ref q :: st) := fun H locs ls hls hP hD hS => by
  have hts := F.2.2.2.2.1
  have hF := va_free (wc := [(q, (.inr (3, [.null, .null, .null, .null, .null, .null, .null, .null, .null, .int 0, .int 0, .int 0]) : va_E))]) hD hS F.2.2.2.2.2.2.2.1 [0] rfl
  refine va_callv (va_runI (Ts := gtbl) (As := []) (rest := st) ⟨F.1, F.2.1, F.2.2.1, F.2.2.2.1, hts⟩ (hC q H.size) ⟨callB_of 0 hts (gcons we_17) rfl rfl rfl (hts _ we_1) (hts _ hw) wi_X3 ⟨hfr, hlo⟩, rfl, hts _ we_16⟩ ⟨fun a U g mk z => by obtain ⟨q0, q1, qP, qK, qN, qA, qR, qS⟩ := z; exact ⟨q0, q1, qP, va_K.moved (u := U) (U := U.calling g mk a) (Vm.Alike.refl U.vm) qK, NWs.same (u := U) rfl qN, va_AO.moved (u := U) (U := U.calling g mk a) (Vm.Alike.refl U.vm) qA, vk_R.same (u := U) (U := U.calling g mk a) rfl qR, SP.moved (u := U) (U := U.calling g mk a) (Vm.Alike.refl U.vm) qS⟩, fun U hU hW => ⟨rfl, by rw [hU], by rw [hU]; exact hP, va_K.moved hW.alike F.2.2.2.2.2.2.1, NWs.warm hW F.2.2.2.2.2.1, va_AO.moved hW.alike hAO, vk_R.warm hW hR, by show SP k v (va_A [(q, (.inr (3, [.null, .null, .null, .null, .null, .null, .null, .null, .null, .int 0, .int 0, .int 0]) : va_E))] H.size) U U.heap; rw [hU]; exact ((hSP.kept hS.2.1).narrow hF).moved hW.alike⟩⟩ rfl rfl hls.1 rfl (lv_room hcat) hdg ⟨hc, hs⟩) hS (fun z _ h => hF z h) hF (fun w1 t H1 locs ht hvm hw hB hz1 hk1 hS => ?_)
  obtain ⟨hP1, hD1⟩ := hB
  rw [ht] at hP1
  obtain ⟨hP, hD⟩ := va_join (wr := []) (w1 := w1) hP hD [0] [] rfl rfl (by decide) (by simp) hk1 hF hP1 hD1
  exact kk w1 hw H1 locs ls hls hP hD hS
theorem st_K {s : State} {args : Array Value} (hts : ∀ w ∈ lw_tbl, w.before args s = true) : ∃ E : En, va_K E.1 vwCl (tysE E) s := by
  obtain ⟨c0, i0, k0⟩ := u_known (C := RX0) (T := TX0) (N := 4) (n := 4) hts inX0 (hts (.instantiable RX0 4) (List.mem_append_right _ (List.mem_of_getElem? (i := 216) (by decide +kernel))))
  obtain ⟨c1, i1, k1⟩ := u_known (C := RX1) (T := TX1) (N := 12) (n := 12) hts inX1 (hts (.instantiable RX1 12) (List.mem_append_right _ (List.mem_of_getElem? (i := 43) (by decide +kernel))))
  obtain ⟨c2, i2, k2⟩ := u_known (C := RX2) (T := TX2) (N := 4) (n := 4) hts inX2 (hts (.instantiable RX2 4) (List.mem_append_right _ (List.mem_of_getElem? (i := 22) (by decide +kernel))))
  obtain ⟨c3, i3, k3⟩ := u_known (C := RX3) (T := TX3) (N := 12) (n := 12) hts inX3 (hts (.instantiable RX3 12) (List.mem_append_right _ (List.mem_of_getElem? (i := 14) (by decide +kernel))))
  obtain ⟨c4, i4, k4⟩ := u_known (C := RX4) (T := TX4) (N := 22) (n := 22) hts inX4 (hts (.instantiable RX4 22) (List.mem_append_right _ (List.mem_of_getElem? (i := 593) (by decide +kernel))))
  obtain ⟨aI, kI, pI, a1, a2, a3⟩ := Cond.arrayClass_spec (hts (.arrayClass .int) (List.mem_append_right _ (List.mem_of_getElem? (i := 41) (by decide +kernel))))
  obtain ⟨aB, kB, pB, b1, b2, b3⟩ := Cond.arrayClass_spec (hts (.arrayClass .byte) (List.mem_append_right _ (List.mem_of_getElem? (i := 235) (by decide +kernel))))
  obtain ⟨pT, aT, kT, t1, t2, t3, t4, t5⟩ := Cond.arrayOver_spec (hts (.arrayOver (.object RX1)) (List.mem_append_right _ (List.mem_of_getElem? (i := 214) (by decide +kernel))))
  refine ⟨((fun k => if k = 0 then c0 else if k = 1 then c1 else if k = 2 then c2 else if k = 3 then c3 else c4, fun k => if k = 0 then i0 else if k = 1 then i1 else if k = 2 then i2 else if k = 3 then i3 else i4), aI, aB, aT), fun k q hq => ?_, fun k q hq => ?_⟩
  · match k, hq with
    | 0, hq => cases hq; exact k0
    | 1, hq => cases hq; exact k1
    | 2, hq => cases hq; exact k2
    | 3, hq => cases hq; exact k3
    | 4, hq => cases hq; exact k4
    | k + 5, hq => simp [vwCl] at hq
  · match k, hq with
    | 0, hq => cases hq; exact ⟨fun n z => ⟨fun k h => (by cases h), kI, a2, pI, a3⟩, a1⟩
    | 1, hq => cases hq; exact ⟨fun n z => ⟨fun k h => (by cases h), kB, b2, pB, b3⟩, b1⟩
    | 2, hq => cases hq; exact ⟨fun n z => ⟨fun k h => (by cases h), kT, t3, pT, t4⟩, ⟨kT, pT, t3, t4, t1, t5⟩⟩
    | k + 3, hq => simp [tysE] at hq
theorem nest_in : ∀ q ∈ nestL, Cond.methodLinkNest q.1 q.2.1 q.2.2.1 q.2.2.2 ∈ lw_tbl := by decide +kernel
theorem st_N {s : State} {args : Array Value} (hts : ∀ w ∈ lw_tbl, w.before args s = true) : NWs s := fun q hq => va_Nw.of rfl (hts _ (nest_in q hq))
theorem fl_ex : Cond.exactly (.string RX3 15) RJ0 ∈ flatC (Jvm.Cond.and given_1 narrow_1) := by decide +kernel
theorem fl_co : Cond.eq (.field (.string RX3 15) RJ0 "coder" "B") (.int 0) ∈ flatC (Jvm.Cond.and given_1 narrow_1) := by decide +kernel
theorem fl_ar : Cond.arrayOf (.field (.string RX3 15) RJ0 "value" "[B") .byte ∈ flatC (Jvm.Cond.and given_1 narrow_1) := by decide +kernel
theorem fl_le : Cond.eq (.length (.field (.string RX3 15) RJ0 "value" "[B")) (.int (Int32.ofNat 84)) ∈ flatC (Jvm.Cond.and given_1 narrow_1) := by decide +kernel
set_option maxRecDepth 100000 in
theorem fl_el : ∀ j, j < 84 → Cond.eq (.elem (.field (.string RX3 15) RJ0 "value" "[B") (.int (Int32.ofNat j))) (.int (tx84.getD j 0)) ∈ flatC (Jvm.Cond.and given_1 narrow_1) := by decide +kernel
theorem fl_cs : Cond.eq (.static RJ0 "COMPACT_STRINGS" "Z") (.int 1) ∈ flatC (Jvm.Cond.and given_1 narrow_1) := by decide +kernel
theorem fl_si : Cond.isRef (.static RJ3 "SIOOBE_FORMATTER" "Ljava/util/function/BiFunction;") ∈ flatC (Jvm.Cond.and given_1 narrow_1) := by decide +kernel
theorem st_SP {s : State} {args : Array Value} (hts : ∀ w ∈ lw_tbl, w.before args s = true) (hgv : (Jvm.Cond.and given_1 narrow_1).before args s = true) : ∃ k v : Nat, SP k v (fun q => s.heap.size ≤ q) s s.heap ∧ vk_R RX3 15 tx0 k s := by
  have hs := flat_of_before _ hgv
  have hA : ∀ a : Nat, a < s.heap.size → ¬ (fun q : Nat => s.heap.size ≤ q) a := fun a h => Nat.not_le.mpr h
  obtain ⟨adK, adV, hS, hev⟩ := vk_Sof (N := 1) (tm := fun _ => Term.string RX3 15) (len := [84]) (byt := [tx84]) (A := fun q => s.heap.size ≤ q) (fun i hi => by
      have hi : i = 0 := by omega
      subst hi; decide) (fun i hi => hs _ fl_ex) (fun i hi => hs _ fl_co) (fun i hi => hs _ fl_ar) (fun i hi => by
      have hi : i = 0 := by omega
      subst hi; exact hs _ fl_le) (fun i hi j hj => by
      have hi : i = 0 := by omega
      subst hi; exact hs _ (fl_el j hj)) (fun i j hi hj hne => absurd (show i = j by omega) hne) hA
  obtain ⟨g1, g2, g3, g4⟩ := hS.1 0 (by omega)
  exact ⟨adK 0, adV 0, ⟨g1, g2, g3, g4, va_Zof (hts _ wq_113) (hts _ (List.mem_filter.mp wq_4).1) (va_eqi (hs _ fl_cs)) hA, va_Zqof (hts _ wq_129) (hts _ (List.mem_filter.mp wq_6).1) (hs _ fl_si) hA⟩, vk_R.of (hts _ wq_99) (hev 0 (by omega))⟩
