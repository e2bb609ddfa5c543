/-! the first text: what is known of it at the start, String's own methods, Text.take -/
def tx84 : List Int32 := [116, 51, 55, 49, 48, 52, 57, 50, 53, 59, 119, 48, 44, 53, 44, 51, 45, 45, 45, 52, 45, 45, 45, 59, 119, 49, 44, 57, 44, 45, 55, 45, 45, 45, 45, 45, 45, 59, 119, 50, 44, 51, 44, 45, 45, 45, 49, 45, 57, 45, 45, 59, 119, 51, 44, 49, 50, 44, 51, 55, 45, 54, 45, 45, 45, 45, 59, 119, 48, 44, 56, 44, 45, 45, 45, 45, 45, 45, 45, 45, 59, 115, 52, 59]
theorem wq_947 : Cond.fieldLink RJ0 9 RJ0 "value" "[B" ∈ gtbl := gtbl_of (List.mem_append_right _ (List.mem_of_getElem? (i := 947) (by decide +kernel))) rfl
theorem wq_948 : Cond.fieldLink RJ0 15 RJ0 "coder" "B" ∈ gtbl := gtbl_of (List.mem_append_right _ (List.mem_of_getElem? (i := 948) (by decide +kernel))) rfl
theorem wq_112 : Cond.fieldLink RJ0 38 RJ0 "COMPACT_STRINGS" "Z" ∈ gtbl := gtbl_of (List.mem_append_right _ (List.mem_of_getElem? (i := 112) (by decide +kernel))) rfl
theorem wq_113 : Cond.laysStatic RJ0 "COMPACT_STRINGS" "Z" ∈ lw_tbl := List.mem_append_right _ (List.mem_of_getElem? (i := 113) (by decide +kernel))
theorem wq_128 : Cond.fieldLink RJ0 1053 RJ3 "SIOOBE_FORMATTER" "Ljava/util/function/BiFunction;" ∈ gtbl := gtbl_of (List.mem_append_right _ (List.mem_of_getElem? (i := 128) (by decide +kernel))) rfl
theorem wq_129 : Cond.laysStatic RJ3 "SIOOBE_FORMATTER" "Ljava/util/function/BiFunction;" ∈ lw_tbl := List.mem_append_right _ (List.mem_of_getElem? (i := 129) (by decide +kernel))
theorem wq_4 : Cond.initialized RJ0 ∈ gtbl := gtbl_of (List.mem_append_right _ (List.mem_of_getElem? (i := 4) (by decide +kernel))) rfl
theorem wq_6 : Cond.initialized RJ3 ∈ gtbl := gtbl_of (List.mem_append_right _ (List.mem_of_getElem? (i := 6) (by decide +kernel))) rfl
theorem wq_104 : Cond.methodLink RX2 30 yJ0_length_8abf5 ∈ gtbl := gtbl_of (List.mem_append_right _ (List.mem_of_getElem? (i := 104) (by decide +kernel))) rfl
theorem wq_108 : Cond.methodLink RJ0 335 yJ0_coder_7d493 ∈ gtbl := gtbl_of (List.mem_append_right _ (List.mem_of_getElem? (i := 108) (by decide +kernel))) rfl
theorem wq_114 : Cond.methodLink RX2 35 yJ0_charAt_5068e ∈ gtbl := gtbl_of (List.mem_append_right _ (List.mem_of_getElem? (i := 114) (by decide +kernel))) rfl
theorem wq_118 : Cond.methodLink RJ0 492 yJ0_isLatin1_aae02 ∈ gtbl := gtbl_of (List.mem_append_right _ (List.mem_of_getElem? (i := 118) (by decide +kernel))) rfl
theorem wq_122 : Cond.methodLink RJ0 495 yJ1_charAt_3b067 ∈ gtbl := gtbl_of (List.mem_append_right _ (List.mem_of_getElem? (i := 122) (by decide +kernel))) rfl
theorem wq_125 : Cond.methodLink RJ1 9 yJ0_checkIndex_df160 ∈ gtbl := gtbl_of (List.mem_append_right _ (List.mem_of_getElem? (i := 125) (by decide +kernel))) rfl
theorem wq_130 : Cond.methodLink RJ0 1059 yJ3_checkIndex_8e157 ∈ gtbl := gtbl_of (List.mem_append_right _ (List.mem_of_getElem? (i := 130) (by decide +kernel))) rfl
theorem wq_152 : Cond.methodLink RX2 39 yX2_append ∈ gtbl := gtbl_of (List.mem_append_right _ (List.mem_of_getElem? (i := 152) (by decide +kernel))) rfl
theorem wq_100 : Cond.methodLink RX3 17 yX2_take ∈ gtbl := gtbl_of (List.mem_append_right _ (List.mem_of_getElem? (i := 100) (by decide +kernel))) rfl
theorem wq_99 : Cond.stringRef RX3 15 "t37104925;w0,5,3---4---;w1,9,-7------;w2,3,---1-9--;w3,12,37-6----;w0,8,--------;s4;" ∈ lw_tbl := List.mem_append_right _ (List.mem_of_getElem? (i := 99) (by decide +kernel))
theorem wc_J0_length : WcV yJ0_length_8abf5 cJ0_length_8abf5 1 (some .int) 0 := ⟨gtbl_of (List.mem_append_right _ (List.mem_of_getElem? (i := 105) (by decide +kernel))) rfl, gtbl_of (List.mem_append_right _ (List.mem_of_getElem? (i := 106) (by decide +kernel))) rfl, gtbl_of (List.mem_append_right _ (List.mem_of_getElem? (i := 4) (by decide +kernel))) rfl, gtbl_of (List.mem_append_right _ (List.mem_of_getElem? (i := 107) (by decide +kernel))) rfl, ⟨by decide +kernel, by decide +kernel, by decide +kernel⟩⟩
theorem wc_J0_coder : WcV yJ0_coder_7d493 cJ0_coder_7d493 1 (some .byte) 0 := ⟨gtbl_of (List.mem_append_right _ (List.mem_of_getElem? (i := 109) (by decide +kernel))) rfl, gtbl_of (List.mem_append_right _ (List.mem_of_getElem? (i := 110) (by decide +kernel))) rfl, gtbl_of (List.mem_append_right _ (List.mem_of_getElem? (i := 4) (by decide +kernel))) rfl, gtbl_of (List.mem_append_right _ (List.mem_of_getElem? (i := 111) (by decide +kernel))) rfl, ⟨by decide +kernel, by decide +kernel, by decide +kernel⟩⟩
theorem wc_J0_charAt : WcV yJ0_charAt_5068e cJ0_charAt_5068e 2 (some .char) 1 := ⟨gtbl_of (List.mem_append_right _ (List.mem_of_getElem? (i := 115) (by decide +kernel))) rfl, gtbl_of (List.mem_append_right _ (List.mem_of_getElem? (i := 116) (by decide +kernel))) rfl, gtbl_of (List.mem_append_right _ (List.mem_of_getElem? (i := 4) (by decide +kernel))) rfl, gtbl_of (List.mem_append_right _ (List.mem_of_getElem? (i := 117) (by decide +kernel))) rfl, ⟨by decide +kernel, by decide +kernel, by decide +kernel⟩⟩
theorem wc_J0_isLatin1 : WcV yJ0_isLatin1_aae02 cJ0_isLatin1_aae02 1 (some .boolean) 0 := ⟨gtbl_of (List.mem_append_right _ (List.mem_of_getElem? (i := 119) (by decide +kernel))) rfl, gtbl_of (List.mem_append_right _ (List.mem_of_getElem? (i := 120) (by decide +kernel))) rfl, gtbl_of (List.mem_append_right _ (List.mem_of_getElem? (i := 4) (by decide +kernel))) rfl, gtbl_of (List.mem_append_right _ (List.mem_of_getElem? (i := 121) (by decide +kernel))) rfl, ⟨by decide +kernel, by decide +kernel, by decide +kernel⟩⟩
theorem wc_J1_charAt : WcS yJ1_charAt_3b067 cJ1_charAt_3b067 2 (some .char) 2 := ⟨gtbl_of (List.mem_append_right _ (List.mem_of_getElem? (i := 123) (by decide +kernel))) rfl, gtbl_of (List.mem_append_right _ (List.mem_of_getElem? (i := 5) (by decide +kernel))) rfl, gtbl_of (List.mem_append_right _ (List.mem_of_getElem? (i := 124) (by decide +kernel))) rfl, ⟨by decide +kernel, by decide +kernel, by decide +kernel⟩⟩
theorem wc_J0_checkIndex : WcS yJ0_checkIndex_df160 cJ0_checkIndex_df160 2 none 2 := ⟨gtbl_of (List.mem_append_right _ (List.mem_of_getElem? (i := 126) (by decide +kernel))) rfl, gtbl_of (List.mem_append_right _ (List.mem_of_getElem? (i := 4) (by decide +kernel))) rfl, gtbl_of (List.mem_append_right _ (List.mem_of_getElem? (i := 127) (by decide +kernel))) rfl, ⟨by decide +kernel, by decide +kernel, by decide +kernel⟩⟩
theorem wc_J3_checkIndex : WcS yJ3_checkIndex_8e157 cJ3_checkIndex_8e157 3 (some .int) 3 := ⟨gtbl_of (List.mem_append_right _ (List.mem_of_getElem? (i := 131) (by decide +kernel))) rfl, gtbl_of (List.mem_append_right _ (List.mem_of_getElem? (i := 6) (by decide +kernel))) rfl, gtbl_of (List.mem_append_right _ (List.mem_of_getElem? (i := 132) (by decide +kernel))) rfl, ⟨by decide +kernel, by decide +kernel, by decide +kernel⟩⟩
theorem wc_X2_take : WcV yX2_take cX2_take 3 none 1 := ⟨gtbl_of (List.mem_append_right _ (List.mem_of_getElem? (i := 101) (by decide +kernel))) rfl, gtbl_of (List.mem_append_right _ (List.mem_of_getElem? (i := 102) (by decide +kernel))) rfl, gtbl_of (List.mem_append_right _ (List.mem_of_getElem? (i := 2) (by decide +kernel))) rfl, gtbl_of (List.mem_append_right _ (List.mem_of_getElem? (i := 103) (by decide +kernel))) rfl, ⟨by decide +kernel, by decide +kernel, by decide +kernel⟩⟩
theorem pnJ0 : plainName RJ0 = true := by decide +kernel
theorem pnJ1 : plainName RJ1 = true := by decide +kernel
theorem pnJ3 : plainName RJ3 = true := by decide +kernel
theorem tx84_255 : ∀ j, j < 84 → tx84.getD j 0 &&& 255 = tx84.getD j 0 := by decide +kernel
/-- the String at k, its bytes at v, and the two statics that String's own methods read -/
def SP (k v : Nat) (A : Nat → Prop) (U : State) (H : Heap) : Prop :=
  va_O RJ0 k A U H ∧ va_OF RJ0 "coder" "B" (.int 0) k A U H ∧ va_OF RJ0 "value" "[B" (.ref v) k A U H ∧ va_T .byte v 84 (fun j => .int (tx84.getD j 0)) A U H ∧ va_Z RJ0 "COMPACT_STRINGS" "Z" (.int 1) A U H ∧ va_Zq RJ3 "SIOOBE_FORMATTER" "Ljava/util/function/BiFunction;" A U H
theorem SP.moved {k v : Nat} {A : Nat → Prop} {u U : State} {H : Heap} (hvm : u.vm.Alike U.vm) (h : SP k v A u H) : SP k v A U H := ⟨va_O.moved hvm h.1, va_OF.moved hvm h.2.1, va_OF.moved hvm h.2.2.1, va_T.moved hvm h.2.2.2.1, va_Z.moved hvm h.2.2.2.2.1, va_Zq.moved hvm h.2.2.2.2.2⟩
theorem SP.kept {k v : Nat} {A : Nat → Prop} {U : State} {H H1 : Heap} (h : SP k v A U H) (hq : ∀ a : Nat, a < H.size → ¬ A a → H1[a]? = H[a]?) : SP k v A U H1 := ⟨h.1.kept hq, h.2.1.kept hq, h.2.2.1.kept hq, h.2.2.2.1.kept hq, h.2.2.2.2.1.kept hq, h.2.2.2.2.2.kept hq⟩
theorem SP.narrow {k v : Nat} {A B : Nat → Prop} {U : State} {H : Heap} (h : SP k v A U H) (hAB : ∀ q, B q → A q) : SP k v B U H := ⟨h.1.narrow hAB, h.2.1.narrow hAB, h.2.2.1.narrow hAB, h.2.2.2.1.narrow hAB, h.2.2.2.2.1.narrow hAB, h.2.2.2.2.2.narrow hAB⟩
def qS (o : Option Value) : Array Value → State → Outcome → State → Prop := fun _ st oc t => oc = .returned o ∧ t.heap = st.heap
/-- a method that only reads -/
def Cs (l : Launch) (y : MethodName) (cc : ByteArray) (maxL : Nat) (ret : Option FieldType) (h k v : Nat) (avs : List Value) (o : Option Value) : Prop :=
  Met l y (.code y cc maxL ret :: gtbl) (rmh h) (va_Pc avs (fun U => SP k v (fun _ => False) U U.heap)) (qS o) 0 0 (fun _ => False)
def Fs (p : Program) (s : State) (m : MethodId) (args : Array Value) (meth : Method) (c : Code) (cc : ByteArray) (nL : Nat) (own : String) (k v : Nat) (ret : Option FieldType) : Prop :=
  (p.tables.exec = Jvm.exec ∧ c.code = cc ∧ c.maxLocals = nL ∧ s.vm.findClass own = some m.cls ∧ (∀ w ∈ gtbl, w.before args s = true)) ∧ SP k v (fun _ => False) s s.heap ∧ meth.sig.returnType = ret ∧ meth.locks = false
theorem S_start {l : Launch} {y : MethodName} {cc : ByteArray} {maxL : Nat} {ret : Option FieldType} {h k v : Nat} {avs : List Value} {o : Option Value} {lv : List (Nat × Value)} {own : String} (hy : plainName own = true) (ho : y.cls = own) (hlen : (lg_sl avs).length ≤ maxL) (hlv : lv_args 0 avs = lv)
    (body : ∀ (p : Program) (e : Env) (s : State) (m : MethodId) (args : Array Value) (below : List Frame) (meth : Method) (c : Code) (ls : Array Slot), Fs p s m args meth c cc maxL own k v ret → lv_has ls maxL lv → W p l e (rmh h) s m args below meth c s.heap [] 0 0 (MQ below (qS o) args s 0 0 (fun _ => False)) (F0 m 0 ls [])) : Cs l y cc maxL ret h k v avs o := by
  subst ho
  refine Met.ofW (cc := cc) (maxL := maxL) (ret := ret) hy rfl ?_
  intro p e s m args below meth c s₁ B hml hv
  obtain ⟨rfl, hSP⟩ := hv
  have hts := atoms_spec (ws := .code y cc maxL ret :: gtbl) B.pre
  have hl := lv_entry avs (n := maxL) hlen
  rw [hlv] at hl
  have K := body p e s m avs.toArray below meth c _ ⟨⟨B.exec, B.bytes, hml, findClass_of_methodNamed B.named, fun w hw => hts w (List.mem_cons_of_mem _ hw)⟩, hSP, B.returns, B.notSynchronized⟩ hl
  rw [lg_entry_eq]
  exact K
theorem SP_blind {avs : List Value} {k v : Nat} : FrameBlind (va_Pc avs (fun U => SP k v (fun _ => False) U U.heap)) := fun a U g mk q => by
  obtain ⟨q0, q1⟩ := q
  exact ⟨q0, SP.moved (u := U) (U := U.calling g mk a) (Vm.Alike.refl U.vm) q1⟩
section SR
variable {p : Program} {l : Launch} {e : Env} {R : Room} {s : State} {m : MethodId} {args : Array Value} {below : List Frame} {meth : Method} {c : Code} {H : Heap} {locs : List Loc} {kc ks : Nat} {Q : State → Prop} {pc : Nat} {ls : Array Slot} {st rest : List Value} {cc : ByteArray} {own : String} {k v nL : Nat} {A : Nat → Prop}
theorem S_run {o : Option Value} {a : Array Value} (hr : va_Run p l e R s m args below meth c H locs kc ks 0 0 (F0 m pc ls st) rest (qS o a) (fun _ => False)) (kk : W p l e R s m args below meth c H locs kc ks Q (F0 m (pc + 3) ls (o.toList ++ rest))) : W p l e R s m args below meth c H locs kc ks Q (F0 m pc ls st) := by
  intro T hT X
  obtain ⟨v, st₀, t, T', L, h0, X', hL, e1, -, ⟨hv, hh⟩, hst⟩ := hr T hT X
  cases hv
  obtain ⟨t2, a1, b1⟩ := kk T' (by rw [e1, hh, h0]) (Stand.forget X' (fun q h => (hL q h).elim))
  exact ⟨t2, hst t2 a1, b1⟩
theorem S_callV (F : p.tables.exec = Jvm.exec ∧ c.code = cc ∧ c.maxLocals = nL ∧ s.vm.findClass own = some m.cls ∧ (∀ w ∈ gtbl, w.before args s = true)) {y : MethodName} {bytes : ByteArray} {maxL h' idx n0 : Nat} {ret' : Option FieldType} {As : List Value} {o : Option Value} (hC : Cs l y bytes maxL ret' h' k v (.ref k :: As) o) (hfr : h' + 1 ≤ R.frames) (hlo : 8 + (maxL + 11) + 40 * h' ≤ R.locals) (hc : kc ≤ R.cells) (hs : ks ≤ R.slots) (hSP : SP k v A s H) (hcl : y.cls = RJ0) (hW : WcV y bytes maxL ret' n0) (hw : Cond.methodLink own idx y ∈ gtbl) (hk : As.length = n0) (hls : ls.size = nL) (hst : st = As.reverse ++ .ref k :: rest) (hcat : (rest.map fun v => v.category).sum ≤ 8) (hdg : decode cc pc = .ok (.invokevirtual idx, 3)) (kk : W p l e R s m args below meth c H locs kc ks Q (F0 m (pc + 3) ls (o.toList ++ rest))) : W p l e R s m args below meth c H locs kc ks Q (F0 m pc ls st) := by
  obtain ⟨w0, w1, w2, w3, w4⟩ := hW
  have hts := F.2.2.2.2
  obtain ⟨cell, h1, h2, h3, -⟩ := hSP.1
  exact S_run (a := (Value.ref k :: As).toArray) (va_runV (Ts := gtbl) (C := y.cls) F hC ⟨callB_of n0 hts (gcons w3) rfl rfl rfl (hts _ w2) (hts _ hw) w4 ⟨hfr, hlo⟩, hts _ w0, hts _ w1⟩ ⟨SP_blind, ⟨cell, h1, h2, by rw [hcl]; exact h3⟩, fun U hU hW => ⟨rfl, by show SP k v (fun _ => False) U U.heap; rw [hU]; exact (hSP.narrow (fun _ z => z.elim)).moved hW.alike⟩⟩ rfl hk hls hst (lv_room hcat) hdg ⟨hc, hs⟩) kk
theorem S_callS (F : p.tables.exec = Jvm.exec ∧ c.code = cc ∧ c.maxLocals = nL ∧ s.vm.findClass own = some m.cls ∧ (∀ w ∈ gtbl, w.before args s = true)) {y : MethodName} {bytes : ByteArray} {maxL h' idx n0 : Nat} {ret' : Option FieldType} {As : List Value} {o : Option Value} (hC : Cs l y bytes maxL ret' h' k v As o) (hfr : h' + 1 ≤ R.frames) (hlo : 8 + (maxL + 11) + 40 * h' ≤ R.locals) (hc : kc ≤ R.cells) (hs : ks ≤ R.slots) (hSP : SP k v A s H) (hW : WcS y bytes maxL ret' n0) (hw : Cond.methodLink own idx y ∈ gtbl) (hk : As.length = n0) (hls : ls.size = nL) (hst : st = As.reverse ++ rest) (hcat : (rest.map fun v => v.category).sum ≤ 8) (hdg : decode cc pc = .ok (.invokestatic idx, 3)) (kk : W p l e R s m args below meth c H locs kc ks Q (F0 m (pc + 3) ls (o.toList ++ rest))) : W p l e R s m args below meth c H locs kc ks Q (F0 m pc ls st) := by
  obtain ⟨w1, w2, w3, w4⟩ := hW
  have hts := F.2.2.2.2
  exact S_run (a := As.toArray) (va_runS (Ts := gtbl) F hC ⟨callB_of n0 hts (gcons w3) rfl rfl rfl (hts _ w2) (hts _ hw) w4 ⟨hfr, hlo⟩, hts _ w1⟩ ⟨SP_blind, fun U hU hW => ⟨rfl, by show SP k v (fun _ => False) U U.heap; rw [hU]; exact (hSP.narrow (fun _ z => z.elim)).moved hW.alike⟩⟩ rfl hk hls hst (lv_room hcat) hdg ⟨hc, hs⟩) kk
end SR
section SC
variable {l : Launch} {k v : Nat}
theorem c_J3_checkIndex {i n : Int32} {fv : Value} (hf : fv = .null ∨ ∃ t : Nat, fv = .ref t) (h0 : ¬ i < 0) (h1 : i < n) : Cs l yJ3_checkIndex_8e157 cJ3_checkIndex_8e157 3 (some .int) 0 k v [.int i, .int n, fv] (some (.int i)) := by
  have key : ∀ (lv : List (Nat × Value)), lv_args 0 [.int i, .int n, fv] = lv → lv[0]? = some (0, .int i) → lv[1]? = some (1, .int n) → (lg_sl [.int i, .int n, fv]).length ≤ 3 → Cs l yJ3_checkIndex_8e157 cJ3_checkIndex_8e157 3 (some .int) 0 k v [.int i, .int n, fv] (some (.int i)) := by
    intro lv e0 e1 e2 e3
    refine S_start (own := RJ3) (lv := lv) pnJ3 rfl e3 e0 (fun p e s m args below meth c ls F hl => ?_)
    refine lv_iload_n F.1.1 F.1.2.1 dJ3_checkIndex_8e157_0 rfl (lv_at hl 0 e1) ?_
    refine lv_if_lt F.1.1 F.1.2.1 (tgt := 9) dJ3_checkIndex_8e157_1 (by decide) (fun z => absurd z h0) (fun _ => ?_)
    refine lv_iload_n (pc := 4) F.1.1 F.1.2.1 dJ3_checkIndex_8e157_4 rfl (lv_at hl 0 e1) ?_
    refine lv_iload_n (pc := 5) F.1.1 F.1.2.1 dJ3_checkIndex_8e157_5 rfl (lv_at hl 1 e2) ?_
    refine lv_icmp_lt (pc := 6) F.1.1 F.1.2.1 (tgt := 16) dJ3_checkIndex_8e157_6 (by decide) (fun _ => ?_) (fun z => absurd h1 z)
    refine lv_iload_n F.1.1 F.1.2.1 dJ3_checkIndex_8e157_16 rfl (lv_at hl 0 e1) ?_
    exact W.zret F.1.1 F.1.2.1 F.2.2.1 rfl (fun t ht _ => ⟨rfl, ht⟩) (fun _ z => by cases z) dJ3_checkIndex_8e157_17 F.2.2.2
  rcases hf with rfl | ⟨t, rfl⟩
  · exact key _ rfl rfl rfl (Nat.le_of_ble_eq_true rfl)
  · exact key _ rfl rfl rfl (Nat.le_of_ble_eq_true rfl)
theorem c_J0_checkIndex {i n : Int32} (h0 : ¬ i < 0) (h1 : i < n) : Cs l yJ0_checkIndex_df160 cJ0_checkIndex_df160 2 none 1 k v [.int i, .int n] none := by
  refine S_start (own := RJ0) (lv := [(0, .int i), (1, .int n)]) pnJ0 rfl (Nat.le_of_ble_eq_true rfl) rfl (fun p e s m args below meth c ls F hl => ?_)
  refine lv_iload_n F.1.1 F.1.2.1 dJ0_checkIndex_df160_0 rfl (lv_at hl 0 rfl) ?_
  refine lv_iload_n (pc := 1) F.1.1 F.1.2.1 dJ0_checkIndex_df160_1 rfl (lv_at hl 1 rfl) ?_
  have key : ∀ fv : Value, fv = .null ∨ (∃ t : Nat, fv = .ref t) → va_Z RJ3 "SIOOBE_FORMATTER" "Ljava/util/function/BiFunction;" fv (fun _ => False) s s.heap → W p l e (rmh 1) s m args below meth c s.heap [] 0 0 (MQ below (qS none) args s 0 0 (fun _ => False)) (F0 m 2 ls [.int n, .int i]) := by
    intro fv hf hZ
    refine va_gets F.1.1 F.1.2.1 hZ va_S.rf F.1.2.2.2.1 (F.1.2.2.2.2 _ wq_128) (fun _ h9 => h9) dJ0_checkIndex_df160_2 ?_
    refine S_callS (pc := 5) (rest := []) F.1 (c_J3_checkIndex hf h0 h1) (by decide) (by decide) (Nat.zero_le _) (Nat.zero_le _) F.2.1 wc_J3_checkIndex wq_130 rfl hl.1 rfl (Nat.le_of_ble_eq_true rfl) dJ0_checkIndex_df160_5 ?_
    refine lv_pop (pc := 8) F.1.1 F.1.2.1 dJ0_checkIndex_df160_8 rfl ?_
    exact W.vret F.1.1 F.1.2.1 F.2.2.1 (fun t ht _ => ⟨rfl, ht⟩) (fun _ z => by cases z) dJ0_checkIndex_df160_9 F.2.2.2
  rcases F.2.1.2.2.2.2.2 with hZ | ⟨t, hZ⟩
  · exact key _ (Or.inl rfl) hZ
  · exact key _ (Or.inr ⟨t, rfl⟩) hZ
theorem c_J1_charAt {j : Nat} (hj : j < 84) : Cs l yJ1_charAt_3b067 cJ1_charAt_3b067 2 (some .char) 2 k v [.ref v, .int (nI j)] (some (.int (tx84.getD j 0))) := by
  refine S_start (own := RJ1) (lv := [(0, .ref v), (1, .int (nI j))]) pnJ1 rfl (Nat.le_of_ble_eq_true rfl) rfl (fun p e s m args below meth c ls F hl => ?_)
  refine lv_iload_n F.1.1 F.1.2.1 dJ1_charAt_3b067_0 rfl (lv_at hl 1 rfl) ?_
  refine lv_aload_n (pc := 1) F.1.1 F.1.2.1 dJ1_charAt_3b067_1 rfl (lv_at hl 0 rfl) ?_
  refine va_tlen (pc := 2) (v := nI 84) F.1.1 F.1.2.1 F.2.1.2.2.2.1 va_S.rf rfl dJ1_charAt_3b067_2 ?_
  refine S_callS (pc := 3) (rest := []) F.1 (c_J0_checkIndex (i := nI j) (n := nI 84) (nI_pos (by omega)) (nI_lt hj (by decide))) (by decide) (by decide) (Nat.zero_le _) (Nat.zero_le _) F.2.1 wc_J0_checkIndex wq_125 rfl hl.1 rfl (Nat.le_of_ble_eq_true rfl) dJ1_charAt_3b067_3 ?_
  refine lv_aload_n (pc := 6) F.1.1 F.1.2.1 dJ1_charAt_3b067_6 rfl (lv_at hl 0 rfl) ?_
  refine lv_iload_n (pc := 7) F.1.1 F.1.2.1 dJ1_charAt_3b067_7 rfl (lv_at hl 1 rfl) ?_
  refine va_tb (pc := 8) (v := .int (tx84.getD j 0)) F.1.1 F.1.2.1 F.2.1.2.2.2.1 va_S.rf (vp_in_nI hj (by decide)) (by rw [nI_clamp (by omega)]) dJ1_charAt_3b067_8 ?_
  refine lv_sipush (pc := 9) (v := 255) F.1.1 F.1.2.1 dJ1_charAt_3b067_9 (by decide) ?_
  refine lv_iand (pc := 12) F.1.1 F.1.2.1 dJ1_charAt_3b067_12 ?_
  refine lv_i2c (pc := 13) F.1.1 F.1.2.1 dJ1_charAt_3b067_13 ((sc_c2 _).trans (tx84_255 j hj)) ?_
  refine W.zret (pc := 14) F.1.1 F.1.2.1 F.2.2.1 ?_ (fun t ht _ => ⟨rfl, ht⟩) (fun _ z => by cases z) dJ1_charAt_3b067_14 F.2.2.2
  have := sc_nar (tx84.getD j 0)
  rw [tx84_255 j hj] at this
  exact this
theorem c_J0_isLatin1 : Cs l yJ0_isLatin1_aae02 cJ0_isLatin1_aae02 1 (some .boolean) 0 k v [.ref k] (some (.int 1)) := by
  refine S_start (own := RJ0) (lv := [(0, .ref k)]) pnJ0 rfl (Nat.le_of_ble_eq_true rfl) rfl (fun p e s m args below meth c ls F hl => ?_)
  refine va_gets F.1.1 F.1.2.1 F.2.1.2.2.2.2.1 va_S.rf F.1.2.2.2.1 (F.1.2.2.2.2 _ wq_112) (fun _ h9 => h9) dJ0_isLatin1_aae02_0 ?_
  refine lv_if_eq (pc := 3) F.1.1 F.1.2.1 (tgt := 17) dJ0_isLatin1_aae02_3 (by decide) (fun z => absurd z (by decide)) (fun _ => ?_)
  refine lv_aload_n (pc := 6) F.1.1 F.1.2.1 dJ0_isLatin1_aae02_6 rfl (lv_at hl 0 rfl) ?_
  refine vk_getf (pc := 7) F.1.1 F.1.2.1 F.2.1.2.1 va_S.rf F.1.2.2.2.1 (F.1.2.2.2.2 _ wq_948) (fun _ h9 => h9) dJ0_isLatin1_aae02_7 ?_
  refine lv_if_ne (pc := 10) F.1.1 F.1.2.1 (tgt := 17) dJ0_isLatin1_aae02_10 (by decide) (fun z => absurd rfl z) (fun _ => ?_)
  refine lv_iconst (pc := 13) (v := 1) F.1.1 F.1.2.1 dJ0_isLatin1_aae02_13 (by decide) ?_
  refine lv_goto (pc := 14) F.1.1 F.1.2.1 (tgt := 18) dJ0_isLatin1_aae02_14 (by decide) ?_
  exact W.zret F.1.1 F.1.2.1 F.2.2.1 rfl (fun t ht _ => ⟨rfl, ht⟩) (fun _ z => by cases z) dJ0_isLatin1_aae02_18 F.2.2.2
theorem c_J0_coder : Cs l yJ0_coder_7d493 cJ0_coder_7d493 1 (some .byte) 0 k v [.ref k] (some (.int 0)) := by
  refine S_start (own := RJ0) (lv := [(0, .ref k)]) pnJ0 rfl (Nat.le_of_ble_eq_true rfl) rfl (fun p e s m args below meth c ls F hl => ?_)
  refine va_gets F.1.1 F.1.2.1 F.2.1.2.2.2.2.1 va_S.rf F.1.2.2.2.1 (F.1.2.2.2.2 _ wq_112) (fun _ h9 => h9) dJ0_coder_7d493_0 ?_
  refine lv_if_eq (pc := 3) F.1.1 F.1.2.1 (tgt := 13) dJ0_coder_7d493_3 (by decide) (fun z => absurd z (by decide)) (fun _ => ?_)
  refine lv_aload_n (pc := 6) F.1.1 F.1.2.1 dJ0_coder_7d493_6 rfl (lv_at hl 0 rfl) ?_
  refine vk_getf (pc := 7) F.1.1 F.1.2.1 F.2.1.2.1 va_S.rf F.1.2.2.2.1 (F.1.2.2.2.2 _ wq_948) (fun _ h9 => h9) dJ0_coder_7d493_7 ?_
  refine lv_goto (pc := 10) F.1.1 F.1.2.1 (tgt := 14) dJ0_coder_7d493_10 (by decide) ?_
  exact W.zret F.1.1 F.1.2.1 F.2.2.1 rfl (fun t ht _ => ⟨rfl, ht⟩) (fun _ z => by cases z) dJ0_coder_7d493_14 F.2.2.2
theorem c_J0_length : Cs l yJ0_length_8abf5 cJ0_length_8abf5 1 (some .int) 1 k v [.ref k] (some (.int (nI 84))) := by
  refine S_start (own := RJ0) (lv := [(0, .ref k)]) pnJ0 rfl (Nat.le_of_ble_eq_true rfl) rfl (fun p e s m args below meth c ls F hl => ?_)
  refine lv_aload_n F.1.1 F.1.2.1 dJ0_length_8abf5_0 rfl (lv_at hl 0 rfl) ?_
  refine vk_getf (pc := 1) F.1.1 F.1.2.1 F.2.1.2.2.1 va_S.rf F.1.2.2.2.1 (F.1.2.2.2.2 _ wq_947) (fun _ h9 => h9) dJ0_length_8abf5_1 ?_
  refine va_tlen (pc := 4) (v := nI 84) F.1.1 F.1.2.1 F.2.1.2.2.2.1 va_S.rf rfl dJ0_length_8abf5_4 ?_
  refine lv_aload_n (pc := 5) F.1.1 F.1.2.1 dJ0_length_8abf5_5 rfl (lv_at hl 0 rfl) ?_
  refine S_callV (pc := 6) (rest := [.int (nI 84)]) F.1 (As := []) c_J0_coder (by decide) (by decide) (Nat.zero_le _) (Nat.zero_le _) F.2.1 rfl wc_J0_coder wq_108 rfl hl.1 rfl (Nat.le_of_ble_eq_true rfl) dJ0_length_8abf5_6 ?_
  refine lv_ishr (pc := 9) F.1.1 F.1.2.1 dJ0_length_8abf5_9 ?_
  rw [sc_shr0 (by decide)]
  exact W.zret (pc := 10) F.1.1 F.1.2.1 F.2.2.1 rfl (fun t ht _ => ⟨rfl, ht⟩) (fun _ z => by cases z) dJ0_length_8abf5_10 F.2.2.2
theorem c_J0_charAt {j : Nat} (hj : j < 84) : Cs l yJ0_charAt_5068e cJ0_charAt_5068e 2 (some .char) 3 k v [.ref k, .int (nI j)] (some (.int (tx84.getD j 0))) := by
  refine S_start (own := RJ0) (lv := [(0, .ref k), (1, .int (nI j))]) pnJ0 rfl (Nat.le_of_ble_eq_true rfl) rfl (fun p e s m args below meth c ls F hl => ?_)
  refine lv_aload_n F.1.1 F.1.2.1 dJ0_charAt_5068e_0 rfl (lv_at hl 0 rfl) ?_
  refine S_callV (pc := 1) (rest := []) F.1 (As := []) c_J0_isLatin1 (by decide) (by decide) (Nat.zero_le _) (Nat.zero_le _) F.2.1 rfl wc_J0_isLatin1 wq_118 rfl hl.1 rfl (Nat.le_of_ble_eq_true rfl) dJ0_charAt_5068e_1 ?_
  refine lv_if_eq (pc := 4) F.1.1 F.1.2.1 (tgt := 16) dJ0_charAt_5068e_4 (by decide) (fun z => absurd z (by decide)) (fun _ => ?_)
  refine lv_aload_n (pc := 7) F.1.1 F.1.2.1 dJ0_charAt_5068e_7 rfl (lv_at hl 0 rfl) ?_
  refine vk_getf (pc := 8) F.1.1 F.1.2.1 F.2.1.2.2.1 va_S.rf F.1.2.2.2.1 (F.1.2.2.2.2 _ wq_947) (fun _ h9 => h9) dJ0_charAt_5068e_8 ?_
  refine lv_iload_n (pc := 11) F.1.1 F.1.2.1 dJ0_charAt_5068e_11 rfl (lv_at hl 1 rfl) ?_
  refine S_callS (pc := 12) (rest := []) F.1 (c_J1_charAt hj) (by decide) (by decide) (Nat.zero_le _) (Nat.zero_le _) F.2.1 wc_J1_charAt wq_122 rfl hl.1 rfl (Nat.le_of_ble_eq_true rfl) dJ0_charAt_5068e_12 ?_
  refine W.zret (pc := 15) F.1.1 F.1.2.1 F.2.2.1 ?_ (fun t ht _ => ⟨rfl, ht⟩) (fun _ z => by cases z) dJ0_charAt_5068e_15 F.2.2.2
  have := sc_nar (tx84.getD j 0)
  rw [tx84_255 j hj] at this
  exact this
end SC
/-! Text.take -/
def tkS (σ : St) : Nat → St
  | 0 => w2 σ 0 0 (0 : Int32)
  | i + 1 => w2 (w2 (tkS σ i) 1 i (tx84.getD i 0)) 0 0 (nI (i + 1))
theorem tkS_len {σ : St} : ∀ i : Nat, tkS σ i 0 0 = nI i
  | 0 => by show w2 σ 0 0 (0 : Int32) 0 0 = _; rw [w2_ap, if_pos ⟨rfl, rfl⟩]; rfl
  | i + 1 => by show w2 _ 0 0 _ 0 0 = _; rw [w2_ap, if_pos ⟨rfl, rfl⟩]
theorem tkS_app {σ : St} {i : Nat} (hi : i < 84) : f_X2_append (tx84.getD i 0) (tkS σ i) = some ((1 : Int32), tkS σ (i + 1)) := by
  have y200 : (200 : Int32) = nI 200 := rfl
  unfold f_X2_append
  rw [tkS_len, if_pos (by rw [y200, nI_ltI (by omega) (by omega)]; omega), put_eq (by omega) (by decide)]
  show some ((1 : Int32), w2 (w2 (tkS σ i) 1 i (tx84.getD i 0)) 0 0 (w2 (tkS σ i) 1 i (tx84.getD i 0) 0 0 + (1 : Int32))) = _
  rw [w2_ap (tkS σ i) 1 i _ 0 0, if_neg (by omega), tkS_len, z1, nI_add]
  rfl
def CtS (l : Launch) (y : MethodName) (cc : ByteArray) (maxL : Nat) (ret : Option FieldType) (h : Nat) (E : En) (ad : Nat → Nat) (G : Lay) (n k v : Nat) (avs : List Value) (σ : St) (o : Option Value) (σ' : St) : Prop :=
  Met l y (.code y cc maxL ret :: gtbl) (rmh h) (va_Pc avs (fun U => WP E ad G n σ U ∧ SP k v (adA ad n) U U.heap)) (mQ E ad G n o σ') 0 0 (adA ad n)
theorem WS_blind {avs : List Value} {E : En} {ad : Nat → Nat} {G : Lay} {n k v : Nat} {σ : St} : FrameBlind (va_Pc avs (fun U => WP E ad G n σ U ∧ SP k v (adA ad n) U U.heap)) := fun a U g mk q => by
  obtain ⟨q0, q1, q2⟩ := q
  exact ⟨q0, (WP_blind (avs := avs) a U g mk ⟨q0, q1⟩).2, SP.moved (u := U) (U := U.calling g mk a) (Vm.Alike.refl U.vm) q2⟩
theorem c_X2_take {l : Launch} {E : En} {ad : Nat → Nat} {G : Lay} {n k v : Nat} (hI : adI ad n) (ht : TxtAt E ad G n) {σ : St} : CtS l yX2_take cX2_take 3 none 4 E ad G n k v [.ref (ad 0), .ref k] σ none (tkS σ 84) := by
  refine Met.ofW (cc := cX2_take) (maxL := 3) (ret := none) pnX2 rfl ?_
  intro p e s m args below meth c s₁ B hml hv
  obtain ⟨rfl, ⟨hP, hK, hN⟩, hSP⟩ := hv
  have hts := atoms_spec (ws := .code yX2_take cX2_take 3 none :: gtbl) B.pre
  have F : Fx p s m ([.ref (ad 0), .ref k] : List Value).toArray meth c cX2_take 3 RX2 E ad n none := ⟨B.exec, B.bytes, hml, findClass_of_methodNamed B.named, fun w hw => hts w (List.mem_cons_of_mem _ hw), hN, hK, hI, B.returns, B.notSynchronized⟩
  have loop : ∀ d i : Nat, i + d = 84 → J p l e 4 s m ([.ref (ad 0), .ref k] : List Value).toArray below meth c E ad G n (QU below E ad G n ([.ref (ad 0), .ref k] : List Value).toArray s ((), tkS σ 84)) 3 (tkS σ i) 11 [(2, .int (nI i)), (0, .ref (ad 0)), (1, .ref k)] [] := by
    intro d
    induction d with
    | zero =>
      intro i hi
      obtain rfl : i = 84 := by omega
      refine J_iload_n F dX2_take_11 rfl 0 rfl ?_
      refine J_aload_n (pc := 12) F dX2_take_12 rfl 2 rfl ?_
      refine (fun H locs ls hls hP hS => S_callV (pc := 13) (rest := [.int (nI 84)]) ⟨F.1, F.2.1, F.2.2.1, F.2.2.2.1, F.2.2.2.2.1⟩ (As := []) c_J0_length (by decide) (by decide) (Nat.zero_le _) (Nat.zero_le _) (hSP.kept hS.2.1) rfl wc_J0_length wq_104 rfl hls.1 rfl (Nat.le_of_ble_eq_true rfl) dX2_take_13 ((?_ : J p l e 4 s m _ below meth c E ad G n _ 3 (tkS σ 84) 16 [(2, .int (nI 84)), (0, .ref (ad 0)), (1, .ref k)] [.int (nI 84), .int (nI 84)]) H locs ls hls hP hS))
      refine J_icmp_geT (pc := 16) F (tgt := 35) dX2_take_16 (by decide) (Int32.le_refl _) ?_
      exact J_vret F dX2_take_35 rfl
    | succ d ih =>
      intro i hi
      refine J_iload_n F dX2_take_11 rfl 0 rfl ?_
      refine J_aload_n (pc := 12) F dX2_take_12 rfl 2 rfl ?_
      refine (fun H locs ls hls hP hS => S_callV (pc := 13) (rest := [.int (nI i)]) ⟨F.1, F.2.1, F.2.2.1, F.2.2.2.1, F.2.2.2.2.1⟩ (As := []) c_J0_length (by decide) (by decide) (Nat.zero_le _) (Nat.zero_le _) (hSP.kept hS.2.1) rfl wc_J0_length wq_104 rfl hls.1 rfl (Nat.le_of_ble_eq_true rfl) dX2_take_13 ((?_ : J p l e 4 s m _ below meth c E ad G n _ 3 (tkS σ i) 16 [(2, .int (nI i)), (0, .ref (ad 0)), (1, .ref k)] [.int (nI 84), .int (nI i)]) H locs ls hls hP hS))
      refine J_icmp_geF (pc := 16) F (tgt := 35) dX2_take_16 (by decide) (by rw [nI_leI (by omega) (by omega)]; omega) ?_
      refine J_aload_n (pc := 19) F dX2_take_19 rfl 1 rfl ?_
      refine J_aload_n (pc := 20) F dX2_take_20 rfl 2 rfl ?_
      refine J_iload_n (pc := 21) F dX2_take_21 rfl 0 rfl ?_
      refine (fun H locs ls hls hP hS => S_callV (pc := 22) (rest := [.ref (ad 0)]) ⟨F.1, F.2.1, F.2.2.1, F.2.2.2.1, F.2.2.2.2.1⟩ (As := [.int (nI i)]) (c_J0_charAt (by omega)) (by decide) (by decide) (Nat.zero_le _) (Nat.zero_le _) (hSP.kept hS.2.1) rfl wc_J0_charAt wq_114 rfl hls.1 rfl (Nat.le_of_ble_eq_true rfl) dX2_take_22 ((?_ : J p l e 4 s m _ below meth c E ad G n _ 3 (tkS σ i) 25 [(2, .int (nI i)), (0, .ref (ad 0)), (1, .ref k)] [.int (tx84.getD i 0), .ref (ad 0)]) H locs ls hls hP hS))
      refine J_callVI (pc := 25) F (b := 0) (c_X2_append hI ht (tkS_app (by omega))) (by decide) (by decide) (txtN ht) (ht.2.1 _) rfl wc_X2_append wq_152 rfl rfl (Nat.le_of_ble_eq_true rfl) dX2_take_25 ?_
      refine J_pop (pc := 28) F dX2_take_28 rfl ?_
      refine J_iinc (pc := 29) F (v := nI (i + 1)) (lv' := [(2, .int (nI (i + 1))), (0, .ref (ad 0)), (1, .ref k)]) dX2_take_29 0 rfl (by rw [← nI_add]; rfl) (by decide) rfl ?_
      refine J_goto (pc := 32) F (tgt := 11) dX2_take_32 (by decide) ?_
      exact ih (i + 1) (by omega)
  have start : J p l e 4 s m ([.ref (ad 0), .ref k] : List Value).toArray below meth c E ad G n (QU below E ad G n ([.ref (ad 0), .ref k] : List Value).toArray s ((), tkS σ 84)) 3 σ 0 [(0, .ref (ad 0)), (1, .ref k)] [] := by
    refine J_aload_n F dX2_take_0 rfl 0 rfl ?_
    refine J_iconst (pc := 1) F (v := 0) dX2_take_1 rfl ?_
    refine pfX2_length (pc := 2) F ht wd_28 dX2_take_2 rfl ?_
    refine J_aload_n (pc := 5) F dX2_take_5 rfl 1 rfl ?_
    refine J_ifnull (pc := 6) F dX2_take_6 ?_
    refine J_iconst (pc := 9) F (v := 0) dX2_take_9 rfl ?_
    refine J_istore_n (pc := 10) F (lv' := [(2, .int (nI 0)), (0, .ref (ad 0)), (1, .ref k)]) dX2_take_10 rfl (by decide) rfl ?_
    exact loop 84 0 rfl
  have hl := lv_entry ([.ref (ad 0), .ref k]) (n := 3) (Nat.le_of_ble_eq_true rfl)
  rw [lg_entry_eq]
  exact start s.heap [] _ hl hP va_S.rf
