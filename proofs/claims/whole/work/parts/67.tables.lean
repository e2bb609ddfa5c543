/-! rows of tables: worlds that tables(int) makes; the call of it -/
theorem we_42 : Cond.classLink RX3 10 RX1 ∈ gtbl := gtbl_of (List.mem_append_right _ (List.mem_of_getElem? (i := 42) (by decide +kernel))) rfl
theorem we_43 : Cond.instantiable RX1 12 ∈ gtbl := gtbl_of (List.mem_append_right _ (List.mem_of_getElem? (i := 43) (by decide +kernel))) rfl
theorem we_3 : Cond.initialized RX1 ∈ gtbl := gtbl_of (List.mem_append_right _ (List.mem_of_getElem? (i := 3) (by decide +kernel))) rfl
theorem we_44 : Cond.methodLink RX3 12 yX1_init ∈ gtbl := gtbl_of (List.mem_append_right _ (List.mem_of_getElem? (i := 44) (by decide +kernel))) rfl
theorem we_45 : Cond.instanceMethod yX1_init ∈ gtbl := gtbl_of (List.mem_append_right _ (List.mem_of_getElem? (i := 45) (by decide +kernel))) rfl
theorem we_46 : Cond.code yX1_init cX1_init 1 none ∈ gtbl := gtbl_of (List.mem_append_right _ (List.mem_of_getElem? (i := 46) (by decide +kernel))) rfl
theorem we_208 : Cond.methodLink RX3 43 yX3_tables ∈ gtbl := gtbl_of (List.mem_append_right _ (List.mem_of_getElem? (i := 208) (by decide +kernel))) rfl
theorem wc_X3_tables : WcS yX3_tables cX3_tables 3 (some (.array (.object RX1))) 1 := ⟨gtbl_of (List.mem_append_right _ (List.mem_of_getElem? (i := 209) (by decide +kernel))) rfl, gtbl_of (List.mem_append_right _ (List.mem_of_getElem? (i := 1) (by decide +kernel))) rfl, gtbl_of (List.mem_append_right _ (List.mem_of_getElem? (i := 210) (by decide +kernel))) rfl, ⟨by decide +kernel, by decide +kernel, by decide +kernel⟩⟩
theorem wi_X1 : yX1_init.cls ≠ "java/lang/invoke/MethodHandle" ∧ yX1_init.cls ≠ "java/lang/invoke/VarHandle" ∧ (parseMethodDescriptor yX1_init.desc).map (fun d => d.parameters.length) = some 0 := ⟨by decide +kernel, by decide +kernel, by decide +kernel⟩
def tabW (E : En) (a : Nat → Nat) : va_W := [(a 0, .inr (1, [.ref (a 1), .ref (a 2), .ref (a 3), .ref (a 4), .ref (a 5), .ref (a 6), .ref (a 7), .ref (a 8), .int 0, .int 0, .int 3, .int 0])), (a 1, .inl (E.2.1, 8, .inl (fun _ => 0))), (a 2, .inl (E.2.1, 5, .inl (fun _ => 0))), (a 3, .inl (E.2.1, 5, .inl (fun _ => 0))), (a 4, .inl (E.2.1, 5, .inl (fun _ => 0))), (a 5, .inl (E.2.1, 5, .inl (fun _ => 0))), (a 6, .inl (E.2.1, 40, .inl (fun _ => 0))), (a 7, .inl (E.2.1, 40, .inl (fun _ => 0))), (a 8, .inl (E.2.1, 5, .inl (fun _ => 0)))]
def tabsW (E : En) (tb : Nat → Nat → Nat) : Nat → va_W
  | 0 => []
  | n + 1 => tabsW E tb n ++ tabW E (tb n)
def rowW (E : En) (q L i : Nat) (tb : Nat → Nat → Nat) : Nat × va_E := (q, .inl (E.2.2.2, L, .inr (.inr (.inr (.inr (fun j => if j < i then some (tb j 0) else none))))))
theorem rX1_tab {E : En} {h0 : Nat} {w : va_W} (h : rX1 E h0 w) : ∃ a : Nat → Nat, a 0 = h0 ∧ w = tabW E a := by
  obtain ⟨q1, q2, q3, q4, q5, q6, q7, q8, rfl⟩ := h
  exact ⟨adL [h0, q1, q2, q3, q4, q5, q6, q7, q8], rfl, rfl⟩
theorem tabsW_len {E : En} {tb : Nat → Nat → Nat} : ∀ n : Nat, (tabsW E tb n).length = 9 * n
  | 0 => rfl
  | n + 1 => by
    show (tabsW E tb n ++ tabW E (tb n)).length = _
    rw [List.length_append, tabsW_len n]
    show 9 * n + 9 = _
    omega
theorem tabsW_congr {E : En} {tb tb' : Nat → Nat → Nat} : ∀ n : Nat, (∀ j, j < n → tb j = tb' j) → tabsW E tb n = tabsW E tb' n
  | 0, _ => rfl
  | n + 1, h => by
    show tabsW E tb n ++ tabW E (tb n) = tabsW E tb' n ++ tabW E (tb' n)
    rw [tabsW_congr n (fun j hj => h j (by omega)), h n (by omega)]
section NT
variable {p : Program} {l : Launch} {e : Env} {R : Room} {s : State} {m : MethodId} {args : Array Value} {below : List Frame} {meth : Method} {c : Code} {E : En} {A : Nat → Prop} {Q : State → Prop} {nL kc ks : Nat} {ws wr : va_W} {pc : Nat} {lv : List (Nat × Value)} {st : List Value} {cc : ByteArray} {own : String} {ret : Option FieldType}
theorem N_kc {kc' ks' : Nat} (h1 : kc = kc') (h2 : ks = ks') (kk : JL p l e R s m args below meth c E A Q nL kc' ks' ws pc lv st) : JL p l e R s m args below meth c E A Q nL kc ks ws pc lv st := by
  subst h1; subst h2; exact kk
theorem N_mmax (F : Fy p s m args meth c cc nL own E A ret) {idx : Nat} {x y : Int32} (hfr : 1 ≤ R.frames) (hlo : 21 ≤ R.locals) (hc : kc ≤ R.cells) (hs : ks ≤ R.slots) (hw : Cond.methodLink own idx Lib.Math.max.name ∈ gtbl) (hcat : (st.map fun v => v.category).sum ≤ 8) (hdg : decode cc pc = .ok (.invokestatic idx, 3)) (kk : JL p l e R s m args below meth c E A Q nL kc ks ws (pc + 3) lv (.int (if x < y then y else x) :: st)) : JL p l e R s m args below meth c E A Q nL kc ks ws pc lv (.int y :: .int x :: st) := fun H locs ls hls hP hD hS => by
  have hts := F.2.2.2.2.1
  exact va_mmax F.1 F.2.1 (by rw [F.2.2.1, hls.1]) F.2.2.2.1 (hts _ hw) (hts _ wd_212) (hts _ wd_8) (hts _ wd_213) hfr (by omega) hc hs hdg (kk H locs ls hls hP hD hS)
theorem N_newR (F : Fy p s m args meth c cc nL own E A ret) {v : Int32} {L idx : Nat} (hAO : va_AO RX1 s) (hw : Cond.classLink own idx RX1 ∈ gtbl) (hn : ¬ v < 0) (hN : v.toNatClampNeg = L) (hL : L * 4 ≤ 536870912) (hc : kc + 1 ≤ R.cells) (hs : ks + L ≤ R.slots) (hdg : decode cc pc = .ok (.anewarray idx, 3)) (kk : ∀ q, JL p l e R s m args below meth c E A Q nL (kc + 1) (ks + L) (ws ++ [(q, .inl (E.2.2.2, L, .inr (.inr (.inr (.inr (fun _ => none))))))]) (pc + 3) lv (.ref q :: st)) : JL p l e R s m args below meth c E A Q nL kc ks ws pc lv (.int v :: st) := fun H locs ls hls hP hD hS => by
  refine va_newq (N' := L) F.1 F.2.1 F.2.2.2.1 (F.2.2.2.2.1 _ hw) hAO F.2.2.2.2.2.2.1 hP hD hS F.2.2.2.2.2.2.2.1 hn hN hL hc hs hdg (fun q cA H1 hK hP hD hS => ?_)
  have e := K_tab hK F.2.2.2.2.2.2.1
  subst e
  exact kk q H1 locs ls hls hP hD hS
theorem N_alenT (F : Fy p s m args meth c cc nL own E A ret) {q0 a L : Nat} {f : Nat → Option Nat} (he : ws[q0]? = some (a, .inl (E.2.2.2, L, .inr (.inr (.inr (.inr f)))))) (hdg : decode cc pc = .ok (.arraylength, 1)) (kk : JL p l e R s m args below meth c E A Q nL kc ks ws (pc + 1) lv (.int (nI L) :: st)) : JL p l e R s m args below meth c E A Q nL kc ks ws pc lv (.ref a :: st) := fun H locs ls hls hP hD hS => va_alen F.1 F.2.1 F.2.2.2.2.2.2.1 hP q0 2 he rfl rfl hdg (kk H locs ls hls hP hD hS)
theorem N_aast (F : Fy p s m args meth c cc nL own E A ret) {q0 qk a v L : Nat} {f : Nat → Option Nat} {vs : List Value} {i : Int32} {ws' : va_W} (ha : ws[q0]? = some (a, .inl (E.2.2.2, L, .inr (.inr (.inr (.inr f)))))) (hv : ws[qk]? = some (v, .inr (1, vs))) (hin : vp_in i L) (hws : ws.set q0 (a, .inl (E.2.2.2, L, .inr (.inr (.inr (.inr (va_up f i.toNatClampNeg (some v))))))) = ws') (hdg : decode cc pc = .ok (.aastore, 1)) (kk : JL p l e R s m args below meth c E A Q nL kc ks ws' (pc + 1) lv st) : JL p l e R s m args below meth c E A Q nL kc ks ws pc lv (.ref v :: .int i :: .ref a :: st) := fun H locs ls hls hP hD hS => by
  subst hws
  exact va_astq (r := (RX1, TX1, 12)) F.1 F.2.1 F.2.2.2.2.2.2.1 hP hD hS q0 2 qk 1 ha rfl hv rfl hin hdg (fun H1 locs1 hP1 hD1 hS1 => kk H1 locs1 ls hls hP1 hD1 hS1)
end NT
abbrev qT (E : En) (L sz : Nat) : Array Value → State → Outcome → State → Prop := va_Qr (fun _ : Nat → Nat → Nat => True) (fun tb q t => va_P E.1 vwCl (rowW E q L L tb :: tabsW E tb L) t.heap ∧ va_D (va_A [] sz) (rowW E q L L tb :: tabsW E tb L)) (va_A [] sz)
def CtT (l : Launch) (E : En) (L : Nat) : Prop := ∀ sz : Nat, Met l yX3_tables (.code yX3_tables cX3_tables 3 (some (.array (.object RX1))) :: gtbl) { frames := 2, cells := 1 + 9 * L, slots := L + 125 * L, locals := 50 } (va_Pc [.int (nI L)] (fun U => U.heap.size = sz ∧ va_K E.1 vwCl (tysE E) U ∧ NWs U ∧ va_AO RX1 U)) (qT E L sz) (1 + 9 * L) (L + 125 * L) (va_A [] sz)
theorem dfX1 : ∀ j, j < 12 → defaultValue (tyX1 j) = vp_V [.null, .null, .null, .null, .null, .null, .null, .null, .int 0, .int 0, .int 0, .int 0] j := by
  intro j hj
  rcases (show j = 0 ∨ j = 1 ∨ j = 2 ∨ j = 3 ∨ j = 4 ∨ j = 5 ∨ j = 6 ∨ j = 7 ∨ j = 8 ∨ j = 9 ∨ j = 10 ∨ j = 11 by omega) with rfl | rfl | rfl | rfl | rfl | rfl | rfl | rfl | rfl | rfl | rfl | rfl <;> rfl
theorem row_up {tb : Nat → Nat → Nat} {i : Nat} {a : Nat → Nat} : va_up (fun j => if j < i then some (tb j 0) else none) i (some (a 0)) = fun j => if j < i + 1 then some (va_up tb i a j 0) else none := by
  funext j
  unfold va_up
  by_cases h1 : j = i
  · subst h1
    simp
  · by_cases h2 : j < i
    · simp [h1, h2, show j < i + 1 by omega]
    · simp [h1, h2, show ¬ j < i + 1 by omega]
set_option maxHeartbeats 4000000 in
set_option maxRecDepth 100000 in
theorem n_X3_tables {l : Launch} {E : En} {L : Nat} (hL : L ≤ 100) : CtT l E L := by
  intro sz
  refine Met.ofW (cc := cX3_tables) (maxL := 3) (ret := some (.array (.object RX1))) pnX3 rfl ?_
  intro p e s m args below meth c s₁ B hml hv
  obtain ⟨rfl, hsz, hK, hN, hAO⟩ := hv
  have hts := atoms_spec (ws := .code yX3_tables cX3_tables 3 (some (.array (.object RX1))) :: gtbl) B.pre
  subst hsz
  have F : Fy p s m ([.int (nI L)] : List Value).toArray meth c cX3_tables 3 RX3 E (va_A [] s.heap.size) (some (.array (.object RX1))) := ⟨B.exec, B.bytes, hml, findClass_of_methodNamed B.named, fun w hw => hts w (List.mem_cons_of_mem _ hw), hN, hK, fun q h => Or.inr h, B.returns, B.notSynchronized⟩
  have hD0 : va_D (va_A [] s.heap.size) [] := ⟨fun i j x z hi => by simp at hi, fun k x hk => by simp at hk⟩
  have hP0 : va_P E.1 vwCl [] s.heap := fun k x hk => by simp at hk
  have loop : ∀ (d i q : Nat) (tb : Nat → Nat → Nat), i + d = L → JL p l e { frames := 2, cells := 1 + 9 * L, slots := L + 125 * L, locals := 50 } s m ([.int (nI L)] : List Value).toArray below meth c E (va_A [] s.heap.size) (MQ below (qT E L s.heap.size) ([.int (nI L)] : List Value).toArray s (1 + 9 * L) (L + 125 * L) (va_A [] s.heap.size)) 3 (1 + 9 * i) (L + 125 * i) (rowW E q L i tb :: tabsW E tb i) 11 [(2, .int (nI i)), (1, .ref q), (0, .int (nI L))] [] := by
    intro d
    induction d with
    | zero =>
      intro i q tb hi
      have hi : i = L := by omega
      rw [hi]
      refine N_iload_n F dX3_tables_11 rfl 0 rfl ?_
      refine N_aload_n (pc := 12) F dX3_tables_12 rfl 1 rfl ?_
      refine N_alenT (pc := 13) (q0 := 0) (L := L) F rfl dX3_tables_13 ?_
      refine N_icmp_geT (pc := 14) F (tgt := 33) dX3_tables_14 (by decide) (Int32.le_refl _) ?_
      refine N_aload_n F dX3_tables_33 rfl 1 rfl ?_
      exact fun H locs ls hls hP hD hS => W.aret (v := .ref q) F.1 F.2.1 F.2.2.2.2.2.2.2.2.1 (Or.inr ⟨_, rfl⟩) (Or.inr ⟨_, rfl⟩) (fun t ht _ => ⟨⟨tb, q, rfl, trivial, by rw [ht]; exact hP, hD⟩, hS.F ht⟩) hS.2.2 dX3_tables_34 F.2.2.2.2.2.2.2.2.2
    | succ d ih =>
      intro i q tb hi
      refine N_iload_n F dX3_tables_11 rfl 0 rfl ?_
      refine N_aload_n (pc := 12) F dX3_tables_12 rfl 1 rfl ?_
      refine N_alenT (pc := 13) (q0 := 0) (L := L) F rfl dX3_tables_13 ?_
      refine N_icmp_geF (pc := 14) F (tgt := 33) dX3_tables_14 (by decide) (by rw [nI_leI (by omega) (by omega)]; omega) ?_
      refine N_aload_n (pc := 17) F dX3_tables_17 rfl 1 rfl ?_
      refine N_iload_n (pc := 18) F dX3_tables_18 rfl 0 rfl ?_
      refine N_new (pc := 19) F (C := RX1) (T := TX1) (N := 12) (ci := 1) (fs := [.null, .null, .null, .null, .null, .null, .null, .null, .int 0, .int 0, .int 0, .int 0]) inGX1 tyX1 tyX1_ok we_42 we_43 we_3 rfl dfX1 (by show 1 + 9 * i + 1 ≤ 1 + 9 * L; omega) (by show L + 125 * i + 12 ≤ L + 125 * L; omega) dX3_tables_19 (fun v => ?_)
      refine N_dup (pc := 22) F dX3_tables_22 rfl ?_
      refine N_callInit (pc := 23) F n_X1_init rfl we_45 we_3 we_46 wi_X1 we_44 (Nat.le_of_ble_eq_true rfl) (Nat.le_of_ble_eq_true rfl) (by show 1 + 9 * i + 1 + 8 ≤ 1 + 9 * L; omega) (by show L + 125 * i + 12 + 113 ≤ L + 125 * L; omega) rfl (Nat.le_of_ble_eq_true rfl) dX3_tables_23 (fun w1 hw1 => ?_)
      obtain ⟨a, ha0, rfl⟩ := rX1_tab hw1
      subst ha0
      have hlen : (rowW E q L i tb :: tabsW E tb i).length = 1 + 9 * i := by rw [List.length_cons, tabsW_len]; omega
      have hset : ((rowW E q L i tb :: tabsW E tb i) ++ tabW E a).set 0 (q, .inl (E.2.2.2, L, .inr (.inr (.inr (.inr (va_up (fun j => if j < i then some (tb j 0) else none) (nI i).toNatClampNeg (some (a 0)))))))) = rowW E q L (i + 1) (va_up tb i a) :: tabsW E (va_up tb i a) (i + 1) := by
        rw [nI_clamp (by omega), row_up]
        show rowW E q L (i + 1) (va_up tb i a) :: (tabsW E tb i ++ tabW E a) = rowW E q L (i + 1) (va_up tb i a) :: (tabsW E (va_up tb i a) i ++ tabW E (va_up tb i a i))
        rw [show va_up tb i a i = a from if_pos rfl, tabsW_congr (tb := va_up tb i a) (tb' := tb) i (fun j hj => if_neg (by omega))]
      have hvv : ((rowW E q L i tb :: tabsW E tb i) ++ tabW E a)[1 + 9 * i]? = some (a 0, .inr (1, [.ref (a 1), .ref (a 2), .ref (a 3), .ref (a 4), .ref (a 5), .ref (a 6), .ref (a 7), .ref (a 8), .int 0, .int 0, .int 3, .int 0])) := by
        rw [List.getElem?_append_right (by omega), hlen, Nat.sub_self]
        rfl
      refine N_aast (pc := 26) (q0 := 0) (qk := 1 + 9 * i) F rfl hvv (vp_in_nI (by omega) (by omega)) hset dX3_tables_26 ?_
      refine N_iinc (pc := 27) F (v := nI (i + 1)) (lv' := [(2, .int (nI (i + 1))), (1, .ref q), (0, .int (nI L))]) dX3_tables_27 0 rfl (by rw [← nI_add]; rfl) (by decide) rfl ?_
      refine N_goto (pc := 30) F (tgt := 11) dX3_tables_30 (by decide) ?_
      exact N_kc (by omega) (by omega) (ih (i + 1) q (va_up tb i a) (by omega))
  have start : JL p l e { frames := 2, cells := 1 + 9 * L, slots := L + 125 * L, locals := 50 } s m ([.int (nI L)] : List Value).toArray below meth c E (va_A [] s.heap.size) (MQ below (qT E L s.heap.size) ([.int (nI L)] : List Value).toArray s (1 + 9 * L) (L + 125 * L) (va_A [] s.heap.size)) 3 0 0 [] 0 [(0, .int (nI L))] [] := by
    refine N_iload_n F dX3_tables_0 rfl 0 rfl ?_
    refine N_iconst (pc := 1) (v := 0) F dX3_tables_1 rfl ?_
    refine N_mmax (pc := 2) F (Nat.le_of_ble_eq_true rfl) (Nat.le_of_ble_eq_true rfl) (Nat.zero_le _) (Nat.zero_le _) wd_211 (Nat.le_of_ble_eq_true rfl) dX3_tables_2 ?_
    refine N_ti (if_neg (nI_pos (by omega))).symm ?_
    refine N_newR (pc := 5) (L := L) F hAO we_42 (nI_pos (by omega)) (nI_clamp (by omega)) (by omega) (by show 0 + 1 ≤ 1 + 9 * L; omega) (by show 0 + L ≤ L + 125 * L; omega) dX3_tables_5 (fun q => ?_)
    refine N_as (ws' := rowW E q L 0 (fun _ _ => 0) :: tabsW E (fun _ _ => 0) 0) ?_ ?_
    · show [(q, _)] = [(q, _)]
      have : (fun _ : Nat => (none : Option Nat)) = fun j => if j < 0 then some ((fun _ _ => 0 : Nat → Nat → Nat) j 0) else none := by funext j; rw [if_neg (by omega)]
      rw [this]
    refine N_astore_n (pc := 8) F (lv' := [(1, .ref q), (0, .int (nI L))]) dX3_tables_8 rfl (by decide) rfl ?_
    refine N_iconst (pc := 9) (v := 0) F dX3_tables_9 rfl ?_
    refine N_istore_n (pc := 10) F (lv' := [(2, .int (nI 0)), (1, .ref q), (0, .int (nI L))]) dX3_tables_10 rfl (by decide) rfl ?_
    exact N_kc (by omega) (by omega) (loop L 0 q (fun _ _ => 0) (by omega))
  have hl := lv_entry ([.int (nI L)]) (n := 3) (Nat.le_of_ble_eq_true rfl)
  rw [lg_entry_eq]
  exact start s.heap [] _ hl hP0 hD0 va_S.rf
theorem N_callT {p : Program} {l : Launch} {e : Env} {R : Room} {s : State} {m : MethodId} {args : Array Value} {below : List Frame} {meth : Method} {c : Code} {E : En} {A : Nat → Prop} {Q : State → Prop} {nL kc ks : Nat} {ws : va_W} {pc : Nat} {lv : List (Nat × Value)} {st : List Value} {cc : ByteArray} {own : String} {ret : Option FieldType} (F : Fy p s m args meth c cc nL own E A ret) {L idx : Nat} (hAO : va_AO RX1 s) (hL : L ≤ 100) (hfr : 3 ≤ R.frames) (hlo : 72 ≤ R.locals) (hc : kc + (1 + 9 * L) ≤ R.cells) (hs : ks + (L + 125 * L) ≤ R.slots) (hw : Cond.methodLink own idx yX3_tables ∈ gtbl) (hcat : (st.map fun v => v.category).sum ≤ 8) (hdg : decode cc pc = .ok (.invokestatic idx, 3)) (kk : ∀ (q : Nat) (tb : Nat → Nat → Nat), JL p l e R s m args below meth c E A Q nL (kc + (1 + 9 * L)) (ks + (L + 125 * L)) (ws ++ (rowW E q L L tb :: tabsW E tb L)) (pc + 3) lv (.ref q :: st)) : JL p l e R s m args below meth c E A Q nL kc ks ws pc lv (.int (nI L) :: st) := fun H locs ls hls hP hD hS => by
  obtain ⟨w1, w2, w3, w4⟩ := wc_X3_tables
  have hts := F.2.2.2.2.1
  have hF := va_free (wc := []) hD hS F.2.2.2.2.2.2.2.1 [] rfl
  have hRi : (List.range ws.length).map (fun i => ws[i]?) = ws.map some := by
    apply List.ext_getElem?
    intro i
    by_cases hi : i < ws.length
    · rw [List.getElem?_map, List.getElem?_map, show (List.range ws.length)[i]? = some i by simp [hi]]
      show some (ws[i]?) = _
      have e : ws[i]? = some ws[i] := List.getElem?_eq_getElem hi
      rw [e]; rfl
    · rw [List.getElem?_eq_none (by simp; omega), List.getElem?_eq_none (by simp; omega)]
  refine va_callr (va_runS (Ts := gtbl) (As := [.int (nI L)]) (rest := st) ⟨F.1, F.2.1, F.2.2.1, F.2.2.2.1, hts⟩ (n_X3_tables hL H.size) ⟨callB_of 1 hts (gcons w3) rfl rfl rfl (hts _ w2) (hts _ hw) w4 ⟨hfr, hlo⟩, hts _ w1⟩ ⟨fun a U g mk z => by obtain ⟨q0, q1, qK, qN, qA⟩ := z; exact ⟨q0, q1, va_K.moved (u := U) (U := U.calling g mk a) (Vm.Alike.refl U.vm) qK, NWs.same (u := U) rfl qN, va_AO.moved (u := U) (U := U.calling g mk a) (Vm.Alike.refl U.vm) qA⟩, fun U hU hW => ⟨rfl, by rw [hU], va_K.moved hW.alike F.2.2.2.2.2.2.1, NWs.warm hW F.2.2.2.2.2.1, va_AO.moved hW.alike hAO⟩⟩ rfl rfl hls.1 rfl (lv_room hcat) hdg ⟨hc, hs⟩) hS (fun z _ h => hF z h) hF (fun tb q t H1 locs ht hvm hw hB hz1 hk1 hS => ?_)
  obtain ⟨hP1, hD1⟩ := hB
  rw [ht] at hP1
  obtain ⟨hP, hD⟩ := va_join (wr := ws) hP hD [] (List.range ws.length) rfl hRi (range_nd _) (by intro i hi; simp) hk1 hF hP1 hD1
  exact kk q tb H1 locs ls hls hP hD hS
