/-! growing worlds: constructors' contracts, calls, ends; the rows over a world that is laid -/
def CtN (l : Launch) (y : MethodName) (cc : ByteArray) (maxL fr lo : Nat) (E : En) (ci : Nat) (fs : List Value) (mc ms : Nat) (Rr : Nat → va_W → Prop) : Prop :=
  ∀ (h0 sz : Nat), Met l y (.code y cc maxL none :: gtbl) { frames := fr, cells := mc, slots := ms, locals := lo } (va_Pc [.ref h0] (fun U => U.heap.size = sz ∧ va_P E.1 vwCl [(h0, .inr (ci, fs))] U.heap ∧ va_K E.1 vwCl (tysE E) U ∧ NWs U)) (va_Qv (fun w : va_W => Rr h0 w) (fun w t => va_P E.1 vwCl w t.heap ∧ va_D (va_A [(h0, .inr (ci, fs))] sz) w) (va_A [(h0, .inr (ci, fs))] sz)) mc ms (va_A [(h0, .inr (ci, fs))] sz)
theorem N_start {l : Launch} {y : MethodName} {cc : ByteArray} {maxL fr lo : Nat} {E : En} {ci : Nat} {fs : List Value} {mc ms : Nat} {Rr : Nat → va_W → Prop} {own : String} (hy : plainName own = true) (ho : y.cls = own) (hn : y.name = "<init>") (hlen : (lg_sl ([.ref 0] : List Value)).length ≤ maxL)
    (body : ∀ (p : Program) (e : Env) (s : State) (m : MethodId) (args : Array Value) (below : List Frame) (meth : Method) (c : Code) (A : Nat → Prop) (h0 : Nat), Fy p s m args meth c cc maxL own E A none → meth.name = "<init>" → JL p l e { frames := fr, cells := mc, slots := ms, locals := lo } s m args below meth c E A (MQ below (va_Qv (fun w : va_W => Rr h0 w) (fun w t => va_P E.1 vwCl w t.heap ∧ va_D A w) A) args s mc ms A) maxL 0 0 [(h0, .inr (ci, fs))] 0 [(0, .ref h0)] []) : CtN l y cc maxL fr lo E ci fs mc ms Rr := by
  subst ho
  intro h0 sz
  refine Met.ofW (cc := cc) (maxL := maxL) (ret := none) hy rfl ?_
  intro p e s m args below meth c s₁ B hml hv
  obtain ⟨rfl, hsz, hP, hK, hN⟩ := hv
  have hts := atoms_spec (ws := .code y cc maxL none :: gtbl) B.pre
  have hin : meth.name = "<init>" := ((name_of_methodNamed B.named B.method).1).trans hn
  subst hsz
  have hD0 : va_D (fun _ => True) [(h0, (.inr (ci, fs) : va_E))] := ⟨fun i j x z hi hj _ => by
    have a : i < 1 := (List.getElem?_eq_some_iff.mp hi).1
    have b : j < 1 := (List.getElem?_eq_some_iff.mp hj).1
    omega, fun _ _ _ => trivial⟩
  have hD := hD0.self (sz := s.heap.size)
  have hA : ∀ q : Nat, s.heap.size ≤ q → va_A [(h0, (.inr (ci, fs) : va_E))] s.heap.size q := fun q h => Or.inr h
  have K := body p e s m ([.ref h0] : List Value).toArray below meth c _ h0 ⟨B.exec, B.bytes, hml, findClass_of_methodNamed B.named, fun w hw => hts w (List.mem_cons_of_mem _ hw), hN, hK, hA, B.returns, B.notSynchronized⟩ hin
  have hl := lv_entry ([.ref h0]) (n := maxL) hlen
  rw [lg_entry_eq]
  exact K s.heap [] _ hl hP hD va_S.rf
section NC
variable {p : Program} {l : Launch} {e : Env} {R : Room} {s : State} {m : MethodId} {args : Array Value} {below : List Frame} {meth : Method} {c : Code} {E : En} {A : Nat → Prop} {Q : State → Prop} {nL kc ks : Nat} {ws : va_W} {pc : Nat} {lv : List (Nat × Value)} {st : List Value} {cc : ByteArray} {own : String} {ret : Option FieldType}
theorem N_vret {Rr : va_W → Prop} (F : Fy p s m args meth c cc nL own E A none) (hdg : decode cc pc = .ok (.return_, 1)) (hR : Rr ws) : JL p l e R s m args below meth c E A (MQ below (va_Qv (fun w : va_W => Rr w) (fun w t => va_P E.1 vwCl w t.heap ∧ va_D A w) A) args s kc ks A) nL kc ks ws pc lv [] := fun H locs ls hls hP hD hS => by
  have hlk := F.2.2.2.2.2.2.2.2.2
  exact W.vret F.1 F.2.1 F.2.2.2.2.2.2.2.2.1 (fun t ht _ => ⟨⟨ws, rfl, hR, by rw [ht]; exact hP, hD⟩, hS.F ht⟩) hS.2.2 hdg hlk
theorem range_nd (n : Nat) : va_nd (List.range n) = true := by
  have key : ∀ l : List Nat, l.Nodup → va_nd l = true := by
    intro l
    induction l with
    | nil => intro _; rfl
    | cons a l ih =>
      intro h
      obtain ⟨h1, h2⟩ := List.nodup_cons.mp h
      show (decide (a ∉ l) && va_nd l) = true
      rw [ih h2]; simp [h1]
  exact key _ List.nodup_range
theorem N_callInit (F : Fy p s m args meth c cc nL own E A ret) {y : MethodName} {bytes : ByteArray} {maxL fr lo ci mc ms q idx : Nat} {fs : List Value} {Rr : Nat → va_W → Prop} {wr : va_W} (hC : CtN l y bytes maxL fr lo E ci fs mc ms Rr) (hn : y.name = "<init>") (w0 : Cond.instanceMethod y ∈ gtbl) (w2 : Cond.initialized y.cls ∈ gtbl) (w3 : Cond.code y bytes maxL none ∈ gtbl) (w4 : y.cls ≠ "java/lang/invoke/MethodHandle" ∧ y.cls ≠ "java/lang/invoke/VarHandle" ∧ (parseMethodDescriptor y.desc).map (fun d => d.parameters.length) = some 0) (hw : Cond.methodLink own idx y ∈ gtbl) (hfr : fr + 1 ≤ R.frames) (hlo : 8 + (maxL + 11) + lo ≤ R.locals) (hc : kc + mc ≤ R.cells) (hs : ks + ms ≤ R.slots) (hws : ws = wr ++ [(q, .inr (ci, fs))]) (hcat : (st.map fun v => v.category).sum ≤ 8) (hdg : decode cc pc = .ok (.invokespecial idx, 3)) (kk : ∀ w1, Rr q w1 → JL p l e R s m args below meth c E A Q nL (kc + mc) (ks + ms) (wr ++ w1) (pc + 3) lv st) : JL p l e R s m args below meth c E A Q nL kc ks ws pc lv (.ref q :: st) := fun H locs ls hls hP hD hS => by
  subst hws
  have hts := F.2.2.2.2.1
  have hCi : [wr.length].map (fun i => (wr ++ [(q, (.inr (ci, fs) : va_E))])[i]?) = [(q, (.inr (ci, fs) : va_E))].map some := by simp
  have hRi : (List.range wr.length).map (fun i => (wr ++ [(q, (.inr (ci, fs) : va_E))])[i]?) = wr.map some := by
    apply List.ext_getElem?
    intro i
    by_cases hi : i < wr.length
    · rw [List.getElem?_map, List.getElem?_map, show (List.range wr.length)[i]? = some i by simp [hi]]
      show some ((wr ++ [(q, (.inr (ci, fs) : va_E))])[i]?) = _
      rw [List.getElem?_append_left hi]
      have e : wr[i]? = some wr[i] := List.getElem?_eq_getElem hi
      rw [e]; rfl
    · rw [List.getElem?_eq_none (by simp; omega), List.getElem?_eq_none (by simp; omega)]
  have hF := va_free (wc := [(q, (.inr (ci, fs) : va_E))]) hD hS F.2.2.2.2.2.2.2.1 [wr.length] hCi
  have hPc : va_P E.1 vwCl [(q, (.inr (ci, fs) : va_E))] H := fun k x hk => by
    have hz : k < 1 := (List.getElem?_eq_some_iff.mp hk).1
    rw [show k = 0 by omega] at hk
    cases hk
    exact hP wr.length _ (by simp)
  refine va_callv (va_runI (Ts := gtbl) (As := []) (rest := st) ⟨F.1, F.2.1, F.2.2.1, F.2.2.2.1, hts⟩ (hC q H.size) ⟨callB_of 0 hts (gcons w3) rfl rfl rfl (hts _ w2) (hts _ hw) w4 ⟨hfr, hlo⟩, hn, hts _ w0⟩ ⟨fun a U g mk z => by obtain ⟨q0, q1, qP, qK, qN⟩ := z; exact ⟨q0, q1, qP, va_K.moved (u := U) (U := U.calling g mk a) (Vm.Alike.refl U.vm) qK, NWs.same (u := U) rfl qN⟩, fun U hU hW => ⟨rfl, by rw [hU], by rw [hU]; exact hPc, va_K.moved hW.alike F.2.2.2.2.2.2.1, NWs.warm hW F.2.2.2.2.2.1⟩⟩ rfl rfl hls.1 rfl (lv_room hcat) hdg ⟨hc, hs⟩) hS (fun z _ h => hF z h) hF (fun w1 t H1 locs ht hvm hw hB hz1 hk1 hS => ?_)
  obtain ⟨hP1, hD1⟩ := hB
  rw [ht] at hP1
  obtain ⟨hP, hD⟩ := va_join (wr := wr) (w1 := w1) hP hD [wr.length] (List.range wr.length) hCi hRi (range_nd _) (by intro i hi; simp at hi ⊢; omega) hk1 hF hP1 hD1
  exact kk w1 hw H1 locs ls hls hP hD hS
end NC
