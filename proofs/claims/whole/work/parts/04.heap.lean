/-! rows over the memory, calls, ends -/
section JH
variable {p : Program} {l : Launch} {e : Env} {h : Nat} {s : State} {m : MethodId} {args : Array Value} {below : List Frame} {meth : Method} {c : Code} {E : En} {ad : Nat → Nat} {G : Lay} {n : Nat} {Q : State → Prop} {nL : Nat} {σ σ' : St} {pc : Nat} {lv : List (Nat × Value)} {st : List Value} {cc : ByteArray} {own : String} {ret : Option FieldType}
def ArrI (E : En) (G : Lay) (n k L : Nat) : Prop := k < n ∧ ∀ f, G k f = .inl (E.2.1, L, .inl f)
def ArrB (E : En) (G : Lay) (n k L : Nat) : Prop := k < n ∧ ∀ f, G k f = .inl (E.2.2.1, L, .inl f)
theorem J_ldcw (F : Fx p s m args meth c cc nL own E ad n ret) {k : Nat} {v : Int32} (hw : Cond.constant own k v ∈ gtbl) (hdg : decode cc pc = .ok (.ldc_w k, 3)) (kk : J p l e h s m args below meth c E ad G n Q nL σ (pc + 3) lv (.int v :: st)) : J p l e h s m args below meth c E ad G n Q nL σ pc lv st := fun H locs ls hls hP hS => lv_ldcw F.1 F.2.1 F.2.2.2.1 (F.2.2.2.2.1 _ hw) hdg (kk H locs ls hls hP hS)
theorem J_getG (F : Fx p s m args meth c cc nL own E ad n ret) {C : String} {T : u_T} {N ci k idx a0 : Nat} {fs : List Value} {v : Value} (hin : ∀ w ∈ u_ws C T N, w ∈ gtbl) (hc : vwCl[ci]? = some (C, T, N)) (hn : a0 < n) (hG : G a0 (σ a0) = .inr (ci, fs)) (hk : k < N) (hw : Cond.fieldLink own idx (T k).1 (T k).2.1 (T k).2.2.1 ∈ gtbl) (hv : fs[k]? = some v) (hdg : decode cc pc = .ok (.getfield idx, 3)) (kk : J p l e h s m args below meth c E ad G n Q nL σ (pc + 3) lv (v :: st)) : J p l e h s m args below meth c E ad G n Q nL σ pc lv (.ref (ad a0) :: st) := fun H locs ls hls hP hS => by
  have he : (wl ad G n σ)[a0]? = some (ad a0, .inr (ci, fs)) := by rw [wl_get hn, hG]
  exact va_get (D := E.1) F.1 F.2.1 F.2.2.2.2.1 hin F.2.2.2.1 F.2.2.2.2.2.2.1 hP a0 he hc k hk (F.2.2.2.2.1 _ hw) (fun _ h9 => h9) hv hdg (kk H locs ls hls hP hS)
theorem J_putG (F : Fx p s m args meth c cc nL own E ad n ret) {C : String} {T : u_T} {N ci k j idx a0 : Nat} {fs : (Nat → Int32) → List Value} {v : Int32} {ty : FieldType} (hin : ∀ w ∈ u_ws C T N, w ∈ gtbl) (hc : vwCl[ci]? = some (C, T, N)) (ty0 : Nat → FieldType) (hty : ∀ k, k < N → parseFieldDescriptor (T k).2.2.1 = some (ty0 k)) (hnm : ∀ a, a < N → ∀ b, b < N → a ≠ b → (T a).2.1 ≠ (T b).2.1) (hn : a0 < n) (hG : ∀ f, G a0 f = .inr (ci, fs f)) (hk : k < N) (hfin : (T k).2.2.2 = false) (hd : parseFieldDescriptor (T k).2.2.1 = some ty) (hnar : narrow ty (.int v) = .int v) (hfit : fits ty (.int v) = true) (hl : ∀ f, k < (fs f).length) (hset : ∀ f, (fs f).set k (.int v) = fs (upd f j v)) (hw : Cond.fieldLink own idx (T k).1 (T k).2.1 (T k).2.2.1 ∈ gtbl) (hdg : decode cc pc = .ok (.putfield idx, 3)) (hσ : σ' = w2 σ a0 j v) (kk : J p l e h s m args below meth c E ad G n Q nL σ' (pc + 3) lv st) : J p l e h s m args below meth c E ad G n Q nL σ pc lv (.int v :: .ref (ad a0) :: st) := fun H locs ls hls hP hS => by
  have he : (wl ad G n σ)[a0]? = some (ad a0, .inr (ci, fs (σ a0))) := by rw [wl_get hn, hG]
  refine va_put (D := E.1) (v := .int v) (ty := ty) F.1 F.2.1 F.2.2.2.2.1 hin ty0 hty hnm F.2.2.2.1 F.2.2.2.2.2.2.1 hP (wl_D F.2.2.2.2.2.2.2.1) hS a0 he hc k hk (F.2.2.2.2.1 _ hw) (fun _ h9 => h9) hfin hd hnar hfit (hl _) hdg (fun H1 locs1 hP1 hD1 hS1 => ?_)
  rw [hset, ← hG, wl_set hn] at hP1
  subst hσ
  exact kk H1 locs1 ls hls hP1 hS1
theorem J_iald (F : Fx p s m args meth c cc nL own E ad n ret) {k L : Nat} {i : Int32} (ha : ArrI E G n k L) (hin : ¬ (i < 0 ∨ L ≤ i.toNatClampNeg)) (hdg : decode cc pc = .ok (.iaload, 1)) (kk : J p l e h s m args below meth c E ad G n Q nL σ (pc + 1) lv (.int (σ k i.toNatClampNeg) :: st)) : J p l e h s m args below meth c E ad G n Q nL σ pc lv (.int i :: .ref (ad k) :: st) := fun H locs ls hls hP hS => by
  have he : (wl ad G n σ)[k]? = some (ad k, .inl (E.2.1, L, .inl (σ k))) := by rw [wl_get ha.1, ha.2]
  exact va_iald F.1 F.2.1 F.2.2.2.2.2.2.1 hP k 0 he rfl hin hdg (kk H locs ls hls hP hS)
theorem J_bald (F : Fx p s m args meth c cc nL own E ad n ret) {k L : Nat} {i : Int32} (ha : ArrB E G n k L) (hin : ¬ (i < 0 ∨ L ≤ i.toNatClampNeg)) (hdg : decode cc pc = .ok (.baload, 1)) (kk : J p l e h s m args below meth c E ad G n Q nL σ (pc + 1) lv (.int (σ k i.toNatClampNeg) :: st)) : J p l e h s m args below meth c E ad G n Q nL σ pc lv (.int i :: .ref (ad k) :: st) := fun H locs ls hls hP hS => by
  have he : (wl ad G n σ)[k]? = some (ad k, .inl (E.2.2.1, L, .inl (σ k))) := by rw [wl_get ha.1, ha.2]
  exact va_bald F.1 F.2.1 F.2.2.2.2.2.2.1 hP k 1 he rfl hin hdg (kk H locs ls hls hP hS)
theorem J_iast (F : Fx p s m args meth c cc nL own E ad n ret) {k L : Nat} {i x : Int32} (ha : ArrI E G n k L) (hin : ¬ (i < 0 ∨ L ≤ i.toNatClampNeg)) (hdg : decode cc pc = .ok (.iastore, 1)) (hσ : σ' = w2 σ k i.toNatClampNeg x) (kk : J p l e h s m args below meth c E ad G n Q nL σ' (pc + 1) lv st) : J p l e h s m args below meth c E ad G n Q nL σ pc lv (.int x :: .int i :: .ref (ad k) :: st) := fun H locs ls hls hP hS => by
  have he : (wl ad G n σ)[k]? = some (ad k, .inl (E.2.1, L, .inl (σ k))) := by rw [wl_get ha.1, ha.2]
  refine va_iast F.1 F.2.1 F.2.2.2.2.2.2.1 hP (wl_D F.2.2.2.2.2.2.2.1) hS k 0 he rfl hin hdg (fun H1 locs1 hP1 hD1 hS1 => ?_)
  rw [← ha.2, wl_set ha.1] at hP1
  subst hσ
  exact kk H1 locs1 ls hls hP1 hS1
theorem J_bast (F : Fx p s m args meth c cc nL own E ad n ret) {k L : Nat} {i x : Int32} (ha : ArrB E G n k L) (hin : ¬ (i < 0 ∨ L ≤ i.toNatClampNeg)) (hdg : decode cc pc = .ok (.bastore, 1)) (hσ : σ' = w2 σ k i.toNatClampNeg x.toInt8.toInt32) (kk : J p l e h s m args below meth c E ad G n Q nL σ' (pc + 1) lv st) : J p l e h s m args below meth c E ad G n Q nL σ pc lv (.int x :: .int i :: .ref (ad k) :: st) := fun H locs ls hls hP hS => by
  have he : (wl ad G n σ)[k]? = some (ad k, .inl (E.2.2.1, L, .inl (σ k))) := by rw [wl_get ha.1, ha.2]
  refine va_bast F.1 F.2.1 F.2.2.2.2.2.2.1 hP (wl_D F.2.2.2.2.2.2.2.1) hS k 1 he rfl hin hdg (fun H1 locs1 hP1 hD1 hS1 => ?_)
  rw [← ha.2, wl_set ha.1, vp_nar_byte] at hP1
  subst hσ
  exact kk H1 locs1 ls hls hP1 hS1
theorem J_alenI (F : Fx p s m args meth c cc nL own E ad n ret) {k L : Nat} (ha : ArrI E G n k L) (hdg : decode cc pc = .ok (.arraylength, 1)) (kk : J p l e h s m args below meth c E ad G n Q nL σ (pc + 1) lv (.int (nI L) :: st)) : J p l e h s m args below meth c E ad G n Q nL σ pc lv (.ref (ad k) :: st) := fun H locs ls hls hP hS => by
  have he : (wl ad G n σ)[k]? = some (ad k, .inl (E.2.1, L, .inl (σ k))) := by rw [wl_get ha.1, ha.2]
  exact va_alen F.1 F.2.1 F.2.2.2.2.2.2.1 hP k 0 he rfl rfl hdg (kk H locs ls hls hP hS)
def RowT (E : En) (ad : Nat → Nat) (G : Lay) (n r L : Nat) : Prop := r < n ∧ ∀ f, G r f = .inl (E.2.2.2, L, .inr (.inr (.inr (.inr (fun j => if j < L then some (ad (r + 1 + 9 * j)) else none)))))
theorem J_alenT (F : Fx p s m args meth c cc nL own E ad n ret) {r L : Nat} (ha : RowT E ad G n r L) (hdg : decode cc pc = .ok (.arraylength, 1)) (kk : J p l e h s m args below meth c E ad G n Q nL σ (pc + 1) lv (.int (nI L) :: st)) : J p l e h s m args below meth c E ad G n Q nL σ pc lv (.ref (ad r) :: st) := fun H locs ls hls hP hS => by
  have he := (wl_get (ad := ad) (G := G) (σ := σ) ha.1)
  rw [ha.2] at he
  exact va_alen F.1 F.2.1 F.2.2.2.2.2.2.1 hP r 2 he rfl rfl hdg (kk H locs ls hls hP hS)
theorem J_aald (F : Fx p s m args meth c cc nL own E ad n ret) {r L : Nat} {i : Int32} (ha : RowT E ad G n r L) (hin : ¬ (i < 0 ∨ L ≤ i.toNatClampNeg)) (hdg : decode cc pc = .ok (.aaload, 1)) (kk : J p l e h s m args below meth c E ad G n Q nL σ (pc + 1) lv (.ref (ad (r + 1 + 9 * i.toNatClampNeg)) :: st)) : J p l e h s m args below meth c E ad G n Q nL σ pc lv (.int i :: .ref (ad r) :: st) := fun H locs ls hls hP hS => by
  have he := (wl_get (ad := ad) (G := G) (σ := σ) ha.1)
  rw [ha.2] at he
  refine va_aldq F.1 F.2.1 F.2.2.2.2.2.2.1 hP r 2 he rfl hin hdg ?_
  have hlt : i.toNatClampNeg < L := Nat.not_le.mp fun q => hin (Or.inr q)
  simp only [if_pos hlt]
  exact kk H locs ls hls hP hS
theorem J_run {o : Option Value} {rest : List Value} {a : Array Value} (hr : ∀ (H : Heap) (locs : List Loc) (ls : Array Slot), lv_has ls nL lv → va_P E.1 vwCl (wl ad G n σ) H → va_S (adA ad n) s.heap H locs → va_Run p l e (rmh h) s m args below meth c H locs 0 0 0 0 (F0 m pc ls st) rest (mQ E ad G n o σ' a) (adA ad n)) (kk : J p l e h s m args below meth c E ad G n Q nL σ' (pc + 3) lv (o.toList ++ rest)) : J p l e h s m args below meth c E ad G n Q nL σ pc lv st := by
  intro H locs ls hls hP hS T hT X
  obtain ⟨v, st₀, t, T', L, h0, X', hL, e1, e2, ⟨hv, hp, hz, hk⟩, hst⟩ := hr H locs ls hls hP hS T hT X
  cases hv
  rw [h0] at hz hk
  obtain ⟨t2, a1, b1⟩ := kk T'.heap (locs ++ L) ls hls (by rw [e1]; exact hp)
    ⟨Nat.le_trans hS.1 (by rw [e1]; exact hz), fun q h1 h2 => by rw [e1, hk q (Nat.lt_of_lt_of_le h1 hS.1) h2]; exact hS.2.1 q h1 h2, fun q hq => by
      rcases List.mem_append.mp hq with h | h
      · exact hS.2.2 q h
      · exact hL q h⟩ T' rfl X'
  exact ⟨t2, hst t2 a1, b1⟩
theorem gcons {w : Cond} (h : w ∈ gtbl) : GoodIn gtbl (w :: gtbl) := fun v hv => (List.mem_cons.mp hv).elim (fun q => q ▸ gtbl_good w h) (fun q => gtbl_good v q)
/-- what a caller needs of the tables for a callee: four words (the third: 'static' or 'instanceMethod' and 'selects') -/
def WcS (y : MethodName) (bytes : ByteArray) (maxL : Nat) (ret : Option FieldType) (k : Nat) : Prop := Cond.static y ∈ gtbl ∧ Cond.initialized y.cls ∈ gtbl ∧ Cond.code y bytes maxL ret ∈ gtbl ∧ (y.cls ≠ "java/lang/invoke/MethodHandle" ∧ y.cls ≠ "java/lang/invoke/VarHandle" ∧ (parseMethodDescriptor y.desc).map (fun d => d.parameters.length) = some k)
def WcV (y : MethodName) (bytes : ByteArray) (maxL : Nat) (ret : Option FieldType) (k : Nat) : Prop := Cond.instanceMethod y ∈ gtbl ∧ Cond.selects y.cls y y ∈ gtbl ∧ Cond.initialized y.cls ∈ gtbl ∧ Cond.code y bytes maxL ret ∈ gtbl ∧ (y.cls ≠ "java/lang/invoke/MethodHandle" ∧ y.cls ≠ "java/lang/invoke/VarHandle" ∧ (parseMethodDescriptor y.desc).map (fun d => d.parameters.length) = some k)
theorem J_callS (F : Fx p s m args meth c cc nL own E ad n ret) {y : MethodName} {bytes : ByteArray} {maxL h' idx k : Nat} {ret' : Option FieldType} {As rest : List Value} {o : Option Value} (hC : Ct l y bytes maxL ret' h' E ad G n As σ o σ') (hh : h' < h) (hm : maxL ≤ 21) (hW : WcS y bytes maxL ret' k) (hw : Cond.methodLink own idx y ∈ gtbl) (hk : As.length = k) (hst : st = As.reverse ++ rest) (hcat : (rest.map fun v => v.category).sum ≤ 8) (hdg : decode cc pc = .ok (.invokestatic idx, 3)) (kk : J p l e h s m args below meth c E ad G n Q nL σ' (pc + 3) lv (o.toList ++ rest)) : J p l e h s m args below meth c E ad G n Q nL σ pc lv st := by
  obtain ⟨w1, w2, w3, w4⟩ := hW
  have hts := F.2.2.2.2.1
  refine J_run (a := As.toArray) (fun H locs ls hls hP hS => ?_) kk
  refine va_runS (Ts := gtbl) ⟨F.1, F.2.1, F.2.2.1, F.2.2.2.1, hts⟩ hC ⟨callB_of k hts (gcons w3) rfl rfl rfl (hts _ w2) (hts _ hw) w4 ⟨?_, ?_⟩, hts _ w1⟩ ⟨WP_blind, fun U hU hW => ⟨rfl, by rw [hU]; exact hP, va_K.moved hW.alike F.2.2.2.2.2.2.1, NWs.warm hW F.2.2.2.2.2.1⟩⟩ rfl hk hls.1 hst (lv_room hcat) hdg ⟨Nat.zero_le _, Nat.zero_le _⟩
  · show h' + 1 ≤ h; omega
  · show 8 + (maxL + 11) + 40 * h' ≤ 40 * h; omega
theorem J_callN (F : Fx p s m args meth c cc nL own E ad n ret) {y : MethodName} {bytes : ByteArray} {maxL h' idx k : Nat} {host : String} {ret' : Option FieldType} {As rest : List Value} {o : Option Value} (hC : Ct l y bytes maxL ret' h' E ad G n As σ o σ') (hh : h' < h) (hm : maxL ≤ 21) (hW : WcS y bytes maxL ret' k) (hw : (own, idx, y, host) ∈ nestL) (hk : As.length = k) (hst : st = As.reverse ++ rest) (hcat : (rest.map fun v => v.category).sum ≤ 8) (hdg : decode cc pc = .ok (.invokestatic idx, 3)) (kk : J p l e h s m args below meth c E ad G n Q nL σ' (pc + 3) lv (o.toList ++ rest)) : J p l e h s m args below meth c E ad G n Q nL σ pc lv st := by
  obtain ⟨w1, w2, w3, w4⟩ := hW
  have hts := F.2.2.2.2.1
  have hN := F.2.2.2.2.2.1
  refine J_run (a := As.toArray) (fun H locs ls hls hP hS => ?_) kk
  refine va_runSN (Ts := gtbl) (host := host) ⟨F.1, F.2.1, F.2.2.1, F.2.2.2.1, hts⟩ hC ⟨va_cnB k hts (gcons w3) rfl rfl rfl (hN _ hw) (hts _ w2) w4 ⟨?_, ?_⟩, hts _ w1, trivial⟩ ⟨WP_blind, fun U hU hW => ⟨rfl, by rw [hU]; exact hP, va_K.moved hW.alike F.2.2.2.2.2.2.1, NWs.warm hW hN⟩⟩ rfl hk hls.1 hst (lv_room hcat) hdg ⟨Nat.zero_le _, Nat.zero_le _⟩
  · show h' + 1 ≤ h; omega
  · show 8 + (maxL + 11) + 40 * h' ≤ 40 * h; omega
theorem J_callV (F : Fx p s m args meth c cc nL own E ad n ret) {y : MethodName} {bytes : ByteArray} {maxL h' idx k b ci N : Nat} {T : u_T} {fs : List Value} {ret' : Option FieldType} {As rest : List Value} {o : Option Value} (hC : Ct l y bytes maxL ret' h' E ad G n (.ref (ad b) :: As) σ o σ') (hh : h' < h) (hm : maxL ≤ 21) (hn : b < n) (hG : G b (σ b) = .inr (ci, fs)) (hcl : vwCl[ci]? = some (y.cls, T, N)) (hW : WcV y bytes maxL ret' k) (hw : Cond.methodLink own idx y ∈ gtbl) (hk : As.length = k) (hst : st = As.reverse ++ .ref (ad b) :: rest) (hcat : (rest.map fun v => v.category).sum ≤ 8) (hdg : decode cc pc = .ok (.invokevirtual idx, 3)) (kk : J p l e h s m args below meth c E ad G n Q nL σ' (pc + 3) lv (o.toList ++ rest)) : J p l e h s m args below meth c E ad G n Q nL σ pc lv st := by
  obtain ⟨w0, w1, w2, w3, w4⟩ := hW
  have hts := F.2.2.2.2.1
  refine J_run (a := (Value.ref (ad b) :: As).toArray) (fun H locs ls hls hP hS => ?_) kk
  have he : (wl ad G n σ)[b]? = some (ad b, .inr (ci, fs)) := by rw [wl_get hn, hG]
  refine va_runV (Ts := gtbl) (C := y.cls) ⟨F.1, F.2.1, F.2.2.1, F.2.2.2.1, hts⟩ hC ⟨callB_of k hts (gcons w3) rfl rfl rfl (hts _ w2) (hts _ hw) w4 ⟨?_, ?_⟩, hts _ w0, hts _ w1⟩ ⟨WP_blind, va_recv F.2.2.2.2.2.2.1 hP hcl he, fun U hU hW => ⟨rfl, by rw [hU]; exact hP, va_K.moved hW.alike F.2.2.2.2.2.2.1, NWs.warm hW F.2.2.2.2.2.1⟩⟩ rfl hk hls.1 hst (lv_room hcat) hdg ⟨Nat.zero_le _, Nat.zero_le _⟩
  · show h' + 1 ≤ h; omega
  · show 8 + (maxL + 11) + 40 * h' ≤ 40 * h; omega
theorem J_mmax (F : Fx p s m args meth c cc nL own E ad n ret) {idx : Nat} {x y : Int32} (hh : 0 < h) (hw : Cond.methodLink own idx Lib.Math.max.name ∈ gtbl) (w1 : Cond.static Lib.Math.max.name ∈ gtbl) (w2 : Cond.initialized "java/lang/Math" ∈ gtbl) (w3 : Cond.code Lib.Math.max.name Lib.Math.max.code 2 (some .int) ∈ gtbl) (hcat : (st.map fun v => v.category).sum ≤ 8) (hdg : decode cc pc = .ok (.invokestatic idx, 3)) (kk : J p l e h s m args below meth c E ad G n Q nL σ (pc + 3) lv (.int (if x < y then y else x) :: st)) : J p l e h s m args below meth c E ad G n Q nL σ pc lv (.int y :: .int x :: st) := fun H locs ls hls hP hS => by
  have hts := F.2.2.2.2.1
  exact va_mmax F.1 F.2.1 (by rw [F.2.2.1, hls.1]) F.2.2.2.1 (hts _ hw) (hts _ w1) (hts _ w2) (hts _ w3) (by show 1 ≤ h; omega) (by show _ ≤ 40 * h; omega) (Nat.zero_le _) (Nat.zero_le _) hdg (kk H locs ls hls hP hS)
theorem J_mmin (F : Fx p s m args meth c cc nL own E ad n ret) {idx : Nat} {x y : Int32} (hh : 0 < h) (hw : Cond.methodLink own idx Lib.Math.min.name ∈ gtbl) (w1 : Cond.static Lib.Math.min.name ∈ gtbl) (w2 : Cond.initialized "java/lang/Math" ∈ gtbl) (w3 : Cond.code Lib.Math.min.name Lib.Math.min.code 2 (some .int) ∈ gtbl) (hcat : (st.map fun v => v.category).sum ≤ 8) (hdg : decode cc pc = .ok (.invokestatic idx, 3)) (kk : J p l e h s m args below meth c E ad G n Q nL σ (pc + 3) lv (.int (if y < x then y else x) :: st)) : J p l e h s m args below meth c E ad G n Q nL σ pc lv (.int y :: .int x :: st) := fun H locs ls hls hP hS => by
  have hts := F.2.2.2.2.1
  exact va_mmin F.1 F.2.1 (by rw [F.2.2.1, hls.1]) F.2.2.2.1 (hts _ hw) (hts _ w1) (hts _ w2) (hts _ w3) (by show 1 ≤ h; omega) (by show _ ≤ 40 * h; omega) (Nat.zero_le _) (Nat.zero_le _) hdg (kk H locs ls hls hP hS)
theorem J_copyI (F : Fx p s m args meth c cc nL own E ad n ret) {idx k0 k1 L0 L1 : Nat} {sp dp z : Int32} (hh : 1 < h) (hw : Cond.methodLink own idx arraycopyName ∈ gtbl) (w1 : Cond.native arraycopyName ∈ gtbl) (w2 : Cond.static arraycopyName ∈ gtbl) (w3 : Cond.initialized "java/lang/System" ∈ gtbl) (ha0 : ArrI E G n k0 L0) (ha1 : ArrI E G n k1 L1) (hg : ¬ (sp < 0 ∨ dp < 0 ∨ z < 0 ∨ L0 < sp.toNatClampNeg + z.toNatClampNeg ∨ L1 < dp.toNatClampNeg + z.toNatClampNeg)) (hcat : (st.map fun v => v.category).sum ≤ 8) (hdg : decode cc pc = .ok (.invokestatic idx, 3)) (hσ : σ' = va_up σ k1 (va_cpy (σ k0) (σ k1) sp.toNatClampNeg dp.toNatClampNeg z.toNatClampNeg)) (kk : J p l e h s m args below meth c E ad G n Q nL σ' (pc + 3) lv st) : J p l e h s m args below meth c E ad G n Q nL σ pc lv (.int z :: .int dp :: .ref (ad k1) :: .int sp :: .ref (ad k0) :: st) := fun H locs ls hls hP hS => by
  have hts := F.2.2.2.2.1
  have he0 : (wl ad G n σ)[k0]? = some (ad k0, .inl (E.2.1, L0, .inl (σ k0))) := by rw [wl_get ha0.1, ha0.2]
  have he1 : (wl ad G n σ)[k1]? = some (ad k1, .inl (E.2.1, L1, .inl (σ k1))) := by rw [wl_get ha1.1, ha1.2]
  have hnw : nativeFrameWords "java/lang/System" "arraycopy" 5 + 11 ≤ 70 := by decide +kernel
  refine va_copyi F.1 F.2.1 (by rw [F.2.2.1, hls.1]) F.2.2.2.1 (hts _ hw) (hts _ w1) (hts _ w2) (hts _ w3) F.2.2.2.2.2.2.1 hP (wl_D F.2.2.2.2.2.2.2.1) hS k0 k1 0 0 he0 he1 (ty := .int) rfl rfl rfl (fun q => hg (Or.inl q)) (fun q => hg (Or.inr (Or.inl q))) (fun q => hg (Or.inr (Or.inr (Or.inl q)))) (Nat.not_lt.mp fun q => hg (Or.inr (Or.inr (Or.inr (Or.inl q))))) (Nat.not_lt.mp fun q => hg (Or.inr (Or.inr (Or.inr (Or.inr q))))) (fun _ _ => rfl) (by show 1 ≤ h; omega) (by show _ ≤ 40 * h; omega) hdg (fun H1 locs1 hP1 hD1 hS1 => ?_)
  rw [← ha1.2, wl_set ha1.1] at hP1
  subst hσ
  exact kk H1 locs1 ls hls hP1 hS1
theorem J_iret {ty : FieldType} (F : Fx p s m args meth c cc nL own E ad n (some ty)) {v : Int32} {res : Int32 × St} (hn : narrow ty (.int v) = .int v) (hdg : decode cc pc = .ok (.ireturn, 1)) (hf : some (v, σ) = some res) : J p l e h s m args below meth c E ad G n (MQ below (mQ E ad G n (some (.int res.1)) res.2) args s 0 0 (adA ad n)) nL σ pc lv [.int v] := by
  cases hf
  intro H locs ls hls hP hS
  have hlk := F.2.2.2.2.2.2.2.2.2
  exact W.zret F.1 F.2.1 F.2.2.2.2.2.2.2.2.1 hn (fun t ht _ => ⟨rfl, by rw [ht]; exact hP, hS.F ht⟩) hS.2.2 hdg hlk
theorem J_vret (F : Fx p s m args meth c cc nL own E ad n none) {res : Unit × St} (hdg : decode cc pc = .ok (.return_, 1)) (hf : some ((), σ) = some res) : J p l e h s m args below meth c E ad G n (MQ below (mQ E ad G n none res.2) args s 0 0 (adA ad n)) nL σ pc lv [] := by
  cases hf
  intro H locs ls hls hP hS
  have hlk := F.2.2.2.2.2.2.2.2.2
  exact W.vret F.1 F.2.1 F.2.2.2.2.2.2.2.2.1 (fun t ht _ => ⟨rfl, by rw [ht]; exact hP, hS.F ht⟩) hS.2.2 hdg hlk
theorem J_aret {rt : String} (F : Fx p s m args meth c cc nL own E ad n (some (.object rt))) {x : Nat} {res : Option Nat × St} (hdg : decode cc pc = .ok (.areturn, 1)) (hf : some (some x, σ) = some res) : J p l e h s m args below meth c E ad G n (MQ below (mQ E ad G n (some (va_re ad res.1)) res.2) args s 0 0 (adA ad n)) nL σ pc lv [.ref (ad x)] := by
  cases hf
  intro H locs ls hls hP hS
  have hlk := F.2.2.2.2.2.2.2.2.2
  exact W.aret (v := .ref (ad x)) F.1 F.2.1 F.2.2.2.2.2.2.2.2.1 (Or.inl ⟨rt, rfl⟩) (Or.inr ⟨_, rfl⟩) (fun t ht _ => ⟨rfl, by rw [ht]; exact hP, hS.F ht⟩) hS.2.2 hdg hlk
theorem J_aretN {rt : String} (F : Fx p s m args meth c cc nL own E ad n (some (.object rt))) {res : Option Nat × St} (hdg : decode cc pc = .ok (.areturn, 1)) (hf : some (none, σ) = some res) : J p l e h s m args below meth c E ad G n (MQ below (mQ E ad G n (some (va_re ad res.1)) res.2) args s 0 0 (adA ad n)) nL σ pc lv [.null] := by
  cases hf
  intro H locs ls hls hP hS
  have hlk := F.2.2.2.2.2.2.2.2.2
  exact W.aret (v := .null) F.1 F.2.1 F.2.2.2.2.2.2.2.2.1 (Or.inl ⟨rt, rfl⟩) (Or.inl rfl) (fun t ht _ => ⟨rfl, by rw [ht]; exact hP, hS.F ht⟩) hS.2.2 hdg hlk
end JH
