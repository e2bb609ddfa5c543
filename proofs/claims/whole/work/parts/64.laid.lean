/-! growing worlds that are laid, in whole or in part: calls of methods, fields, rows -/
theorem wl_len {ad : Nat → Nat} {G : Lay} {n : Nat} {σ : St} : (wl ad G n σ).length = n := by simp [wl]
section ND
variable {p : Program} {l : Launch} {e : Env} {R : Room} {s : State} {m : MethodId} {args : Array Value} {below : List Frame} {meth : Method} {c : Code} {E : En} {A : Nat → Prop} {Q : State → Prop} {nL kc ks : Nat} {ws wr : va_W} {pc : Nat} {lv : List (Nat × Value)} {st : List Value} {cc : ByteArray} {own : String} {ret : Option FieldType} {ad : Nat → Nat} {G : Lay} {n : Nat} {σ σ' : St}
/-- the world in another order -/
theorem N_perm {ws' : va_W} (g : Nat → Nat) (hg : ∀ (k : Nat) (q : Nat × va_E), ws'[k]? = some q → ws[g k]? = some q) (hi : ∀ i j : Nat, i < ws'.length → j < ws'.length → g i = g j → i = j) (kk : JL p l e R s m args below meth c E A Q nL kc ks ws' pc lv st) : JL p l e R s m args below meth c E A Q nL kc ks ws pc lv st := fun H locs ls hls hP hD hS => kk H locs ls hls (hP.by g hg) (hD.by g hg hi) hS
theorem N_swap {w1 w2 : va_W} (kk : JL p l e R s m args below meth c E A Q nL kc ks (w2 ++ w1) pc lv st) : JL p l e R s m args below meth c E A Q nL kc ks (w1 ++ w2) pc lv st := by
  refine N_perm (fun k => if k < w2.length then w1.length + k else k - w2.length) (fun k q hk => ?_) (fun i j hi hj hij => ?_) kk
  · by_cases h : k < w2.length
    · rw [if_pos h, List.getElem?_append_right (by omega)]
      rw [List.getElem?_append_left h] at hk
      rw [show w1.length + k - w1.length = k by omega]; exact hk
    · rw [if_neg h]
      rw [List.getElem?_append_right (by omega)] at hk
      have hl : k - w2.length < w1.length := (List.getElem?_eq_some_iff.mp hk).1
      rw [List.getElem?_append_left hl]; exact hk
  · rw [List.length_append] at hi hj
    split at hij <;> split at hij <;> omega
theorem D_laid (hD : va_D A (wl ad G n σ ++ wr)) : (∀ q, adA ad n q → A q) ∧ (∀ (k : Nat) (x : Nat × va_E), wr[k]? = some x → ¬ adA ad n x.1) ∧ va_D A (wl ad G n σ' ++ wr) := by
  refine ⟨?_, ?_, ?_⟩
  · rintro q ⟨k, hk, rfl⟩
    exact hD.2 k (ad k, G k (σ k)) (by rw [List.getElem?_append_left (by rw [wl_len]; exact hk), wl_get hk])
  · rintro k x hx ⟨j, hj, e⟩
    have a : (wl ad G n σ ++ wr)[n + k]? = some x := by
      rw [List.getElem?_append_right (by rw [wl_len]; omega), wl_len, show n + k - n = k by omega]; exact hx
    have b : (wl ad G n σ ++ wr)[j]? = some (ad j, G j (σ j)) := by rw [List.getElem?_append_left (by rw [wl_len]; exact hj), wl_get hj]
    have := hD.1 _ _ _ _ a b e
    omega
  · have key : ∀ (k : Nat) (x : Nat × va_E), (wl ad G n σ' ++ wr)[k]? = some x → ∃ y, (wl ad G n σ ++ wr)[k]? = some y ∧ y.1 = x.1 := by
      intro k x hx
      by_cases h : k < n
      · rw [List.getElem?_append_left (by rw [wl_len]; exact h), wl_get h] at hx
        cases hx
        exact ⟨(ad k, G k (σ k)), by rw [List.getElem?_append_left (by rw [wl_len]; exact h), wl_get h], rfl⟩
      · rw [List.getElem?_append_right (by rw [wl_len]; omega), wl_len] at hx
        exact ⟨x, by rw [List.getElem?_append_right (by rw [wl_len]; omega), wl_len]; exact hx, rfl⟩
    refine ⟨fun i j x y hx hy hxy => ?_, fun k x hx => ?_⟩
    · obtain ⟨x', a1, a2⟩ := key i x hx
      obtain ⟨y', b1, b2⟩ := key j y hy
      exact hD.1 i j x' y' a1 b1 (by rw [a2, b2]; exact hxy)
    · obtain ⟨x', a1, a2⟩ := key k x hx
      rw [← a2]; exact hD.2 k x' a1
theorem P_left {H : Heap} (hP : va_P E.1 vwCl (wl ad G n σ ++ wr) H) : va_P E.1 vwCl (wl ad G n σ) H := fun k x hk => by
  have h : k < n := (wl_of hk).1
  exact hP k x (by rw [List.getElem?_append_left (by rw [wl_len]; exact h)]; exact hk)
theorem P_right {w1 : va_W} {H : Heap} (hP : va_P E.1 vwCl (w1 ++ wr) H) : va_P E.1 vwCl wr H := fun k x hk => hP (w1.length + k) x (by rw [List.getElem?_append_right (by omega), show w1.length + k - w1.length = k by omega]; exact hk)
theorem N_run {o : Option Value} {rest : List Value} {a : Array Value} (hr : ∀ (H : Heap) (locs : List Loc) (ls : Array Slot), lv_has ls nL lv → va_P E.1 vwCl (wl ad G n σ) H → va_S A s.heap H locs → va_Run p l e R s m args below meth c H locs kc ks 0 0 (F0 m pc ls st) rest (mQ E ad G n o σ' a) (adA ad n)) (kk : JL p l e R s m args below meth c E A Q nL kc ks (wl ad G n σ' ++ wr) (pc + 3) lv (o.toList ++ rest)) : JL p l e R s m args below meth c E A Q nL kc ks (wl ad G n σ ++ wr) pc lv st := by
  intro H locs ls hls hP hD hS T hT X
  obtain ⟨dA, dR, dD⟩ := D_laid (σ' := σ') hD
  obtain ⟨v, st₀, t, T', L, h0, X', hL, e1, e2, ⟨hv, hp, hz, hk⟩, hst⟩ := hr H locs ls hls (P_left hP) hS T hT X
  cases hv
  rw [h0] at hz hk
  have hPr : va_P E.1 vwCl wr T'.heap := (P_right hP).kept (fun k x hx => by rw [e1]; exact hk x.1 ((P_right hP k x hx).lt) (dR k x hx))
  obtain ⟨t2, a1, b1⟩ := kk T'.heap (locs ++ L) ls hls ((by rw [e1]; exact hp : va_P E.1 vwCl (wl ad G n σ') T'.heap).app hPr) dD
    ⟨Nat.le_trans hS.1 (by rw [e1]; exact hz), fun q h1 h2 => by rw [e1, hk q (Nat.lt_of_lt_of_le h1 hS.1) (fun z => h2 (dA q z))]; exact hS.2.1 q h1 h2, fun q hq => by
      rcases List.mem_append.mp hq with h | h
      · exact hS.2.2 q h
      · exact dA _ (hL q h)⟩ T' rfl X'
  exact ⟨t2, hst t2 a1, b1⟩
theorem N_callV (F : Fy p s m args meth c cc nL own E A ret) {y : MethodName} {bytes : ByteArray} {maxL h' idx k b ci N : Nat} {T : u_T} {fs : List Value} {ret' : Option FieldType} {As rest : List Value} {o : Option Value} (hC : Ct l y bytes maxL ret' h' E ad G n (.ref (ad b) :: As) σ o σ') (hfr : h' + 1 ≤ R.frames) (hlo : 8 + (maxL + 11) + 40 * h' ≤ R.locals) (hc : kc ≤ R.cells) (hs : ks ≤ R.slots) (hn : b < n) (hG : G b (σ b) = .inr (ci, fs)) (hcl : vwCl[ci]? = some (y.cls, T, N)) (hW : WcV y bytes maxL ret' k) (hw : Cond.methodLink own idx y ∈ gtbl) (hk : As.length = k) (hst : st = As.reverse ++ .ref (ad b) :: rest) (hcat : (rest.map fun v => v.category).sum ≤ 8) (hdg : decode cc pc = .ok (.invokevirtual idx, 3)) (kk : JL p l e R s m args below meth c E A Q nL kc ks (wl ad G n σ' ++ wr) (pc + 3) lv (o.toList ++ rest)) : JL p l e R s m args below meth c E A Q nL kc ks (wl ad G n σ ++ wr) pc lv st := by
  obtain ⟨w0, w1, w2, w3, w4⟩ := hW
  have hts := F.2.2.2.2.1
  refine N_run (a := (Value.ref (ad b) :: As).toArray) (fun H locs ls hls hP hS => ?_) kk
  have he : (wl ad G n σ)[b]? = some (ad b, .inr (ci, fs)) := by rw [wl_get hn, hG]
  exact va_runV (Ts := gtbl) (C := y.cls) ⟨F.1, F.2.1, F.2.2.1, F.2.2.2.1, hts⟩ hC ⟨callB_of k hts (gcons w3) rfl rfl rfl (hts _ w2) (hts _ hw) w4 ⟨hfr, hlo⟩, hts _ w0, hts _ w1⟩ ⟨WP_blind, va_recv F.2.2.2.2.2.2.1 hP hcl he, fun U hU hW => ⟨rfl, by rw [hU]; exact hP, va_K.moved hW.alike F.2.2.2.2.2.2.1, NWs.warm hW F.2.2.2.2.2.1⟩⟩ rfl hk hls.1 hst (lv_room hcat) hdg ⟨hc, hs⟩
/-- a field put, the object in the laid part -/
theorem N_putW (F : Fy p s m args meth c cc nL own E A ret) {C : String} {T : u_T} {N ci k j idx a0 : Nat} {fs : (Nat → Int32) → List Value} {v : Int32} {ty : FieldType} (hin : ∀ w ∈ u_ws C T N, w ∈ gtbl) (hcl : vwCl[ci]? = some (C, T, N)) (ty0 : Nat → FieldType) (hty : ∀ k, k < N → parseFieldDescriptor (T k).2.2.1 = some (ty0 k)) (hnm : ∀ a, a < N → ∀ b, b < N → a ≠ b → (T a).2.1 ≠ (T b).2.1) (hn : a0 < n) (hG : ∀ f, G a0 f = .inr (ci, fs f)) (hk : k < N) (hfin : (T k).2.2.2 = false) (hd : parseFieldDescriptor (T k).2.2.1 = some ty) (hnar : narrow ty (.int v) = .int v) (hfit : fits ty (.int v) = true) (hl : ∀ f, k < (fs f).length) (hset : ∀ f, (fs f).set k (.int v) = fs (upd f j v)) (hw : Cond.fieldLink own idx (T k).1 (T k).2.1 (T k).2.2.1 ∈ gtbl) (hdg : decode cc pc = .ok (.putfield idx, 3)) (kk : JL p l e R s m args below meth c E A Q nL kc ks (wl ad G n (w2 σ a0 j v) ++ wr) (pc + 3) lv st) : JL p l e R s m args below meth c E A Q nL kc ks (wl ad G n σ ++ wr) pc lv (.int v :: .ref (ad a0) :: st) := by
  have he : (wl ad G n σ ++ wr)[a0]? = some (ad a0, .inr (ci, fs (σ a0))) := by rw [List.getElem?_append_left (by rw [wl_len]; exact hn), wl_get hn, hG]
  refine N_put F (q0 := a0) (k := k) (ty := ty) hin ty0 hty hnm hcl he hk hw hfin hd hnar hfit (hl _) ?_ hdg kk
  rw [List.set_append_left _ _ (by rw [wl_len]; exact hn), hset, ← hG, wl_set hn]
  rfl
theorem N_iastW (F : Fy p s m args meth c cc nL own E A ret) {k L : Nat} {i x : Int32} (ha : ArrI E G n k L) (hin : ¬ (i < 0 ∨ L ≤ i.toNatClampNeg)) (hdg : decode cc pc = .ok (.iastore, 1)) (kk : JL p l e R s m args below meth c E A Q nL kc ks (wl ad G n (w2 σ k i.toNatClampNeg x) ++ wr) (pc + 1) lv st) : JL p l e R s m args below meth c E A Q nL kc ks (wl ad G n σ ++ wr) pc lv (.int x :: .int i :: .ref (ad k) :: st) := fun H locs ls hls hP hD hS => by
  have he : (wl ad G n σ ++ wr)[k]? = some (ad k, .inl (E.2.1, L, .inl (σ k))) := by rw [List.getElem?_append_left (by rw [wl_len]; exact ha.1), wl_get ha.1, ha.2]
  refine va_iast F.1 F.2.1 F.2.2.2.2.2.2.1 hP hD hS k 0 he rfl hin hdg (fun H1 locs1 hP1 hD1 hS1 => ?_)
  rw [← ha.2, List.set_append_left _ _ (by rw [wl_len]; exact ha.1), wl_set ha.1] at hP1 hD1
  exact kk H1 locs1 ls hls hP1 hD1 hS1
theorem N_getW (F : Fy p s m args meth c cc nL own E A ret) {C : String} {T : u_T} {N ci k idx a0 : Nat} {fs : List Value} {v : Value} (hin : ∀ w ∈ u_ws C T N, w ∈ gtbl) (hcl : vwCl[ci]? = some (C, T, N)) (hn : a0 < n) (hG : G a0 (σ a0) = .inr (ci, fs)) (hk : k < N) (hw : Cond.fieldLink own idx (T k).1 (T k).2.1 (T k).2.2.1 ∈ gtbl) (hv : fs[k]? = some v) (hdg : decode cc pc = .ok (.getfield idx, 3)) (kk : JL p l e R s m args below meth c E A Q nL kc ks (wl ad G n σ ++ wr) (pc + 3) lv (v :: st)) : JL p l e R s m args below meth c E A Q nL kc ks (wl ad G n σ ++ wr) pc lv (.ref (ad a0) :: st) := fun H locs ls hls hP hD hS => by
  have he : (wl ad G n σ ++ wr)[a0]? = some (ad a0, .inr (ci, fs)) := by rw [List.getElem?_append_left (by rw [wl_len]; exact hn), wl_get hn, hG]
  exact va_get (D := E.1) F.1 F.2.1 F.2.2.2.2.1 hin F.2.2.2.1 F.2.2.2.2.2.2.1 hP a0 he hcl k hk (F.2.2.2.2.1 _ hw) (fun _ h9 => h9) hv hdg (kk H locs ls hls hP hD hS)
end ND
