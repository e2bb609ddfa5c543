/-! the law's cases: a call of each -/
section LC
variable {p : Program} {l : Launch} {e : Env} {s : State} {m : MethodId} {below : List Frame} {meth : Method} {c : Code} {E : En} {A : Nat → Prop} {Q : State → Prop} {kc ks : Nat} {ret : Option FieldType} {b L i : Nat} {xs : Nat → Int32} {adC adM : Nat → Nat} {σ1 σ2 : St}
abbrev JW (p : Program) (l : Launch) (e : Env) (s : State) (m : MethodId) (below : List Frame) (meth : Method) (c : Code) (E : En) (A : Nat → Prop) (Q : State → Prop) (kc ks b i : Nat) (adC adM : Nat → Nat) (σ1 σ2 : St) (pc : Nat) (st : List Value) : Prop := JL p l e room_1 s m #[Value.ref b] below meth c E A Q 4 kc ks (wl adC (GC E adC) 209 σ1 ++ wl adM (GM E adM) 10 σ2) pc [(3, .int (nI i)), (2, .ref (adM 0)), (1, .ref (adC 208)), (0, .ref b)] st
set_option maxHeartbeats 1000000 in
theorem lk_write (F : Fy p s m #[Value.ref b] meth c code 4 R_law E A ret) (hX : va_X b L xs s s.heap) (hbl : b < s.heap.size) (hbA : ¬ A b) (hi : i + 5 ≤ L) (hL : L ≤ 2560) (hc : kc ≤ room_1.cells) (hsl : ks ≤ room_1.slots) (hs : Sim σ1 σ2) (kk : ∀ τ1 τ2 : St, Sim τ1 τ2 → JW p l e s m below meth c E A Q kc ks b i adC adM τ1 τ2 884 []) : JW p l e s m below meth c E A Q kc ks b i adC adM σ1 σ2 160 [] := by
  obtain ⟨r, τ1, τ2, e1, e2, hs'⟩ := s_write hs (xs (i + 1))
  refine N_D (fun hD => ?_)
  have hI1 : adI adC 209 := wl_I hD
  have hI2 : adI adM 10 := wl_I2 hD
  clear hD
  have hC : RooAt E adC (GC E adC) 209 := GC_at
  have hM : ModAt E adM (GM E adM) 10 := GM_at
  refine N_aload_n (pc := 160) F dl_160 rfl 2 rfl ?_
  refine N_aload_n (pc := 161) F dl_161 rfl 3 rfl ?_
  refine N_iload_n (pc := 162) F dl_162 rfl 0 rfl ?_
  refine N_iconst (pc := 163) (v := nI 1) F dl_163 rfl ?_
  refine N_iadd (pc := 164) F dl_164 ?_
  refine N_sld (pc := 165) (idx := i + 1) F hX hbl hbA (nI_add i 1) (by omega) (by omega) dl_165 ?_
  refine N_callVI (pc := 166) (b := 208) (As := [.int (xs (i + 1))]) (rest := []) (r := r) F (c_X3_write hI1 hC e1) (Nat.le_of_ble_eq_true rfl) (Nat.le_of_ble_eq_true rfl) hc hsl (rooN hC) (hC.2.1 _) rfl wc_X3_write wk_273 rfl rfl (Nat.le_of_ble_eq_true rfl) dl_166 ?_
  refine N_aload_n (pc := 169) F dl_169 rfl 1 rfl ?_
  refine N_aload_n (pc := 170) F dl_170 rfl 3 rfl ?_
  refine N_iload_n (pc := 171) F dl_171 rfl 0 rfl ?_
  refine N_iconst (pc := 172) (v := nI 1) F dl_172 rfl ?_
  refine N_iadd (pc := 173) F dl_173 ?_
  refine N_sld (pc := 174) (idx := i + 1) F hX hbl hbA (nI_add i 1) (by omega) (by omega) dl_174 ?_
  refine N_swap ?_
  refine N_callVI (pc := 175) (b := 0) (As := [.int (xs (i + 1))]) (rest := [.int r]) (r := r) F (c_X4_write hI2 hM e2) (Nat.le_of_ble_eq_true rfl) (Nat.le_of_ble_eq_true rfl) hc hsl (modN hM) (hM.2.1 _) rfl wc_X4_write wk_685 rfl rfl (Nat.le_of_ble_eq_true rfl) dl_175 ?_
  refine N_swap ?_
  refine N_icmp_eqT (pc := 178) F (tgt := 884) dl_178 (by decide) rfl ?_
  exact kk τ1 τ2 hs'
set_option maxHeartbeats 1000000 in
theorem lk_wipe (F : Fy p s m #[Value.ref b] meth c code 4 R_law E A ret) (hX : va_X b L xs s s.heap) (hbl : b < s.heap.size) (hbA : ¬ A b) (hi : i + 5 ≤ L) (hL : L ≤ 2560) (hc : kc ≤ room_1.cells) (hsl : ks ≤ room_1.slots) (hs : Sim σ1 σ2) (kk : ∀ τ1 τ2 : St, Sim τ1 τ2 → JW p l e s m below meth c E A Q kc ks b i adC adM τ1 τ2 884 []) : JW p l e s m below meth c E A Q kc ks b i adC adM σ1 σ2 183 [] := by
  obtain ⟨r, τ1, τ2, e1, e2, hs'⟩ := s_wipe hs
  refine N_D (fun hD => ?_)
  have hI1 : adI adC 209 := wl_I hD
  have hI2 : adI adM 10 := wl_I2 hD
  clear hD
  have hC : RooAt E adC (GC E adC) 209 := GC_at
  have hM : ModAt E adM (GM E adM) 10 := GM_at
  refine N_aload_n (pc := 183) F dl_183 rfl 2 rfl ?_
  refine N_callVI (pc := 184) (b := 208) (As := []) (rest := []) (r := r) F (c_X3_wipe hI1 hC e1) (Nat.le_of_ble_eq_true rfl) (Nat.le_of_ble_eq_true rfl) hc hsl (rooN hC) (hC.2.1 _) rfl wc_X3_wipe wk_278 rfl rfl (Nat.le_of_ble_eq_true rfl) dl_184 ?_
  refine N_aload_n (pc := 187) F dl_187 rfl 1 rfl ?_
  refine N_swap ?_
  refine N_callVI (pc := 188) (b := 0) (As := []) (rest := [.int r]) (r := r) F (c_X4_wipe hI2 hM e2) (Nat.le_of_ble_eq_true rfl) (Nat.le_of_ble_eq_true rfl) hc hsl (modN hM) (hM.2.1 _) rfl wc_X4_wipe wk_694 rfl rfl (Nat.le_of_ble_eq_true rfl) dl_188 ?_
  refine N_swap ?_
  refine N_icmp_eqT (pc := 191) F (tgt := 884) dl_191 (by decide) rfl ?_
  exact kk τ1 τ2 hs'
set_option maxHeartbeats 1000000 in
theorem lk_fault (F : Fy p s m #[Value.ref b] meth c code 4 R_law E A ret) (hX : va_X b L xs s s.heap) (hbl : b < s.heap.size) (hbA : ¬ A b) (hi : i + 5 ≤ L) (hL : L ≤ 2560) (hc : kc ≤ room_1.cells) (hsl : ks ≤ room_1.slots) (hs : Sim σ1 σ2) (kk : ∀ τ1 τ2 : St, Sim τ1 τ2 → JW p l e s m below meth c E A Q kc ks b i adC adM τ1 τ2 884 []) : JW p l e s m below meth c E A Q kc ks b i adC adM σ1 σ2 196 [] := by
  obtain ⟨r, τ1, τ2, e1, e2, hs'⟩ := s_fault hs
  refine N_D (fun hD => ?_)
  have hI1 : adI adC 209 := wl_I hD
  have hI2 : adI adM 10 := wl_I2 hD
  clear hD
  have hC : RooAt E adC (GC E adC) 209 := GC_at
  have hM : ModAt E adM (GM E adM) 10 := GM_at
  refine N_aload_n (pc := 196) F dl_196 rfl 2 rfl ?_
  refine N_callVI (pc := 197) (b := 208) (As := []) (rest := []) (r := r) F (c_X3_fault hI1 hC e1) (Nat.le_of_ble_eq_true rfl) (Nat.le_of_ble_eq_true rfl) hc hsl (rooN hC) (hC.2.1 _) rfl wc_X3_fault wk_282 rfl rfl (Nat.le_of_ble_eq_true rfl) dl_197 ?_
  refine N_aload_n (pc := 200) F dl_200 rfl 1 rfl ?_
  refine N_swap ?_
  refine N_callVI (pc := 201) (b := 0) (As := []) (rest := [.int r]) (r := r) F (c_X4_fault hI2 hM e2) (Nat.le_of_ble_eq_true rfl) (Nat.le_of_ble_eq_true rfl) hc hsl (modN hM) (hM.2.1 _) rfl wc_X4_fault wk_698 rfl rfl (Nat.le_of_ble_eq_true rfl) dl_201 ?_
  refine N_swap ?_
  refine N_icmp_eqT (pc := 204) F (tgt := 884) dl_204 (by decide) rfl ?_
  exact kk τ1 τ2 hs'
set_option maxHeartbeats 1000000 in
theorem lk_lay (F : Fy p s m #[Value.ref b] meth c code 4 R_law E A ret) (hX : va_X b L xs s s.heap) (hbl : b < s.heap.size) (hbA : ¬ A b) (hi : i + 5 ≤ L) (hL : L ≤ 2560) (hc : kc ≤ room_1.cells) (hsl : ks ≤ room_1.slots) (hs : Sim σ1 σ2) (kk : ∀ τ1 τ2 : St, Sim τ1 τ2 → JW p l e s m below meth c E A Q kc ks b i adC adM τ1 τ2 884 []) : JW p l e s m below meth c E A Q kc ks b i adC adM σ1 σ2 209 [] := by
  obtain ⟨r, τ1, τ2, e1, e2, hs'⟩ := s_lay hs
  refine N_D (fun hD => ?_)
  have hI1 : adI adC 209 := wl_I hD
  have hI2 : adI adM 10 := wl_I2 hD
  clear hD
  have hC : RooAt E adC (GC E adC) 209 := GC_at
  have hM : ModAt E adM (GM E adM) 10 := GM_at
  refine N_aload_n (pc := 209) F dl_209 rfl 2 rfl ?_
  refine N_callVI (pc := 210) (b := 208) (As := []) (rest := []) (r := r) F (c_X3_lay hI1 hC e1) (Nat.le_of_ble_eq_true rfl) (Nat.le_of_ble_eq_true rfl) hc hsl (rooN hC) (hC.2.1 _) rfl wc_X3_lay wk_286 rfl rfl (Nat.le_of_ble_eq_true rfl) dl_210 ?_
  refine N_aload_n (pc := 213) F dl_213 rfl 1 rfl ?_
  refine N_swap ?_
  refine N_callVI (pc := 214) (b := 0) (As := []) (rest := [.int r]) (r := r) F (c_X4_lay hI2 hM e2) (Nat.le_of_ble_eq_true rfl) (Nat.le_of_ble_eq_true rfl) hc hsl (modN hM) (hM.2.1 _) rfl wc_X4_lay wk_736 rfl rfl (Nat.le_of_ble_eq_true rfl) dl_214 ?_
  refine N_swap ?_
  refine N_icmp_eqT (pc := 217) F (tgt := 884) dl_217 (by decide) rfl ?_
  exact kk τ1 τ2 hs'
set_option maxHeartbeats 1000000 in
theorem lk_sound (F : Fy p s m #[Value.ref b] meth c code 4 R_law E A ret) (hX : va_X b L xs s s.heap) (hbl : b < s.heap.size) (hbA : ¬ A b) (hi : i + 5 ≤ L) (hL : L ≤ 2560) (hc : kc ≤ room_1.cells) (hsl : ks ≤ room_1.slots) (hs : Sim σ1 σ2) (kk : ∀ τ1 τ2 : St, Sim τ1 τ2 → JW p l e s m below meth c E A Q kc ks b i adC adM τ1 τ2 884 []) : JW p l e s m below meth c E A Q kc ks b i adC adM σ1 σ2 222 [] := by
  obtain ⟨r, τ1, τ2, e1, e2, hs'⟩ := s_sound hs (xs (i + 1))
  refine N_D (fun hD => ?_)
  have hI1 : adI adC 209 := wl_I hD
  have hI2 : adI adM 10 := wl_I2 hD
  clear hD
  have hC : RooAt E adC (GC E adC) 209 := GC_at
  have hM : ModAt E adM (GM E adM) 10 := GM_at
  refine N_aload_n (pc := 222) F dl_222 rfl 2 rfl ?_
  refine N_aload_n (pc := 223) F dl_223 rfl 3 rfl ?_
  refine N_iload_n (pc := 224) F dl_224 rfl 0 rfl ?_
  refine N_iconst (pc := 225) (v := nI 1) F dl_225 rfl ?_
  refine N_iadd (pc := 226) F dl_226 ?_
  refine N_sld (pc := 227) (idx := i + 1) F hX hbl hbA (nI_add i 1) (by omega) (by omega) dl_227 ?_
  refine N_callVI (pc := 228) (b := 208) (As := [.int (xs (i + 1))]) (rest := []) (r := r) F (c_X3_sound hI1 hC e1) (Nat.le_of_ble_eq_true rfl) (Nat.le_of_ble_eq_true rfl) hc hsl (rooN hC) (hC.2.1 _) rfl wc_X3_sound wk_303 rfl rfl (Nat.le_of_ble_eq_true rfl) dl_228 ?_
  refine N_aload_n (pc := 231) F dl_231 rfl 1 rfl ?_
  refine N_aload_n (pc := 232) F dl_232 rfl 3 rfl ?_
  refine N_iload_n (pc := 233) F dl_233 rfl 0 rfl ?_
  refine N_iconst (pc := 234) (v := nI 1) F dl_234 rfl ?_
  refine N_iadd (pc := 235) F dl_235 ?_
  refine N_sld (pc := 236) (idx := i + 1) F hX hbl hbA (nI_add i 1) (by omega) (by omega) dl_236 ?_
  refine N_swap ?_
  refine N_callVI (pc := 237) (b := 0) (As := [.int (xs (i + 1))]) (rest := [.int r]) (r := r) F (c_X4_sound hI2 hM e2) (Nat.le_of_ble_eq_true rfl) (Nat.le_of_ble_eq_true rfl) hc hsl (modN hM) (hM.2.1 _) rfl wc_X4_sound wk_740 rfl rfl (Nat.le_of_ble_eq_true rfl) dl_237 ?_
  refine N_swap ?_
  refine N_icmp_eqT (pc := 240) F (tgt := 884) dl_240 (by decide) rfl ?_
  exact kk τ1 τ2 hs'
set_option maxHeartbeats 1000000 in
theorem lk_wooer (F : Fy p s m #[Value.ref b] meth c code 4 R_law E A ret) (hX : va_X b L xs s s.heap) (hbl : b < s.heap.size) (hbA : ¬ A b) (hi : i + 5 ≤ L) (hL : L ≤ 2560) (hc : kc ≤ room_1.cells) (hsl : ks ≤ room_1.slots) (hs : Sim σ1 σ2) (kk : ∀ τ1 τ2 : St, Sim τ1 τ2 → JW p l e s m below meth c E A Q kc ks b i adC adM τ1 τ2 884 []) : JW p l e s m below meth c E A Q kc ks b i adC adM σ1 σ2 245 [] := by
  obtain ⟨r, τ1, τ2, e1, e2, hs'⟩ := s_wooer hs (xs (i + 1)) (xs (i + 2))
  refine N_D (fun hD => ?_)
  have hI1 : adI adC 209 := wl_I hD
  have hI2 : adI adM 10 := wl_I2 hD
  clear hD
  have hC : RooAt E adC (GC E adC) 209 := GC_at
  have hM : ModAt E adM (GM E adM) 10 := GM_at
  refine N_aload_n (pc := 245) F dl_245 rfl 2 rfl ?_
  refine N_aload_n (pc := 246) F dl_246 rfl 3 rfl ?_
  refine N_iload_n (pc := 247) F dl_247 rfl 0 rfl ?_
  refine N_iconst (pc := 248) (v := nI 1) F dl_248 rfl ?_
  refine N_iadd (pc := 249) F dl_249 ?_
  refine N_sld (pc := 250) (idx := i + 1) F hX hbl hbA (nI_add i 1) (by omega) (by omega) dl_250 ?_
  refine N_aload_n (pc := 251) F dl_251 rfl 3 rfl ?_
  refine N_iload_n (pc := 252) F dl_252 rfl 0 rfl ?_
  refine N_iconst (pc := 253) (v := nI 2) F dl_253 rfl ?_
  refine N_iadd (pc := 254) F dl_254 ?_
  refine N_sld (pc := 255) (idx := i + 2) F hX hbl hbA (nI_add i 2) (by omega) (by omega) dl_255 ?_
  refine N_callVI (pc := 256) (b := 208) (As := [.int (xs (i + 1)), .int (xs (i + 2))]) (rest := []) (r := r) F (c_X3_wooer hI1 hC e1) (Nat.le_of_ble_eq_true rfl) (Nat.le_of_ble_eq_true rfl) hc hsl (rooN hC) (hC.2.1 _) rfl wc_X3_wooer wk_312 rfl rfl (Nat.le_of_ble_eq_true rfl) dl_256 ?_
  refine N_aload_n (pc := 259) F dl_259 rfl 1 rfl ?_
  refine N_aload_n (pc := 260) F dl_260 rfl 3 rfl ?_
  refine N_iload_n (pc := 261) F dl_261 rfl 0 rfl ?_
  refine N_iconst (pc := 262) (v := nI 1) F dl_262 rfl ?_
  refine N_iadd (pc := 263) F dl_263 ?_
  refine N_sld (pc := 264) (idx := i + 1) F hX hbl hbA (nI_add i 1) (by omega) (by omega) dl_264 ?_
  refine N_aload_n (pc := 265) F dl_265 rfl 3 rfl ?_
  refine N_iload_n (pc := 266) F dl_266 rfl 0 rfl ?_
  refine N_iconst (pc := 267) (v := nI 2) F dl_267 rfl ?_
  refine N_iadd (pc := 268) F dl_268 ?_
  refine N_sld (pc := 269) (idx := i + 2) F hX hbl hbA (nI_add i 2) (by omega) (by omega) dl_269 ?_
  refine N_swap ?_
  refine N_callVI (pc := 270) (b := 0) (As := [.int (xs (i + 1)), .int (xs (i + 2))]) (rest := [.int r]) (r := r) F (c_X4_wooer hI2 hM e2) (Nat.le_of_ble_eq_true rfl) (Nat.le_of_ble_eq_true rfl) hc hsl (modN hM) (hM.2.1 _) rfl wc_X4_wooer wk_748 rfl rfl (Nat.le_of_ble_eq_true rfl) dl_270 ?_
  refine N_swap ?_
  refine N_icmp_eqT (pc := 273) F (tgt := 884) dl_273 (by decide) rfl ?_
  exact kk τ1 τ2 hs'
set_option maxHeartbeats 1000000 in
theorem lk_word (F : Fy p s m #[Value.ref b] meth c code 4 R_law E A ret) (hX : va_X b L xs s s.heap) (hbl : b < s.heap.size) (hbA : ¬ A b) (hi : i + 5 ≤ L) (hL : L ≤ 2560) (hc : kc ≤ room_1.cells) (hsl : ks ≤ room_1.slots) (hs : Sim σ1 σ2) (kk : ∀ τ1 τ2 : St, Sim τ1 τ2 → JW p l e s m below meth c E A Q kc ks b i adC adM τ1 τ2 884 []) : JW p l e s m below meth c E A Q kc ks b i adC adM σ1 σ2 278 [] := by
  obtain ⟨r, τ1, τ2, e1, e2, hs'⟩ := s_word hs (xs (i + 1)) (xs (i + 2)) (xs (i + 3))
  refine N_D (fun hD => ?_)
  have hI1 : adI adC 209 := wl_I hD
  have hI2 : adI adM 10 := wl_I2 hD
  clear hD
  have hC : RooAt E adC (GC E adC) 209 := GC_at
  have hM : ModAt E adM (GM E adM) 10 := GM_at
  refine N_aload_n (pc := 278) F dl_278 rfl 2 rfl ?_
  refine N_aload_n (pc := 279) F dl_279 rfl 3 rfl ?_
  refine N_iload_n (pc := 280) F dl_280 rfl 0 rfl ?_
  refine N_iconst (pc := 281) (v := nI 1) F dl_281 rfl ?_
  refine N_iadd (pc := 282) F dl_282 ?_
  refine N_sld (pc := 283) (idx := i + 1) F hX hbl hbA (nI_add i 1) (by omega) (by omega) dl_283 ?_
  refine N_aload_n (pc := 284) F dl_284 rfl 3 rfl ?_
  refine N_iload_n (pc := 285) F dl_285 rfl 0 rfl ?_
  refine N_iconst (pc := 286) (v := nI 2) F dl_286 rfl ?_
  refine N_iadd (pc := 287) F dl_287 ?_
  refine N_sld (pc := 288) (idx := i + 2) F hX hbl hbA (nI_add i 2) (by omega) (by omega) dl_288 ?_
  refine N_aload_n (pc := 289) F dl_289 rfl 3 rfl ?_
  refine N_iload_n (pc := 290) F dl_290 rfl 0 rfl ?_
  refine N_iconst (pc := 291) (v := nI 3) F dl_291 rfl ?_
  refine N_iadd (pc := 292) F dl_292 ?_
  refine N_sld (pc := 293) (idx := i + 3) F hX hbl hbA (nI_add i 3) (by omega) (by omega) dl_293 ?_
  refine N_callVI (pc := 294) (b := 208) (As := [.int (xs (i + 1)), .int (xs (i + 2)), .int (xs (i + 3))]) (rest := []) (r := r) F (c_X3_word hI1 hC e1) (Nat.le_of_ble_eq_true rfl) (Nat.le_of_ble_eq_true rfl) hc hsl (rooN hC) (hC.2.1 _) rfl wc_X3_word wk_334 rfl rfl (Nat.le_of_ble_eq_true rfl) dl_294 ?_
  refine N_aload_n (pc := 297) F dl_297 rfl 1 rfl ?_
  refine N_aload_n (pc := 298) F dl_298 rfl 3 rfl ?_
  refine N_iload_n (pc := 299) F dl_299 rfl 0 rfl ?_
  refine N_iconst (pc := 300) (v := nI 1) F dl_300 rfl ?_
  refine N_iadd (pc := 301) F dl_301 ?_
  refine N_sld (pc := 302) (idx := i + 1) F hX hbl hbA (nI_add i 1) (by omega) (by omega) dl_302 ?_
  refine N_aload_n (pc := 303) F dl_303 rfl 3 rfl ?_
  refine N_iload_n (pc := 304) F dl_304 rfl 0 rfl ?_
  refine N_iconst (pc := 305) (v := nI 2) F dl_305 rfl ?_
  refine N_iadd (pc := 306) F dl_306 ?_
  refine N_sld (pc := 307) (idx := i + 2) F hX hbl hbA (nI_add i 2) (by omega) (by omega) dl_307 ?_
  refine N_aload_n (pc := 308) F dl_308 rfl 3 rfl ?_
  refine N_iload_n (pc := 309) F dl_309 rfl 0 rfl ?_
  refine N_iconst (pc := 310) (v := nI 3) F dl_310 rfl ?_
  refine N_iadd (pc := 311) F dl_311 ?_
  refine N_sld (pc := 312) (idx := i + 3) F hX hbl hbA (nI_add i 3) (by omega) (by omega) dl_312 ?_
  refine N_swap ?_
  refine N_callVI (pc := 313) (b := 0) (As := [.int (xs (i + 1)), .int (xs (i + 2)), .int (xs (i + 3))]) (rest := [.int r]) (r := r) F (c_X4_word hI2 hM e2) (Nat.le_of_ble_eq_true rfl) (Nat.le_of_ble_eq_true rfl) hc hsl (modN hM) (hM.2.1 _) rfl wc_X4_word wk_776 rfl rfl (Nat.le_of_ble_eq_true rfl) dl_313 ?_
  refine N_swap ?_
  refine N_icmp_eqT (pc := 316) F (tgt := 884) dl_316 (by decide) rfl ?_
  exact kk τ1 τ2 hs'
set_option maxHeartbeats 1000000 in
theorem lk_lesson (F : Fy p s m #[Value.ref b] meth c code 4 R_law E A ret) (hX : va_X b L xs s s.heap) (hbl : b < s.heap.size) (hbA : ¬ A b) (hi : i + 5 ≤ L) (hL : L ≤ 2560) (hc : kc ≤ room_1.cells) (hsl : ks ≤ room_1.slots) (hs : Sim σ1 σ2) (kk : ∀ τ1 τ2 : St, Sim τ1 τ2 → JW p l e s m below meth c E A Q kc ks b i adC adM τ1 τ2 884 []) : JW p l e s m below meth c E A Q kc ks b i adC adM σ1 σ2 321 [] := by
  obtain ⟨r, τ1, τ2, e1, e2, hs'⟩ := s_lesson hs (xs (i + 1)) (xs (i + 2))
  refine N_D (fun hD => ?_)
  have hI1 : adI adC 209 := wl_I hD
  have hI2 : adI adM 10 := wl_I2 hD
  clear hD
  have hC : RooAt E adC (GC E adC) 209 := GC_at
  have hM : ModAt E adM (GM E adM) 10 := GM_at
  refine N_aload_n (pc := 321) F dl_321 rfl 2 rfl ?_
  refine N_aload_n (pc := 322) F dl_322 rfl 3 rfl ?_
  refine N_iload_n (pc := 323) F dl_323 rfl 0 rfl ?_
  refine N_iconst (pc := 324) (v := nI 1) F dl_324 rfl ?_
  refine N_iadd (pc := 325) F dl_325 ?_
  refine N_sld (pc := 326) (idx := i + 1) F hX hbl hbA (nI_add i 1) (by omega) (by omega) dl_326 ?_
  refine N_aload_n (pc := 327) F dl_327 rfl 3 rfl ?_
  refine N_iload_n (pc := 328) F dl_328 rfl 0 rfl ?_
  refine N_iconst (pc := 329) (v := nI 2) F dl_329 rfl ?_
  refine N_iadd (pc := 330) F dl_330 ?_
  refine N_sld (pc := 331) (idx := i + 2) F hX hbl hbA (nI_add i 2) (by omega) (by omega) dl_331 ?_
  refine N_callVI (pc := 332) (b := 208) (As := [.int (xs (i + 1)), .int (xs (i + 2))]) (rest := []) (r := r) F (c_X3_lesson hI1 hC e1) (Nat.le_of_ble_eq_true rfl) (Nat.le_of_ble_eq_true rfl) hc hsl (rooN hC) (hC.2.1 _) rfl wc_X3_lesson wk_350 rfl rfl (Nat.le_of_ble_eq_true rfl) dl_332 ?_
  refine N_aload_n (pc := 335) F dl_335 rfl 1 rfl ?_
  refine N_aload_n (pc := 336) F dl_336 rfl 3 rfl ?_
  refine N_iload_n (pc := 337) F dl_337 rfl 0 rfl ?_
  refine N_iconst (pc := 338) (v := nI 1) F dl_338 rfl ?_
  refine N_iadd (pc := 339) F dl_339 ?_
  refine N_sld (pc := 340) (idx := i + 1) F hX hbl hbA (nI_add i 1) (by omega) (by omega) dl_340 ?_
  refine N_aload_n (pc := 341) F dl_341 rfl 3 rfl ?_
  refine N_iload_n (pc := 342) F dl_342 rfl 0 rfl ?_
  refine N_iconst (pc := 343) (v := nI 2) F dl_343 rfl ?_
  refine N_iadd (pc := 344) F dl_344 ?_
  refine N_sld (pc := 345) (idx := i + 2) F hX hbl hbA (nI_add i 2) (by omega) (by omega) dl_345 ?_
  refine N_swap ?_
  refine N_callVI (pc := 346) (b := 0) (As := [.int (xs (i + 1)), .int (xs (i + 2))]) (rest := [.int r]) (r := r) F (c_X4_lesson hI2 hM e2) (Nat.le_of_ble_eq_true rfl) (Nat.le_of_ble_eq_true rfl) hc hsl (modN hM) (hM.2.1 _) rfl wc_X4_lesson wk_780 rfl rfl (Nat.le_of_ble_eq_true rfl) dl_346 ?_
  refine N_swap ?_
  refine N_icmp_eqT (pc := 349) F (tgt := 884) dl_349 (by decide) rfl ?_
  exact kk τ1 τ2 hs'
set_option maxHeartbeats 1000000 in
theorem lk_pass (F : Fy p s m #[Value.ref b] meth c code 4 R_law E A ret) (hX : va_X b L xs s s.heap) (hbl : b < s.heap.size) (hbA : ¬ A b) (hi : i + 5 ≤ L) (hL : L ≤ 2560) (hc : kc ≤ room_1.cells) (hsl : ks ≤ room_1.slots) (hs : Sim σ1 σ2) (kk : ∀ τ1 τ2 : St, Sim τ1 τ2 → JW p l e s m below meth c E A Q kc ks b i adC adM τ1 τ2 884 []) : JW p l e s m below meth c E A Q kc ks b i adC adM σ1 σ2 354 [] := by
  obtain ⟨r, τ1, τ2, e1, e2, hs'⟩ := s_pass hs (xs (i + 1))
  refine N_D (fun hD => ?_)
  have hI1 : adI adC 209 := wl_I hD
  have hI2 : adI adM 10 := wl_I2 hD
  clear hD
  have hC : RooAt E adC (GC E adC) 209 := GC_at
  have hM : ModAt E adM (GM E adM) 10 := GM_at
  refine N_aload_n (pc := 354) F dl_354 rfl 2 rfl ?_
  refine N_aload_n (pc := 355) F dl_355 rfl 3 rfl ?_
  refine N_iload_n (pc := 356) F dl_356 rfl 0 rfl ?_
  refine N_iconst (pc := 357) (v := nI 1) F dl_357 rfl ?_
  refine N_iadd (pc := 358) F dl_358 ?_
  refine N_sld (pc := 359) (idx := i + 1) F hX hbl hbA (nI_add i 1) (by omega) (by omega) dl_359 ?_
  refine N_callVI (pc := 360) (b := 208) (As := [.int (xs (i + 1))]) (rest := []) (r := r) F (c_X3_pass hI1 hC e1) (Nat.le_of_ble_eq_true rfl) (Nat.le_of_ble_eq_true rfl) hc hsl (rooN hC) (hC.2.1 _) rfl wc_X3_pass wk_376 rfl rfl (Nat.le_of_ble_eq_true rfl) dl_360 ?_
  refine N_aload_n (pc := 363) F dl_363 rfl 1 rfl ?_
  refine N_aload_n (pc := 364) F dl_364 rfl 3 rfl ?_
  refine N_iload_n (pc := 365) F dl_365 rfl 0 rfl ?_
  refine N_iconst (pc := 366) (v := nI 1) F dl_366 rfl ?_
  refine N_iadd (pc := 367) F dl_367 ?_
  refine N_sld (pc := 368) (idx := i + 1) F hX hbl hbA (nI_add i 1) (by omega) (by omega) dl_368 ?_
  refine N_swap ?_
  refine N_callVI (pc := 369) (b := 0) (As := [.int (xs (i + 1))]) (rest := [.int r]) (r := r) F (c_X4_pass hI2 hM e2) (Nat.le_of_ble_eq_true rfl) (Nat.le_of_ble_eq_true rfl) hc hsl (modN hM) (hM.2.1 _) rfl wc_X4_pass wk_800 rfl rfl (Nat.le_of_ble_eq_true rfl) dl_369 ?_
  refine N_swap ?_
  refine N_icmp_eqT (pc := 372) F (tgt := 884) dl_372 (by decide) rfl ?_
  exact kk τ1 τ2 hs'
set_option maxHeartbeats 1000000 in
theorem lk_mend (F : Fy p s m #[Value.ref b] meth c code 4 R_law E A ret) (hX : va_X b L xs s s.heap) (hbl : b < s.heap.size) (hbA : ¬ A b) (hi : i + 5 ≤ L) (hL : L ≤ 2560) (hc : kc ≤ room_1.cells) (hsl : ks ≤ room_1.slots) (hs : Sim σ1 σ2) (kk : ∀ τ1 τ2 : St, Sim τ1 τ2 → JW p l e s m below meth c E A Q kc ks b i adC adM τ1 τ2 884 []) : JW p l e s m below meth c E A Q kc ks b i adC adM σ1 σ2 377 [] := by
  obtain ⟨r, τ1, τ2, e1, e2, hs'⟩ := s_mend hs (xs (i + 1)) (xs (i + 2))
  refine N_D (fun hD => ?_)
  have hI1 : adI adC 209 := wl_I hD
  have hI2 : adI adM 10 := wl_I2 hD
  clear hD
  have hC : RooAt E adC (GC E adC) 209 := GC_at
  have hM : ModAt E adM (GM E adM) 10 := GM_at
  refine N_aload_n (pc := 377) F dl_377 rfl 2 rfl ?_
  refine N_aload_n (pc := 378) F dl_378 rfl 3 rfl ?_
  refine N_iload_n (pc := 379) F dl_379 rfl 0 rfl ?_
  refine N_iconst (pc := 380) (v := nI 1) F dl_380 rfl ?_
  refine N_iadd (pc := 381) F dl_381 ?_
  refine N_sld (pc := 382) (idx := i + 1) F hX hbl hbA (nI_add i 1) (by omega) (by omega) dl_382 ?_
  refine N_aload_n (pc := 383) F dl_383 rfl 3 rfl ?_
  refine N_iload_n (pc := 384) F dl_384 rfl 0 rfl ?_
  refine N_iconst (pc := 385) (v := nI 2) F dl_385 rfl ?_
  refine N_iadd (pc := 386) F dl_386 ?_
  refine N_sld (pc := 387) (idx := i + 2) F hX hbl hbA (nI_add i 2) (by omega) (by omega) dl_387 ?_
  refine N_callVI (pc := 388) (b := 208) (As := [.int (xs (i + 1)), .int (xs (i + 2))]) (rest := []) (r := r) F (c_X3_mend hI1 hC e1) (Nat.le_of_ble_eq_true rfl) (Nat.le_of_ble_eq_true rfl) hc hsl (rooN hC) (hC.2.1 _) rfl wc_X3_mend wk_414 rfl rfl (Nat.le_of_ble_eq_true rfl) dl_388 ?_
  refine N_aload_n (pc := 391) F dl_391 rfl 1 rfl ?_
  refine N_aload_n (pc := 392) F dl_392 rfl 3 rfl ?_
  refine N_iload_n (pc := 393) F dl_393 rfl 0 rfl ?_
  refine N_iconst (pc := 394) (v := nI 1) F dl_394 rfl ?_
  refine N_iadd (pc := 395) F dl_395 ?_
  refine N_sld (pc := 396) (idx := i + 1) F hX hbl hbA (nI_add i 1) (by omega) (by omega) dl_396 ?_
  refine N_aload_n (pc := 397) F dl_397 rfl 3 rfl ?_
  refine N_iload_n (pc := 398) F dl_398 rfl 0 rfl ?_
  refine N_iconst (pc := 399) (v := nI 2) F dl_399 rfl ?_
  refine N_iadd (pc := 400) F dl_400 ?_
  refine N_sld (pc := 401) (idx := i + 2) F hX hbl hbA (nI_add i 2) (by omega) (by omega) dl_401 ?_
  refine N_swap ?_
  refine N_callVI (pc := 402) (b := 0) (As := [.int (xs (i + 1)), .int (xs (i + 2))]) (rest := [.int r]) (r := r) F (c_X4_mend hI2 hM e2) (Nat.le_of_ble_eq_true rfl) (Nat.le_of_ble_eq_true rfl) hc hsl (modN hM) (hM.2.1 _) rfl wc_X4_mend wk_825 rfl rfl (Nat.le_of_ble_eq_true rfl) dl_402 ?_
  refine N_swap ?_
  refine N_icmp_eqT (pc := 405) F (tgt := 884) dl_405 (by decide) rfl ?_
  exact kk τ1 τ2 hs'
set_option maxHeartbeats 1000000 in
theorem lk_change (F : Fy p s m #[Value.ref b] meth c code 4 R_law E A ret) (hX : va_X b L xs s s.heap) (hbl : b < s.heap.size) (hbA : ¬ A b) (hi : i + 5 ≤ L) (hL : L ≤ 2560) (hc : kc ≤ room_1.cells) (hsl : ks ≤ room_1.slots) (hs : Sim σ1 σ2) (kk : ∀ τ1 τ2 : St, Sim τ1 τ2 → JW p l e s m below meth c E A Q kc ks b i adC adM τ1 τ2 884 []) : JW p l e s m below meth c E A Q kc ks b i adC adM σ1 σ2 410 [] := by
  obtain ⟨r, τ1, τ2, e1, e2, hs'⟩ := s_change hs (xs (i + 1)) (xs (i + 2))
  refine N_D (fun hD => ?_)
  have hI1 : adI adC 209 := wl_I hD
  have hI2 : adI adM 10 := wl_I2 hD
  clear hD
  have hC : RooAt E adC (GC E adC) 209 := GC_at
  have hM : ModAt E adM (GM E adM) 10 := GM_at
  refine N_aload_n (pc := 410) F dl_410 rfl 2 rfl ?_
  refine N_aload_n (pc := 411) F dl_411 rfl 3 rfl ?_
  refine N_iload_n (pc := 412) F dl_412 rfl 0 rfl ?_
  refine N_iconst (pc := 413) (v := nI 1) F dl_413 rfl ?_
  refine N_iadd (pc := 414) F dl_414 ?_
  refine N_sld (pc := 415) (idx := i + 1) F hX hbl hbA (nI_add i 1) (by omega) (by omega) dl_415 ?_
  refine N_aload_n (pc := 416) F dl_416 rfl 3 rfl ?_
  refine N_iload_n (pc := 417) F dl_417 rfl 0 rfl ?_
  refine N_iconst (pc := 418) (v := nI 2) F dl_418 rfl ?_
  refine N_iadd (pc := 419) F dl_419 ?_
  refine N_sld (pc := 420) (idx := i + 2) F hX hbl hbA (nI_add i 2) (by omega) (by omega) dl_420 ?_
  refine N_callVI (pc := 421) (b := 208) (As := [.int (xs (i + 1)), .int (xs (i + 2))]) (rest := []) (r := r) F (c_X3_change hI1 hC e1) (Nat.le_of_ble_eq_true rfl) (Nat.le_of_ble_eq_true rfl) hc hsl (rooN hC) (hC.2.1 _) rfl wc_X3_change wk_430 rfl rfl (Nat.le_of_ble_eq_true rfl) dl_421 ?_
  refine N_aload_n (pc := 424) F dl_424 rfl 1 rfl ?_
  refine N_aload_n (pc := 425) F dl_425 rfl 3 rfl ?_
  refine N_iload_n (pc := 426) F dl_426 rfl 0 rfl ?_
  refine N_iconst (pc := 427) (v := nI 1) F dl_427 rfl ?_
  refine N_iadd (pc := 428) F dl_428 ?_
  refine N_sld (pc := 429) (idx := i + 1) F hX hbl hbA (nI_add i 1) (by omega) (by omega) dl_429 ?_
  refine N_aload_n (pc := 430) F dl_430 rfl 3 rfl ?_
  refine N_iload_n (pc := 431) F dl_431 rfl 0 rfl ?_
  refine N_iconst (pc := 432) (v := nI 2) F dl_432 rfl ?_
  refine N_iadd (pc := 433) F dl_433 ?_
  refine N_sld (pc := 434) (idx := i + 2) F hX hbl hbA (nI_add i 2) (by omega) (by omega) dl_434 ?_
  refine N_swap ?_
  refine N_callVI (pc := 435) (b := 0) (As := [.int (xs (i + 1)), .int (xs (i + 2))]) (rest := [.int r]) (r := r) F (c_X4_change hI2 hM e2) (Nat.le_of_ble_eq_true rfl) (Nat.le_of_ble_eq_true rfl) hc hsl (modN hM) (hM.2.1 _) rfl wc_X4_change wk_833 rfl rfl (Nat.le_of_ble_eq_true rfl) dl_435 ?_
  refine N_swap ?_
  refine N_icmp_eqT (pc := 438) F (tgt := 884) dl_438 (by decide) rfl ?_
  exact kk τ1 τ2 hs'
set_option maxHeartbeats 1000000 in
theorem lk_undo (F : Fy p s m #[Value.ref b] meth c code 4 R_law E A ret) (hX : va_X b L xs s s.heap) (hbl : b < s.heap.size) (hbA : ¬ A b) (hi : i + 5 ≤ L) (hL : L ≤ 2560) (hc : kc ≤ room_1.cells) (hsl : ks ≤ room_1.slots) (hs : Sim σ1 σ2) (kk : ∀ τ1 τ2 : St, Sim τ1 τ2 → JW p l e s m below meth c E A Q kc ks b i adC adM τ1 τ2 884 []) : JW p l e s m below meth c E A Q kc ks b i adC adM σ1 σ2 443 [] := by
  obtain ⟨r, τ1, τ2, e1, e2, hs'⟩ := s_undo hs
  refine N_D (fun hD => ?_)
  have hI1 : adI adC 209 := wl_I hD
  have hI2 : adI adM 10 := wl_I2 hD
  clear hD
  have hC : RooAt E adC (GC E adC) 209 := GC_at
  have hM : ModAt E adM (GM E adM) 10 := GM_at
  refine N_aload_n (pc := 443) F dl_443 rfl 2 rfl ?_
  refine N_callVI (pc := 444) (b := 208) (As := []) (rest := []) (r := r) F (c_X3_undo hI1 hC e1) (Nat.le_of_ble_eq_true rfl) (Nat.le_of_ble_eq_true rfl) hc hsl (rooN hC) (hC.2.1 _) rfl wc_X3_undo wk_442 rfl rfl (Nat.le_of_ble_eq_true rfl) dl_444 ?_
  refine N_aload_n (pc := 447) F dl_447 rfl 1 rfl ?_
  refine N_swap ?_
  refine N_callVI (pc := 448) (b := 0) (As := []) (rest := [.int r]) (r := r) F (c_X4_undo hI2 hM e2) (Nat.le_of_ble_eq_true rfl) (Nat.le_of_ble_eq_true rfl) hc hsl (modN hM) (hM.2.1 _) rfl wc_X4_undo wk_841 rfl rfl (Nat.le_of_ble_eq_true rfl) dl_448 ?_
  refine N_swap ?_
  refine N_icmp_eqT (pc := 451) F (tgt := 884) dl_451 (by decide) rfl ?_
  exact kk τ1 τ2 hs'
set_option maxHeartbeats 1000000 in
theorem lk_behind (F : Fy p s m #[Value.ref b] meth c code 4 R_law E A ret) (hX : va_X b L xs s s.heap) (hbl : b < s.heap.size) (hbA : ¬ A b) (hi : i + 5 ≤ L) (hL : L ≤ 2560) (hc : kc ≤ room_1.cells) (hsl : ks ≤ room_1.slots) (hs : Sim σ1 σ2) (kk : ∀ τ1 τ2 : St, Sim τ1 τ2 → JW p l e s m below meth c E A Q kc ks b i adC adM τ1 τ2 884 []) : JW p l e s m below meth c E A Q kc ks b i adC adM σ1 σ2 456 [] := by
  obtain ⟨r, τ1, τ2, e1, e2, hs'⟩ := s_behind hs (xs (i + 1)) (xs (i + 2)) (xs (i + 3))
  refine N_D (fun hD => ?_)
  have hI1 : adI adC 209 := wl_I hD
  have hI2 : adI adM 10 := wl_I2 hD
  clear hD
  have hC : RooAt E adC (GC E adC) 209 := GC_at
  have hM : ModAt E adM (GM E adM) 10 := GM_at
  refine N_aload_n (pc := 456) F dl_456 rfl 2 rfl ?_
  refine N_aload_n (pc := 457) F dl_457 rfl 3 rfl ?_
  refine N_iload_n (pc := 458) F dl_458 rfl 0 rfl ?_
  refine N_iconst (pc := 459) (v := nI 1) F dl_459 rfl ?_
  refine N_iadd (pc := 460) F dl_460 ?_
  refine N_sld (pc := 461) (idx := i + 1) F hX hbl hbA (nI_add i 1) (by omega) (by omega) dl_461 ?_
  refine N_aload_n (pc := 462) F dl_462 rfl 3 rfl ?_
  refine N_iload_n (pc := 463) F dl_463 rfl 0 rfl ?_
  refine N_iconst (pc := 464) (v := nI 2) F dl_464 rfl ?_
  refine N_iadd (pc := 465) F dl_465 ?_
  refine N_sld (pc := 466) (idx := i + 2) F hX hbl hbA (nI_add i 2) (by omega) (by omega) dl_466 ?_
  refine N_aload_n (pc := 467) F dl_467 rfl 3 rfl ?_
  refine N_iload_n (pc := 468) F dl_468 rfl 0 rfl ?_
  refine N_iconst (pc := 469) (v := nI 3) F dl_469 rfl ?_
  refine N_iadd (pc := 470) F dl_470 ?_
  refine N_sld (pc := 471) (idx := i + 3) F hX hbl hbA (nI_add i 3) (by omega) (by omega) dl_471 ?_
  refine N_callVI (pc := 472) (b := 208) (As := [.int (xs (i + 1)), .int (xs (i + 2)), .int (xs (i + 3))]) (rest := []) (r := r) F (c_X3_behind hI1 hC e1) (Nat.le_of_ble_eq_true rfl) (Nat.le_of_ble_eq_true rfl) hc hsl (rooN hC) (hC.2.1 _) rfl wc_X3_behind wk_446 rfl rfl (Nat.le_of_ble_eq_true rfl) dl_472 ?_
  refine N_aload_n (pc := 475) F dl_475 rfl 1 rfl ?_
  refine N_aload_n (pc := 476) F dl_476 rfl 3 rfl ?_
  refine N_iload_n (pc := 477) F dl_477 rfl 0 rfl ?_
  refine N_iconst (pc := 478) (v := nI 1) F dl_478 rfl ?_
  refine N_iadd (pc := 479) F dl_479 ?_
  refine N_sld (pc := 480) (idx := i + 1) F hX hbl hbA (nI_add i 1) (by omega) (by omega) dl_480 ?_
  refine N_aload_n (pc := 481) F dl_481 rfl 3 rfl ?_
  refine N_iload_n (pc := 482) F dl_482 rfl 0 rfl ?_
  refine N_iconst (pc := 483) (v := nI 2) F dl_483 rfl ?_
  refine N_iadd (pc := 484) F dl_484 ?_
  refine N_sld (pc := 485) (idx := i + 2) F hX hbl hbA (nI_add i 2) (by omega) (by omega) dl_485 ?_
  refine N_aload_n (pc := 486) F dl_486 rfl 3 rfl ?_
  refine N_iload_n (pc := 487) F dl_487 rfl 0 rfl ?_
  refine N_iconst (pc := 488) (v := nI 3) F dl_488 rfl ?_
  refine N_iadd (pc := 489) F dl_489 ?_
  refine N_sld (pc := 490) (idx := i + 3) F hX hbl hbA (nI_add i 3) (by omega) (by omega) dl_490 ?_
  refine N_swap ?_
  refine N_callVI (pc := 491) (b := 0) (As := [.int (xs (i + 1)), .int (xs (i + 2)), .int (xs (i + 3))]) (rest := [.int r]) (r := r) F (c_X4_behind hI2 hM e2) (Nat.le_of_ble_eq_true rfl) (Nat.le_of_ble_eq_true rfl) hc hsl (modN hM) (hM.2.1 _) rfl wc_X4_behind wk_845 rfl rfl (Nat.le_of_ble_eq_true rfl) dl_491 ?_
  refine N_swap ?_
  refine N_icmp_eqT (pc := 494) F (tgt := 884) dl_494 (by decide) rfl ?_
  exact kk τ1 τ2 hs'
set_option maxHeartbeats 1000000 in
theorem lk_made (F : Fy p s m #[Value.ref b] meth c code 4 R_law E A ret) (hX : va_X b L xs s s.heap) (hbl : b < s.heap.size) (hbA : ¬ A b) (hi : i + 5 ≤ L) (hL : L ≤ 2560) (hc : kc ≤ room_1.cells) (hsl : ks ≤ room_1.slots) (hs : Sim σ1 σ2) (kk : ∀ τ1 τ2 : St, Sim τ1 τ2 → JW p l e s m below meth c E A Q kc ks b i adC adM τ1 τ2 884 []) : JW p l e s m below meth c E A Q kc ks b i adC adM σ1 σ2 499 [] := by
  obtain ⟨r, τ1, τ2, e1, e2, hs'⟩ := s_made hs (xs (i + 1))
  refine N_D (fun hD => ?_)
  have hI1 : adI adC 209 := wl_I hD
  have hI2 : adI adM 10 := wl_I2 hD
  clear hD
  have hC : RooAt E adC (GC E adC) 209 := GC_at
  have hM : ModAt E adM (GM E adM) 10 := GM_at
  refine N_aload_n (pc := 499) F dl_499 rfl 2 rfl ?_
  refine N_aload_n (pc := 500) F dl_500 rfl 3 rfl ?_
  refine N_iload_n (pc := 501) F dl_501 rfl 0 rfl ?_
  refine N_iconst (pc := 502) (v := nI 1) F dl_502 rfl ?_
  refine N_iadd (pc := 503) F dl_503 ?_
  refine N_sld (pc := 504) (idx := i + 1) F hX hbl hbA (nI_add i 1) (by omega) (by omega) dl_504 ?_
  refine N_callVI (pc := 505) (b := 208) (As := [.int (xs (i + 1))]) (rest := []) (r := r) F (c_X3_made hI1 hC e1) (Nat.le_of_ble_eq_true rfl) (Nat.le_of_ble_eq_true rfl) hc hsl (rooN hC) (hC.2.1 _) rfl wc_X3_made wk_451 rfl rfl (Nat.le_of_ble_eq_true rfl) dl_505 ?_
  refine N_aload_n (pc := 508) F dl_508 rfl 1 rfl ?_
  refine N_aload_n (pc := 509) F dl_509 rfl 3 rfl ?_
  refine N_iload_n (pc := 510) F dl_510 rfl 0 rfl ?_
  refine N_iconst (pc := 511) (v := nI 1) F dl_511 rfl ?_
  refine N_iadd (pc := 512) F dl_512 ?_
  refine N_sld (pc := 513) (idx := i + 1) F hX hbl hbA (nI_add i 1) (by omega) (by omega) dl_513 ?_
  refine N_swap ?_
  refine N_callVI (pc := 514) (b := 0) (As := [.int (xs (i + 1))]) (rest := [.int r]) (r := r) F (c_X4_made hI2 hM e2) (Nat.le_of_ble_eq_true rfl) (Nat.le_of_ble_eq_true rfl) hc hsl (modN hM) (hM.2.1 _) rfl wc_X4_made wk_851 rfl rfl (Nat.le_of_ble_eq_true rfl) dl_514 ?_
  refine N_swap ?_
  refine N_icmp_eqT (pc := 517) F (tgt := 884) dl_517 (by decide) rfl ?_
  exact kk τ1 τ2 hs'
set_option maxHeartbeats 1000000 in
theorem lk_best (F : Fy p s m #[Value.ref b] meth c code 4 R_law E A ret) (hX : va_X b L xs s s.heap) (hbl : b < s.heap.size) (hbA : ¬ A b) (hi : i + 5 ≤ L) (hL : L ≤ 2560) (hc : kc ≤ room_1.cells) (hsl : ks ≤ room_1.slots) (hs : Sim σ1 σ2) (kk : ∀ τ1 τ2 : St, Sim τ1 τ2 → JW p l e s m below meth c E A Q kc ks b i adC adM τ1 τ2 884 []) : JW p l e s m below meth c E A Q kc ks b i adC adM σ1 σ2 522 [] := by
  obtain ⟨r, τ1, τ2, e1, e2, hs'⟩ := s_best hs (xs (i + 1)) (xs (i + 2)) (xs (i + 3))
  refine N_D (fun hD => ?_)
  have hI1 : adI adC 209 := wl_I hD
  have hI2 : adI adM 10 := wl_I2 hD
  clear hD
  have hC : RooAt E adC (GC E adC) 209 := GC_at
  have hM : ModAt E adM (GM E adM) 10 := GM_at
  refine N_aload_n (pc := 522) F dl_522 rfl 2 rfl ?_
  refine N_aload_n (pc := 523) F dl_523 rfl 3 rfl ?_
  refine N_iload_n (pc := 524) F dl_524 rfl 0 rfl ?_
  refine N_iconst (pc := 525) (v := nI 1) F dl_525 rfl ?_
  refine N_iadd (pc := 526) F dl_526 ?_
  refine N_sld (pc := 527) (idx := i + 1) F hX hbl hbA (nI_add i 1) (by omega) (by omega) dl_527 ?_
  refine N_aload_n (pc := 528) F dl_528 rfl 3 rfl ?_
  refine N_iload_n (pc := 529) F dl_529 rfl 0 rfl ?_
  refine N_iconst (pc := 530) (v := nI 2) F dl_530 rfl ?_
  refine N_iadd (pc := 531) F dl_531 ?_
  refine N_sld (pc := 532) (idx := i + 2) F hX hbl hbA (nI_add i 2) (by omega) (by omega) dl_532 ?_
  refine N_aload_n (pc := 533) F dl_533 rfl 3 rfl ?_
  refine N_iload_n (pc := 534) F dl_534 rfl 0 rfl ?_
  refine N_iconst (pc := 535) (v := nI 3) F dl_535 rfl ?_
  refine N_iadd (pc := 536) F dl_536 ?_
  refine N_sld (pc := 537) (idx := i + 3) F hX hbl hbA (nI_add i 3) (by omega) (by omega) dl_537 ?_
  refine N_callVI (pc := 538) (b := 208) (As := [.int (xs (i + 1)), .int (xs (i + 2)), .int (xs (i + 3))]) (rest := []) (r := r) F (c_X3_best hI1 hC e1) (Nat.le_of_ble_eq_true rfl) (Nat.le_of_ble_eq_true rfl) hc hsl (rooN hC) (hC.2.1 _) rfl wc_X3_best wk_456 rfl rfl (Nat.le_of_ble_eq_true rfl) dl_538 ?_
  refine N_aload_n (pc := 541) F dl_541 rfl 1 rfl ?_
  refine N_aload_n (pc := 542) F dl_542 rfl 3 rfl ?_
  refine N_iload_n (pc := 543) F dl_543 rfl 0 rfl ?_
  refine N_iconst (pc := 544) (v := nI 1) F dl_544 rfl ?_
  refine N_iadd (pc := 545) F dl_545 ?_
  refine N_sld (pc := 546) (idx := i + 1) F hX hbl hbA (nI_add i 1) (by omega) (by omega) dl_546 ?_
  refine N_aload_n (pc := 547) F dl_547 rfl 3 rfl ?_
  refine N_iload_n (pc := 548) F dl_548 rfl 0 rfl ?_
  refine N_iconst (pc := 549) (v := nI 2) F dl_549 rfl ?_
  refine N_iadd (pc := 550) F dl_550 ?_
  refine N_sld (pc := 551) (idx := i + 2) F hX hbl hbA (nI_add i 2) (by omega) (by omega) dl_551 ?_
  refine N_aload_n (pc := 552) F dl_552 rfl 3 rfl ?_
  refine N_iload_n (pc := 553) F dl_553 rfl 0 rfl ?_
  refine N_iconst (pc := 554) (v := nI 3) F dl_554 rfl ?_
  refine N_iadd (pc := 555) F dl_555 ?_
  refine N_sld (pc := 556) (idx := i + 3) F hX hbl hbA (nI_add i 3) (by omega) (by omega) dl_556 ?_
  refine N_swap ?_
  refine N_callVI (pc := 557) (b := 0) (As := [.int (xs (i + 1)), .int (xs (i + 2)), .int (xs (i + 3))]) (rest := [.int r]) (r := r) F (c_X4_best hI2 hM e2) (Nat.le_of_ble_eq_true rfl) (Nat.le_of_ble_eq_true rfl) hc hsl (modN hM) (hM.2.1 _) rfl wc_X4_best wk_855 rfl rfl (Nat.le_of_ble_eq_true rfl) dl_557 ?_
  refine N_swap ?_
  refine N_icmp_eqT (pc := 560) F (tgt := 884) dl_560 (by decide) rfl ?_
  exact kk τ1 τ2 hs'
set_option maxHeartbeats 1000000 in
theorem lk_mends (F : Fy p s m #[Value.ref b] meth c code 4 R_law E A ret) (hX : va_X b L xs s s.heap) (hbl : b < s.heap.size) (hbA : ¬ A b) (hi : i + 5 ≤ L) (hL : L ≤ 2560) (hc : kc ≤ room_1.cells) (hsl : ks ≤ room_1.slots) (hs : Sim σ1 σ2) (kk : ∀ τ1 τ2 : St, Sim τ1 τ2 → JW p l e s m below meth c E A Q kc ks b i adC adM τ1 τ2 884 []) : JW p l e s m below meth c E A Q kc ks b i adC adM σ1 σ2 565 [] := by
  obtain ⟨r, τ1, τ2, e1, e2, hs'⟩ := s_mends hs (xs (i + 1))
  refine N_D (fun hD => ?_)
  have hI1 : adI adC 209 := wl_I hD
  have hI2 : adI adM 10 := wl_I2 hD
  clear hD
  have hC : RooAt E adC (GC E adC) 209 := GC_at
  have hM : ModAt E adM (GM E adM) 10 := GM_at
  refine N_aload_n (pc := 565) F dl_565 rfl 2 rfl ?_
  refine N_aload_n (pc := 566) F dl_566 rfl 3 rfl ?_
  refine N_iload_n (pc := 567) F dl_567 rfl 0 rfl ?_
  refine N_iconst (pc := 568) (v := nI 1) F dl_568 rfl ?_
  refine N_iadd (pc := 569) F dl_569 ?_
  refine N_sld (pc := 570) (idx := i + 1) F hX hbl hbA (nI_add i 1) (by omega) (by omega) dl_570 ?_
  refine N_callVI (pc := 571) (b := 208) (As := [.int (xs (i + 1))]) (rest := []) (r := r) F (c_X3_mends hI1 hC e1) (Nat.le_of_ble_eq_true rfl) (Nat.le_of_ble_eq_true rfl) hc hsl (rooN hC) (hC.2.1 _) rfl wc_X3_mends wk_467 rfl rfl (Nat.le_of_ble_eq_true rfl) dl_571 ?_
  refine N_aload_n (pc := 574) F dl_574 rfl 1 rfl ?_
  refine N_aload_n (pc := 575) F dl_575 rfl 3 rfl ?_
  refine N_iload_n (pc := 576) F dl_576 rfl 0 rfl ?_
  refine N_iconst (pc := 577) (v := nI 1) F dl_577 rfl ?_
  refine N_iadd (pc := 578) F dl_578 ?_
  refine N_sld (pc := 579) (idx := i + 1) F hX hbl hbA (nI_add i 1) (by omega) (by omega) dl_579 ?_
  refine N_swap ?_
  refine N_callVI (pc := 580) (b := 0) (As := [.int (xs (i + 1))]) (rest := [.int r]) (r := r) F (c_X4_mends hI2 hM e2) (Nat.le_of_ble_eq_true rfl) (Nat.le_of_ble_eq_true rfl) hc hsl (modN hM) (hM.2.1 _) rfl wc_X4_mends wk_864 rfl rfl (Nat.le_of_ble_eq_true rfl) dl_580 ?_
  refine N_swap ?_
  refine N_icmp_eqT (pc := 583) F (tgt := 884) dl_583 (by decide) rfl ?_
  exact kk τ1 τ2 hs'
set_option maxHeartbeats 1000000 in
theorem lk_two (F : Fy p s m #[Value.ref b] meth c code 4 R_law E A ret) (hX : va_X b L xs s s.heap) (hbl : b < s.heap.size) (hbA : ¬ A b) (hi : i + 5 ≤ L) (hL : L ≤ 2560) (hc : kc ≤ room_1.cells) (hsl : ks ≤ room_1.slots) (hs : Sim σ1 σ2) (kk : ∀ τ1 τ2 : St, Sim τ1 τ2 → JW p l e s m below meth c E A Q kc ks b i adC adM τ1 τ2 884 []) : JW p l e s m below meth c E A Q kc ks b i adC adM σ1 σ2 588 [] := by
  obtain ⟨r, τ1, τ2, e1, e2, hs'⟩ := s_two hs (xs (i + 1))
  refine N_D (fun hD => ?_)
  have hI1 : adI adC 209 := wl_I hD
  have hI2 : adI adM 10 := wl_I2 hD
  clear hD
  have hC : RooAt E adC (GC E adC) 209 := GC_at
  have hM : ModAt E adM (GM E adM) 10 := GM_at
  refine N_aload_n (pc := 588) F dl_588 rfl 2 rfl ?_
  refine N_aload_n (pc := 589) F dl_589 rfl 3 rfl ?_
  refine N_iload_n (pc := 590) F dl_590 rfl 0 rfl ?_
  refine N_iconst (pc := 591) (v := nI 1) F dl_591 rfl ?_
  refine N_iadd (pc := 592) F dl_592 ?_
  refine N_sld (pc := 593) (idx := i + 1) F hX hbl hbA (nI_add i 1) (by omega) (by omega) dl_593 ?_
  refine N_callVI (pc := 594) (b := 208) (As := [.int (xs (i + 1))]) (rest := []) (r := r) F (c_X3_two hI1 hC e1) (Nat.le_of_ble_eq_true rfl) (Nat.le_of_ble_eq_true rfl) hc hsl (rooN hC) (hC.2.1 _) rfl wc_X3_two wk_479 rfl rfl (Nat.le_of_ble_eq_true rfl) dl_594 ?_
  refine N_aload_n (pc := 597) F dl_597 rfl 1 rfl ?_
  refine N_aload_n (pc := 598) F dl_598 rfl 3 rfl ?_
  refine N_iload_n (pc := 599) F dl_599 rfl 0 rfl ?_
  refine N_iconst (pc := 600) (v := nI 1) F dl_600 rfl ?_
  refine N_iadd (pc := 601) F dl_601 ?_
  refine N_sld (pc := 602) (idx := i + 1) F hX hbl hbA (nI_add i 1) (by omega) (by omega) dl_602 ?_
  refine N_swap ?_
  refine N_callVI (pc := 603) (b := 0) (As := [.int (xs (i + 1))]) (rest := [.int r]) (r := r) F (c_X4_two hI2 hM e2) (Nat.le_of_ble_eq_true rfl) (Nat.le_of_ble_eq_true rfl) hc hsl (modN hM) (hM.2.1 _) rfl wc_X4_two wk_872 rfl rfl (Nat.le_of_ble_eq_true rfl) dl_603 ?_
  refine N_swap ?_
  refine N_icmp_eqT (pc := 606) F (tgt := 884) dl_606 (by decide) rfl ?_
  exact kk τ1 τ2 hs'
set_option maxHeartbeats 1000000 in
theorem lk_tests (F : Fy p s m #[Value.ref b] meth c code 4 R_law E A ret) (hX : va_X b L xs s s.heap) (hbl : b < s.heap.size) (hbA : ¬ A b) (hi : i + 5 ≤ L) (hL : L ≤ 2560) (hc : kc ≤ room_1.cells) (hsl : ks ≤ room_1.slots) (hs : Sim σ1 σ2) (kk : ∀ τ1 τ2 : St, Sim τ1 τ2 → JW p l e s m below meth c E A Q kc ks b i adC adM τ1 τ2 884 []) : JW p l e s m below meth c E A Q kc ks b i adC adM σ1 σ2 611 [] := by
  obtain ⟨r, τ1, τ2, e1, e2, hs'⟩ := s_tests hs (xs (i + 1))
  refine N_D (fun hD => ?_)
  have hI1 : adI adC 209 := wl_I hD
  have hI2 : adI adM 10 := wl_I2 hD
  clear hD
  have hC : RooAt E adC (GC E adC) 209 := GC_at
  have hM : ModAt E adM (GM E adM) 10 := GM_at
  refine N_aload_n (pc := 611) F dl_611 rfl 2 rfl ?_
  refine N_aload_n (pc := 612) F dl_612 rfl 3 rfl ?_
  refine N_iload_n (pc := 613) F dl_613 rfl 0 rfl ?_
  refine N_iconst (pc := 614) (v := nI 1) F dl_614 rfl ?_
  refine N_iadd (pc := 615) F dl_615 ?_
  refine N_sld (pc := 616) (idx := i + 1) F hX hbl hbA (nI_add i 1) (by omega) (by omega) dl_616 ?_
  refine N_callVI (pc := 617) (b := 208) (As := [.int (xs (i + 1))]) (rest := []) (r := r) F (c_X3_tests hI1 hC e1) (Nat.le_of_ble_eq_true rfl) (Nat.le_of_ble_eq_true rfl) hc hsl (rooN hC) (hC.2.1 _) rfl wc_X3_tests wk_484 rfl rfl (Nat.le_of_ble_eq_true rfl) dl_617 ?_
  refine N_aload_n (pc := 620) F dl_620 rfl 1 rfl ?_
  refine N_aload_n (pc := 621) F dl_621 rfl 3 rfl ?_
  refine N_iload_n (pc := 622) F dl_622 rfl 0 rfl ?_
  refine N_iconst (pc := 623) (v := nI 1) F dl_623 rfl ?_
  refine N_iadd (pc := 624) F dl_624 ?_
  refine N_sld (pc := 625) (idx := i + 1) F hX hbl hbA (nI_add i 1) (by omega) (by omega) dl_625 ?_
  refine N_swap ?_
  refine N_callVI (pc := 626) (b := 0) (As := [.int (xs (i + 1))]) (rest := [.int r]) (r := r) F (c_X4_tests hI2 hM e2) (Nat.le_of_ble_eq_true rfl) (Nat.le_of_ble_eq_true rfl) hc hsl (modN hM) (hM.2.1 _) rfl wc_X4_tests wk_876 rfl rfl (Nat.le_of_ble_eq_true rfl) dl_626 ?_
  refine N_swap ?_
  refine N_icmp_eqT (pc := 629) F (tgt := 884) dl_629 (by decide) rfl ?_
  exact kk τ1 τ2 hs'
set_option maxHeartbeats 1000000 in
theorem lk_other (F : Fy p s m #[Value.ref b] meth c code 4 R_law E A ret) (hX : va_X b L xs s s.heap) (hbl : b < s.heap.size) (hbA : ¬ A b) (hi : i + 5 ≤ L) (hL : L ≤ 2560) (hc : kc ≤ room_1.cells) (hsl : ks ≤ room_1.slots) (hs : Sim σ1 σ2) (kk : ∀ τ1 τ2 : St, Sim τ1 τ2 → JW p l e s m below meth c E A Q kc ks b i adC adM τ1 τ2 884 []) : JW p l e s m below meth c E A Q kc ks b i adC adM σ1 σ2 634 [] := by
  obtain ⟨r, τ1, τ2, e1, e2, hs'⟩ := s_other hs
  refine N_D (fun hD => ?_)
  have hI1 : adI adC 209 := wl_I hD
  have hI2 : adI adM 10 := wl_I2 hD
  clear hD
  have hC : RooAt E adC (GC E adC) 209 := GC_at
  have hM : ModAt E adM (GM E adM) 10 := GM_at
  refine N_aload_n (pc := 634) F dl_634 rfl 2 rfl ?_
  refine N_callVI (pc := 635) (b := 208) (As := []) (rest := []) (r := r) F (c_X3_other hI1 hC e1) (Nat.le_of_ble_eq_true rfl) (Nat.le_of_ble_eq_true rfl) hc hsl (rooN hC) (hC.2.1 _) rfl wc_X3_other wk_500 rfl rfl (Nat.le_of_ble_eq_true rfl) dl_635 ?_
  refine N_aload_n (pc := 638) F dl_638 rfl 1 rfl ?_
  refine N_swap ?_
  refine N_callVI (pc := 639) (b := 0) (As := []) (rest := [.int r]) (r := r) F (c_X4_other hI2 hM e2) (Nat.le_of_ble_eq_true rfl) (Nat.le_of_ble_eq_true rfl) hc hsl (modN hM) (hM.2.1 _) rfl wc_X4_other wk_884 rfl rfl (Nat.le_of_ble_eq_true rfl) dl_639 ?_
  refine N_swap ?_
  refine N_icmp_eqT (pc := 642) F (tgt := 884) dl_642 (by decide) rfl ?_
  exact kk τ1 τ2 hs'
set_option maxHeartbeats 1000000 in
theorem lk_hear (F : Fy p s m #[Value.ref b] meth c code 4 R_law E A ret) (hX : va_X b L xs s s.heap) (hbl : b < s.heap.size) (hbA : ¬ A b) (hi : i + 5 ≤ L) (hL : L ≤ 2560) (hc : kc ≤ room_1.cells) (hsl : ks ≤ room_1.slots) (hs : Sim σ1 σ2) (kk : ∀ τ1 τ2 : St, Sim τ1 τ2 → JW p l e s m below meth c E A Q kc ks b i adC adM τ1 τ2 884 []) : JW p l e s m below meth c E A Q kc ks b i adC adM σ1 σ2 647 [] := by
  obtain ⟨r, τ1, τ2, e1, e2, hs'⟩ := s_hear hs (xs (i + 1)) (xs (i + 2)) (xs (i + 3))
  refine N_D (fun hD => ?_)
  have hI1 : adI adC 209 := wl_I hD
  have hI2 : adI adM 10 := wl_I2 hD
  clear hD
  have hC : RooAt E adC (GC E adC) 209 := GC_at
  have hM : ModAt E adM (GM E adM) 10 := GM_at
  refine N_aload_n (pc := 647) F dl_647 rfl 2 rfl ?_
  refine N_aload_n (pc := 648) F dl_648 rfl 3 rfl ?_
  refine N_iload_n (pc := 649) F dl_649 rfl 0 rfl ?_
  refine N_iconst (pc := 650) (v := nI 1) F dl_650 rfl ?_
  refine N_iadd (pc := 651) F dl_651 ?_
  refine N_sld (pc := 652) (idx := i + 1) F hX hbl hbA (nI_add i 1) (by omega) (by omega) dl_652 ?_
  refine N_aload_n (pc := 653) F dl_653 rfl 3 rfl ?_
  refine N_iload_n (pc := 654) F dl_654 rfl 0 rfl ?_
  refine N_iconst (pc := 655) (v := nI 2) F dl_655 rfl ?_
  refine N_iadd (pc := 656) F dl_656 ?_
  refine N_sld (pc := 657) (idx := i + 2) F hX hbl hbA (nI_add i 2) (by omega) (by omega) dl_657 ?_
  refine N_aload_n (pc := 658) F dl_658 rfl 3 rfl ?_
  refine N_iload_n (pc := 659) F dl_659 rfl 0 rfl ?_
  refine N_iconst (pc := 660) (v := nI 3) F dl_660 rfl ?_
  refine N_iadd (pc := 661) F dl_661 ?_
  refine N_sld (pc := 662) (idx := i + 3) F hX hbl hbA (nI_add i 3) (by omega) (by omega) dl_662 ?_
  refine N_callVI (pc := 663) (b := 208) (As := [.int (xs (i + 1)), .int (xs (i + 2)), .int (xs (i + 3))]) (rest := []) (r := r) F (c_X3_hear hI1 hC e1) (Nat.le_of_ble_eq_true rfl) (Nat.le_of_ble_eq_true rfl) hc hsl (rooN hC) (hC.2.1 _) rfl wc_X3_hear wk_513 rfl rfl (Nat.le_of_ble_eq_true rfl) dl_663 ?_
  refine N_aload_n (pc := 666) F dl_666 rfl 1 rfl ?_
  refine N_aload_n (pc := 667) F dl_667 rfl 3 rfl ?_
  refine N_iload_n (pc := 668) F dl_668 rfl 0 rfl ?_
  refine N_iconst (pc := 669) (v := nI 1) F dl_669 rfl ?_
  refine N_iadd (pc := 670) F dl_670 ?_
  refine N_sld (pc := 671) (idx := i + 1) F hX hbl hbA (nI_add i 1) (by omega) (by omega) dl_671 ?_
  refine N_aload_n (pc := 672) F dl_672 rfl 3 rfl ?_
  refine N_iload_n (pc := 673) F dl_673 rfl 0 rfl ?_
  refine N_iconst (pc := 674) (v := nI 2) F dl_674 rfl ?_
  refine N_iadd (pc := 675) F dl_675 ?_
  refine N_sld (pc := 676) (idx := i + 2) F hX hbl hbA (nI_add i 2) (by omega) (by omega) dl_676 ?_
  refine N_aload_n (pc := 677) F dl_677 rfl 3 rfl ?_
  refine N_iload_n (pc := 678) F dl_678 rfl 0 rfl ?_
  refine N_iconst (pc := 679) (v := nI 3) F dl_679 rfl ?_
  refine N_iadd (pc := 680) F dl_680 ?_
  refine N_sld (pc := 681) (idx := i + 3) F hX hbl hbA (nI_add i 3) (by omega) (by omega) dl_681 ?_
  refine N_swap ?_
  refine N_callVI (pc := 682) (b := 0) (As := [.int (xs (i + 1)), .int (xs (i + 2)), .int (xs (i + 3))]) (rest := [.int r]) (r := r) F (c_X4_hear hI2 hM e2) (Nat.le_of_ble_eq_true rfl) (Nat.le_of_ble_eq_true rfl) hc hsl (modN hM) (hM.2.1 _) rfl wc_X4_hear wk_892 rfl rfl (Nat.le_of_ble_eq_true rfl) dl_682 ?_
  refine N_swap ?_
  refine N_icmp_eqT (pc := 685) F (tgt := 884) dl_685 (by decide) rfl ?_
  exact kk τ1 τ2 hs'
set_option maxHeartbeats 1000000 in
theorem lk_forget (F : Fy p s m #[Value.ref b] meth c code 4 R_law E A ret) (hX : va_X b L xs s s.heap) (hbl : b < s.heap.size) (hbA : ¬ A b) (hi : i + 5 ≤ L) (hL : L ≤ 2560) (hc : kc ≤ room_1.cells) (hsl : ks ≤ room_1.slots) (hs : Sim σ1 σ2) (kk : ∀ τ1 τ2 : St, Sim τ1 τ2 → JW p l e s m below meth c E A Q kc ks b i adC adM τ1 τ2 884 []) : JW p l e s m below meth c E A Q kc ks b i adC adM σ1 σ2 690 [] := by
  obtain ⟨r, τ1, τ2, e1, e2, hs'⟩ := s_forget hs
  refine N_D (fun hD => ?_)
  have hI1 : adI adC 209 := wl_I hD
  have hI2 : adI adM 10 := wl_I2 hD
  clear hD
  have hC : RooAt E adC (GC E adC) 209 := GC_at
  have hM : ModAt E adM (GM E adM) 10 := GM_at
  refine N_aload_n (pc := 690) F dl_690 rfl 2 rfl ?_
  refine N_callVI (pc := 691) (b := 208) (As := []) (rest := []) (r := r) F (c_X3_forget hI1 hC e1) (Nat.le_of_ble_eq_true rfl) (Nat.le_of_ble_eq_true rfl) hc hsl (rooN hC) (hC.2.1 _) rfl wc_X3_forget wk_522 rfl rfl (Nat.le_of_ble_eq_true rfl) dl_691 ?_
  refine N_aload_n (pc := 694) F dl_694 rfl 1 rfl ?_
  refine N_swap ?_
  refine N_callVI (pc := 695) (b := 0) (As := []) (rest := [.int r]) (r := r) F (c_X4_forget hI2 hM e2) (Nat.le_of_ble_eq_true rfl) (Nat.le_of_ble_eq_true rfl) hc hsl (modN hM) (hM.2.1 _) rfl wc_X4_forget wk_898 rfl rfl (Nat.le_of_ble_eq_true rfl) dl_695 ?_
  refine N_swap ?_
  refine N_icmp_eqT (pc := 698) F (tgt := 884) dl_698 (by decide) rfl ?_
  exact kk τ1 τ2 hs'
set_option maxHeartbeats 1000000 in
theorem lk_which (F : Fy p s m #[Value.ref b] meth c code 4 R_law E A ret) (hX : va_X b L xs s s.heap) (hbl : b < s.heap.size) (hbA : ¬ A b) (hi : i + 5 ≤ L) (hL : L ≤ 2560) (hc : kc ≤ room_1.cells) (hsl : ks ≤ room_1.slots) (hs : Sim σ1 σ2) (kk : ∀ τ1 τ2 : St, Sim τ1 τ2 → JW p l e s m below meth c E A Q kc ks b i adC adM τ1 τ2 884 []) : JW p l e s m below meth c E A Q kc ks b i adC adM σ1 σ2 703 [] := by
  obtain ⟨r, τ1, τ2, e1, e2, hs'⟩ := s_which hs
  refine N_D (fun hD => ?_)
  have hI1 : adI adC 209 := wl_I hD
  have hI2 : adI adM 10 := wl_I2 hD
  clear hD
  have hC : RooAt E adC (GC E adC) 209 := GC_at
  have hM : ModAt E adM (GM E adM) 10 := GM_at
  refine N_aload_n (pc := 703) F dl_703 rfl 2 rfl ?_
  refine N_callVI (pc := 704) (b := 208) (As := []) (rest := []) (r := r) F (c_X3_which hI1 hC e1) (Nat.le_of_ble_eq_true rfl) (Nat.le_of_ble_eq_true rfl) hc hsl (rooN hC) (hC.2.1 _) rfl wc_X3_which wk_526 rfl rfl (Nat.le_of_ble_eq_true rfl) dl_704 ?_
  refine N_aload_n (pc := 707) F dl_707 rfl 1 rfl ?_
  refine N_swap ?_
  refine N_callVI (pc := 708) (b := 0) (As := []) (rest := [.int r]) (r := r) F (c_X4_which hI2 hM e2) (Nat.le_of_ble_eq_true rfl) (Nat.le_of_ble_eq_true rfl) hc hsl (modN hM) (hM.2.1 _) rfl wc_X4_which wk_902 rfl rfl (Nat.le_of_ble_eq_true rfl) dl_708 ?_
  refine N_swap ?_
  refine N_icmp_eqT (pc := 711) F (tgt := 884) dl_711 (by decide) rfl ?_
  exact kk τ1 τ2 hs'
set_option maxHeartbeats 1000000 in
theorem lk_kinds (F : Fy p s m #[Value.ref b] meth c code 4 R_law E A ret) (hX : va_X b L xs s s.heap) (hbl : b < s.heap.size) (hbA : ¬ A b) (hi : i + 5 ≤ L) (hL : L ≤ 2560) (hc : kc ≤ room_1.cells) (hsl : ks ≤ room_1.slots) (hs : Sim σ1 σ2) (kk : ∀ τ1 τ2 : St, Sim τ1 τ2 → JW p l e s m below meth c E A Q kc ks b i adC adM τ1 τ2 884 []) : JW p l e s m below meth c E A Q kc ks b i adC adM σ1 σ2 716 [] := by
  obtain ⟨r, τ1, τ2, e1, e2, hs'⟩ := s_kinds hs (xs (i + 1))
  refine N_D (fun hD => ?_)
  have hI1 : adI adC 209 := wl_I hD
  have hI2 : adI adM 10 := wl_I2 hD
  clear hD
  have hC : RooAt E adC (GC E adC) 209 := GC_at
  have hM : ModAt E adM (GM E adM) 10 := GM_at
  refine N_aload_n (pc := 716) F dl_716 rfl 2 rfl ?_
  refine N_aload_n (pc := 717) F dl_717 rfl 3 rfl ?_
  refine N_iload_n (pc := 718) F dl_718 rfl 0 rfl ?_
  refine N_iconst (pc := 719) (v := nI 1) F dl_719 rfl ?_
  refine N_iadd (pc := 720) F dl_720 ?_
  refine N_sld (pc := 721) (idx := i + 1) F hX hbl hbA (nI_add i 1) (by omega) (by omega) dl_721 ?_
  refine N_callVI (pc := 722) (b := 208) (As := [.int (xs (i + 1))]) (rest := []) (r := r) F (c_X3_kinds hI1 hC e1) (Nat.le_of_ble_eq_true rfl) (Nat.le_of_ble_eq_true rfl) hc hsl (rooN hC) (hC.2.1 _) rfl wc_X3_kinds wk_545 rfl rfl (Nat.le_of_ble_eq_true rfl) dl_722 ?_
  refine N_aload_n (pc := 725) F dl_725 rfl 1 rfl ?_
  refine N_aload_n (pc := 726) F dl_726 rfl 3 rfl ?_
  refine N_iload_n (pc := 727) F dl_727 rfl 0 rfl ?_
  refine N_iconst (pc := 728) (v := nI 1) F dl_728 rfl ?_
  refine N_iadd (pc := 729) F dl_729 ?_
  refine N_sld (pc := 730) (idx := i + 1) F hX hbl hbA (nI_add i 1) (by omega) (by omega) dl_730 ?_
  refine N_swap ?_
  refine N_callVI (pc := 731) (b := 0) (As := [.int (xs (i + 1))]) (rest := [.int r]) (r := r) F (c_X4_kinds hI2 hM e2) (Nat.le_of_ble_eq_true rfl) (Nat.le_of_ble_eq_true rfl) hc hsl (modN hM) (hM.2.1 _) rfl wc_X4_kinds wk_910 rfl rfl (Nat.le_of_ble_eq_true rfl) dl_731 ?_
  refine N_swap ?_
  refine N_icmp_eqT (pc := 734) F (tgt := 884) dl_734 (by decide) rfl ?_
  exact kk τ1 τ2 hs'
set_option maxHeartbeats 1000000 in
theorem lk_hail (F : Fy p s m #[Value.ref b] meth c code 4 R_law E A ret) (hX : va_X b L xs s s.heap) (hbl : b < s.heap.size) (hbA : ¬ A b) (hi : i + 5 ≤ L) (hL : L ≤ 2560) (hc : kc ≤ room_1.cells) (hsl : ks ≤ room_1.slots) (hs : Sim σ1 σ2) (kk : ∀ τ1 τ2 : St, Sim τ1 τ2 → JW p l e s m below meth c E A Q kc ks b i adC adM τ1 τ2 884 []) : JW p l e s m below meth c E A Q kc ks b i adC adM σ1 σ2 739 [] := by
  obtain ⟨r, τ1, τ2, e1, e2, hs'⟩ := s_hail hs (xs (i + 1)) (xs (i + 2)) (xs (i + 3)) (xs (i + 4))
  refine N_D (fun hD => ?_)
  have hI1 : adI adC 209 := wl_I hD
  have hI2 : adI adM 10 := wl_I2 hD
  clear hD
  have hC : RooAt E adC (GC E adC) 209 := GC_at
  have hM : ModAt E adM (GM E adM) 10 := GM_at
  refine N_aload_n (pc := 739) F dl_739 rfl 2 rfl ?_
  refine N_aload_n (pc := 740) F dl_740 rfl 3 rfl ?_
  refine N_iload_n (pc := 741) F dl_741 rfl 0 rfl ?_
  refine N_iconst (pc := 742) (v := nI 1) F dl_742 rfl ?_
  refine N_iadd (pc := 743) F dl_743 ?_
  refine N_sld (pc := 744) (idx := i + 1) F hX hbl hbA (nI_add i 1) (by omega) (by omega) dl_744 ?_
  refine N_aload_n (pc := 745) F dl_745 rfl 3 rfl ?_
  refine N_iload_n (pc := 746) F dl_746 rfl 0 rfl ?_
  refine N_iconst (pc := 747) (v := nI 2) F dl_747 rfl ?_
  refine N_iadd (pc := 748) F dl_748 ?_
  refine N_sld (pc := 749) (idx := i + 2) F hX hbl hbA (nI_add i 2) (by omega) (by omega) dl_749 ?_
  refine N_aload_n (pc := 750) F dl_750 rfl 3 rfl ?_
  refine N_iload_n (pc := 751) F dl_751 rfl 0 rfl ?_
  refine N_iconst (pc := 752) (v := nI 3) F dl_752 rfl ?_
  refine N_iadd (pc := 753) F dl_753 ?_
  refine N_sld (pc := 754) (idx := i + 3) F hX hbl hbA (nI_add i 3) (by omega) (by omega) dl_754 ?_
  refine N_aload_n (pc := 755) F dl_755 rfl 3 rfl ?_
  refine N_iload_n (pc := 756) F dl_756 rfl 0 rfl ?_
  refine N_iconst (pc := 757) (v := nI 4) F dl_757 rfl ?_
  refine N_iadd (pc := 758) F dl_758 ?_
  refine N_sld (pc := 759) (idx := i + 4) F hX hbl hbA (nI_add i 4) (by omega) (by omega) dl_759 ?_
  refine N_callVI (pc := 760) (b := 208) (As := [.int (xs (i + 1)), .int (xs (i + 2)), .int (xs (i + 3)), .int (xs (i + 4))]) (rest := []) (r := r) F (c_X3_hail hI1 hC e1) (Nat.le_of_ble_eq_true rfl) (Nat.le_of_ble_eq_true rfl) hc hsl (rooN hC) (hC.2.1 _) rfl wc_X3_hail wk_549 rfl rfl (Nat.le_of_ble_eq_true rfl) dl_760 ?_
  refine N_aload_n (pc := 763) F dl_763 rfl 1 rfl ?_
  refine N_aload_n (pc := 764) F dl_764 rfl 3 rfl ?_
  refine N_iload_n (pc := 765) F dl_765 rfl 0 rfl ?_
  refine N_iconst (pc := 766) (v := nI 1) F dl_766 rfl ?_
  refine N_iadd (pc := 767) F dl_767 ?_
  refine N_sld (pc := 768) (idx := i + 1) F hX hbl hbA (nI_add i 1) (by omega) (by omega) dl_768 ?_
  refine N_aload_n (pc := 769) F dl_769 rfl 3 rfl ?_
  refine N_iload_n (pc := 770) F dl_770 rfl 0 rfl ?_
  refine N_iconst (pc := 771) (v := nI 2) F dl_771 rfl ?_
  refine N_iadd (pc := 772) F dl_772 ?_
  refine N_sld (pc := 773) (idx := i + 2) F hX hbl hbA (nI_add i 2) (by omega) (by omega) dl_773 ?_
  refine N_aload_n (pc := 774) F dl_774 rfl 3 rfl ?_
  refine N_iload_n (pc := 775) F dl_775 rfl 0 rfl ?_
  refine N_iconst (pc := 776) (v := nI 3) F dl_776 rfl ?_
  refine N_iadd (pc := 777) F dl_777 ?_
  refine N_sld (pc := 778) (idx := i + 3) F hX hbl hbA (nI_add i 3) (by omega) (by omega) dl_778 ?_
  refine N_aload_n (pc := 779) F dl_779 rfl 3 rfl ?_
  refine N_iload_n (pc := 780) F dl_780 rfl 0 rfl ?_
  refine N_iconst (pc := 781) (v := nI 4) F dl_781 rfl ?_
  refine N_iadd (pc := 782) F dl_782 ?_
  refine N_sld (pc := 783) (idx := i + 4) F hX hbl hbA (nI_add i 4) (by omega) (by omega) dl_783 ?_
  refine N_swap ?_
  refine N_callVI (pc := 784) (b := 0) (As := [.int (xs (i + 1)), .int (xs (i + 2)), .int (xs (i + 3)), .int (xs (i + 4))]) (rest := [.int r]) (r := r) F (c_X4_hail hI2 hM e2) (Nat.le_of_ble_eq_true rfl) (Nat.le_of_ble_eq_true rfl) hc hsl (modN hM) (hM.2.1 _) rfl wc_X4_hail wk_914 rfl rfl (Nat.le_of_ble_eq_true rfl) dl_784 ?_
  refine N_swap ?_
  refine N_icmp_eqT (pc := 787) F (tgt := 884) dl_787 (by decide) rfl ?_
  exact kk τ1 τ2 hs'
set_option maxHeartbeats 1000000 in
theorem lk_year (F : Fy p s m #[Value.ref b] meth c code 4 R_law E A ret) (hX : va_X b L xs s s.heap) (hbl : b < s.heap.size) (hbA : ¬ A b) (hi : i + 5 ≤ L) (hL : L ≤ 2560) (hc : kc ≤ room_1.cells) (hsl : ks ≤ room_1.slots) (hs : Sim σ1 σ2) (kk : ∀ τ1 τ2 : St, Sim τ1 τ2 → JW p l e s m below meth c E A Q kc ks b i adC adM τ1 τ2 884 []) : JW p l e s m below meth c E A Q kc ks b i adC adM σ1 σ2 792 [] := by
  obtain ⟨r, τ1, τ2, e1, e2, hs'⟩ := s_year hs (xs (i + 1)) (xs (i + 2)) (xs (i + 3))
  refine N_D (fun hD => ?_)
  have hI1 : adI adC 209 := wl_I hD
  have hI2 : adI adM 10 := wl_I2 hD
  clear hD
  have hC : RooAt E adC (GC E adC) 209 := GC_at
  have hM : ModAt E adM (GM E adM) 10 := GM_at
  refine N_aload_n (pc := 792) F dl_792 rfl 2 rfl ?_
  refine N_aload_n (pc := 793) F dl_793 rfl 3 rfl ?_
  refine N_iload_n (pc := 794) F dl_794 rfl 0 rfl ?_
  refine N_iconst (pc := 795) (v := nI 1) F dl_795 rfl ?_
  refine N_iadd (pc := 796) F dl_796 ?_
  refine N_sld (pc := 797) (idx := i + 1) F hX hbl hbA (nI_add i 1) (by omega) (by omega) dl_797 ?_
  refine N_aload_n (pc := 798) F dl_798 rfl 3 rfl ?_
  refine N_iload_n (pc := 799) F dl_799 rfl 0 rfl ?_
  refine N_iconst (pc := 800) (v := nI 2) F dl_800 rfl ?_
  refine N_iadd (pc := 801) F dl_801 ?_
  refine N_sld (pc := 802) (idx := i + 2) F hX hbl hbA (nI_add i 2) (by omega) (by omega) dl_802 ?_
  refine N_aload_n (pc := 803) F dl_803 rfl 3 rfl ?_
  refine N_iload_n (pc := 804) F dl_804 rfl 0 rfl ?_
  refine N_iconst (pc := 805) (v := nI 3) F dl_805 rfl ?_
  refine N_iadd (pc := 806) F dl_806 ?_
  refine N_sld (pc := 807) (idx := i + 3) F hX hbl hbA (nI_add i 3) (by omega) (by omega) dl_807 ?_
  refine N_callVI (pc := 808) (b := 208) (As := [.int (xs (i + 1)), .int (xs (i + 2)), .int (xs (i + 3))]) (rest := []) (r := r) F (c_X3_year hI1 hC e1) (Nat.le_of_ble_eq_true rfl) (Nat.le_of_ble_eq_true rfl) hc hsl (rooN hC) (hC.2.1 _) rfl wc_X3_year wk_559 rfl rfl (Nat.le_of_ble_eq_true rfl) dl_808 ?_
  refine N_aload_n (pc := 811) F dl_811 rfl 1 rfl ?_
  refine N_aload_n (pc := 812) F dl_812 rfl 3 rfl ?_
  refine N_iload_n (pc := 813) F dl_813 rfl 0 rfl ?_
  refine N_iconst (pc := 814) (v := nI 1) F dl_814 rfl ?_
  refine N_iadd (pc := 815) F dl_815 ?_
  refine N_sld (pc := 816) (idx := i + 1) F hX hbl hbA (nI_add i 1) (by omega) (by omega) dl_816 ?_
  refine N_aload_n (pc := 817) F dl_817 rfl 3 rfl ?_
  refine N_iload_n (pc := 818) F dl_818 rfl 0 rfl ?_
  refine N_iconst (pc := 819) (v := nI 2) F dl_819 rfl ?_
  refine N_iadd (pc := 820) F dl_820 ?_
  refine N_sld (pc := 821) (idx := i + 2) F hX hbl hbA (nI_add i 2) (by omega) (by omega) dl_821 ?_
  refine N_aload_n (pc := 822) F dl_822 rfl 3 rfl ?_
  refine N_iload_n (pc := 823) F dl_823 rfl 0 rfl ?_
  refine N_iconst (pc := 824) (v := nI 3) F dl_824 rfl ?_
  refine N_iadd (pc := 825) F dl_825 ?_
  refine N_sld (pc := 826) (idx := i + 3) F hX hbl hbA (nI_add i 3) (by omega) (by omega) dl_826 ?_
  refine N_swap ?_
  refine N_callVI (pc := 827) (b := 0) (As := [.int (xs (i + 1)), .int (xs (i + 2)), .int (xs (i + 3))]) (rest := [.int r]) (r := r) F (c_X4_year hI2 hM e2) (Nat.le_of_ble_eq_true rfl) (Nat.le_of_ble_eq_true rfl) hc hsl (modN hM) (hM.2.1 _) rfl wc_X4_year wk_918 rfl rfl (Nat.le_of_ble_eq_true rfl) dl_827 ?_
  refine N_swap ?_
  refine N_icmp_eqT (pc := 830) F (tgt := 884) dl_830 (by decide) rfl ?_
  exact kk τ1 τ2 hs'
set_option maxHeartbeats 1000000 in
theorem lk_keep (F : Fy p s m #[Value.ref b] meth c code 4 R_law E A ret) (hX : va_X b L xs s s.heap) (hbl : b < s.heap.size) (hbA : ¬ A b) (hi : i + 5 ≤ L) (hL : L ≤ 2560) (hc : kc ≤ room_1.cells) (hsl : ks ≤ room_1.slots) (hs : Sim σ1 σ2) (kk : ∀ τ1 τ2 : St, Sim τ1 τ2 → JW p l e s m below meth c E A Q kc ks b i adC adM τ1 τ2 884 []) : JW p l e s m below meth c E A Q kc ks b i adC adM σ1 σ2 835 [] := by
  obtain ⟨r, τ1, τ2, e1, e2, hs'⟩ := s_keep hs
  refine N_D (fun hD => ?_)
  have hI1 : adI adC 209 := wl_I hD
  have hI2 : adI adM 10 := wl_I2 hD
  clear hD
  have hC : RooAt E adC (GC E adC) 209 := GC_at
  have hM : ModAt E adM (GM E adM) 10 := GM_at
  refine N_aload_n (pc := 835) F dl_835 rfl 2 rfl ?_
  refine N_callVI (pc := 836) (b := 208) (As := []) (rest := []) (r := r) F (c_X3_keep hI1 hC e1) (Nat.le_of_ble_eq_true rfl) (Nat.le_of_ble_eq_true rfl) hc hsl (rooN hC) (hC.2.1 _) rfl wc_X3_keep wk_576 rfl rfl (Nat.le_of_ble_eq_true rfl) dl_836 ?_
  refine N_aload_n (pc := 839) F dl_839 rfl 1 rfl ?_
  refine N_swap ?_
  refine N_callVI (pc := 840) (b := 0) (As := []) (rest := [.int r]) (r := r) F (c_X4_keep hI2 hM e2) (Nat.le_of_ble_eq_true rfl) (Nat.le_of_ble_eq_true rfl) hc hsl (modN hM) (hM.2.1 _) rfl wc_X4_keep wk_931 rfl rfl (Nat.le_of_ble_eq_true rfl) dl_840 ?_
  refine N_swap ?_
  refine N_icmp_eqT (pc := 843) F (tgt := 884) dl_843 (by decide) rfl ?_
  exact kk τ1 τ2 hs'
set_option maxHeartbeats 1000000 in
theorem lk_back (F : Fy p s m #[Value.ref b] meth c code 4 R_law E A ret) (hX : va_X b L xs s s.heap) (hbl : b < s.heap.size) (hbA : ¬ A b) (hi : i + 5 ≤ L) (hL : L ≤ 2560) (hc : kc ≤ room_1.cells) (hsl : ks ≤ room_1.slots) (hs : Sim σ1 σ2) (kk : ∀ τ1 τ2 : St, Sim τ1 τ2 → JW p l e s m below meth c E A Q kc ks b i adC adM τ1 τ2 884 []) : JW p l e s m below meth c E A Q kc ks b i adC adM σ1 σ2 848 [] := by
  obtain ⟨r, τ1, τ2, e1, e2, hs'⟩ := s_back hs
  refine N_D (fun hD => ?_)
  have hI1 : adI adC 209 := wl_I hD
  have hI2 : adI adM 10 := wl_I2 hD
  clear hD
  have hC : RooAt E adC (GC E adC) 209 := GC_at
  have hM : ModAt E adM (GM E adM) 10 := GM_at
  refine N_aload_n (pc := 848) F dl_848 rfl 2 rfl ?_
  refine N_callVI (pc := 849) (b := 208) (As := []) (rest := []) (r := r) F (c_X3_back hI1 hC e1) (Nat.le_of_ble_eq_true rfl) (Nat.le_of_ble_eq_true rfl) hc hsl (rooN hC) (hC.2.1 _) rfl wc_X3_back wk_580 rfl rfl (Nat.le_of_ble_eq_true rfl) dl_849 ?_
  refine N_aload_n (pc := 852) F dl_852 rfl 1 rfl ?_
  refine N_swap ?_
  refine N_callVI (pc := 853) (b := 0) (As := []) (rest := [.int r]) (r := r) F (c_X4_back hI2 hM e2) (Nat.le_of_ble_eq_true rfl) (Nat.le_of_ble_eq_true rfl) hc hsl (modN hM) (hM.2.1 _) rfl wc_X4_back wk_935 rfl rfl (Nat.le_of_ble_eq_true rfl) dl_853 ?_
  refine N_swap ?_
  refine N_icmp_eqT (pc := 856) F (tgt := 884) dl_856 (by decide) rfl ?_
  exact kk τ1 τ2 hs'
set_option maxHeartbeats 1000000 in
theorem lk_count (F : Fy p s m #[Value.ref b] meth c code 4 R_law E A ret) (hX : va_X b L xs s s.heap) (hbl : b < s.heap.size) (hbA : ¬ A b) (hi : i + 5 ≤ L) (hL : L ≤ 2560) (hc : kc ≤ room_1.cells) (hsl : ks ≤ room_1.slots) (hs : Sim σ1 σ2) (kk : ∀ τ1 τ2 : St, Sim τ1 τ2 → JW p l e s m below meth c E A Q kc ks b i adC adM τ1 τ2 884 []) : JW p l e s m below meth c E A Q kc ks b i adC adM σ1 σ2 861 [] := by
  obtain ⟨r, τ1, τ2, e1, e2, hs'⟩ := s_count hs (xs (i + 1))
  refine N_D (fun hD => ?_)
  have hI1 : adI adC 209 := wl_I hD
  have hI2 : adI adM 10 := wl_I2 hD
  clear hD
  have hC : RooAt E adC (GC E adC) 209 := GC_at
  have hM : ModAt E adM (GM E adM) 10 := GM_at
  refine N_aload_n (pc := 861) F dl_861 rfl 2 rfl ?_
  refine N_aload_n (pc := 862) F dl_862 rfl 3 rfl ?_
  refine N_iload_n (pc := 863) F dl_863 rfl 0 rfl ?_
  refine N_iconst (pc := 864) (v := nI 1) F dl_864 rfl ?_
  refine N_iadd (pc := 865) F dl_865 ?_
  refine N_sld (pc := 866) (idx := i + 1) F hX hbl hbA (nI_add i 1) (by omega) (by omega) dl_866 ?_
  refine N_callVI (pc := 867) (b := 208) (As := [.int (xs (i + 1))]) (rest := []) (r := r) F (c_X3_count hI1 hC e1) (Nat.le_of_ble_eq_true rfl) (Nat.le_of_ble_eq_true rfl) hc hsl (rooN hC) (hC.2.1 _) rfl wc_X3_count wk_584 rfl rfl (Nat.le_of_ble_eq_true rfl) dl_867 ?_
  refine N_aload_n (pc := 870) F dl_870 rfl 1 rfl ?_
  refine N_aload_n (pc := 871) F dl_871 rfl 3 rfl ?_
  refine N_iload_n (pc := 872) F dl_872 rfl 0 rfl ?_
  refine N_iconst (pc := 873) (v := nI 1) F dl_873 rfl ?_
  refine N_iadd (pc := 874) F dl_874 ?_
  refine N_sld (pc := 875) (idx := i + 1) F hX hbl hbA (nI_add i 1) (by omega) (by omega) dl_875 ?_
  refine N_swap ?_
  refine N_callVI (pc := 876) (b := 0) (As := [.int (xs (i + 1))]) (rest := [.int r]) (r := r) F (c_X4_count hI2 hM e2) (Nat.le_of_ble_eq_true rfl) (Nat.le_of_ble_eq_true rfl) hc hsl (modN hM) (hM.2.1 _) rfl wc_X4_count wk_939 rfl rfl (Nat.le_of_ble_eq_true rfl) dl_876 ?_
  refine N_swap ?_
  refine N_icmp_eqT (pc := 879) F (tgt := 884) dl_879 (by decide) rfl ?_
  exact kk τ1 τ2 hs'
end LC
