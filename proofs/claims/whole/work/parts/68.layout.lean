/-! the class's layout: all its cells by place -/
def GT (E : En) (ad : Nat → Nat) (t r : Nat) (f : Nat → Int32) : va_E := match r with
  | 0 => .inr (1, [.ref (ad (t + 1)), .ref (ad (t + 2)), .ref (ad (t + 3)), .ref (ad (t + 4)), .ref (ad (t + 5)), .ref (ad (t + 6)), .ref (ad (t + 7)), .ref (ad (t + 8)), .int (f 0), .int (f 1), .int (f 2), .int (f 3)])
  | 1 => .inl (E.2.1, 8, .inl f)
  | 6 => .inl (E.2.1, 40, .inl f)
  | 7 => .inl (E.2.1, 40, .inl f)
  | _ => .inl (E.2.1, 5, .inl f)
def GRw (E : En) (ad : Nat → Nat) (r L : Nat) : va_E := .inl (E.2.2.2, L, .inr (.inr (.inr (.inr (fun j => if j < L then some (ad (r + 1 + 9 * j)) else none)))))
def GC (E : En) (ad : Nat → Nat) : Lay := fun k f =>
  if k < 1 then .inr (2, [.ref (ad 1), .int (f 0), .int (f 1), .int (f 2)])
  else if k < 2 then .inl (E.2.1, 200, .inl f)
  else if k < 29 then GT E ad (2 + 9 * ((k - 2) / 9)) ((k - 2) % 9) f
  else if k < 30 then GRw E ad 29 9
  else if k < 111 then GT E ad (30 + 9 * ((k - 30) / 9)) ((k - 30) % 9) f
  else if k < 112 then GRw E ad 111 8
  else if k < 184 then GT E ad (112 + 9 * ((k - 112) / 9)) ((k - 112) % 9) f
  else if k < 185 then GRw E ad 184 2
  else if k < 203 then GT E ad (185 + 9 * ((k - 185) / 9)) ((k - 185) % 9) f
  else if k < 204 then .inr (0, [.ref (ad 204), .ref (ad 205), .ref (ad 206), .int (f 0)])
  else if k < 207 then .inl (E.2.1, 6, .inl f)
  else if k < 208 then .inl (E.2.1, 10, .inl f)
  else .inr (3, [.ref (ad 0), .ref (ad 2), .ref (ad 11), .ref (ad 20), .ref (ad 29), .ref (ad 111), .ref (ad 184), .ref (ad 203), .ref (ad 207), .int (f 0), .int (f 1), .int (f 2)])
def tabB (k : Nat) : Bool := (decide (2 ≤ k) && decide (k < 29) && decide ((k - 2) % 9 = 0)) || (decide (30 ≤ k) && decide (k < 111) && decide ((k - 30) % 9 = 0)) || (decide (112 ≤ k) && decide (k < 184) && decide ((k - 112) % 9 = 0)) || (decide (185 ≤ k) && decide (k < 203) && decide ((k - 185) % 9 = 0))
/-- fresh cells: zeros, but for what a new table holds -/
def bS : St := fun k => if tabB k = true then (fun j => if j = 2 then 3 else 0) else (fun _ => 0)
def adF (a0 a1 a2 : Nat → Nat) (q9 : Nat) (t9 : Nat → Nat → Nat) (q8 : Nat) (t8 : Nat → Nat → Nat) (q2 : Nat) (t2 : Nat → Nat → Nat) (hh : Nat → Nat) (qp h0 : Nat) : Nat → Nat := fun k =>
  if k < 11 then a0 k
  else if k < 20 then a1 (k - 11)
  else if k < 29 then a2 (k - 20)
  else if k < 30 then q9
  else if k < 111 then t9 ((k - 30) / 9) ((k - 30) % 9)
  else if k < 112 then q8
  else if k < 184 then t8 ((k - 112) / 9) ((k - 112) % 9)
  else if k < 185 then q2
  else if k < 203 then t2 ((k - 185) / 9) ((k - 185) % 9)
  else if k < 207 then hh (k - 203)
  else if k < 208 then qp
  else h0
/-- the cells from place a on -/
def seg (ad : Nat → Nat) (G : Lay) (σ : St) (a m : Nat) : va_W := (List.range m).map (fun i => (ad (a + i), G (a + i) (σ (a + i))))
theorem wl_seg {ad : Nat → Nat} {G : Lay} {σ : St} {n : Nat} : wl ad G n σ = seg ad G σ 0 n := by
  unfold wl seg
  congr 1
  funext k
  rw [Nat.zero_add]
theorem seg_app {ad : Nat → Nat} {G : Lay} {σ : St} {a m m' : Nat} : seg ad G σ a (m + m') = seg ad G σ a m ++ seg ad G σ (a + m) m' := by
  unfold seg
  rw [List.range_add, List.map_append, List.map_map]
  congr 1
  apply List.map_congr_left
  intro i _
  show (ad (a + (m + i)), G (a + (m + i)) (σ (a + (m + i)))) = _
  rw [← Nat.add_assoc]
theorem seg_tabs {ad : Nat → Nat} {G : Lay} {σ : St} {E : En} {tb : Nat → Nat → Nat} {a : Nat} : ∀ L : Nat, (∀ j, j < L → seg ad G σ (a + 9 * j) 9 = tabW E (tb j)) → seg ad G σ a (9 * L) = tabsW E tb L
  | 0, _ => rfl
  | L + 1, h => by
    show seg ad G σ a (9 * L + 9) = tabsW E tb L ++ tabW E (tb L)
    rw [seg_app, seg_tabs L (fun j hj => h j (by omega)), h L (by omega)]
section LY
variable {E : En} {ad : Nat → Nat}
theorem GC_t2 : TabAt E ad (GC E ad) 209 2 := ⟨by decide, fun _ => rfl, ⟨by decide, fun _ => rfl⟩, ⟨by decide, fun _ => rfl⟩, ⟨by decide, fun _ => rfl⟩, ⟨by decide, fun _ => rfl⟩, ⟨by decide, fun _ => rfl⟩, ⟨by decide, fun _ => rfl⟩, ⟨by decide, fun _ => rfl⟩, ⟨by decide, fun _ => rfl⟩⟩
theorem GC_t11 : TabAt E ad (GC E ad) 209 11 := ⟨by decide, fun _ => rfl, ⟨by decide, fun _ => rfl⟩, ⟨by decide, fun _ => rfl⟩, ⟨by decide, fun _ => rfl⟩, ⟨by decide, fun _ => rfl⟩, ⟨by decide, fun _ => rfl⟩, ⟨by decide, fun _ => rfl⟩, ⟨by decide, fun _ => rfl⟩, ⟨by decide, fun _ => rfl⟩⟩
theorem GC_t20 : TabAt E ad (GC E ad) 209 20 := ⟨by decide, fun _ => rfl, ⟨by decide, fun _ => rfl⟩, ⟨by decide, fun _ => rfl⟩, ⟨by decide, fun _ => rfl⟩, ⟨by decide, fun _ => rfl⟩, ⟨by decide, fun _ => rfl⟩, ⟨by decide, fun _ => rfl⟩, ⟨by decide, fun _ => rfl⟩, ⟨by decide, fun _ => rfl⟩⟩
theorem GC_r29 : RowA E ad (GC E ad) 209 29 9 := by
  refine ⟨⟨by decide, fun _ => rfl⟩, fun j hj => ?_⟩
  rcases (show j = 0 ∨ j = 1 ∨ j = 2 ∨ j = 3 ∨ j = 4 ∨ j = 5 ∨ j = 6 ∨ j = 7 ∨ j = 8 by omega) with rfl | rfl | rfl | rfl | rfl | rfl | rfl | rfl | rfl
  · exact ⟨by decide, fun _ => rfl, ⟨by decide, fun _ => rfl⟩, ⟨by decide, fun _ => rfl⟩, ⟨by decide, fun _ => rfl⟩, ⟨by decide, fun _ => rfl⟩, ⟨by decide, fun _ => rfl⟩, ⟨by decide, fun _ => rfl⟩, ⟨by decide, fun _ => rfl⟩, ⟨by decide, fun _ => rfl⟩⟩
  · exact ⟨by decide, fun _ => rfl, ⟨by decide, fun _ => rfl⟩, ⟨by decide, fun _ => rfl⟩, ⟨by decide, fun _ => rfl⟩, ⟨by decide, fun _ => rfl⟩, ⟨by decide, fun _ => rfl⟩, ⟨by decide, fun _ => rfl⟩, ⟨by decide, fun _ => rfl⟩, ⟨by decide, fun _ => rfl⟩⟩
  · exact ⟨by decide, fun _ => rfl, ⟨by decide, fun _ => rfl⟩, ⟨by decide, fun _ => rfl⟩, ⟨by decide, fun _ => rfl⟩, ⟨by decide, fun _ => rfl⟩, ⟨by decide, fun _ => rfl⟩, ⟨by decide, fun _ => rfl⟩, ⟨by decide, fun _ => rfl⟩, ⟨by decide, fun _ => rfl⟩⟩
  · exact ⟨by decide, fun _ => rfl, ⟨by decide, fun _ => rfl⟩, ⟨by decide, fun _ => rfl⟩, ⟨by decide, fun _ => rfl⟩, ⟨by decide, fun _ => rfl⟩, ⟨by decide, fun _ => rfl⟩, ⟨by decide, fun _ => rfl⟩, ⟨by decide, fun _ => rfl⟩, ⟨by decide, fun _ => rfl⟩⟩
  · exact ⟨by decide, fun _ => rfl, ⟨by decide, fun _ => rfl⟩, ⟨by decide, fun _ => rfl⟩, ⟨by decide, fun _ => rfl⟩, ⟨by decide, fun _ => rfl⟩, ⟨by decide, fun _ => rfl⟩, ⟨by decide, fun _ => rfl⟩, ⟨by decide, fun _ => rfl⟩, ⟨by decide, fun _ => rfl⟩⟩
  · exact ⟨by decide, fun _ => rfl, ⟨by decide, fun _ => rfl⟩, ⟨by decide, fun _ => rfl⟩, ⟨by decide, fun _ => rfl⟩, ⟨by decide, fun _ => rfl⟩, ⟨by decide, fun _ => rfl⟩, ⟨by decide, fun _ => rfl⟩, ⟨by decide, fun _ => rfl⟩, ⟨by decide, fun _ => rfl⟩⟩
  · exact ⟨by decide, fun _ => rfl, ⟨by decide, fun _ => rfl⟩, ⟨by decide, fun _ => rfl⟩, ⟨by decide, fun _ => rfl⟩, ⟨by decide, fun _ => rfl⟩, ⟨by decide, fun _ => rfl⟩, ⟨by decide, fun _ => rfl⟩, ⟨by decide, fun _ => rfl⟩, ⟨by decide, fun _ => rfl⟩⟩
  · exact ⟨by decide, fun _ => rfl, ⟨by decide, fun _ => rfl⟩, ⟨by decide, fun _ => rfl⟩, ⟨by decide, fun _ => rfl⟩, ⟨by decide, fun _ => rfl⟩, ⟨by decide, fun _ => rfl⟩, ⟨by decide, fun _ => rfl⟩, ⟨by decide, fun _ => rfl⟩, ⟨by decide, fun _ => rfl⟩⟩
  · exact ⟨by decide, fun _ => rfl, ⟨by decide, fun _ => rfl⟩, ⟨by decide, fun _ => rfl⟩, ⟨by decide, fun _ => rfl⟩, ⟨by decide, fun _ => rfl⟩, ⟨by decide, fun _ => rfl⟩, ⟨by decide, fun _ => rfl⟩, ⟨by decide, fun _ => rfl⟩, ⟨by decide, fun _ => rfl⟩⟩
theorem GC_r111 : RowA E ad (GC E ad) 209 111 8 := by
  refine ⟨⟨by decide, fun _ => rfl⟩, fun j hj => ?_⟩
  rcases (show j = 0 ∨ j = 1 ∨ j = 2 ∨ j = 3 ∨ j = 4 ∨ j = 5 ∨ j = 6 ∨ j = 7 by omega) with rfl | rfl | rfl | rfl | rfl | rfl | rfl | rfl
  · exact ⟨by decide, fun _ => rfl, ⟨by decide, fun _ => rfl⟩, ⟨by decide, fun _ => rfl⟩, ⟨by decide, fun _ => rfl⟩, ⟨by decide, fun _ => rfl⟩, ⟨by decide, fun _ => rfl⟩, ⟨by decide, fun _ => rfl⟩, ⟨by decide, fun _ => rfl⟩, ⟨by decide, fun _ => rfl⟩⟩
  · exact ⟨by decide, fun _ => rfl, ⟨by decide, fun _ => rfl⟩, ⟨by decide, fun _ => rfl⟩, ⟨by decide, fun _ => rfl⟩, ⟨by decide, fun _ => rfl⟩, ⟨by decide, fun _ => rfl⟩, ⟨by decide, fun _ => rfl⟩, ⟨by decide, fun _ => rfl⟩, ⟨by decide, fun _ => rfl⟩⟩
  · exact ⟨by decide, fun _ => rfl, ⟨by decide, fun _ => rfl⟩, ⟨by decide, fun _ => rfl⟩, ⟨by decide, fun _ => rfl⟩, ⟨by decide, fun _ => rfl⟩, ⟨by decide, fun _ => rfl⟩, ⟨by decide, fun _ => rfl⟩, ⟨by decide, fun _ => rfl⟩, ⟨by decide, fun _ => rfl⟩⟩
  · exact ⟨by decide, fun _ => rfl, ⟨by decide, fun _ => rfl⟩, ⟨by decide, fun _ => rfl⟩, ⟨by decide, fun _ => rfl⟩, ⟨by decide, fun _ => rfl⟩, ⟨by decide, fun _ => rfl⟩, ⟨by decide, fun _ => rfl⟩, ⟨by decide, fun _ => rfl⟩, ⟨by decide, fun _ => rfl⟩⟩
  · exact ⟨by decide, fun _ => rfl, ⟨by decide, fun _ => rfl⟩, ⟨by decide, fun _ => rfl⟩, ⟨by decide, fun _ => rfl⟩, ⟨by decide, fun _ => rfl⟩, ⟨by decide, fun _ => rfl⟩, ⟨by decide, fun _ => rfl⟩, ⟨by decide, fun _ => rfl⟩, ⟨by decide, fun _ => rfl⟩⟩
  · exact ⟨by decide, fun _ => rfl, ⟨by decide, fun _ => rfl⟩, ⟨by decide, fun _ => rfl⟩, ⟨by decide, fun _ => rfl⟩, ⟨by decide, fun _ => rfl⟩, ⟨by decide, fun _ => rfl⟩, ⟨by decide, fun _ => rfl⟩, ⟨by decide, fun _ => rfl⟩, ⟨by decide, fun _ => rfl⟩⟩
  · exact ⟨by decide, fun _ => rfl, ⟨by decide, fun _ => rfl⟩, ⟨by decide, fun _ => rfl⟩, ⟨by decide, fun _ => rfl⟩, ⟨by decide, fun _ => rfl⟩, ⟨by decide, fun _ => rfl⟩, ⟨by decide, fun _ => rfl⟩, ⟨by decide, fun _ => rfl⟩, ⟨by decide, fun _ => rfl⟩⟩
  · exact ⟨by decide, fun _ => rfl, ⟨by decide, fun _ => rfl⟩, ⟨by decide, fun _ => rfl⟩, ⟨by decide, fun _ => rfl⟩, ⟨by decide, fun _ => rfl⟩, ⟨by decide, fun _ => rfl⟩, ⟨by decide, fun _ => rfl⟩, ⟨by decide, fun _ => rfl⟩, ⟨by decide, fun _ => rfl⟩⟩
theorem GC_r184 : RowA E ad (GC E ad) 209 184 2 := by
  refine ⟨⟨by decide, fun _ => rfl⟩, fun j hj => ?_⟩
  rcases (show j = 0 ∨ j = 1 by omega) with rfl | rfl
  · exact ⟨by decide, fun _ => rfl, ⟨by decide, fun _ => rfl⟩, ⟨by decide, fun _ => rfl⟩, ⟨by decide, fun _ => rfl⟩, ⟨by decide, fun _ => rfl⟩, ⟨by decide, fun _ => rfl⟩, ⟨by decide, fun _ => rfl⟩, ⟨by decide, fun _ => rfl⟩, ⟨by decide, fun _ => rfl⟩⟩
  · exact ⟨by decide, fun _ => rfl, ⟨by decide, fun _ => rfl⟩, ⟨by decide, fun _ => rfl⟩, ⟨by decide, fun _ => rfl⟩, ⟨by decide, fun _ => rfl⟩, ⟨by decide, fun _ => rfl⟩, ⟨by decide, fun _ => rfl⟩, ⟨by decide, fun _ => rfl⟩, ⟨by decide, fun _ => rfl⟩⟩
theorem GC_at : RooAt E ad (GC E ad) 209 := ⟨by decide, fun _ => rfl, ⟨by decide, fun _ => rfl, ⟨by decide, fun _ => rfl⟩⟩, GC_t2, GC_t11, GC_t20, GC_r29, GC_r111, GC_r184, ⟨by decide, fun _ => rfl, ⟨by decide, fun _ => rfl⟩, ⟨by decide, fun _ => rfl⟩, ⟨by decide, fun _ => rfl⟩⟩, ⟨by decide, fun _ => rfl⟩⟩
theorem GC_tx11 : TxtAt E ad (GC E ad) 11 := ⟨by decide, fun _ => rfl, ⟨by decide, fun _ => rfl⟩⟩
theorem GC_tb11 : TabAt E ad (GC E ad) 11 2 := ⟨by decide, fun _ => rfl, ⟨by decide, fun _ => rfl⟩, ⟨by decide, fun _ => rfl⟩, ⟨by decide, fun _ => rfl⟩, ⟨by decide, fun _ => rfl⟩, ⟨by decide, fun _ => rfl⟩, ⟨by decide, fun _ => rfl⟩, ⟨by decide, fun _ => rfl⟩, ⟨by decide, fun _ => rfl⟩⟩
end LY
