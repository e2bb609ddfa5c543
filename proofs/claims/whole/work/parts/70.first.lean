/-! how both begin: the first tongue, by the text and by hand -/
def tN84 : List Nat := [116, 51, 55, 49, 48, 52, 57, 50, 53, 59, 119, 48, 44, 53, 44, 51, 45, 45, 45, 52, 45, 45, 45, 59, 119, 49, 44, 57, 44, 45, 55, 45, 45, 45, 45, 45, 45, 59, 119, 50, 44, 51, 44, 45, 45, 45, 49, 45, 57, 45, 45, 59, 119, 51, 44, 49, 50, 44, 51, 55, 45, 54, 45, 45, 45, 45, 59, 119, 48, 44, 56, 44, 45, 45, 45, 45, 45, 45, 45, 45, 59, 115, 52, 59]
def X84 : Nat → Nat := fun i => tN84.getD i 0
theorem X84_ok : txtOk X84 84 := ⟨by omega, by decide +kernel⟩
theorem X84_tx : ∀ i, i < 84 → tx84.getD i 0 = nI (X84 i) := by decide +kernel
def T84 : Tb := (pR X84 84 201 0 T00 false).2
set_option maxRecDepth 100000 in
theorem T84_no : (pR X84 84 201 0 T00 false).1 = none := by decide +kernel
set_option maxRecDepth 100000 in
theorem T84_W : tW T84 = 8 := by decide +kernel
set_option maxRecDepth 100000 in
theorem T84_N : tN T84 = 5 := by decide +kernel
set_option maxRecDepth 100000 in
theorem T84_S : tS T84 = 4 := by decide +kernel
set_option maxRecDepth 100000 in
theorem T84_D : tD T84 = 0 := by decide +kernel
set_option maxRecDepth 100000 in
theorem T84_snd : ∀ w, w < 8 → snd T84 w = [3, 7, 1, 0, 4, 9, 2, 5].getD w 0 := by decide +kernel
set_option maxRecDepth 100000 in
theorem T84_knd : ∀ p, p < 5 → knd T84 p = [0, 1, 2, 3, 0].getD p 0 := by decide +kernel
set_option maxRecDepth 100000 in
theorem T84_mmr : ∀ p, p < 5 → mmr T84 p = [5, 9, 3, 12, 8].getD p 0 := by decide +kernel
def wayL84 : List Nat := [3, 10, 10, 10, 4, 10, 10, 10, 10, 7, 10, 10, 10, 10, 10, 10, 10, 10, 10, 1, 10, 9, 10, 10, 3, 7, 10, 6, 10, 10, 10, 10, 10, 10, 10, 10, 10, 10, 10, 10]
set_option maxRecDepth 100000 in
theorem T84_way : ∀ p, p < 5 → ∀ w, w < 8 → way T84 p w = wayL84.getD (8 * p + w) 0 := by decide +kernel
set_option maxRecDepth 100000 in
theorem T84_age : ∀ p, p < 5 → ∀ w, w < 8 → way T84 p w < 10 → age T84 p w = 0 := by decide +kernel
