/-- what a world is told by: where classes and their fields stand, where each cell stands, the classes of int[], long[], long[][] -/
abbrev XW : Type := va_G × (Nat → Nat) × ClassId × ClassId × ClassId
/-- what the cells hold: cell, place -/
abbrev XM : Type := Nat → Int → Int
/-- what the locals hold -/
abbrev XL : Type := Nat → Int
def xaI (ω : XW) (n : Nat) (f : Int → Int) : va_E := .inl (ω.2.2.1, n, .inl (fun i => Int32.ofInt (f (i : Int))))
def xaJ (ω : XW) (n : Nat) (f : Int → Int) : va_E := .inl (ω.2.2.2.1, n, .inr (.inl (fun i => Int64.ofInt (f (i : Int)))))
def xaQ (ω : XW) (n k : Nat) : va_E := .inl (ω.2.2.2.2, n, .inr (.inr (.inr (.inr (fun i => if i < n then some (ω.2.1 (k + i)) else none)))))
def xcell (ω : XW) (k : Nat) (f : Int → Int) : va_E := match k with
  | 0 => .inr (8, [.ref (ω.2.1 2), .ref (ω.2.1 13), .ref (ω.2.1 22), .ref (ω.2.1 29), .ref (ω.2.1 39), .ref (ω.2.1 67), .ref (ω.2.1 69), .ref (ω.2.1 73), .ref (ω.2.1 1)])
  | 1 => xaI ω 12 f
  | 2 => .inr (7, [.int (Int32.ofInt (f 0)), .ref (ω.2.1 3), .int (Int32.ofInt (f 2)), .ref (ω.2.1 4), .ref (ω.2.1 5), .ref (ω.2.1 6), .int (Int32.ofInt (f 6)), .ref (ω.2.1 7), .ref (ω.2.1 8), .ref (ω.2.1 9), .ref (ω.2.1 10), .ref (ω.2.1 11), .int (Int32.ofInt (f 12)), .ref (ω.2.1 12)])
  | 3 => xaI ω 12 f
  | 4 => xaI ω 24 f
  | 5 => xaI ω 24 f
  | 6 => xaI ω 24 f
  | 7 => xaI ω 16 f
  | 8 => xaI ω 16 f
  | 9 => xaI ω 16 f
  | 10 => xaI ω 16 f
  | 11 => xaI ω 16 f
  | 12 => xaI ω 832 f
  | 13 => .inr (3, [.int (Int32.ofInt (f 0)), .int (Int32.ofInt (f 1)), .int (Int32.ofInt (f 2)), .ref (ω.2.1 14), .ref (ω.2.1 15), .ref (ω.2.1 16), .ref (ω.2.1 17), .ref (ω.2.1 18), .ref (ω.2.1 19), .ref (ω.2.1 20), .ref (ω.2.1 21)])
  | 14 => xaI ω 150 f
  | 15 => xaI ω 150 f
  | 16 => xaI ω 150 f
  | 17 => xaI ω 150 f
  | 18 => xaI ω 150 f
  | 19 => xaI ω 150 f
  | 20 => xaI ω 150 f
  | 21 => xaI ω 150 f
  | 22 => .inr (4, [.ref (ω.2.1 23), .int (Int32.ofInt (f 1)), .int (Int32.ofInt (f 2)), .ref (ω.2.1 24), .ref (ω.2.1 25), .ref (ω.2.1 26), .ref (ω.2.1 27), .ref (ω.2.1 28), .int (Int32.ofInt (f 8)), .int (Int32.ofInt (f 9)), .int (Int32.ofInt (f 10))])
  | 23 => xaI ω 200 f
  | 24 => xaI ω 15 f
  | 25 => xaI ω 15 f
  | 26 => xaI ω 50 f
  | 27 => xaI ω 50 f
  | 28 => xaI ω 50 f
  | 29 => .inr (6, [.ref (ω.2.1 2), .ref (ω.2.1 13), .ref (ω.2.1 22), .ref (ω.2.1 30), .ref (ω.2.1 31), .ref (ω.2.1 32), .ref (ω.2.1 33), .ref (ω.2.1 34), .ref (ω.2.1 35), .ref (ω.2.1 36), .ref (ω.2.1 37), .int (Int32.ofInt (f 11)), .ref (ω.2.1 38)])
  | 30 => xaI ω 384 f
  | 31 => xaI ω 384 f
  | 32 => xaI ω 16 f
  | 33 => xaJ ω 48 f
  | 34 => xaI ω 4 f
  | 35 => xaI ω 4 f
  | 36 => xaJ ω 12 f
  | 37 => xaI ω 12 f
  | 38 => xaI ω 12 f
  | 39 => .inr (2, [.ref (ω.2.1 13), .ref (ω.2.1 22), .ref (ω.2.1 40), .ref (ω.2.1 41)])
  | 40 => xaI ω 16 f
  | 41 => xaQ ω 25 42
  | 42 => xaJ ω 25 f
  | 43 => xaJ ω 25 f
  | 44 => xaJ ω 25 f
  | 45 => xaJ ω 25 f
  | 46 => xaJ ω 25 f
  | 47 => xaJ ω 25 f
  | 48 => xaJ ω 25 f
  | 49 => xaJ ω 25 f
  | 50 => xaJ ω 25 f
  | 51 => xaJ ω 25 f
  | 52 => xaJ ω 25 f
  | 53 => xaJ ω 25 f
  | 54 => xaJ ω 25 f
  | 55 => xaJ ω 25 f
  | 56 => xaJ ω 25 f
  | 57 => xaJ ω 25 f
  | 58 => xaJ ω 25 f
  | 59 => xaJ ω 25 f
  | 60 => xaJ ω 25 f
  | 61 => xaJ ω 25 f
  | 62 => xaJ ω 25 f
  | 63 => xaJ ω 25 f
  | 64 => xaJ ω 25 f
  | 65 => xaJ ω 25 f
  | 66 => xaJ ω 25 f
  | 67 => .inr (0, [.ref (ω.2.1 2), .ref (ω.2.1 13), .ref (ω.2.1 68), .int (Int32.ofInt (f 3)), .int (Int32.ofInt (f 4)), .int (Int32.ofInt (f 5)), .int (Int32.ofInt (f 6)), .int (Int32.ofInt (f 7))])
  | 68 => xaI ω 12 f
  | 69 => .inr (1, [.ref (ω.2.1 70), .ref (ω.2.1 71), .ref (ω.2.1 72), .int (Int32.ofInt (f 3)), .int (Int32.ofInt (f 4))])
  | 70 => xaI ω 16 f
  | 71 => xaJ ω 16 f
  | 72 => xaI ω 16 f
  | 73 => .inr (5, [.ref (ω.2.1 74), .ref (ω.2.1 79), .ref (ω.2.1 80), .int (Int32.ofInt (f 3))])
  | 74 => xaQ ω 4 75
  | 75 => xaJ ω 120 f
  | 76 => xaJ ω 120 f
  | 77 => xaJ ω 120 f
  | 78 => xaJ ω 120 f
  | 79 => xaI ω 4 f
  | 80 => xaI ω 4 f
  | 81 => .inr (9, [.ref (ω.2.1 82), .ref (ω.2.1 83), .ref (ω.2.1 84), .ref (ω.2.1 85), .int (Int32.ofInt (f 4)), .int (Int32.ofInt (f 5)), .ref (ω.2.1 86), .int (Int32.ofInt (f 7)), .ref (ω.2.1 87), .ref (ω.2.1 88), .ref (ω.2.1 89), .int (Int32.ofInt (f 11)), .ref (ω.2.1 90), .ref (ω.2.1 91), .ref (ω.2.1 92), .ref (ω.2.1 93), .ref (ω.2.1 94), .ref (ω.2.1 95), .int (Int32.ofInt (f 18)), .int (Int32.ofInt (f 19)), .ref (ω.2.1 96), .ref (ω.2.1 97), .ref (ω.2.1 98), .ref (ω.2.1 99), .ref (ω.2.1 100), .ref (ω.2.1 101), .ref (ω.2.1 102), .ref (ω.2.1 103), .int (Int32.ofInt (f 28)), .int (Int32.ofInt (f 29)), .ref (ω.2.1 104), .int (Int32.ofInt (f 31)), .int (Int32.ofInt (f 32)), .int (Int32.ofInt (f 33)), .ref (ω.2.1 105), .ref (ω.2.1 106), .ref (ω.2.1 107), .ref (ω.2.1 108), .ref (ω.2.1 109), .ref (ω.2.1 110), .ref (ω.2.1 111), .ref (ω.2.1 112), .ref (ω.2.1 113), .ref (ω.2.1 114), .ref (ω.2.1 115), .int (Int32.ofInt (f 45)), .ref (ω.2.1 116), .ref (ω.2.1 117), .int (Int32.ofInt (f 48)), .ref (ω.2.1 118), .int (Int32.ofInt (f 50)), .int (Int32.ofInt (f 51)), .ref (ω.2.1 119)])
  | 82 => xaI ω 4 f
  | 83 => xaI ω 4 f
  | 84 => xaJ ω 480 f
  | 85 => xaJ ω 120 f
  | 86 => xaI ω 12 f
  | 87 => xaI ω 24 f
  | 88 => xaI ω 24 f
  | 89 => xaI ω 24 f
  | 90 => xaI ω 16 f
  | 91 => xaI ω 16 f
  | 92 => xaI ω 16 f
  | 93 => xaI ω 16 f
  | 94 => xaI ω 16 f
  | 95 => xaI ω 832 f
  | 96 => xaI ω 150 f
  | 97 => xaI ω 150 f
  | 98 => xaI ω 150 f
  | 99 => xaI ω 150 f
  | 100 => xaI ω 150 f
  | 101 => xaI ω 150 f
  | 102 => xaI ω 150 f
  | 103 => xaI ω 150 f
  | 104 => xaI ω 200 f
  | 105 => xaI ω 70 f
  | 106 => xaI ω 70 f
  | 107 => xaI ω 70 f
  | 108 => xaJ ω 384 f
  | 109 => xaJ ω 384 f
  | 110 => xaI ω 4 f
  | 111 => xaI ω 4 f
  | 112 => xaI ω 16 f
  | 113 => xaJ ω 12 f
  | 114 => xaJ ω 12 f
  | 115 => xaJ ω 48 f
  | 116 => xaI ω 12 f
  | 117 => xaI ω 12 f
  | 118 => xaI ω 150 f
  | 119 => xaI ω 12 f
  | _ => .inr (0, [])
/-- the cells that hold longs -/
def xlong (k : Nat) : Bool := match k with
  | 33 => true
  | 36 => true
  | 42 => true
  | 43 => true
  | 44 => true
  | 45 => true
  | 46 => true
  | 47 => true
  | 48 => true
  | 49 => true
  | 50 => true
  | 51 => true
  | 52 => true
  | 53 => true
  | 54 => true
  | 55 => true
  | 56 => true
  | 57 => true
  | 58 => true
  | 59 => true
  | 60 => true
  | 61 => true
  | 62 => true
  | 63 => true
  | 64 => true
  | 65 => true
  | 66 => true
  | 71 => true
  | 75 => true
  | 76 => true
  | 77 => true
  | 78 => true
  | 84 => true
  | 85 => true
  | 108 => true
  | 109 => true
  | 113 => true
  | 114 => true
  | 115 => true
  | _ => false
def xN : Nat := 120
def xNest : List Cond := [.methodLinkNest RX7 46 yX8_within "MostSold", .methodLinkNest RX3 46 yX8_within "MostSold", .methodLinkNest RX5 25 yX8_within "MostSold", .methodLinkNest RX4 65 yX8_within "MostSold", .methodLinkNest RX4 78 yX8_isWeek "MostSold"]
theorem xrowS (ω : XW) (k : Nat) (h1 : 75 ≤ k) (h2 : k < 79) (f : Int → Int) : xcell ω k f = xaJ ω 120 f ∧ xlong k = true := by
  have h : k = 75 ∨ k = 76 ∨ k = 77 ∨ k = 78 := by omega
  rcases h with rfl | rfl | rfl | rfl <;> exact ⟨rfl, rfl⟩
theorem xrowW (ω : XW) (k : Nat) (h1 : 42 ≤ k) (h2 : k < 67) (f : Int → Int) : xcell ω k f = xaJ ω 25 f ∧ xlong k = true := by
  have h : k = 42 ∨ k = 43 ∨ k = 44 ∨ k = 45 ∨ k = 46 ∨ k = 47 ∨ k = 48 ∨ k = 49 ∨ k = 50 ∨ k = 51 ∨ k = 52 ∨ k = 53 ∨ k = 54 ∨ k = 55 ∨ k = 56 ∨ k = 57 ∨ k = 58 ∨ k = 59 ∨ k = 60 ∨ k = 61 ∨ k = 62 ∨ k = 63 ∨ k = 64 ∨ k = 65 ∨ k = 66 := by omega
  rcases h with rfl | rfl | rfl | rfl | rfl | rfl | rfl | rfl | rfl | rfl | rfl | rfl | rfl | rfl | rfl | rfl | rfl | rfl | rfl | rfl | rfl | rfl | rfl | rfl | rfl <;> exact ⟨rfl, rfl⟩
/-! ===== numbers: ints and longs as whole numbers, cut to their width ===== -/
def x32 (x : Int) : Int := (x + 2147483648) % 4294967296 - 2147483648
def x64 (x : Int) : Int := (x + 9223372036854775808) % 18446744073709551616 - 9223372036854775808
def r32 (x : Int) : Prop := -2147483648 ≤ x ∧ x < 2147483648
def r64 (x : Int) : Prop := -9223372036854775808 ≤ x ∧ x < 9223372036854775808
theorem x32_r (x : Int) : r32 (x32 x) := by unfold r32 x32; omega
theorem x64_r (x : Int) : r64 (x64 x) := by unfold r64 x64; omega
theorem x32_id {x : Int} (h : r32 x) : x32 x = x := by unfold r32 at h; unfold x32; omega
theorem x64_id {x : Int} (h : r64 x) : x64 x = x := by unfold r64 at h; unfold x64; omega
theorem r32_64 {x : Int} (h : r32 x) : r64 x := by unfold r32 at h; unfold r64; omega
theorem xt32 (x : Int) : (Int32.ofInt x).toInt = x32 x := by
  rw [Int32.toInt_ofInt, show Int32.size = 4294967296 from rfl, Int.bmod_def]
  unfold x32
  split <;> rename_i h <;> simp at h ⊢ <;> omega
theorem xt64 (x : Int) : (Int64.ofInt x).toInt = x64 x := by
  rw [Int64.toInt_ofInt, show Int64.size = 18446744073709551616 from rfl, Int.bmod_def]
  unfold x64
  split <;> rename_i h <;> simp at h ⊢ <;> omega
theorem xt32i {x : Int} (h : r32 x) : (Int32.ofInt x).toInt = x := by rw [xt32, x32_id h]
theorem xt64i {x : Int} (h : r64 x) : (Int64.ofInt x).toInt = x := by rw [xt64, x64_id h]
theorem xo32 (x : Int) : Int32.ofInt (x32 x) = Int32.ofInt x := Int32.toInt.inj (by rw [xt32, xt32, x32_id (x32_r x)])
theorem xo64 (x : Int) : Int64.ofInt (x64 x) = Int64.ofInt x := Int64.toInt.inj (by rw [xt64, xt64, x64_id (x64_r x)])
theorem xr32 (x : Int32) : r32 x.toInt := ⟨by have := x.le_toInt; simpa using this, by have := x.toInt_lt; simpa using this⟩
theorem xr64 (x : Int64) : r64 x.toInt := ⟨by have := x.le_toInt; simpa using this, by have := x.toInt_lt; simpa using this⟩
theorem xlt32 {x y : Int} (hx : r32 x) (hy : r32 y) : Int32.ofInt x < Int32.ofInt y ↔ x < y := by rw [Int32.lt_iff_toInt_lt, xt32i hx, xt32i hy]
theorem xle32 {x y : Int} (hx : r32 x) (hy : r32 y) : Int32.ofInt x ≤ Int32.ofInt y ↔ x ≤ y := by rw [Int32.le_iff_toInt_le, xt32i hx, xt32i hy]
theorem xeq32 {x y : Int} (hx : r32 x) (hy : r32 y) : Int32.ofInt x = Int32.ofInt y ↔ x = y := by rw [← Int32.toInt_inj, xt32i hx, xt32i hy]
theorem xlt64 {x y : Int} (hx : r64 x) (hy : r64 y) : Int64.ofInt x < Int64.ofInt y ↔ x < y := by rw [Int64.lt_iff_toInt_lt, xt64i hx, xt64i hy]
theorem xeq64 {x y : Int} (hx : r64 x) (hy : r64 y) : Int64.ofInt x = Int64.ofInt y ↔ x = y := by rw [← Int64.toInt_inj, xt64i hx, xt64i hy]
theorem xz32 : r32 0 := by unfold r32; omega
theorem xz64 : r64 0 := by unfold r64; omega
def iAdd (x y : Int) : Int := x32 (x + y)
def iSub (x y : Int) : Int := x32 (x - y)
def iMul (x y : Int) : Int := x32 (x * y)
def iNeg (x : Int) : Int := x32 (-x)
def iDiv (x y : Int) : Int := x32 (x.tdiv y)
def iRem (x y : Int) : Int := x32 (x - x.tdiv y * y)
def iAnd (x y : Int) : Int := (Int32.ofInt x &&& Int32.ofInt y).toInt
def iOr (x y : Int) : Int := (Int32.ofInt x ||| Int32.ofInt y).toInt
def iXor (x y : Int) : Int := (Int32.ofInt x ^^^ Int32.ofInt y).toInt
def iShl (x y : Int) : Int := (Int32.ofInt x <<< (Int32.ofInt y &&& 31)).toInt
def iShr (x y : Int) : Int := (Int32.ofInt x >>> (Int32.ofInt y &&& 31)).toInt
def iUshr (x y : Int) : Int := ((Int32.ofInt x).toUInt32 >>> ((Int32.ofInt y).toUInt32 &&& Int32.toUInt32 31)).toInt32.toInt
def i2b (x : Int) : Int := (Int32.ofInt x).toInt8.toInt32.toInt
def i2s (x : Int) : Int := (Int32.ofInt x).toInt16.toInt32.toInt
def i2l (x : Int) : Int := x
def l2i (x : Int) : Int := x32 x
def lAdd (x y : Int) : Int := x64 (x + y)
def lSub (x y : Int) : Int := x64 (x - y)
def lMul (x y : Int) : Int := x64 (x * y)
def lNeg (x : Int) : Int := x64 (-x)
def lDiv (x y : Int) : Int := x64 (x.tdiv y)
def lAnd (x y : Int) : Int := (Int64.ofInt x &&& Int64.ofInt y).toInt
def lOr (x y : Int) : Int := (Int64.ofInt x ||| Int64.ofInt y).toInt
def lShl (x y : Int) : Int := (Int64.ofInt x <<< ((Int32.ofInt y).toInt64 &&& 63)).toInt
theorem oAdd (x y : Int) : Int32.ofInt (iAdd x y) = Int32.ofInt x + Int32.ofInt y := by unfold iAdd; rw [xo32, Int32.ofInt_add]
theorem oSub (x y : Int) : Int32.ofInt (iSub x y) = Int32.ofInt x - Int32.ofInt y := by unfold iSub; rw [xo32, Int32.ofInt_sub]
theorem oMul (x y : Int) : Int32.ofInt (iMul x y) = Int32.ofInt x * Int32.ofInt y := by unfold iMul; rw [xo32, Int32.ofInt_mul]
theorem oNeg (x : Int) : Int32.ofInt (iNeg x) = -Int32.ofInt x := by unfold iNeg; rw [xo32, Int32.ofInt_neg]
theorem oDiv {x y : Int} (hx : r32 x) (hy : r32 y) : Int32.ofInt (iDiv x y) = Int32.ofInt x / Int32.ofInt y := by
  refine Int32.toInt.inj ?_
  unfold iDiv
  rw [Int32.toInt_div, xt32i hx, xt32i hy, xo32, Int32.toInt_ofInt]
theorem oRem {x y : Int} (hx : r32 x) (hy : r32 y) : Int32.ofInt (iRem x y) = Int32.ofInt x - Int32.ofInt x / Int32.ofInt y * Int32.ofInt y := by
  rw [← oDiv hx hy]
  unfold iRem iDiv
  rw [xo32, xo32, Int32.ofInt_sub, Int32.ofInt_mul]
theorem oAnd (x y : Int) : Int32.ofInt (iAnd x y) = Int32.ofInt x &&& Int32.ofInt y := Int32.ofInt_toInt _
theorem oOr (x y : Int) : Int32.ofInt (iOr x y) = Int32.ofInt x ||| Int32.ofInt y := Int32.ofInt_toInt _
theorem oXor (x y : Int) : Int32.ofInt (iXor x y) = Int32.ofInt x ^^^ Int32.ofInt y := Int32.ofInt_toInt _
theorem oShl (x y : Int) : Int32.ofInt (iShl x y) = Int32.ofInt x <<< (Int32.ofInt y &&& 31) := Int32.ofInt_toInt _
theorem oShr (x y : Int) : Int32.ofInt (iShr x y) = Int32.ofInt x >>> (Int32.ofInt y &&& 31) := Int32.ofInt_toInt _
theorem oUshr (x y : Int) : Int32.ofInt (iUshr x y) = ((Int32.ofInt x).toUInt32 >>> ((Int32.ofInt y).toUInt32 &&& Int32.toUInt32 31)).toInt32 := Int32.ofInt_toInt _
theorem o2b (x : Int) : Int32.ofInt (i2b x) = (Int32.ofInt x).toInt8.toInt32 := Int32.ofInt_toInt _
theorem o2s (x : Int) : Int32.ofInt (i2s x) = (Int32.ofInt x).toInt16.toInt32 := Int32.ofInt_toInt _
theorem o2l {x : Int} (hx : r32 x) : Int64.ofInt (i2l x) = (Int32.ofInt x).toInt64 := by
  refine Int64.toInt.inj ?_
  unfold i2l
  rw [Int32.toInt_toInt64, xt32i hx, xt64i (r32_64 hx)]
theorem oL2i {x : Int} (hx : r64 x) : Int32.ofInt (l2i x) = (Int64.ofInt x).toInt32 := by
  unfold l2i
  rw [xo32, ← Int32.ofInt_int64ToInt, xt64i hx]
theorem oLAdd (x y : Int) : Int64.ofInt (lAdd x y) = Int64.ofInt x + Int64.ofInt y := by unfold lAdd; rw [xo64, Int64.ofInt_add]
theorem oLSub (x y : Int) : Int64.ofInt (lSub x y) = Int64.ofInt x - Int64.ofInt y := by unfold lSub; rw [xo64, Int64.ofInt_sub]
theorem oLMul (x y : Int) : Int64.ofInt (lMul x y) = Int64.ofInt x * Int64.ofInt y := by unfold lMul; rw [xo64, Int64.ofInt_mul]
theorem oLNeg (x : Int) : Int64.ofInt (lNeg x) = -Int64.ofInt x := by unfold lNeg; rw [xo64, Int64.ofInt_neg]
theorem oLDiv {x y : Int} (hx : r64 x) (hy : r64 y) : Int64.ofInt (lDiv x y) = Int64.ofInt x / Int64.ofInt y := by
  refine Int64.toInt.inj ?_
  unfold lDiv
  rw [Int64.toInt_div, xt64i hx, xt64i hy, xo64, Int64.toInt_ofInt]
theorem oLAnd (x y : Int) : Int64.ofInt (lAnd x y) = Int64.ofInt x &&& Int64.ofInt y := Int64.ofInt_toInt _
theorem oLOr (x y : Int) : Int64.ofInt (lOr x y) = Int64.ofInt x ||| Int64.ofInt y := Int64.ofInt_toInt _
theorem oLShl (x y : Int) : Int64.ofInt (lShl x y) = Int64.ofInt x <<< ((Int32.ofInt y).toInt64 &&& 63) := Int64.ofInt_toInt _
/-! ===== the world's cells by their numbers ===== -/
def xworld (ω : XW) (M : XM) : va_W := (List.range xN).map (fun k => (ω.2.1 k, xcell ω k (M k)))
def st (M : XM) (k : Nat) (j v : Int) : XM := fun a => if a = k then (fun b => if b = j then v else M k b) else M a
def sl (L : XL) (i : Nat) (v : Int) : XL := fun a => if a = i then v else L a
def xA (ω : XW) : Nat → Prop := fun q => ∃ k, k < xN ∧ q = ω.2.1 k
theorem xworld_get (ω : XW) (M : XM) {k : Nat} (h : k < xN) : (xworld ω M)[k]? = some (ω.2.1 k, xcell ω k (M k)) := by
  unfold xworld
  rw [List.getElem?_map, List.getElem?_range h]
  rfl
theorem xworld_at (ω : XW) (M : XM) {k : Nat} {q : Nat × va_E} (h : (xworld ω M)[k]? = some q) : k < xN ∧ q = (ω.2.1 k, xcell ω k (M k)) := by
  have hl := (List.getElem?_eq_some_iff.mp h).1
  have hk : k < xN := by simpa [xworld] using hl
  rw [xworld_get ω M hk] at h
  exact ⟨hk, (Option.some.inj h).symm⟩
theorem xworld_set (ω : XW) (M M' : XM) {k : Nat} {e : va_E} (h : k < xN) (he : e = xcell ω k (M' k)) (ho : ∀ a, a ≠ k → M' a = M a) : (xworld ω M).set k (ω.2.1 k, e) = xworld ω M' := by
  subst he
  refine List.ext_getElem? fun i => ?_
  by_cases hi : i = k
  · subst hi
    rw [List.getElem?_set_self (by simpa [xworld] using h), xworld_get ω M' h]
  · rw [List.getElem?_set_ne (Ne.symm hi)]
    by_cases h2 : i < xN
    · rw [xworld_get ω M h2, xworld_get ω M' h2, ho i hi]
    · rw [List.getElem?_eq_none (by simpa [xworld] using h2), List.getElem?_eq_none (by simpa [xworld] using h2)]
def xInj (ω : XW) : Prop := ∀ i j, i < xN → j < xN → ω.2.1 i = ω.2.1 j → i = j
theorem xworld_D {ω : XW} (h : xInj ω) (M : XM) : va_D (xA ω) (xworld ω M) := by
  refine ⟨fun i j p q hp hq e => ?_, fun k q hq => ?_⟩
  · obtain ⟨h1, rfl⟩ := xworld_at ω M hp
    obtain ⟨h2, rfl⟩ := xworld_at ω M hq
    exact h i j h1 h2 e
  · obtain ⟨h1, rfl⟩ := xworld_at ω M hq
    exact ⟨k, h1, rfl⟩
theorem st_self (M : XM) (k : Nat) (j v : Int) : st M k j v k = fun b => if b = j then v else M k b := by
  unfold st; rw [if_pos rfl]
theorem st_ne (M : XM) {k a : Nat} (j v : Int) (h : a ≠ k) : st M k j v a = M a := by
  unfold st; rw [if_neg h]
/-! ===== values: 0 int, 1 long, 2 a row of the sheets, 3 a row of the ways, k + 4 the cell k ===== -/
def x_val (ω : XW) (κ : Nat) (z : Int) : Value := match κ with
  | 0 => .int (Int32.ofInt z)
  | 1 => .long (Int64.ofInt z)
  | 2 => .ref (ω.2.1 z.toNat)
  | 3 => .ref (ω.2.1 z.toNat)
  | k + 4 => .ref (ω.2.1 k)
def x_wf (κ : Nat) (z : Int) : Prop := match κ with
  | 0 => r32 z
  | 1 => r64 z
  | 2 => 75 ≤ z ∧ z < 79
  | 3 => 42 ≤ z ∧ z < 67
  | _ => True
def x_cat (κ : Nat) : Nat := if κ = 1 then 2 else 1
theorem x_val_cat (ω : XW) (κ : Nat) (z : Int) : (x_val ω κ z).category = x_cat κ := by
  unfold x_val x_cat
  split <;> simp [Value.category]
abbrev XG : Type := List (Nat × Nat)
abbrev XT : Type := List (Nat × Int)
def xlv (ω : XW) (Γ : XG) (L : XL) : List (Nat × Value) := Γ.map fun q => (q.1, x_val ω q.2 (L q.1))
def xsv (ω : XW) (st : XT) : List Value := st.map fun q => x_val ω q.1 q.2
def xwG (Γ : XG) (L : XL) : Prop := ∀ q ∈ Γ, x_wf q.2 (L q.1)
def xwS (st : XT) : Prop := ∀ q ∈ st, x_wf q.1 q.2
def xwM (M : XM) : Prop := ∀ k j, if xlong k then r64 (M k j) else r32 (M k j)
def xsum (st : XT) : Nat := (st.map fun q => x_cat q.1).sum
theorem xwM32 {M : XM} (h : xwM M) {k : Nat} (hk : xlong k = false) (j : Int) : r32 (M k j) := by have := h k j; rwa [hk, if_neg (by decide)] at this
theorem xwM64 {M : XM} (h : xwM M) {k : Nat} (hk : xlong k = true) (j : Int) : r64 (M k j) := by have := h k j; rwa [hk, if_pos rfl] at this
theorem xwM_st {M : XM} (h : xwM M) {k : Nat} {j v : Int} (hv : if xlong k then r64 v else r32 v) : xwM (st M k j v) := by
  intro a b
  by_cases ha : a = k
  · subst ha
    rw [st_self]
    dsimp only
    split
    · rename_i h1
      rw [if_pos h1] at hv
      split
      · exact hv
      · exact xwM64 h h1 b
    · rename_i h1
      rw [if_neg h1] at hv
      split
      · exact hv
      · exact xwM32 h (by simpa using h1) b
  · rw [st_ne M j v ha]
    exact h a b
theorem xwS_cons {κ : Nat} {z : Int} {st : XT} (h1 : x_wf κ z) (h : xwS st) : xwS ((κ, z) :: st) := fun q hq => by
  rcases List.mem_cons.mp hq with rfl | hq
  · exact h1
  · exact h q hq
theorem xwS_hd {κ : Nat} {z : Int} {st : XT} (h : xwS ((κ, z) :: st)) : x_wf κ z := h _ List.mem_cons_self
theorem xwS_tl {q : Nat × Int} {st : XT} (h : xwS (q :: st)) : xwS st := fun p hp => h p (List.mem_cons_of_mem _ hp)
theorem xsum_eq (ω : XW) (st : XT) : ((xsv ω st).map fun v => v.category).sum = xsum st := by
  unfold xsv xsum
  rw [List.map_map]
  congr 1
  refine List.map_congr_left fun q _ => ?_
  exact x_val_cat ω q.1 q.2
/-! ===== what is known of the machine's tables, and of the arrays that stand outside ===== -/
def xtys (ω : XW) : List (ClassId × FieldType) := [(ω.2.2.1, .int), (ω.2.2.2.1, .long), (ω.2.2.2.2, .array .long)]
def xT : List Cond := lw_tbl.filter goodWord
theorem xT_good : GoodIn xT xT := fun w h => ⟨h, good_of_word (List.mem_filter.mp h).2⟩
theorem xT_in {w : Cond} (i : Nat) (h : lw_tbl[i]? = some w) (hg : goodWord w = true) : w ∈ xT := List.mem_filter.mpr ⟨List.mem_of_getElem? h, hg⟩
def xNs (U : State) : Prop := ∀ w ∈ xNest, va_Nw w U
def xE1 (ω : XW) (M : XM) (n : String) (k : Nat) (U : State) (H : Heap) : Prop := va_Z "MostSold$Rules" n "[I" (.ref (ω.2.1 k)) (xA ω) U H ∧ va_T .int (ω.2.1 k) 15 (fun j => .int (Int32.ofInt (M k (j : Int)))) (xA ω) U H
def xE (ω : XW) (M : XM) (U : State) (H : Heap) : Prop := xE1 ω M "LEAST" 1001 U H ∧ xE1 ω M "MOST" 1002 U H ∧ xE1 ω M "USUAL" 1003 U H
def xK (ω : XW) (U : State) : Prop := va_K ω.1 vwCl (xtys ω) U ∧ xNs U ∧ xInj ω
def xSame (M0 M : XM) : Prop := ∀ k, xN ≤ k → M k = M0 k
theorem xSame_st {M0 M : XM} (h : xSame M0 M) {k : Nat} (hk : k < xN) (j v : Int) : xSame M0 (st M k j v) := fun a ha => by
  rw [st_ne M j v (by omega)]
  exact h a ha
theorem xE1_moved {ω : XW} {M : XM} {n : String} {k : Nat} {u U : State} {H : Heap} (hvm : u.vm.Alike U.vm) (h : xE1 ω M n k u H) : xE1 ω M n k U H := ⟨va_Z.moved hvm h.1, va_T.moved hvm h.2⟩
theorem xE1_kept {ω : XW} {M : XM} {n : String} {k : Nat} {U : State} {H H1 : Heap} (h : xE1 ω M n k U H) (hq : ∀ a : Nat, a < H.size → ¬ xA ω a → H1[a]? = H[a]?) : xE1 ω M n k U H1 := ⟨h.1.kept hq, h.2.kept hq⟩
theorem xE1_mem {ω : XW} {M M1 : XM} {n : String} {k : Nat} {U : State} {H : Heap} (h : xE1 ω M n k U H) (e : M1 k = M k) : xE1 ω M1 n k U H := by
  unfold xE1
  rw [e]
  exact h
theorem xE_moved {ω : XW} {M : XM} {u U : State} {H : Heap} (hvm : u.vm.Alike U.vm) (h : xE ω M u H) : xE ω M U H := ⟨xE1_moved hvm h.1, xE1_moved hvm h.2.1, xE1_moved hvm h.2.2⟩
theorem xE_kept {ω : XW} {M : XM} {U : State} {H H1 : Heap} (h : xE ω M U H) (hq : ∀ a : Nat, a < H.size → ¬ xA ω a → H1[a]? = H[a]?) : xE ω M U H1 := ⟨xE1_kept h.1 hq, xE1_kept h.2.1 hq, xE1_kept h.2.2 hq⟩
theorem xE_mem {ω : XW} {M M1 : XM} {U : State} {H : Heap} (h : xE ω M U H) (e : xSame M M1) : xE ω M1 U H := ⟨xE1_mem h.1 (e _ (by decide)), xE1_mem h.2.1 (e _ (by decide)), xE1_mem h.2.2 (e _ (by decide))⟩
theorem xNs_warm {s U : State} (hW : s.WarmedH U.vm) (h : xNs s) : xNs U := by
  intro w hw
  have h0 := h w hw
  simp only [xNest, List.mem_cons, List.not_mem_nil, or_false] at hw
  rcases hw with rfl | rfl | rfl | rfl | rfl <;> exact va_Nw.warmM hW h0
theorem xNs_same {u U : State} (h : u.vm = U.vm) (hZ : xNs u) : xNs U := by
  intro w hw
  have h0 := hZ w hw
  simp only [xNest, List.mem_cons, List.not_mem_nil, or_false] at hw
  rcases hw with rfl | rfl | rfl | rfl | rfl <;> exact va_Nw.same rfl h h0
theorem xK_warm {ω : XW} {s U : State} (hW : s.WarmedH U.vm) (h : xK ω s) : xK ω U := ⟨va_K.moved hW.alike h.1, xNs_warm hW h.2.1, h.2.2⟩
/-! ===== the judgement: from this place of the method, with these locals, stack and cells, the machine comes to the end ===== -/
abbrev XΘ : Type := Program × Launch × Env × Room × State × MethodId × Array Value × List Frame × Method × Code × (State → Prop) × XW × XM × Nat × Nat × Nat × (Int → XM → Prop)
def GG (θ : XΘ) (Γ : XG) (pc : Nat) (L : XL) (t : XT) (M : XM) : Prop := match θ with
  | (p, l, e, R, s, m, args, below, meth, c, Qf, ω, M0, nL, nc, ns, _) => xwG Γ L → xwS t → xwM M → xSame M0 M → ∀ (H : Heap) (locs : List Loc) (ls : Array Slot), va_P ω.1 vwCl (xworld ω M) H → va_S (xA ω) s.heap H locs → lv_has ls nL (xlv ω Γ L) → W p l e R s m args below meth c H locs nc ns Qf (F0 m pc ls (xsv ω t))
def XR (θ : XΘ) (v : Int) (M : XM) : Prop := match θ with
  | (_, _, _, _, _, _, _, _, _, _, _, _, _, _, _, _, fin) => fin v M
/-- a return with what the claim about this call wants -/
def XRet (θ : XΘ) (cc : ByteArray) (ret : Option FieldType) : Prop := match ret with
  | some .long => ∀ (Γ : XG) (pc : Nat) (L : XL) (v : Int) (M : XM), decode cc pc = .ok (.lreturn, 1) → XR θ v M → GG θ Γ pc L [(1, v)] M
  | some .int => ∀ (Γ : XG) (pc : Nat) (L : XL) (v : Int) (M : XM), decode cc pc = .ok (.ireturn, 1) → XR θ v M → GG θ Γ pc L [(0, v)] M
  | some .boolean => ∀ (Γ : XG) (pc : Nat) (L : XL) (v : Int) (M : XM), decode cc pc = .ok (.ireturn, 1) → (v = 0 ∨ v = 1) → XR θ v M → GG θ Γ pc L [(0, v)] M
  | none => ∀ (Γ : XG) (pc : Nat) (L : XL) (M : XM), decode cc pc = .ok (.return_, 1) → XR θ 0 M → GG θ Γ pc L [] M
  | _ => True
/-- what stands fast while a method of the class own with the code cc runs; ret: what it answers -/
def Fx (θ : XΘ) (own : String) (cc : ByteArray) (n : Nat) (rm : Nat × Nat) (ret : Option FieldType) : Prop := match θ with
  | (p, l, e, R, s, m, args, below, meth, c, Qf, ω, M0, nL, nc, ns, fin) => p.tables.exec = Jvm.exec ∧ c.code = cc ∧ c.maxLocals = nL ∧ s.vm.findClass own = some m.cls ∧ (∀ w ∈ xT, w.before args s = true) ∧ xK ω s ∧ xE ω M0 s s.heap ∧ rm.1 ≤ R.frames ∧ rm.2 ≤ R.locals ∧ nc ≤ R.cells ∧ ns ≤ R.slots ∧ XRet (p, l, e, R, s, m, args, below, meth, c, Qf, ω, M0, nL, nc, ns, fin) cc ret ∧ nL = n
