def wl_M (kc : ClassId × ClassId × ClassId) (b0 : Nat) : va_W := [(b0, .inr (8, [.ref (b0 + 1), .ref ((b0 + 1) + 11), .ref ((b0 + 1) + 20), .ref ((b0 + 1) + 27), .ref ((b0 + 1) + 37), .ref ((b0 + 1) + 65), .ref ((b0 + 1) + 67), .ref ((b0 + 1) + 71), .ref ((b0 + 1) + 79)])), ((b0 + 1), .inr (7, [.int 0, .ref ((b0 + 1) + 1), .int 0, .ref ((b0 + 1) + 2), .ref ((b0 + 1) + 3), .ref ((b0 + 1) + 4), .int 0, .ref ((b0 + 1) + 5), .ref ((b0 + 1) + 6), .ref ((b0 + 1) + 7), .ref ((b0 + 1) + 8), .ref ((b0 + 1) + 9), .int 0, .ref ((b0 + 1) + 10)])), (((b0 + 1) + 1), .inl (kc.1, 12, .inl (fun _ => 0))), (((b0 + 1) + 2), .inl (kc.1, 24, .inl (fun _ => 0))), (((b0 + 1) + 3), .inl (kc.1, 24, .inl (fun _ => 0))), (((b0 + 1) + 4), .inl (kc.1, 24, .inl (fun _ => 0))), (((b0 + 1) + 5), .inl (kc.1, 16, .inl (fun _ => 0))), (((b0 + 1) + 6), .inl (kc.1, 16, .inl (fun _ => 0))), (((b0 + 1) + 7), .inl (kc.1, 16, .inl (fun _ => 0))), (((b0 + 1) + 8), .inl (kc.1, 16, .inl (fun _ => 0))), (((b0 + 1) + 9), .inl (kc.1, 16, .inl (fun _ => 0))), (((b0 + 1) + 10), .inl (kc.1, 832, .inl (fun _ => -1))), (((b0 + 1) + 11), .inr (3, [.int 0, .int 51, .int (-1), .ref ((b0 + 1) + 12), .ref ((b0 + 1) + 13), .ref ((b0 + 1) + 14), .ref ((b0 + 1) + 15), .ref ((b0 + 1) + 16), .ref ((b0 + 1) + 17), .ref ((b0 + 1) + 18), .ref ((b0 + 1) + 19)])), (((b0 + 1) + 12), .inl (kc.1, 150, .inl (fun _ => 0))), (((b0 + 1) + 13), .inl (kc.1, 150, .inl (fun _ => 0))), (((b0 + 1) + 14), .inl (kc.1, 150, .inl (fun _ => 0))), (((b0 + 1) + 15), .inl (kc.1, 150, .inl (fun _ => 0))), (((b0 + 1) + 16), .inl (kc.1, 150, .inl (fun _ => 0))), (((b0 + 1) + 17), .inl (kc.1, 150, .inl (fun _ => 0))), (((b0 + 1) + 18), .inl (kc.1, 150, .inl (fun _ => 0))), (((b0 + 1) + 19), .inl (kc.1, 150, .inl (fun _ => 0))), (((b0 + 1) + 20), .inr (4, [.ref ((b0 + 1) + 21), .int 0, .int 0, .ref ((b0 + 1) + 22), .ref ((b0 + 1) + 23), .ref ((b0 + 1) + 24), .ref ((b0 + 1) + 25), .ref ((b0 + 1) + 26), .int 0, .int 0, .int 0])), (((b0 + 1) + 21), .inl (kc.1, 200, .inl (fun _ => 0))), (((b0 + 1) + 22), .inl (kc.1, 15, .inl (fun _ => 0))), (((b0 + 1) + 23), .inl (kc.1, 15, .inl (fun _ => 0))), (((b0 + 1) + 24), .inl (kc.1, 50, .inl (fun _ => 0))), (((b0 + 1) + 25), .inl (kc.1, 50, .inl (fun _ => 0))), (((b0 + 1) + 26), .inl (kc.1, 50, .inl (fun _ => 0))), (((b0 + 1) + 27), .inr (6, [.ref (b0 + 1), .ref ((b0 + 1) + 11), .ref ((b0 + 1) + 20), .ref ((b0 + 1) + 28), .ref ((b0 + 1) + 29), .ref ((b0 + 1) + 30), .ref ((b0 + 1) + 31), .ref ((b0 + 1) + 32), .ref ((b0 + 1) + 33), .ref ((b0 + 1) + 34), .ref ((b0 + 1) + 35), .int 0, .ref ((b0 + 1) + 36)])), (((b0 + 1) + 28), .inl (kc.1, 384, .inl (fun _ => 0))), (((b0 + 1) + 29), .inl (kc.1, 384, .inl (fun _ => 0))), (((b0 + 1) + 30), .inl (kc.1, 16, .inl (fun _ => 0))), (((b0 + 1) + 31), .inl (kc.2.1, 48, .inr (.inl (fun _ => 0)))), (((b0 + 1) + 32), .inl (kc.1, 4, .inl (fun _ => 0))), (((b0 + 1) + 33), .inl (kc.1, 4, .inl (fun _ => 0))), (((b0 + 1) + 34), .inl (kc.2.1, 12, .inr (.inl (fun _ => 0)))), (((b0 + 1) + 35), .inl (kc.1, 12, .inl (fun _ => 0))), (((b0 + 1) + 36), .inl (kc.1, 12, .inl (fun _ => 0))), (((b0 + 1) + 37), .inr (2, [.ref ((b0 + 1) + 11), .ref ((b0 + 1) + 20), .ref ((b0 + 1) + 38), .ref ((b0 + 1) + 39)])), (((b0 + 1) + 38), .inl (kc.1, 16, .inl (fun _ => 0))), (((b0 + 1) + 39), .inl (kc.2.2, 25, .inr (.inr (.inr (.inr (fun i => if i < 25 then some (((b0 + 1) + 40) + i) else none)))))), (((b0 + 1) + 40), .inl (kc.2.1, 25, .inr (.inl (fun m => Int64.ofNat (chz 0 m))))), (((b0 + 1) + 41), .inl (kc.2.1, 25, .inr (.inl (fun m => Int64.ofNat (chz 1 m))))), (((b0 + 1) + 42), .inl (kc.2.1, 25, .inr (.inl (fun m => Int64.ofNat (chz 2 m))))), (((b0 + 1) + 43), .inl (kc.2.1, 25, .inr (.inl (fun m => Int64.ofNat (chz 3 m))))), (((b0 + 1) + 44), .inl (kc.2.1, 25, .inr (.inl (fun m => Int64.ofNat (chz 4 m))))), (((b0 + 1) + 45), .inl (kc.2.1, 25, .inr (.inl (fun m => Int64.ofNat (chz 5 m))))), (((b0 + 1) + 46), .inl (kc.2.1, 25, .inr (.inl (fun m => Int64.ofNat (chz 6 m))))), (((b0 + 1) + 47), .inl (kc.2.1, 25, .inr (.inl (fun m => Int64.ofNat (chz 7 m))))), (((b0 + 1) + 48), .inl (kc.2.1, 25, .inr (.inl (fun m => Int64.ofNat (chz 8 m))))), (((b0 + 1) + 49), .inl (kc.2.1, 25, .inr (.inl (fun m => Int64.ofNat (chz 9 m))))), (((b0 + 1) + 50), .inl (kc.2.1, 25, .inr (.inl (fun m => Int64.ofNat (chz 10 m))))), (((b0 + 1) + 51), .inl (kc.2.1, 25, .inr (.inl (fun m => Int64.ofNat (chz 11 m))))), (((b0 + 1) + 52), .inl (kc.2.1, 25, .inr (.inl (fun m => Int64.ofNat (chz 12 m))))), (((b0 + 1) + 53), .inl (kc.2.1, 25, .inr (.inl (fun m => Int64.ofNat (chz 13 m))))), (((b0 + 1) + 54), .inl (kc.2.1, 25, .inr (.inl (fun m => Int64.ofNat (chz 14 m))))), (((b0 + 1) + 55), .inl (kc.2.1, 25, .inr (.inl (fun m => Int64.ofNat (chz 15 m))))), (((b0 + 1) + 56), .inl (kc.2.1, 25, .inr (.inl (fun m => Int64.ofNat (chz 16 m))))), (((b0 + 1) + 57), .inl (kc.2.1, 25, .inr (.inl (fun m => Int64.ofNat (chz 17 m))))), (((b0 + 1) + 58), .inl (kc.2.1, 25, .inr (.inl (fun m => Int64.ofNat (chz 18 m))))), (((b0 + 1) + 59), .inl (kc.2.1, 25, .inr (.inl (fun m => Int64.ofNat (chz 19 m))))), (((b0 + 1) + 60), .inl (kc.2.1, 25, .inr (.inl (fun m => Int64.ofNat (chz 20 m))))), (((b0 + 1) + 61), .inl (kc.2.1, 25, .inr (.inl (fun m => Int64.ofNat (chz 21 m))))), (((b0 + 1) + 62), .inl (kc.2.1, 25, .inr (.inl (fun m => Int64.ofNat (chz 22 m))))), (((b0 + 1) + 63), .inl (kc.2.1, 25, .inr (.inl (fun m => Int64.ofNat (chz 23 m))))), (((b0 + 1) + 64), .inl (kc.2.1, 25, .inr (.inl (fun m => Int64.ofNat (chz 24 m))))), (((b0 + 1) + 65), .inr (0, [.ref (b0 + 1), .ref ((b0 + 1) + 11), .ref ((b0 + 1) + 66), .int 0, .int 0, .int 0, .int 0, .int 0])), (((b0 + 1) + 66), .inl (kc.1, 12, .inl (fun _ => 0))), (((b0 + 1) + 67), .inr (1, [.ref ((b0 + 1) + 68), .ref ((b0 + 1) + 69), .ref ((b0 + 1) + 70), .int 0, .int 0])), (((b0 + 1) + 68), .inl (kc.1, 16, .inl (fun _ => 0))), (((b0 + 1) + 69), .inl (kc.2.1, 16, .inr (.inl (fun _ => 0)))), (((b0 + 1) + 70), .inl (kc.1, 16, .inl (fun _ => 0))), (((b0 + 1) + 71), .inr (5, [.ref ((b0 + 1) + 72), .ref ((b0 + 1) + 77), .ref ((b0 + 1) + 78), .int 0])), (((b0 + 1) + 72), .inl (kc.2.2, 4, .inr (.inr (.inr (.inr (fun i => if i < 4 then some (((b0 + 1) + 73) + i) else none)))))), (((b0 + 1) + 73), .inl (kc.2.1, 120, .inr (.inl (fun _ => 0)))), (((b0 + 1) + 74), .inl (kc.2.1, 120, .inr (.inl (fun _ => 0)))), (((b0 + 1) + 75), .inl (kc.2.1, 120, .inr (.inl (fun _ => 0)))), (((b0 + 1) + 76), .inl (kc.2.1, 120, .inr (.inl (fun _ => 0)))), (((b0 + 1) + 77), .inl (kc.1, 4, .inl (fun _ => -1))), (((b0 + 1) + 78), .inl (kc.1, 4, .inl (fun _ => 0))), (((b0 + 1) + 79), .inl (kc.1, 12, .inl (fun _ => 0)))]
def wl_R (kc : ClassId × ClassId × ClassId) (b0 : Nat) : va_W := [((b0 + 1 + 80), .inr (9, [.ref (b0 + 1 + 80 + 1), .ref ((b0 + 1 + 80 + 1) + 1), .ref ((b0 + 1 + 80 + 1) + 2), .ref ((b0 + 1 + 80 + 1) + 3), .int 0, .int 0, .ref ((b0 + 1 + 80 + 1) + 4), .int 0, .ref ((b0 + 1 + 80 + 1) + 5), .ref ((b0 + 1 + 80 + 1) + 6), .ref ((b0 + 1 + 80 + 1) + 7), .int 0, .ref ((b0 + 1 + 80 + 1) + 8), .ref ((b0 + 1 + 80 + 1) + 9), .ref ((b0 + 1 + 80 + 1) + 10), .ref ((b0 + 1 + 80 + 1) + 11), .ref ((b0 + 1 + 80 + 1) + 12), .ref ((b0 + 1 + 80 + 1) + 13), .int 51, .int 0, .ref ((b0 + 1 + 80 + 1) + 14), .ref ((b0 + 1 + 80 + 1) + 15), .ref ((b0 + 1 + 80 + 1) + 16), .ref ((b0 + 1 + 80 + 1) + 17), .ref ((b0 + 1 + 80 + 1) + 18), .ref ((b0 + 1 + 80 + 1) + 19), .ref ((b0 + 1 + 80 + 1) + 20), .ref ((b0 + 1 + 80 + 1) + 21), .int (-1), .int (-1), .ref ((b0 + 1 + 80 + 1) + 22), .int 0, .int 0, .int 0, .ref ((b0 + 1 + 80 + 1) + 23), .ref ((b0 + 1 + 80 + 1) + 24), .ref ((b0 + 1 + 80 + 1) + 25), .ref ((b0 + 1 + 80 + 1) + 26), .ref ((b0 + 1 + 80 + 1) + 27), .ref ((b0 + 1 + 80 + 1) + 28), .ref ((b0 + 1 + 80 + 1) + 29), .ref ((b0 + 1 + 80 + 1) + 30), .ref ((b0 + 1 + 80 + 1) + 31), .ref ((b0 + 1 + 80 + 1) + 32), .ref ((b0 + 1 + 80 + 1) + 33), .int 0, .ref ((b0 + 1 + 80 + 1) + 34), .ref ((b0 + 1 + 80 + 1) + 35), .int 0, .ref ((b0 + 1 + 80 + 1) + 36), .int 0, .int 0, .ref ((b0 + 1 + 80 + 1) + 37)])), ((b0 + 1 + 80 + 1), .inl (kc.1, 4, .inl (fun _ => -1))), (((b0 + 1 + 80 + 1) + 1), .inl (kc.1, 4, .inl (fun _ => 0))), (((b0 + 1 + 80 + 1) + 2), .inl (kc.2.1, 480, .inr (.inl (fun _ => 0)))), (((b0 + 1 + 80 + 1) + 3), .inl (kc.2.1, 120, .inr (.inl (fun _ => 0)))), (((b0 + 1 + 80 + 1) + 4), .inl (kc.1, 12, .inl (fun _ => 0))), (((b0 + 1 + 80 + 1) + 5), .inl (kc.1, 24, .inl (fun _ => 0))), (((b0 + 1 + 80 + 1) + 6), .inl (kc.1, 24, .inl (fun _ => 0))), (((b0 + 1 + 80 + 1) + 7), .inl (kc.1, 24, .inl (fun _ => 0))), (((b0 + 1 + 80 + 1) + 8), .inl (kc.1, 16, .inl (fun _ => 0))), (((b0 + 1 + 80 + 1) + 9), .inl (kc.1, 16, .inl (fun _ => 0))), (((b0 + 1 + 80 + 1) + 10), .inl (kc.1, 16, .inl (fun _ => 0))), (((b0 + 1 + 80 + 1) + 11), .inl (kc.1, 16, .inl (fun _ => 0))), (((b0 + 1 + 80 + 1) + 12), .inl (kc.1, 16, .inl (fun _ => 0))), (((b0 + 1 + 80 + 1) + 13), .inl (kc.1, 832, .inl (fun _ => -1))), (((b0 + 1 + 80 + 1) + 14), .inl (kc.1, 150, .inl (fun _ => 0))), (((b0 + 1 + 80 + 1) + 15), .inl (kc.1, 150, .inl (fun _ => 0))), (((b0 + 1 + 80 + 1) + 16), .inl (kc.1, 150, .inl (fun _ => 0))), (((b0 + 1 + 80 + 1) + 17), .inl (kc.1, 150, .inl (fun _ => 0))), (((b0 + 1 + 80 + 1) + 18), .inl (kc.1, 150, .inl (fun _ => 0))), (((b0 + 1 + 80 + 1) + 19), .inl (kc.1, 150, .inl (fun _ => 0))), (((b0 + 1 + 80 + 1) + 20), .inl (kc.1, 150, .inl (fun _ => 0))), (((b0 + 1 + 80 + 1) + 21), .inl (kc.1, 150, .inl (fun _ => 0))), (((b0 + 1 + 80 + 1) + 22), .inl (kc.1, 200, .inl (fun _ => 0))), (((b0 + 1 + 80 + 1) + 23), .inl (kc.1, 70, .inl (fun _ => 0))), (((b0 + 1 + 80 + 1) + 24), .inl (kc.1, 70, .inl (fun _ => 0))), (((b0 + 1 + 80 + 1) + 25), .inl (kc.1, 70, .inl (fun _ => 0))), (((b0 + 1 + 80 + 1) + 26), .inl (kc.2.1, 384, .inr (.inl (fun _ => 0)))), (((b0 + 1 + 80 + 1) + 27), .inl (kc.2.1, 384, .inr (.inl (fun _ => 0)))), (((b0 + 1 + 80 + 1) + 28), .inl (kc.1, 4, .inl (fun _ => 0))), (((b0 + 1 + 80 + 1) + 29), .inl (kc.1, 4, .inl (fun _ => 0))), (((b0 + 1 + 80 + 1) + 30), .inl (kc.1, 16, .inl (fun _ => 0))), (((b0 + 1 + 80 + 1) + 31), .inl (kc.2.1, 12, .inr (.inl (fun _ => 0)))), (((b0 + 1 + 80 + 1) + 32), .inl (kc.2.1, 12, .inr (.inl (fun _ => 0)))), (((b0 + 1 + 80 + 1) + 33), .inl (kc.2.1, 48, .inr (.inl (fun _ => 0)))), (((b0 + 1 + 80 + 1) + 34), .inl (kc.1, 12, .inl (fun _ => 0))), (((b0 + 1 + 80 + 1) + 35), .inl (kc.1, 12, .inl (fun _ => 0))), (((b0 + 1 + 80 + 1) + 36), .inl (kc.1, 150, .inl (fun _ => 0))), (((b0 + 1 + 80 + 1) + 37), .inl (kc.1, 12, .inl (fun _ => 0)))]
def wl_all (kc : ClassId × ClassId × ClassId) (b0 : Nat) : va_W := wl_M kc b0 ++ wl_R kc b0
def XM0 (n : Nat) (xs : Nat → Int32) : XM := fun k j =>
  if k = 12 then -1 else
  if k = 79 then -1 else
  if k = 82 then -1 else
  if k = 95 then -1 else
  if k = 13 then (if j = 1 then 51 else if j = 2 then (-1) else 0) else
  if k = 81 then (if j = 18 then 51 else if j = 28 then (-1) else if j = 29 then (-1) else 0) else
  if 42 ≤ k ∧ k < 67 then ((chz (k - 42) j.toNat : Nat) : Int) else
  if k = 1000 then (if j = -1 then (n : Int) else (xs j.toNat).toInt) else
  if k = 1001 then (if j = 0 then 1 else 0) else
  if k = 1002 then (if j = 0 then 9999 else if j = 1 then 1 else if j ≤ 3 then 51 else if j ≤ 5 then 167 else if j ≤ 13 then 500 else 2) else
  if k = 1003 then (if j = 0 then 100 else if j = 1 then 1 else if j = 2 then 0 else if j = 3 then 51 else if j = 4 then 0 else if j = 5 then 167 else if j ≤ 13 then 100 else 0) else 0
theorem chz_le : ∀ (n m : Nat), chz n m ≤ 2 ^ n
  | n, 0 => by
    have h : chz n 0 = 1 := by cases n <;> rfl
    rw [h]
    exact Nat.one_le_two_pow
  | 0, _ + 1 => Nat.zero_le _
  | n + 1, m + 1 => by
    have h1 := chz_le n m
    have h2 := chz_le n (m + 1)
    have h3 : 2 ^ (n + 1) = 2 ^ n + 2 ^ n := by rw [Nat.pow_succ]; omega
    show chz n m + chz n (m + 1) ≤ _
    omega
theorem r32_ite {c : Prop} [Decidable c] {a b : Int} (h1 : c → r32 a) (h2 : ¬ c → r32 b) : r32 (if c then a else b) := by
  by_cases h : c
  · rw [if_pos h]; exact h1 h
  · rw [if_neg h]; exact h2 h
theorem XM0_wf {n : Nat} {xs : Nat → Int32} (hn : n ≤ 4096) : xwM (XM0 n xs) := by
  intro k j
  have h32 : r32 (XM0 n xs k j) := by
    have h0 := xr32 (xs j.toNat)
    unfold r32 at h0
    simp only [XM0]
    repeat' (refine r32_ite (fun _ => ?_) (fun _ => ?_))
    all_goals first
      | (unfold r32; omega)
      | (have h1 := chz_le (k - 42) j.toNat
         have h2 : (2 : Nat) ^ (k - 42) ≤ 2 ^ 24 := Nat.pow_le_pow_right (by decide) (by omega)
         have h3 : (2 : Nat) ^ 24 = 16777216 := by decide
         unfold r32
         omega)
  split
  · exact r32_64 h32
  · exact h32
def x_pos (k : Nat) : Nat := if k = 0 then 0 else if k = 1 then 80 else if k ≤ 80 then k - 1 else k
def x_ad (b0 b a1 a2 a3 : Nat) (k : Nat) : Nat := if k < 120 then b0 + x_pos k else if k = 1000 then b else if k = 1001 then a1 else if k = 1002 then a2 else a3
theorem x_ad_lt {b0 b a1 a2 a3 k : Nat} (h : k < 120) : x_ad b0 b a1 a2 a3 k = b0 + x_pos k := if_pos h
theorem x_pos_r {k : Nat} (h1 : 2 ≤ k) (h2 : k ≤ 80) : x_pos k = k - 1 := by unfold x_pos; rw [if_neg (by omega), if_neg (by omega), if_pos h2]
theorem x_pos_R {k : Nat} (h1 : 81 ≤ k) : x_pos k = k := by unfold x_pos; rw [if_neg (by omega), if_neg (by omega), if_neg (by omega)]
theorem x_ad_inj {D : va_G} {cI cJ cQ : ClassId} {b0 b a1 a2 a3 : Nat} : xInj (D, x_ad b0 b a1 a2 a3, cI, cJ, cQ) := by
  intro i j hi hj h
  have hi : i < 120 := hi
  have hj : j < 120 := hj
  have h : x_ad b0 b a1 a2 a3 i = x_ad b0 b a1 a2 a3 j := h
  rw [x_ad_lt hi, x_ad_lt hj] at h
  unfold x_pos at h
  repeat' split at h
  all_goals omega
theorem xao {f : Nat → Int32} {g : Nat → Int} (h : ∀ i, f i = Int32.ofInt (g i)) (c : ClassId) (n : Nat) : (.inl (c, n, .inl f) : va_E) = .inl (c, n, .inl fun i => Int32.ofInt (g i)) := by rw [show f = fun i => Int32.ofInt (g i) from funext h]
theorem xaoJ {f : Nat → Int64} {g : Nat → Int} (h : ∀ i, f i = Int64.ofInt (g i)) (c : ClassId) (n : Nat) : (.inl (c, n, .inr (.inl f)) : va_E) = .inl (c, n, .inr (.inl fun i => Int64.ofInt (g i))) := by rw [show f = fun i => Int64.ofInt (g i) from funext h]
theorem xaoQ {f g : Nat → Option Nat} (h : ∀ i, f i = g i) (c : ClassId) (n : Nat) : (.inl (c, n, .inr (.inr (.inr (.inr f)))) : va_E) = .inl (c, n, .inr (.inr (.inr (.inr g)))) := by rw [show f = g from funext h]
theorem wla_0 (D : va_G) (cI cJ cQ : ClassId) (b0 b a1 a2 a3 n : Nat) (xs : Nat → Int32) : (wl_all (cI, cJ, cQ) b0)[0]? = some (x_ad b0 b a1 a2 a3 0, xcell (D, x_ad b0 b a1 a2 a3, cI, cJ, cQ) 0 (XM0 n xs 0)) := by
  rfl
theorem wla_1 (D : va_G) (cI cJ cQ : ClassId) (b0 b a1 a2 a3 n : Nat) (xs : Nat → Int32) : (wl_all (cI, cJ, cQ) b0)[80]? = some (x_ad b0 b a1 a2 a3 1, xcell (D, x_ad b0 b a1 a2 a3, cI, cJ, cQ) 1 (XM0 n xs 1)) := by
  exact congrArg some (Prod.ext rfl (xao (f := fun _ => 0) (g := fun i => XM0 n xs 1 (i : Int)) (fun i => rfl) cI 12))
theorem wla_2 (D : va_G) (cI cJ cQ : ClassId) (b0 b a1 a2 a3 n : Nat) (xs : Nat → Int32) : (wl_all (cI, cJ, cQ) b0)[1]? = some (x_ad b0 b a1 a2 a3 2, xcell (D, x_ad b0 b a1 a2 a3, cI, cJ, cQ) 2 (XM0 n xs 2)) := by
  rfl
theorem wla_3 (D : va_G) (cI cJ cQ : ClassId) (b0 b a1 a2 a3 n : Nat) (xs : Nat → Int32) : (wl_all (cI, cJ, cQ) b0)[2]? = some (x_ad b0 b a1 a2 a3 3, xcell (D, x_ad b0 b a1 a2 a3, cI, cJ, cQ) 3 (XM0 n xs 3)) := by
  exact congrArg some (Prod.ext rfl (xao (f := fun _ => 0) (g := fun i => XM0 n xs 3 (i : Int)) (fun i => rfl) cI 12))
theorem wla_4 (D : va_G) (cI cJ cQ : ClassId) (b0 b a1 a2 a3 n : Nat) (xs : Nat → Int32) : (wl_all (cI, cJ, cQ) b0)[3]? = some (x_ad b0 b a1 a2 a3 4, xcell (D, x_ad b0 b a1 a2 a3, cI, cJ, cQ) 4 (XM0 n xs 4)) := by
  exact congrArg some (Prod.ext rfl (xao (f := fun _ => 0) (g := fun i => XM0 n xs 4 (i : Int)) (fun i => rfl) cI 24))
theorem wla_5 (D : va_G) (cI cJ cQ : ClassId) (b0 b a1 a2 a3 n : Nat) (xs : Nat → Int32) : (wl_all (cI, cJ, cQ) b0)[4]? = some (x_ad b0 b a1 a2 a3 5, xcell (D, x_ad b0 b a1 a2 a3, cI, cJ, cQ) 5 (XM0 n xs 5)) := by
  exact congrArg some (Prod.ext rfl (xao (f := fun _ => 0) (g := fun i => XM0 n xs 5 (i : Int)) (fun i => rfl) cI 24))
theorem wla_6 (D : va_G) (cI cJ cQ : ClassId) (b0 b a1 a2 a3 n : Nat) (xs : Nat → Int32) : (wl_all (cI, cJ, cQ) b0)[5]? = some (x_ad b0 b a1 a2 a3 6, xcell (D, x_ad b0 b a1 a2 a3, cI, cJ, cQ) 6 (XM0 n xs 6)) := by
  exact congrArg some (Prod.ext rfl (xao (f := fun _ => 0) (g := fun i => XM0 n xs 6 (i : Int)) (fun i => rfl) cI 24))
theorem wla_7 (D : va_G) (cI cJ cQ : ClassId) (b0 b a1 a2 a3 n : Nat) (xs : Nat → Int32) : (wl_all (cI, cJ, cQ) b0)[6]? = some (x_ad b0 b a1 a2 a3 7, xcell (D, x_ad b0 b a1 a2 a3, cI, cJ, cQ) 7 (XM0 n xs 7)) := by
  exact congrArg some (Prod.ext rfl (xao (f := fun _ => 0) (g := fun i => XM0 n xs 7 (i : Int)) (fun i => rfl) cI 16))
theorem wla_8 (D : va_G) (cI cJ cQ : ClassId) (b0 b a1 a2 a3 n : Nat) (xs : Nat → Int32) : (wl_all (cI, cJ, cQ) b0)[7]? = some (x_ad b0 b a1 a2 a3 8, xcell (D, x_ad b0 b a1 a2 a3, cI, cJ, cQ) 8 (XM0 n xs 8)) := by
  exact congrArg some (Prod.ext rfl (xao (f := fun _ => 0) (g := fun i => XM0 n xs 8 (i : Int)) (fun i => rfl) cI 16))
theorem wla_9 (D : va_G) (cI cJ cQ : ClassId) (b0 b a1 a2 a3 n : Nat) (xs : Nat → Int32) : (wl_all (cI, cJ, cQ) b0)[8]? = some (x_ad b0 b a1 a2 a3 9, xcell (D, x_ad b0 b a1 a2 a3, cI, cJ, cQ) 9 (XM0 n xs 9)) := by
  exact congrArg some (Prod.ext rfl (xao (f := fun _ => 0) (g := fun i => XM0 n xs 9 (i : Int)) (fun i => rfl) cI 16))
theorem wla_10 (D : va_G) (cI cJ cQ : ClassId) (b0 b a1 a2 a3 n : Nat) (xs : Nat → Int32) : (wl_all (cI, cJ, cQ) b0)[9]? = some (x_ad b0 b a1 a2 a3 10, xcell (D, x_ad b0 b a1 a2 a3, cI, cJ, cQ) 10 (XM0 n xs 10)) := by
  exact congrArg some (Prod.ext rfl (xao (f := fun _ => 0) (g := fun i => XM0 n xs 10 (i : Int)) (fun i => rfl) cI 16))
theorem wla_11 (D : va_G) (cI cJ cQ : ClassId) (b0 b a1 a2 a3 n : Nat) (xs : Nat → Int32) : (wl_all (cI, cJ, cQ) b0)[10]? = some (x_ad b0 b a1 a2 a3 11, xcell (D, x_ad b0 b a1 a2 a3, cI, cJ, cQ) 11 (XM0 n xs 11)) := by
  exact congrArg some (Prod.ext rfl (xao (f := fun _ => 0) (g := fun i => XM0 n xs 11 (i : Int)) (fun i => rfl) cI 16))
theorem wla_12 (D : va_G) (cI cJ cQ : ClassId) (b0 b a1 a2 a3 n : Nat) (xs : Nat → Int32) : (wl_all (cI, cJ, cQ) b0)[11]? = some (x_ad b0 b a1 a2 a3 12, xcell (D, x_ad b0 b a1 a2 a3, cI, cJ, cQ) 12 (XM0 n xs 12)) := by
  exact congrArg some (Prod.ext rfl (xao (f := fun _ => -1) (g := fun i => XM0 n xs 12 (i : Int)) (fun i => rfl) cI 832))
theorem wla_13 (D : va_G) (cI cJ cQ : ClassId) (b0 b a1 a2 a3 n : Nat) (xs : Nat → Int32) : (wl_all (cI, cJ, cQ) b0)[12]? = some (x_ad b0 b a1 a2 a3 13, xcell (D, x_ad b0 b a1 a2 a3, cI, cJ, cQ) 13 (XM0 n xs 13)) := by
  rfl
theorem wla_14 (D : va_G) (cI cJ cQ : ClassId) (b0 b a1 a2 a3 n : Nat) (xs : Nat → Int32) : (wl_all (cI, cJ, cQ) b0)[13]? = some (x_ad b0 b a1 a2 a3 14, xcell (D, x_ad b0 b a1 a2 a3, cI, cJ, cQ) 14 (XM0 n xs 14)) := by
  exact congrArg some (Prod.ext rfl (xao (f := fun _ => 0) (g := fun i => XM0 n xs 14 (i : Int)) (fun i => rfl) cI 150))
theorem wla_15 (D : va_G) (cI cJ cQ : ClassId) (b0 b a1 a2 a3 n : Nat) (xs : Nat → Int32) : (wl_all (cI, cJ, cQ) b0)[14]? = some (x_ad b0 b a1 a2 a3 15, xcell (D, x_ad b0 b a1 a2 a3, cI, cJ, cQ) 15 (XM0 n xs 15)) := by
  exact congrArg some (Prod.ext rfl (xao (f := fun _ => 0) (g := fun i => XM0 n xs 15 (i : Int)) (fun i => rfl) cI 150))
theorem wla_16 (D : va_G) (cI cJ cQ : ClassId) (b0 b a1 a2 a3 n : Nat) (xs : Nat → Int32) : (wl_all (cI, cJ, cQ) b0)[15]? = some (x_ad b0 b a1 a2 a3 16, xcell (D, x_ad b0 b a1 a2 a3, cI, cJ, cQ) 16 (XM0 n xs 16)) := by
  exact congrArg some (Prod.ext rfl (xao (f := fun _ => 0) (g := fun i => XM0 n xs 16 (i : Int)) (fun i => rfl) cI 150))
theorem wla_17 (D : va_G) (cI cJ cQ : ClassId) (b0 b a1 a2 a3 n : Nat) (xs : Nat → Int32) : (wl_all (cI, cJ, cQ) b0)[16]? = some (x_ad b0 b a1 a2 a3 17, xcell (D, x_ad b0 b a1 a2 a3, cI, cJ, cQ) 17 (XM0 n xs 17)) := by
  exact congrArg some (Prod.ext rfl (xao (f := fun _ => 0) (g := fun i => XM0 n xs 17 (i : Int)) (fun i => rfl) cI 150))
theorem wla_18 (D : va_G) (cI cJ cQ : ClassId) (b0 b a1 a2 a3 n : Nat) (xs : Nat → Int32) : (wl_all (cI, cJ, cQ) b0)[17]? = some (x_ad b0 b a1 a2 a3 18, xcell (D, x_ad b0 b a1 a2 a3, cI, cJ, cQ) 18 (XM0 n xs 18)) := by
  exact congrArg some (Prod.ext rfl (xao (f := fun _ => 0) (g := fun i => XM0 n xs 18 (i : Int)) (fun i => rfl) cI 150))
theorem wla_19 (D : va_G) (cI cJ cQ : ClassId) (b0 b a1 a2 a3 n : Nat) (xs : Nat → Int32) : (wl_all (cI, cJ, cQ) b0)[18]? = some (x_ad b0 b a1 a2 a3 19, xcell (D, x_ad b0 b a1 a2 a3, cI, cJ, cQ) 19 (XM0 n xs 19)) := by
  exact congrArg some (Prod.ext rfl (xao (f := fun _ => 0) (g := fun i => XM0 n xs 19 (i : Int)) (fun i => rfl) cI 150))
theorem wla_20 (D : va_G) (cI cJ cQ : ClassId) (b0 b a1 a2 a3 n : Nat) (xs : Nat → Int32) : (wl_all (cI, cJ, cQ) b0)[19]? = some (x_ad b0 b a1 a2 a3 20, xcell (D, x_ad b0 b a1 a2 a3, cI, cJ, cQ) 20 (XM0 n xs 20)) := by
  exact congrArg some (Prod.ext rfl (xao (f := fun _ => 0) (g := fun i => XM0 n xs 20 (i : Int)) (fun i => rfl) cI 150))
theorem wla_21 (D : va_G) (cI cJ cQ : ClassId) (b0 b a1 a2 a3 n : Nat) (xs : Nat → Int32) : (wl_all (cI, cJ, cQ) b0)[20]? = some (x_ad b0 b a1 a2 a3 21, xcell (D, x_ad b0 b a1 a2 a3, cI, cJ, cQ) 21 (XM0 n xs 21)) := by
  exact congrArg some (Prod.ext rfl (xao (f := fun _ => 0) (g := fun i => XM0 n xs 21 (i : Int)) (fun i => rfl) cI 150))
theorem wla_22 (D : va_G) (cI cJ cQ : ClassId) (b0 b a1 a2 a3 n : Nat) (xs : Nat → Int32) : (wl_all (cI, cJ, cQ) b0)[21]? = some (x_ad b0 b a1 a2 a3 22, xcell (D, x_ad b0 b a1 a2 a3, cI, cJ, cQ) 22 (XM0 n xs 22)) := by
  rfl
theorem wla_23 (D : va_G) (cI cJ cQ : ClassId) (b0 b a1 a2 a3 n : Nat) (xs : Nat → Int32) : (wl_all (cI, cJ, cQ) b0)[22]? = some (x_ad b0 b a1 a2 a3 23, xcell (D, x_ad b0 b a1 a2 a3, cI, cJ, cQ) 23 (XM0 n xs 23)) := by
  exact congrArg some (Prod.ext rfl (xao (f := fun _ => 0) (g := fun i => XM0 n xs 23 (i : Int)) (fun i => rfl) cI 200))
theorem wla_24 (D : va_G) (cI cJ cQ : ClassId) (b0 b a1 a2 a3 n : Nat) (xs : Nat → Int32) : (wl_all (cI, cJ, cQ) b0)[23]? = some (x_ad b0 b a1 a2 a3 24, xcell (D, x_ad b0 b a1 a2 a3, cI, cJ, cQ) 24 (XM0 n xs 24)) := by
  exact congrArg some (Prod.ext rfl (xao (f := fun _ => 0) (g := fun i => XM0 n xs 24 (i : Int)) (fun i => rfl) cI 15))
theorem wla_25 (D : va_G) (cI cJ cQ : ClassId) (b0 b a1 a2 a3 n : Nat) (xs : Nat → Int32) : (wl_all (cI, cJ, cQ) b0)[24]? = some (x_ad b0 b a1 a2 a3 25, xcell (D, x_ad b0 b a1 a2 a3, cI, cJ, cQ) 25 (XM0 n xs 25)) := by
  exact congrArg some (Prod.ext rfl (xao (f := fun _ => 0) (g := fun i => XM0 n xs 25 (i : Int)) (fun i => rfl) cI 15))
theorem wla_26 (D : va_G) (cI cJ cQ : ClassId) (b0 b a1 a2 a3 n : Nat) (xs : Nat → Int32) : (wl_all (cI, cJ, cQ) b0)[25]? = some (x_ad b0 b a1 a2 a3 26, xcell (D, x_ad b0 b a1 a2 a3, cI, cJ, cQ) 26 (XM0 n xs 26)) := by
  exact congrArg some (Prod.ext rfl (xao (f := fun _ => 0) (g := fun i => XM0 n xs 26 (i : Int)) (fun i => rfl) cI 50))
theorem wla_27 (D : va_G) (cI cJ cQ : ClassId) (b0 b a1 a2 a3 n : Nat) (xs : Nat → Int32) : (wl_all (cI, cJ, cQ) b0)[26]? = some (x_ad b0 b a1 a2 a3 27, xcell (D, x_ad b0 b a1 a2 a3, cI, cJ, cQ) 27 (XM0 n xs 27)) := by
  exact congrArg some (Prod.ext rfl (xao (f := fun _ => 0) (g := fun i => XM0 n xs 27 (i : Int)) (fun i => rfl) cI 50))
theorem wla_28 (D : va_G) (cI cJ cQ : ClassId) (b0 b a1 a2 a3 n : Nat) (xs : Nat → Int32) : (wl_all (cI, cJ, cQ) b0)[27]? = some (x_ad b0 b a1 a2 a3 28, xcell (D, x_ad b0 b a1 a2 a3, cI, cJ, cQ) 28 (XM0 n xs 28)) := by
  exact congrArg some (Prod.ext rfl (xao (f := fun _ => 0) (g := fun i => XM0 n xs 28 (i : Int)) (fun i => rfl) cI 50))
theorem wla_29 (D : va_G) (cI cJ cQ : ClassId) (b0 b a1 a2 a3 n : Nat) (xs : Nat → Int32) : (wl_all (cI, cJ, cQ) b0)[28]? = some (x_ad b0 b a1 a2 a3 29, xcell (D, x_ad b0 b a1 a2 a3, cI, cJ, cQ) 29 (XM0 n xs 29)) := by
  rfl
theorem wla_30 (D : va_G) (cI cJ cQ : ClassId) (b0 b a1 a2 a3 n : Nat) (xs : Nat → Int32) : (wl_all (cI, cJ, cQ) b0)[29]? = some (x_ad b0 b a1 a2 a3 30, xcell (D, x_ad b0 b a1 a2 a3, cI, cJ, cQ) 30 (XM0 n xs 30)) := by
  exact congrArg some (Prod.ext rfl (xao (f := fun _ => 0) (g := fun i => XM0 n xs 30 (i : Int)) (fun i => rfl) cI 384))
theorem wla_31 (D : va_G) (cI cJ cQ : ClassId) (b0 b a1 a2 a3 n : Nat) (xs : Nat → Int32) : (wl_all (cI, cJ, cQ) b0)[30]? = some (x_ad b0 b a1 a2 a3 31, xcell (D, x_ad b0 b a1 a2 a3, cI, cJ, cQ) 31 (XM0 n xs 31)) := by
  exact congrArg some (Prod.ext rfl (xao (f := fun _ => 0) (g := fun i => XM0 n xs 31 (i : Int)) (fun i => rfl) cI 384))
theorem wla_32 (D : va_G) (cI cJ cQ : ClassId) (b0 b a1 a2 a3 n : Nat) (xs : Nat → Int32) : (wl_all (cI, cJ, cQ) b0)[31]? = some (x_ad b0 b a1 a2 a3 32, xcell (D, x_ad b0 b a1 a2 a3, cI, cJ, cQ) 32 (XM0 n xs 32)) := by
  exact congrArg some (Prod.ext rfl (xao (f := fun _ => 0) (g := fun i => XM0 n xs 32 (i : Int)) (fun i => rfl) cI 16))
theorem wla_33 (D : va_G) (cI cJ cQ : ClassId) (b0 b a1 a2 a3 n : Nat) (xs : Nat → Int32) : (wl_all (cI, cJ, cQ) b0)[32]? = some (x_ad b0 b a1 a2 a3 33, xcell (D, x_ad b0 b a1 a2 a3, cI, cJ, cQ) 33 (XM0 n xs 33)) := by
  exact congrArg some (Prod.ext rfl (xaoJ (f := fun _ => 0) (g := fun i => XM0 n xs 33 (i : Int)) (fun i => rfl) cJ 48))
theorem wla_34 (D : va_G) (cI cJ cQ : ClassId) (b0 b a1 a2 a3 n : Nat) (xs : Nat → Int32) : (wl_all (cI, cJ, cQ) b0)[33]? = some (x_ad b0 b a1 a2 a3 34, xcell (D, x_ad b0 b a1 a2 a3, cI, cJ, cQ) 34 (XM0 n xs 34)) := by
  exact congrArg some (Prod.ext rfl (xao (f := fun _ => 0) (g := fun i => XM0 n xs 34 (i : Int)) (fun i => rfl) cI 4))
theorem wla_35 (D : va_G) (cI cJ cQ : ClassId) (b0 b a1 a2 a3 n : Nat) (xs : Nat → Int32) : (wl_all (cI, cJ, cQ) b0)[34]? = some (x_ad b0 b a1 a2 a3 35, xcell (D, x_ad b0 b a1 a2 a3, cI, cJ, cQ) 35 (XM0 n xs 35)) := by
  exact congrArg some (Prod.ext rfl (xao (f := fun _ => 0) (g := fun i => XM0 n xs 35 (i : Int)) (fun i => rfl) cI 4))
theorem wla_36 (D : va_G) (cI cJ cQ : ClassId) (b0 b a1 a2 a3 n : Nat) (xs : Nat → Int32) : (wl_all (cI, cJ, cQ) b0)[35]? = some (x_ad b0 b a1 a2 a3 36, xcell (D, x_ad b0 b a1 a2 a3, cI, cJ, cQ) 36 (XM0 n xs 36)) := by
  exact congrArg some (Prod.ext rfl (xaoJ (f := fun _ => 0) (g := fun i => XM0 n xs 36 (i : Int)) (fun i => rfl) cJ 12))
theorem wla_37 (D : va_G) (cI cJ cQ : ClassId) (b0 b a1 a2 a3 n : Nat) (xs : Nat → Int32) : (wl_all (cI, cJ, cQ) b0)[36]? = some (x_ad b0 b a1 a2 a3 37, xcell (D, x_ad b0 b a1 a2 a3, cI, cJ, cQ) 37 (XM0 n xs 37)) := by
  exact congrArg some (Prod.ext rfl (xao (f := fun _ => 0) (g := fun i => XM0 n xs 37 (i : Int)) (fun i => rfl) cI 12))
theorem wla_38 (D : va_G) (cI cJ cQ : ClassId) (b0 b a1 a2 a3 n : Nat) (xs : Nat → Int32) : (wl_all (cI, cJ, cQ) b0)[37]? = some (x_ad b0 b a1 a2 a3 38, xcell (D, x_ad b0 b a1 a2 a3, cI, cJ, cQ) 38 (XM0 n xs 38)) := by
  exact congrArg some (Prod.ext rfl (xao (f := fun _ => 0) (g := fun i => XM0 n xs 38 (i : Int)) (fun i => rfl) cI 12))
theorem wla_39 (D : va_G) (cI cJ cQ : ClassId) (b0 b a1 a2 a3 n : Nat) (xs : Nat → Int32) : (wl_all (cI, cJ, cQ) b0)[38]? = some (x_ad b0 b a1 a2 a3 39, xcell (D, x_ad b0 b a1 a2 a3, cI, cJ, cQ) 39 (XM0 n xs 39)) := by
  rfl
theorem wla_40 (D : va_G) (cI cJ cQ : ClassId) (b0 b a1 a2 a3 n : Nat) (xs : Nat → Int32) : (wl_all (cI, cJ, cQ) b0)[39]? = some (x_ad b0 b a1 a2 a3 40, xcell (D, x_ad b0 b a1 a2 a3, cI, cJ, cQ) 40 (XM0 n xs 40)) := by
  exact congrArg some (Prod.ext rfl (xao (f := fun _ => 0) (g := fun i => XM0 n xs 40 (i : Int)) (fun i => rfl) cI 16))
theorem wla_41 (D : va_G) (cI cJ cQ : ClassId) (b0 b a1 a2 a3 n : Nat) (xs : Nat → Int32) : (wl_all (cI, cJ, cQ) b0)[40]? = some (x_ad b0 b a1 a2 a3 41, xcell (D, x_ad b0 b a1 a2 a3, cI, cJ, cQ) 41 (XM0 n xs 41)) := by
  show some (_, _) = some (_, _)
  refine congrArg some (Prod.ext ?_ ?_)
  · rfl
  · refine xaoQ (fun i => ?_) cQ _
    split
    · rename_i h
      show some _ = some (x_ad b0 b a1 a2 a3 (42 + i))
      rw [x_ad_lt (by omega), x_pos_r (by omega) (by omega)]
      exact congrArg some (by omega)
    · rfl
theorem wla_42 (D : va_G) (cI cJ cQ : ClassId) (b0 b a1 a2 a3 n : Nat) (xs : Nat → Int32) : (wl_all (cI, cJ, cQ) b0)[41]? = some (x_ad b0 b a1 a2 a3 42, xcell (D, x_ad b0 b a1 a2 a3, cI, cJ, cQ) 42 (XM0 n xs 42)) := by
  refine congrArg some (Prod.ext rfl (xaoJ (f := fun m => Int64.ofNat (chz 0 m)) (g := fun i => XM0 n xs 42 (i : Int)) (fun i => ?_) cJ 25))
  exact Int64.ofInt_eq_ofNat.symm
theorem wla_43 (D : va_G) (cI cJ cQ : ClassId) (b0 b a1 a2 a3 n : Nat) (xs : Nat → Int32) : (wl_all (cI, cJ, cQ) b0)[42]? = some (x_ad b0 b a1 a2 a3 43, xcell (D, x_ad b0 b a1 a2 a3, cI, cJ, cQ) 43 (XM0 n xs 43)) := by
  refine congrArg some (Prod.ext rfl (xaoJ (f := fun m => Int64.ofNat (chz 1 m)) (g := fun i => XM0 n xs 43 (i : Int)) (fun i => ?_) cJ 25))
  exact Int64.ofInt_eq_ofNat.symm
theorem wla_44 (D : va_G) (cI cJ cQ : ClassId) (b0 b a1 a2 a3 n : Nat) (xs : Nat → Int32) : (wl_all (cI, cJ, cQ) b0)[43]? = some (x_ad b0 b a1 a2 a3 44, xcell (D, x_ad b0 b a1 a2 a3, cI, cJ, cQ) 44 (XM0 n xs 44)) := by
  refine congrArg some (Prod.ext rfl (xaoJ (f := fun m => Int64.ofNat (chz 2 m)) (g := fun i => XM0 n xs 44 (i : Int)) (fun i => ?_) cJ 25))
  exact Int64.ofInt_eq_ofNat.symm
theorem wla_45 (D : va_G) (cI cJ cQ : ClassId) (b0 b a1 a2 a3 n : Nat) (xs : Nat → Int32) : (wl_all (cI, cJ, cQ) b0)[44]? = some (x_ad b0 b a1 a2 a3 45, xcell (D, x_ad b0 b a1 a2 a3, cI, cJ, cQ) 45 (XM0 n xs 45)) := by
  refine congrArg some (Prod.ext rfl (xaoJ (f := fun m => Int64.ofNat (chz 3 m)) (g := fun i => XM0 n xs 45 (i : Int)) (fun i => ?_) cJ 25))
  exact Int64.ofInt_eq_ofNat.symm
theorem wla_46 (D : va_G) (cI cJ cQ : ClassId) (b0 b a1 a2 a3 n : Nat) (xs : Nat → Int32) : (wl_all (cI, cJ, cQ) b0)[45]? = some (x_ad b0 b a1 a2 a3 46, xcell (D, x_ad b0 b a1 a2 a3, cI, cJ, cQ) 46 (XM0 n xs 46)) := by
  refine congrArg some (Prod.ext rfl (xaoJ (f := fun m => Int64.ofNat (chz 4 m)) (g := fun i => XM0 n xs 46 (i : Int)) (fun i => ?_) cJ 25))
  exact Int64.ofInt_eq_ofNat.symm
theorem wla_47 (D : va_G) (cI cJ cQ : ClassId) (b0 b a1 a2 a3 n : Nat) (xs : Nat → Int32) : (wl_all (cI, cJ, cQ) b0)[46]? = some (x_ad b0 b a1 a2 a3 47, xcell (D, x_ad b0 b a1 a2 a3, cI, cJ, cQ) 47 (XM0 n xs 47)) := by
  refine congrArg some (Prod.ext rfl (xaoJ (f := fun m => Int64.ofNat (chz 5 m)) (g := fun i => XM0 n xs 47 (i : Int)) (fun i => ?_) cJ 25))
  exact Int64.ofInt_eq_ofNat.symm
theorem wla_48 (D : va_G) (cI cJ cQ : ClassId) (b0 b a1 a2 a3 n : Nat) (xs : Nat → Int32) : (wl_all (cI, cJ, cQ) b0)[47]? = some (x_ad b0 b a1 a2 a3 48, xcell (D, x_ad b0 b a1 a2 a3, cI, cJ, cQ) 48 (XM0 n xs 48)) := by
  refine congrArg some (Prod.ext rfl (xaoJ (f := fun m => Int64.ofNat (chz 6 m)) (g := fun i => XM0 n xs 48 (i : Int)) (fun i => ?_) cJ 25))
  exact Int64.ofInt_eq_ofNat.symm
theorem wla_49 (D : va_G) (cI cJ cQ : ClassId) (b0 b a1 a2 a3 n : Nat) (xs : Nat → Int32) : (wl_all (cI, cJ, cQ) b0)[48]? = some (x_ad b0 b a1 a2 a3 49, xcell (D, x_ad b0 b a1 a2 a3, cI, cJ, cQ) 49 (XM0 n xs 49)) := by
  refine congrArg some (Prod.ext rfl (xaoJ (f := fun m => Int64.ofNat (chz 7 m)) (g := fun i => XM0 n xs 49 (i : Int)) (fun i => ?_) cJ 25))
  exact Int64.ofInt_eq_ofNat.symm
theorem wla_50 (D : va_G) (cI cJ cQ : ClassId) (b0 b a1 a2 a3 n : Nat) (xs : Nat → Int32) : (wl_all (cI, cJ, cQ) b0)[49]? = some (x_ad b0 b a1 a2 a3 50, xcell (D, x_ad b0 b a1 a2 a3, cI, cJ, cQ) 50 (XM0 n xs 50)) := by
  refine congrArg some (Prod.ext rfl (xaoJ (f := fun m => Int64.ofNat (chz 8 m)) (g := fun i => XM0 n xs 50 (i : Int)) (fun i => ?_) cJ 25))
  exact Int64.ofInt_eq_ofNat.symm
theorem wla_51 (D : va_G) (cI cJ cQ : ClassId) (b0 b a1 a2 a3 n : Nat) (xs : Nat → Int32) : (wl_all (cI, cJ, cQ) b0)[50]? = some (x_ad b0 b a1 a2 a3 51, xcell (D, x_ad b0 b a1 a2 a3, cI, cJ, cQ) 51 (XM0 n xs 51)) := by
  refine congrArg some (Prod.ext rfl (xaoJ (f := fun m => Int64.ofNat (chz 9 m)) (g := fun i => XM0 n xs 51 (i : Int)) (fun i => ?_) cJ 25))
  exact Int64.ofInt_eq_ofNat.symm
theorem wla_52 (D : va_G) (cI cJ cQ : ClassId) (b0 b a1 a2 a3 n : Nat) (xs : Nat → Int32) : (wl_all (cI, cJ, cQ) b0)[51]? = some (x_ad b0 b a1 a2 a3 52, xcell (D, x_ad b0 b a1 a2 a3, cI, cJ, cQ) 52 (XM0 n xs 52)) := by
  refine congrArg some (Prod.ext rfl (xaoJ (f := fun m => Int64.ofNat (chz 10 m)) (g := fun i => XM0 n xs 52 (i : Int)) (fun i => ?_) cJ 25))
  exact Int64.ofInt_eq_ofNat.symm
theorem wla_53 (D : va_G) (cI cJ cQ : ClassId) (b0 b a1 a2 a3 n : Nat) (xs : Nat → Int32) : (wl_all (cI, cJ, cQ) b0)[52]? = some (x_ad b0 b a1 a2 a3 53, xcell (D, x_ad b0 b a1 a2 a3, cI, cJ, cQ) 53 (XM0 n xs 53)) := by
  refine congrArg some (Prod.ext rfl (xaoJ (f := fun m => Int64.ofNat (chz 11 m)) (g := fun i => XM0 n xs 53 (i : Int)) (fun i => ?_) cJ 25))
  exact Int64.ofInt_eq_ofNat.symm
theorem wla_54 (D : va_G) (cI cJ cQ : ClassId) (b0 b a1 a2 a3 n : Nat) (xs : Nat → Int32) : (wl_all (cI, cJ, cQ) b0)[53]? = some (x_ad b0 b a1 a2 a3 54, xcell (D, x_ad b0 b a1 a2 a3, cI, cJ, cQ) 54 (XM0 n xs 54)) := by
  refine congrArg some (Prod.ext rfl (xaoJ (f := fun m => Int64.ofNat (chz 12 m)) (g := fun i => XM0 n xs 54 (i : Int)) (fun i => ?_) cJ 25))
  exact Int64.ofInt_eq_ofNat.symm
theorem wla_55 (D : va_G) (cI cJ cQ : ClassId) (b0 b a1 a2 a3 n : Nat) (xs : Nat → Int32) : (wl_all (cI, cJ, cQ) b0)[54]? = some (x_ad b0 b a1 a2 a3 55, xcell (D, x_ad b0 b a1 a2 a3, cI, cJ, cQ) 55 (XM0 n xs 55)) := by
  refine congrArg some (Prod.ext rfl (xaoJ (f := fun m => Int64.ofNat (chz 13 m)) (g := fun i => XM0 n xs 55 (i : Int)) (fun i => ?_) cJ 25))
  exact Int64.ofInt_eq_ofNat.symm
theorem wla_56 (D : va_G) (cI cJ cQ : ClassId) (b0 b a1 a2 a3 n : Nat) (xs : Nat → Int32) : (wl_all (cI, cJ, cQ) b0)[55]? = some (x_ad b0 b a1 a2 a3 56, xcell (D, x_ad b0 b a1 a2 a3, cI, cJ, cQ) 56 (XM0 n xs 56)) := by
  refine congrArg some (Prod.ext rfl (xaoJ (f := fun m => Int64.ofNat (chz 14 m)) (g := fun i => XM0 n xs 56 (i : Int)) (fun i => ?_) cJ 25))
  exact Int64.ofInt_eq_ofNat.symm
theorem wla_57 (D : va_G) (cI cJ cQ : ClassId) (b0 b a1 a2 a3 n : Nat) (xs : Nat → Int32) : (wl_all (cI, cJ, cQ) b0)[56]? = some (x_ad b0 b a1 a2 a3 57, xcell (D, x_ad b0 b a1 a2 a3, cI, cJ, cQ) 57 (XM0 n xs 57)) := by
  refine congrArg some (Prod.ext rfl (xaoJ (f := fun m => Int64.ofNat (chz 15 m)) (g := fun i => XM0 n xs 57 (i : Int)) (fun i => ?_) cJ 25))
  exact Int64.ofInt_eq_ofNat.symm
theorem wla_58 (D : va_G) (cI cJ cQ : ClassId) (b0 b a1 a2 a3 n : Nat) (xs : Nat → Int32) : (wl_all (cI, cJ, cQ) b0)[57]? = some (x_ad b0 b a1 a2 a3 58, xcell (D, x_ad b0 b a1 a2 a3, cI, cJ, cQ) 58 (XM0 n xs 58)) := by
  refine congrArg some (Prod.ext rfl (xaoJ (f := fun m => Int64.ofNat (chz 16 m)) (g := fun i => XM0 n xs 58 (i : Int)) (fun i => ?_) cJ 25))
  exact Int64.ofInt_eq_ofNat.symm
theorem wla_59 (D : va_G) (cI cJ cQ : ClassId) (b0 b a1 a2 a3 n : Nat) (xs : Nat → Int32) : (wl_all (cI, cJ, cQ) b0)[58]? = some (x_ad b0 b a1 a2 a3 59, xcell (D, x_ad b0 b a1 a2 a3, cI, cJ, cQ) 59 (XM0 n xs 59)) := by
  refine congrArg some (Prod.ext rfl (xaoJ (f := fun m => Int64.ofNat (chz 17 m)) (g := fun i => XM0 n xs 59 (i : Int)) (fun i => ?_) cJ 25))
  exact Int64.ofInt_eq_ofNat.symm
theorem wla_60 (D : va_G) (cI cJ cQ : ClassId) (b0 b a1 a2 a3 n : Nat) (xs : Nat → Int32) : (wl_all (cI, cJ, cQ) b0)[59]? = some (x_ad b0 b a1 a2 a3 60, xcell (D, x_ad b0 b a1 a2 a3, cI, cJ, cQ) 60 (XM0 n xs 60)) := by
  refine congrArg some (Prod.ext rfl (xaoJ (f := fun m => Int64.ofNat (chz 18 m)) (g := fun i => XM0 n xs 60 (i : Int)) (fun i => ?_) cJ 25))
  exact Int64.ofInt_eq_ofNat.symm
theorem wla_61 (D : va_G) (cI cJ cQ : ClassId) (b0 b a1 a2 a3 n : Nat) (xs : Nat → Int32) : (wl_all (cI, cJ, cQ) b0)[60]? = some (x_ad b0 b a1 a2 a3 61, xcell (D, x_ad b0 b a1 a2 a3, cI, cJ, cQ) 61 (XM0 n xs 61)) := by
  refine congrArg some (Prod.ext rfl (xaoJ (f := fun m => Int64.ofNat (chz 19 m)) (g := fun i => XM0 n xs 61 (i : Int)) (fun i => ?_) cJ 25))
  exact Int64.ofInt_eq_ofNat.symm
theorem wla_62 (D : va_G) (cI cJ cQ : ClassId) (b0 b a1 a2 a3 n : Nat) (xs : Nat → Int32) : (wl_all (cI, cJ, cQ) b0)[61]? = some (x_ad b0 b a1 a2 a3 62, xcell (D, x_ad b0 b a1 a2 a3, cI, cJ, cQ) 62 (XM0 n xs 62)) := by
  refine congrArg some (Prod.ext rfl (xaoJ (f := fun m => Int64.ofNat (chz 20 m)) (g := fun i => XM0 n xs 62 (i : Int)) (fun i => ?_) cJ 25))
  exact Int64.ofInt_eq_ofNat.symm
theorem wla_63 (D : va_G) (cI cJ cQ : ClassId) (b0 b a1 a2 a3 n : Nat) (xs : Nat → Int32) : (wl_all (cI, cJ, cQ) b0)[62]? = some (x_ad b0 b a1 a2 a3 63, xcell (D, x_ad b0 b a1 a2 a3, cI, cJ, cQ) 63 (XM0 n xs 63)) := by
  refine congrArg some (Prod.ext rfl (xaoJ (f := fun m => Int64.ofNat (chz 21 m)) (g := fun i => XM0 n xs 63 (i : Int)) (fun i => ?_) cJ 25))
  exact Int64.ofInt_eq_ofNat.symm
theorem wla_64 (D : va_G) (cI cJ cQ : ClassId) (b0 b a1 a2 a3 n : Nat) (xs : Nat → Int32) : (wl_all (cI, cJ, cQ) b0)[63]? = some (x_ad b0 b a1 a2 a3 64, xcell (D, x_ad b0 b a1 a2 a3, cI, cJ, cQ) 64 (XM0 n xs 64)) := by
  refine congrArg some (Prod.ext rfl (xaoJ (f := fun m => Int64.ofNat (chz 22 m)) (g := fun i => XM0 n xs 64 (i : Int)) (fun i => ?_) cJ 25))
  exact Int64.ofInt_eq_ofNat.symm
theorem wla_65 (D : va_G) (cI cJ cQ : ClassId) (b0 b a1 a2 a3 n : Nat) (xs : Nat → Int32) : (wl_all (cI, cJ, cQ) b0)[64]? = some (x_ad b0 b a1 a2 a3 65, xcell (D, x_ad b0 b a1 a2 a3, cI, cJ, cQ) 65 (XM0 n xs 65)) := by
  refine congrArg some (Prod.ext rfl (xaoJ (f := fun m => Int64.ofNat (chz 23 m)) (g := fun i => XM0 n xs 65 (i : Int)) (fun i => ?_) cJ 25))
  exact Int64.ofInt_eq_ofNat.symm
theorem wla_66 (D : va_G) (cI cJ cQ : ClassId) (b0 b a1 a2 a3 n : Nat) (xs : Nat → Int32) : (wl_all (cI, cJ, cQ) b0)[65]? = some (x_ad b0 b a1 a2 a3 66, xcell (D, x_ad b0 b a1 a2 a3, cI, cJ, cQ) 66 (XM0 n xs 66)) := by
  refine congrArg some (Prod.ext rfl (xaoJ (f := fun m => Int64.ofNat (chz 24 m)) (g := fun i => XM0 n xs 66 (i : Int)) (fun i => ?_) cJ 25))
  exact Int64.ofInt_eq_ofNat.symm
theorem wla_67 (D : va_G) (cI cJ cQ : ClassId) (b0 b a1 a2 a3 n : Nat) (xs : Nat → Int32) : (wl_all (cI, cJ, cQ) b0)[66]? = some (x_ad b0 b a1 a2 a3 67, xcell (D, x_ad b0 b a1 a2 a3, cI, cJ, cQ) 67 (XM0 n xs 67)) := by
  rfl
theorem wla_68 (D : va_G) (cI cJ cQ : ClassId) (b0 b a1 a2 a3 n : Nat) (xs : Nat → Int32) : (wl_all (cI, cJ, cQ) b0)[67]? = some (x_ad b0 b a1 a2 a3 68, xcell (D, x_ad b0 b a1 a2 a3, cI, cJ, cQ) 68 (XM0 n xs 68)) := by
  exact congrArg some (Prod.ext rfl (xao (f := fun _ => 0) (g := fun i => XM0 n xs 68 (i : Int)) (fun i => rfl) cI 12))
theorem wla_69 (D : va_G) (cI cJ cQ : ClassId) (b0 b a1 a2 a3 n : Nat) (xs : Nat → Int32) : (wl_all (cI, cJ, cQ) b0)[68]? = some (x_ad b0 b a1 a2 a3 69, xcell (D, x_ad b0 b a1 a2 a3, cI, cJ, cQ) 69 (XM0 n xs 69)) := by
  rfl
theorem wla_70 (D : va_G) (cI cJ cQ : ClassId) (b0 b a1 a2 a3 n : Nat) (xs : Nat → Int32) : (wl_all (cI, cJ, cQ) b0)[69]? = some (x_ad b0 b a1 a2 a3 70, xcell (D, x_ad b0 b a1 a2 a3, cI, cJ, cQ) 70 (XM0 n xs 70)) := by
  exact congrArg some (Prod.ext rfl (xao (f := fun _ => 0) (g := fun i => XM0 n xs 70 (i : Int)) (fun i => rfl) cI 16))
theorem wla_71 (D : va_G) (cI cJ cQ : ClassId) (b0 b a1 a2 a3 n : Nat) (xs : Nat → Int32) : (wl_all (cI, cJ, cQ) b0)[70]? = some (x_ad b0 b a1 a2 a3 71, xcell (D, x_ad b0 b a1 a2 a3, cI, cJ, cQ) 71 (XM0 n xs 71)) := by
  exact congrArg some (Prod.ext rfl (xaoJ (f := fun _ => 0) (g := fun i => XM0 n xs 71 (i : Int)) (fun i => rfl) cJ 16))
theorem wla_72 (D : va_G) (cI cJ cQ : ClassId) (b0 b a1 a2 a3 n : Nat) (xs : Nat → Int32) : (wl_all (cI, cJ, cQ) b0)[71]? = some (x_ad b0 b a1 a2 a3 72, xcell (D, x_ad b0 b a1 a2 a3, cI, cJ, cQ) 72 (XM0 n xs 72)) := by
  exact congrArg some (Prod.ext rfl (xao (f := fun _ => 0) (g := fun i => XM0 n xs 72 (i : Int)) (fun i => rfl) cI 16))
theorem wla_73 (D : va_G) (cI cJ cQ : ClassId) (b0 b a1 a2 a3 n : Nat) (xs : Nat → Int32) : (wl_all (cI, cJ, cQ) b0)[72]? = some (x_ad b0 b a1 a2 a3 73, xcell (D, x_ad b0 b a1 a2 a3, cI, cJ, cQ) 73 (XM0 n xs 73)) := by
  rfl
theorem wla_74 (D : va_G) (cI cJ cQ : ClassId) (b0 b a1 a2 a3 n : Nat) (xs : Nat → Int32) : (wl_all (cI, cJ, cQ) b0)[73]? = some (x_ad b0 b a1 a2 a3 74, xcell (D, x_ad b0 b a1 a2 a3, cI, cJ, cQ) 74 (XM0 n xs 74)) := by
  show some (_, _) = some (_, _)
  refine congrArg some (Prod.ext ?_ ?_)
  · rfl
  · refine xaoQ (fun i => ?_) cQ _
    split
    · rename_i h
      show some _ = some (x_ad b0 b a1 a2 a3 (75 + i))
      rw [x_ad_lt (by omega), x_pos_r (by omega) (by omega)]
      exact congrArg some (by omega)
    · rfl
theorem wla_75 (D : va_G) (cI cJ cQ : ClassId) (b0 b a1 a2 a3 n : Nat) (xs : Nat → Int32) : (wl_all (cI, cJ, cQ) b0)[74]? = some (x_ad b0 b a1 a2 a3 75, xcell (D, x_ad b0 b a1 a2 a3, cI, cJ, cQ) 75 (XM0 n xs 75)) := by
  exact congrArg some (Prod.ext rfl (xaoJ (f := fun _ => 0) (g := fun i => XM0 n xs 75 (i : Int)) (fun i => rfl) cJ 120))
theorem wla_76 (D : va_G) (cI cJ cQ : ClassId) (b0 b a1 a2 a3 n : Nat) (xs : Nat → Int32) : (wl_all (cI, cJ, cQ) b0)[75]? = some (x_ad b0 b a1 a2 a3 76, xcell (D, x_ad b0 b a1 a2 a3, cI, cJ, cQ) 76 (XM0 n xs 76)) := by
  exact congrArg some (Prod.ext rfl (xaoJ (f := fun _ => 0) (g := fun i => XM0 n xs 76 (i : Int)) (fun i => rfl) cJ 120))
theorem wla_77 (D : va_G) (cI cJ cQ : ClassId) (b0 b a1 a2 a3 n : Nat) (xs : Nat → Int32) : (wl_all (cI, cJ, cQ) b0)[76]? = some (x_ad b0 b a1 a2 a3 77, xcell (D, x_ad b0 b a1 a2 a3, cI, cJ, cQ) 77 (XM0 n xs 77)) := by
  exact congrArg some (Prod.ext rfl (xaoJ (f := fun _ => 0) (g := fun i => XM0 n xs 77 (i : Int)) (fun i => rfl) cJ 120))
theorem wla_78 (D : va_G) (cI cJ cQ : ClassId) (b0 b a1 a2 a3 n : Nat) (xs : Nat → Int32) : (wl_all (cI, cJ, cQ) b0)[77]? = some (x_ad b0 b a1 a2 a3 78, xcell (D, x_ad b0 b a1 a2 a3, cI, cJ, cQ) 78 (XM0 n xs 78)) := by
  exact congrArg some (Prod.ext rfl (xaoJ (f := fun _ => 0) (g := fun i => XM0 n xs 78 (i : Int)) (fun i => rfl) cJ 120))
theorem wla_79 (D : va_G) (cI cJ cQ : ClassId) (b0 b a1 a2 a3 n : Nat) (xs : Nat → Int32) : (wl_all (cI, cJ, cQ) b0)[78]? = some (x_ad b0 b a1 a2 a3 79, xcell (D, x_ad b0 b a1 a2 a3, cI, cJ, cQ) 79 (XM0 n xs 79)) := by
  exact congrArg some (Prod.ext rfl (xao (f := fun _ => -1) (g := fun i => XM0 n xs 79 (i : Int)) (fun i => rfl) cI 4))
theorem wla_80 (D : va_G) (cI cJ cQ : ClassId) (b0 b a1 a2 a3 n : Nat) (xs : Nat → Int32) : (wl_all (cI, cJ, cQ) b0)[79]? = some (x_ad b0 b a1 a2 a3 80, xcell (D, x_ad b0 b a1 a2 a3, cI, cJ, cQ) 80 (XM0 n xs 80)) := by
  exact congrArg some (Prod.ext rfl (xao (f := fun _ => 0) (g := fun i => XM0 n xs 80 (i : Int)) (fun i => rfl) cI 4))
theorem wla_81 (D : va_G) (cI cJ cQ : ClassId) (b0 b a1 a2 a3 n : Nat) (xs : Nat → Int32) : (wl_all (cI, cJ, cQ) b0)[81]? = some (x_ad b0 b a1 a2 a3 81, xcell (D, x_ad b0 b a1 a2 a3, cI, cJ, cQ) 81 (XM0 n xs 81)) := by
  rfl
theorem wla_82 (D : va_G) (cI cJ cQ : ClassId) (b0 b a1 a2 a3 n : Nat) (xs : Nat → Int32) : (wl_all (cI, cJ, cQ) b0)[82]? = some (x_ad b0 b a1 a2 a3 82, xcell (D, x_ad b0 b a1 a2 a3, cI, cJ, cQ) 82 (XM0 n xs 82)) := by
  exact congrArg some (Prod.ext rfl (xao (f := fun _ => -1) (g := fun i => XM0 n xs 82 (i : Int)) (fun i => rfl) cI 4))
theorem wla_83 (D : va_G) (cI cJ cQ : ClassId) (b0 b a1 a2 a3 n : Nat) (xs : Nat → Int32) : (wl_all (cI, cJ, cQ) b0)[83]? = some (x_ad b0 b a1 a2 a3 83, xcell (D, x_ad b0 b a1 a2 a3, cI, cJ, cQ) 83 (XM0 n xs 83)) := by
  exact congrArg some (Prod.ext rfl (xao (f := fun _ => 0) (g := fun i => XM0 n xs 83 (i : Int)) (fun i => rfl) cI 4))
theorem wla_84 (D : va_G) (cI cJ cQ : ClassId) (b0 b a1 a2 a3 n : Nat) (xs : Nat → Int32) : (wl_all (cI, cJ, cQ) b0)[84]? = some (x_ad b0 b a1 a2 a3 84, xcell (D, x_ad b0 b a1 a2 a3, cI, cJ, cQ) 84 (XM0 n xs 84)) := by
  exact congrArg some (Prod.ext rfl (xaoJ (f := fun _ => 0) (g := fun i => XM0 n xs 84 (i : Int)) (fun i => rfl) cJ 480))
theorem wla_85 (D : va_G) (cI cJ cQ : ClassId) (b0 b a1 a2 a3 n : Nat) (xs : Nat → Int32) : (wl_all (cI, cJ, cQ) b0)[85]? = some (x_ad b0 b a1 a2 a3 85, xcell (D, x_ad b0 b a1 a2 a3, cI, cJ, cQ) 85 (XM0 n xs 85)) := by
  exact congrArg some (Prod.ext rfl (xaoJ (f := fun _ => 0) (g := fun i => XM0 n xs 85 (i : Int)) (fun i => rfl) cJ 120))
theorem wla_86 (D : va_G) (cI cJ cQ : ClassId) (b0 b a1 a2 a3 n : Nat) (xs : Nat → Int32) : (wl_all (cI, cJ, cQ) b0)[86]? = some (x_ad b0 b a1 a2 a3 86, xcell (D, x_ad b0 b a1 a2 a3, cI, cJ, cQ) 86 (XM0 n xs 86)) := by
  exact congrArg some (Prod.ext rfl (xao (f := fun _ => 0) (g := fun i => XM0 n xs 86 (i : Int)) (fun i => rfl) cI 12))
theorem wla_87 (D : va_G) (cI cJ cQ : ClassId) (b0 b a1 a2 a3 n : Nat) (xs : Nat → Int32) : (wl_all (cI, cJ, cQ) b0)[87]? = some (x_ad b0 b a1 a2 a3 87, xcell (D, x_ad b0 b a1 a2 a3, cI, cJ, cQ) 87 (XM0 n xs 87)) := by
  exact congrArg some (Prod.ext rfl (xao (f := fun _ => 0) (g := fun i => XM0 n xs 87 (i : Int)) (fun i => rfl) cI 24))
theorem wla_88 (D : va_G) (cI cJ cQ : ClassId) (b0 b a1 a2 a3 n : Nat) (xs : Nat → Int32) : (wl_all (cI, cJ, cQ) b0)[88]? = some (x_ad b0 b a1 a2 a3 88, xcell (D, x_ad b0 b a1 a2 a3, cI, cJ, cQ) 88 (XM0 n xs 88)) := by
  exact congrArg some (Prod.ext rfl (xao (f := fun _ => 0) (g := fun i => XM0 n xs 88 (i : Int)) (fun i => rfl) cI 24))
theorem wla_89 (D : va_G) (cI cJ cQ : ClassId) (b0 b a1 a2 a3 n : Nat) (xs : Nat → Int32) : (wl_all (cI, cJ, cQ) b0)[89]? = some (x_ad b0 b a1 a2 a3 89, xcell (D, x_ad b0 b a1 a2 a3, cI, cJ, cQ) 89 (XM0 n xs 89)) := by
  exact congrArg some (Prod.ext rfl (xao (f := fun _ => 0) (g := fun i => XM0 n xs 89 (i : Int)) (fun i => rfl) cI 24))
theorem wla_90 (D : va_G) (cI cJ cQ : ClassId) (b0 b a1 a2 a3 n : Nat) (xs : Nat → Int32) : (wl_all (cI, cJ, cQ) b0)[90]? = some (x_ad b0 b a1 a2 a3 90, xcell (D, x_ad b0 b a1 a2 a3, cI, cJ, cQ) 90 (XM0 n xs 90)) := by
  exact congrArg some (Prod.ext rfl (xao (f := fun _ => 0) (g := fun i => XM0 n xs 90 (i : Int)) (fun i => rfl) cI 16))
theorem wla_91 (D : va_G) (cI cJ cQ : ClassId) (b0 b a1 a2 a3 n : Nat) (xs : Nat → Int32) : (wl_all (cI, cJ, cQ) b0)[91]? = some (x_ad b0 b a1 a2 a3 91, xcell (D, x_ad b0 b a1 a2 a3, cI, cJ, cQ) 91 (XM0 n xs 91)) := by
  exact congrArg some (Prod.ext rfl (xao (f := fun _ => 0) (g := fun i => XM0 n xs 91 (i : Int)) (fun i => rfl) cI 16))
theorem wla_92 (D : va_G) (cI cJ cQ : ClassId) (b0 b a1 a2 a3 n : Nat) (xs : Nat → Int32) : (wl_all (cI, cJ, cQ) b0)[92]? = some (x_ad b0 b a1 a2 a3 92, xcell (D, x_ad b0 b a1 a2 a3, cI, cJ, cQ) 92 (XM0 n xs 92)) := by
  exact congrArg some (Prod.ext rfl (xao (f := fun _ => 0) (g := fun i => XM0 n xs 92 (i : Int)) (fun i => rfl) cI 16))
theorem wla_93 (D : va_G) (cI cJ cQ : ClassId) (b0 b a1 a2 a3 n : Nat) (xs : Nat → Int32) : (wl_all (cI, cJ, cQ) b0)[93]? = some (x_ad b0 b a1 a2 a3 93, xcell (D, x_ad b0 b a1 a2 a3, cI, cJ, cQ) 93 (XM0 n xs 93)) := by
  exact congrArg some (Prod.ext rfl (xao (f := fun _ => 0) (g := fun i => XM0 n xs 93 (i : Int)) (fun i => rfl) cI 16))
theorem wla_94 (D : va_G) (cI cJ cQ : ClassId) (b0 b a1 a2 a3 n : Nat) (xs : Nat → Int32) : (wl_all (cI, cJ, cQ) b0)[94]? = some (x_ad b0 b a1 a2 a3 94, xcell (D, x_ad b0 b a1 a2 a3, cI, cJ, cQ) 94 (XM0 n xs 94)) := by
  exact congrArg some (Prod.ext rfl (xao (f := fun _ => 0) (g := fun i => XM0 n xs 94 (i : Int)) (fun i => rfl) cI 16))
theorem wla_95 (D : va_G) (cI cJ cQ : ClassId) (b0 b a1 a2 a3 n : Nat) (xs : Nat → Int32) : (wl_all (cI, cJ, cQ) b0)[95]? = some (x_ad b0 b a1 a2 a3 95, xcell (D, x_ad b0 b a1 a2 a3, cI, cJ, cQ) 95 (XM0 n xs 95)) := by
  exact congrArg some (Prod.ext rfl (xao (f := fun _ => -1) (g := fun i => XM0 n xs 95 (i : Int)) (fun i => rfl) cI 832))
theorem wla_96 (D : va_G) (cI cJ cQ : ClassId) (b0 b a1 a2 a3 n : Nat) (xs : Nat → Int32) : (wl_all (cI, cJ, cQ) b0)[96]? = some (x_ad b0 b a1 a2 a3 96, xcell (D, x_ad b0 b a1 a2 a3, cI, cJ, cQ) 96 (XM0 n xs 96)) := by
  exact congrArg some (Prod.ext rfl (xao (f := fun _ => 0) (g := fun i => XM0 n xs 96 (i : Int)) (fun i => rfl) cI 150))
theorem wla_97 (D : va_G) (cI cJ cQ : ClassId) (b0 b a1 a2 a3 n : Nat) (xs : Nat → Int32) : (wl_all (cI, cJ, cQ) b0)[97]? = some (x_ad b0 b a1 a2 a3 97, xcell (D, x_ad b0 b a1 a2 a3, cI, cJ, cQ) 97 (XM0 n xs 97)) := by
  exact congrArg some (Prod.ext rfl (xao (f := fun _ => 0) (g := fun i => XM0 n xs 97 (i : Int)) (fun i => rfl) cI 150))
theorem wla_98 (D : va_G) (cI cJ cQ : ClassId) (b0 b a1 a2 a3 n : Nat) (xs : Nat → Int32) : (wl_all (cI, cJ, cQ) b0)[98]? = some (x_ad b0 b a1 a2 a3 98, xcell (D, x_ad b0 b a1 a2 a3, cI, cJ, cQ) 98 (XM0 n xs 98)) := by
  exact congrArg some (Prod.ext rfl (xao (f := fun _ => 0) (g := fun i => XM0 n xs 98 (i : Int)) (fun i => rfl) cI 150))
theorem wla_99 (D : va_G) (cI cJ cQ : ClassId) (b0 b a1 a2 a3 n : Nat) (xs : Nat → Int32) : (wl_all (cI, cJ, cQ) b0)[99]? = some (x_ad b0 b a1 a2 a3 99, xcell (D, x_ad b0 b a1 a2 a3, cI, cJ, cQ) 99 (XM0 n xs 99)) := by
  exact congrArg some (Prod.ext rfl (xao (f := fun _ => 0) (g := fun i => XM0 n xs 99 (i : Int)) (fun i => rfl) cI 150))
theorem wla_100 (D : va_G) (cI cJ cQ : ClassId) (b0 b a1 a2 a3 n : Nat) (xs : Nat → Int32) : (wl_all (cI, cJ, cQ) b0)[100]? = some (x_ad b0 b a1 a2 a3 100, xcell (D, x_ad b0 b a1 a2 a3, cI, cJ, cQ) 100 (XM0 n xs 100)) := by
  exact congrArg some (Prod.ext rfl (xao (f := fun _ => 0) (g := fun i => XM0 n xs 100 (i : Int)) (fun i => rfl) cI 150))
theorem wla_101 (D : va_G) (cI cJ cQ : ClassId) (b0 b a1 a2 a3 n : Nat) (xs : Nat → Int32) : (wl_all (cI, cJ, cQ) b0)[101]? = some (x_ad b0 b a1 a2 a3 101, xcell (D, x_ad b0 b a1 a2 a3, cI, cJ, cQ) 101 (XM0 n xs 101)) := by
  exact congrArg some (Prod.ext rfl (xao (f := fun _ => 0) (g := fun i => XM0 n xs 101 (i : Int)) (fun i => rfl) cI 150))
theorem wla_102 (D : va_G) (cI cJ cQ : ClassId) (b0 b a1 a2 a3 n : Nat) (xs : Nat → Int32) : (wl_all (cI, cJ, cQ) b0)[102]? = some (x_ad b0 b a1 a2 a3 102, xcell (D, x_ad b0 b a1 a2 a3, cI, cJ, cQ) 102 (XM0 n xs 102)) := by
  exact congrArg some (Prod.ext rfl (xao (f := fun _ => 0) (g := fun i => XM0 n xs 102 (i : Int)) (fun i => rfl) cI 150))
theorem wla_103 (D : va_G) (cI cJ cQ : ClassId) (b0 b a1 a2 a3 n : Nat) (xs : Nat → Int32) : (wl_all (cI, cJ, cQ) b0)[103]? = some (x_ad b0 b a1 a2 a3 103, xcell (D, x_ad b0 b a1 a2 a3, cI, cJ, cQ) 103 (XM0 n xs 103)) := by
  exact congrArg some (Prod.ext rfl (xao (f := fun _ => 0) (g := fun i => XM0 n xs 103 (i : Int)) (fun i => rfl) cI 150))
theorem wla_104 (D : va_G) (cI cJ cQ : ClassId) (b0 b a1 a2 a3 n : Nat) (xs : Nat → Int32) : (wl_all (cI, cJ, cQ) b0)[104]? = some (x_ad b0 b a1 a2 a3 104, xcell (D, x_ad b0 b a1 a2 a3, cI, cJ, cQ) 104 (XM0 n xs 104)) := by
  exact congrArg some (Prod.ext rfl (xao (f := fun _ => 0) (g := fun i => XM0 n xs 104 (i : Int)) (fun i => rfl) cI 200))
theorem wla_105 (D : va_G) (cI cJ cQ : ClassId) (b0 b a1 a2 a3 n : Nat) (xs : Nat → Int32) : (wl_all (cI, cJ, cQ) b0)[105]? = some (x_ad b0 b a1 a2 a3 105, xcell (D, x_ad b0 b a1 a2 a3, cI, cJ, cQ) 105 (XM0 n xs 105)) := by
  exact congrArg some (Prod.ext rfl (xao (f := fun _ => 0) (g := fun i => XM0 n xs 105 (i : Int)) (fun i => rfl) cI 70))
theorem wla_106 (D : va_G) (cI cJ cQ : ClassId) (b0 b a1 a2 a3 n : Nat) (xs : Nat → Int32) : (wl_all (cI, cJ, cQ) b0)[106]? = some (x_ad b0 b a1 a2 a3 106, xcell (D, x_ad b0 b a1 a2 a3, cI, cJ, cQ) 106 (XM0 n xs 106)) := by
  exact congrArg some (Prod.ext rfl (xao (f := fun _ => 0) (g := fun i => XM0 n xs 106 (i : Int)) (fun i => rfl) cI 70))
theorem wla_107 (D : va_G) (cI cJ cQ : ClassId) (b0 b a1 a2 a3 n : Nat) (xs : Nat → Int32) : (wl_all (cI, cJ, cQ) b0)[107]? = some (x_ad b0 b a1 a2 a3 107, xcell (D, x_ad b0 b a1 a2 a3, cI, cJ, cQ) 107 (XM0 n xs 107)) := by
  exact congrArg some (Prod.ext rfl (xao (f := fun _ => 0) (g := fun i => XM0 n xs 107 (i : Int)) (fun i => rfl) cI 70))
theorem wla_108 (D : va_G) (cI cJ cQ : ClassId) (b0 b a1 a2 a3 n : Nat) (xs : Nat → Int32) : (wl_all (cI, cJ, cQ) b0)[108]? = some (x_ad b0 b a1 a2 a3 108, xcell (D, x_ad b0 b a1 a2 a3, cI, cJ, cQ) 108 (XM0 n xs 108)) := by
  exact congrArg some (Prod.ext rfl (xaoJ (f := fun _ => 0) (g := fun i => XM0 n xs 108 (i : Int)) (fun i => rfl) cJ 384))
theorem wla_109 (D : va_G) (cI cJ cQ : ClassId) (b0 b a1 a2 a3 n : Nat) (xs : Nat → Int32) : (wl_all (cI, cJ, cQ) b0)[109]? = some (x_ad b0 b a1 a2 a3 109, xcell (D, x_ad b0 b a1 a2 a3, cI, cJ, cQ) 109 (XM0 n xs 109)) := by
  exact congrArg some (Prod.ext rfl (xaoJ (f := fun _ => 0) (g := fun i => XM0 n xs 109 (i : Int)) (fun i => rfl) cJ 384))
theorem wla_110 (D : va_G) (cI cJ cQ : ClassId) (b0 b a1 a2 a3 n : Nat) (xs : Nat → Int32) : (wl_all (cI, cJ, cQ) b0)[110]? = some (x_ad b0 b a1 a2 a3 110, xcell (D, x_ad b0 b a1 a2 a3, cI, cJ, cQ) 110 (XM0 n xs 110)) := by
  exact congrArg some (Prod.ext rfl (xao (f := fun _ => 0) (g := fun i => XM0 n xs 110 (i : Int)) (fun i => rfl) cI 4))
theorem wla_111 (D : va_G) (cI cJ cQ : ClassId) (b0 b a1 a2 a3 n : Nat) (xs : Nat → Int32) : (wl_all (cI, cJ, cQ) b0)[111]? = some (x_ad b0 b a1 a2 a3 111, xcell (D, x_ad b0 b a1 a2 a3, cI, cJ, cQ) 111 (XM0 n xs 111)) := by
  exact congrArg some (Prod.ext rfl (xao (f := fun _ => 0) (g := fun i => XM0 n xs 111 (i : Int)) (fun i => rfl) cI 4))
theorem wla_112 (D : va_G) (cI cJ cQ : ClassId) (b0 b a1 a2 a3 n : Nat) (xs : Nat → Int32) : (wl_all (cI, cJ, cQ) b0)[112]? = some (x_ad b0 b a1 a2 a3 112, xcell (D, x_ad b0 b a1 a2 a3, cI, cJ, cQ) 112 (XM0 n xs 112)) := by
  exact congrArg some (Prod.ext rfl (xao (f := fun _ => 0) (g := fun i => XM0 n xs 112 (i : Int)) (fun i => rfl) cI 16))
theorem wla_113 (D : va_G) (cI cJ cQ : ClassId) (b0 b a1 a2 a3 n : Nat) (xs : Nat → Int32) : (wl_all (cI, cJ, cQ) b0)[113]? = some (x_ad b0 b a1 a2 a3 113, xcell (D, x_ad b0 b a1 a2 a3, cI, cJ, cQ) 113 (XM0 n xs 113)) := by
  exact congrArg some (Prod.ext rfl (xaoJ (f := fun _ => 0) (g := fun i => XM0 n xs 113 (i : Int)) (fun i => rfl) cJ 12))
theorem wla_114 (D : va_G) (cI cJ cQ : ClassId) (b0 b a1 a2 a3 n : Nat) (xs : Nat → Int32) : (wl_all (cI, cJ, cQ) b0)[114]? = some (x_ad b0 b a1 a2 a3 114, xcell (D, x_ad b0 b a1 a2 a3, cI, cJ, cQ) 114 (XM0 n xs 114)) := by
  exact congrArg some (Prod.ext rfl (xaoJ (f := fun _ => 0) (g := fun i => XM0 n xs 114 (i : Int)) (fun i => rfl) cJ 12))
theorem wla_115 (D : va_G) (cI cJ cQ : ClassId) (b0 b a1 a2 a3 n : Nat) (xs : Nat → Int32) : (wl_all (cI, cJ, cQ) b0)[115]? = some (x_ad b0 b a1 a2 a3 115, xcell (D, x_ad b0 b a1 a2 a3, cI, cJ, cQ) 115 (XM0 n xs 115)) := by
  exact congrArg some (Prod.ext rfl (xaoJ (f := fun _ => 0) (g := fun i => XM0 n xs 115 (i : Int)) (fun i => rfl) cJ 48))
theorem wla_116 (D : va_G) (cI cJ cQ : ClassId) (b0 b a1 a2 a3 n : Nat) (xs : Nat → Int32) : (wl_all (cI, cJ, cQ) b0)[116]? = some (x_ad b0 b a1 a2 a3 116, xcell (D, x_ad b0 b a1 a2 a3, cI, cJ, cQ) 116 (XM0 n xs 116)) := by
  exact congrArg some (Prod.ext rfl (xao (f := fun _ => 0) (g := fun i => XM0 n xs 116 (i : Int)) (fun i => rfl) cI 12))
theorem wla_117 (D : va_G) (cI cJ cQ : ClassId) (b0 b a1 a2 a3 n : Nat) (xs : Nat → Int32) : (wl_all (cI, cJ, cQ) b0)[117]? = some (x_ad b0 b a1 a2 a3 117, xcell (D, x_ad b0 b a1 a2 a3, cI, cJ, cQ) 117 (XM0 n xs 117)) := by
  exact congrArg some (Prod.ext rfl (xao (f := fun _ => 0) (g := fun i => XM0 n xs 117 (i : Int)) (fun i => rfl) cI 12))
theorem wla_118 (D : va_G) (cI cJ cQ : ClassId) (b0 b a1 a2 a3 n : Nat) (xs : Nat → Int32) : (wl_all (cI, cJ, cQ) b0)[118]? = some (x_ad b0 b a1 a2 a3 118, xcell (D, x_ad b0 b a1 a2 a3, cI, cJ, cQ) 118 (XM0 n xs 118)) := by
  exact congrArg some (Prod.ext rfl (xao (f := fun _ => 0) (g := fun i => XM0 n xs 118 (i : Int)) (fun i => rfl) cI 150))
theorem wla_119 (D : va_G) (cI cJ cQ : ClassId) (b0 b a1 a2 a3 n : Nat) (xs : Nat → Int32) : (wl_all (cI, cJ, cQ) b0)[119]? = some (x_ad b0 b a1 a2 a3 119, xcell (D, x_ad b0 b a1 a2 a3, cI, cJ, cQ) 119 (XM0 n xs 119)) := by
  exact congrArg some (Prod.ext rfl (xao (f := fun _ => 0) (g := fun i => XM0 n xs 119 (i : Int)) (fun i => rfl) cI 12))
theorem wla (D : va_G) (cI cJ cQ : ClassId) (b0 b a1 a2 a3 n : Nat) (xs : Nat → Int32) (k : Nat) (hk : k < 120) : (wl_all (cI, cJ, cQ) b0)[x_pos k]? = some (x_ad b0 b a1 a2 a3 k, xcell (D, x_ad b0 b a1 a2 a3, cI, cJ, cQ) k (XM0 n xs k)) :=
  match k, hk with
  | 0, _ => wla_0 D cI cJ cQ b0 b a1 a2 a3 n xs
  | 1, _ => wla_1 D cI cJ cQ b0 b a1 a2 a3 n xs
  | 2, _ => wla_2 D cI cJ cQ b0 b a1 a2 a3 n xs
  | 3, _ => wla_3 D cI cJ cQ b0 b a1 a2 a3 n xs
  | 4, _ => wla_4 D cI cJ cQ b0 b a1 a2 a3 n xs
  | 5, _ => wla_5 D cI cJ cQ b0 b a1 a2 a3 n xs
  | 6, _ => wla_6 D cI cJ cQ b0 b a1 a2 a3 n xs
  | 7, _ => wla_7 D cI cJ cQ b0 b a1 a2 a3 n xs
  | 8, _ => wla_8 D cI cJ cQ b0 b a1 a2 a3 n xs
  | 9, _ => wla_9 D cI cJ cQ b0 b a1 a2 a3 n xs
  | 10, _ => wla_10 D cI cJ cQ b0 b a1 a2 a3 n xs
  | 11, _ => wla_11 D cI cJ cQ b0 b a1 a2 a3 n xs
  | 12, _ => wla_12 D cI cJ cQ b0 b a1 a2 a3 n xs
  | 13, _ => wla_13 D cI cJ cQ b0 b a1 a2 a3 n xs
  | 14, _ => wla_14 D cI cJ cQ b0 b a1 a2 a3 n xs
  | 15, _ => wla_15 D cI cJ cQ b0 b a1 a2 a3 n xs
  | 16, _ => wla_16 D cI cJ cQ b0 b a1 a2 a3 n xs
  | 17, _ => wla_17 D cI cJ cQ b0 b a1 a2 a3 n xs
  | 18, _ => wla_18 D cI cJ cQ b0 b a1 a2 a3 n xs
  | 19, _ => wla_19 D cI cJ cQ b0 b a1 a2 a3 n xs
  | 20, _ => wla_20 D cI cJ cQ b0 b a1 a2 a3 n xs
  | 21, _ => wla_21 D cI cJ cQ b0 b a1 a2 a3 n xs
  | 22, _ => wla_22 D cI cJ cQ b0 b a1 a2 a3 n xs
  | 23, _ => wla_23 D cI cJ cQ b0 b a1 a2 a3 n xs
  | 24, _ => wla_24 D cI cJ cQ b0 b a1 a2 a3 n xs
  | 25, _ => wla_25 D cI cJ cQ b0 b a1 a2 a3 n xs
  | 26, _ => wla_26 D cI cJ cQ b0 b a1 a2 a3 n xs
  | 27, _ => wla_27 D cI cJ cQ b0 b a1 a2 a3 n xs
  | 28, _ => wla_28 D cI cJ cQ b0 b a1 a2 a3 n xs
  | 29, _ => wla_29 D cI cJ cQ b0 b a1 a2 a3 n xs
  | 30, _ => wla_30 D cI cJ cQ b0 b a1 a2 a3 n xs
  | 31, _ => wla_31 D cI cJ cQ b0 b a1 a2 a3 n xs
  | 32, _ => wla_32 D cI cJ cQ b0 b a1 a2 a3 n xs
  | 33, _ => wla_33 D cI cJ cQ b0 b a1 a2 a3 n xs
  | 34, _ => wla_34 D cI cJ cQ b0 b a1 a2 a3 n xs
  | 35, _ => wla_35 D cI cJ cQ b0 b a1 a2 a3 n xs
  | 36, _ => wla_36 D cI cJ cQ b0 b a1 a2 a3 n xs
  | 37, _ => wla_37 D cI cJ cQ b0 b a1 a2 a3 n xs
  | 38, _ => wla_38 D cI cJ cQ b0 b a1 a2 a3 n xs
  | 39, _ => wla_39 D cI cJ cQ b0 b a1 a2 a3 n xs
  | 40, _ => wla_40 D cI cJ cQ b0 b a1 a2 a3 n xs
  | 41, _ => wla_41 D cI cJ cQ b0 b a1 a2 a3 n xs
  | 42, _ => wla_42 D cI cJ cQ b0 b a1 a2 a3 n xs
  | 43, _ => wla_43 D cI cJ cQ b0 b a1 a2 a3 n xs
  | 44, _ => wla_44 D cI cJ cQ b0 b a1 a2 a3 n xs
  | 45, _ => wla_45 D cI cJ cQ b0 b a1 a2 a3 n xs
  | 46, _ => wla_46 D cI cJ cQ b0 b a1 a2 a3 n xs
  | 47, _ => wla_47 D cI cJ cQ b0 b a1 a2 a3 n xs
  | 48, _ => wla_48 D cI cJ cQ b0 b a1 a2 a3 n xs
  | 49, _ => wla_49 D cI cJ cQ b0 b a1 a2 a3 n xs
  | 50, _ => wla_50 D cI cJ cQ b0 b a1 a2 a3 n xs
  | 51, _ => wla_51 D cI cJ cQ b0 b a1 a2 a3 n xs
  | 52, _ => wla_52 D cI cJ cQ b0 b a1 a2 a3 n xs
  | 53, _ => wla_53 D cI cJ cQ b0 b a1 a2 a3 n xs
  | 54, _ => wla_54 D cI cJ cQ b0 b a1 a2 a3 n xs
  | 55, _ => wla_55 D cI cJ cQ b0 b a1 a2 a3 n xs
  | 56, _ => wla_56 D cI cJ cQ b0 b a1 a2 a3 n xs
  | 57, _ => wla_57 D cI cJ cQ b0 b a1 a2 a3 n xs
  | 58, _ => wla_58 D cI cJ cQ b0 b a1 a2 a3 n xs
  | 59, _ => wla_59 D cI cJ cQ b0 b a1 a2 a3 n xs
  | 60, _ => wla_60 D cI cJ cQ b0 b a1 a2 a3 n xs
  | 61, _ => wla_61 D cI cJ cQ b0 b a1 a2 a3 n xs
  | 62, _ => wla_62 D cI cJ cQ b0 b a1 a2 a3 n xs
  | 63, _ => wla_63 D cI cJ cQ b0 b a1 a2 a3 n xs
  | 64, _ => wla_64 D cI cJ cQ b0 b a1 a2 a3 n xs
  | 65, _ => wla_65 D cI cJ cQ b0 b a1 a2 a3 n xs
  | 66, _ => wla_66 D cI cJ cQ b0 b a1 a2 a3 n xs
  | 67, _ => wla_67 D cI cJ cQ b0 b a1 a2 a3 n xs
  | 68, _ => wla_68 D cI cJ cQ b0 b a1 a2 a3 n xs
  | 69, _ => wla_69 D cI cJ cQ b0 b a1 a2 a3 n xs
  | 70, _ => wla_70 D cI cJ cQ b0 b a1 a2 a3 n xs
  | 71, _ => wla_71 D cI cJ cQ b0 b a1 a2 a3 n xs
  | 72, _ => wla_72 D cI cJ cQ b0 b a1 a2 a3 n xs
  | 73, _ => wla_73 D cI cJ cQ b0 b a1 a2 a3 n xs
  | 74, _ => wla_74 D cI cJ cQ b0 b a1 a2 a3 n xs
  | 75, _ => wla_75 D cI cJ cQ b0 b a1 a2 a3 n xs
  | 76, _ => wla_76 D cI cJ cQ b0 b a1 a2 a3 n xs
  | 77, _ => wla_77 D cI cJ cQ b0 b a1 a2 a3 n xs
  | 78, _ => wla_78 D cI cJ cQ b0 b a1 a2 a3 n xs
  | 79, _ => wla_79 D cI cJ cQ b0 b a1 a2 a3 n xs
  | 80, _ => wla_80 D cI cJ cQ b0 b a1 a2 a3 n xs
  | 81, _ => wla_81 D cI cJ cQ b0 b a1 a2 a3 n xs
  | 82, _ => wla_82 D cI cJ cQ b0 b a1 a2 a3 n xs
  | 83, _ => wla_83 D cI cJ cQ b0 b a1 a2 a3 n xs
  | 84, _ => wla_84 D cI cJ cQ b0 b a1 a2 a3 n xs
  | 85, _ => wla_85 D cI cJ cQ b0 b a1 a2 a3 n xs
  | 86, _ => wla_86 D cI cJ cQ b0 b a1 a2 a3 n xs
  | 87, _ => wla_87 D cI cJ cQ b0 b a1 a2 a3 n xs
  | 88, _ => wla_88 D cI cJ cQ b0 b a1 a2 a3 n xs
  | 89, _ => wla_89 D cI cJ cQ b0 b a1 a2 a3 n xs
  | 90, _ => wla_90 D cI cJ cQ b0 b a1 a2 a3 n xs
  | 91, _ => wla_91 D cI cJ cQ b0 b a1 a2 a3 n xs
  | 92, _ => wla_92 D cI cJ cQ b0 b a1 a2 a3 n xs
  | 93, _ => wla_93 D cI cJ cQ b0 b a1 a2 a3 n xs
  | 94, _ => wla_94 D cI cJ cQ b0 b a1 a2 a3 n xs
  | 95, _ => wla_95 D cI cJ cQ b0 b a1 a2 a3 n xs
  | 96, _ => wla_96 D cI cJ cQ b0 b a1 a2 a3 n xs
  | 97, _ => wla_97 D cI cJ cQ b0 b a1 a2 a3 n xs
  | 98, _ => wla_98 D cI cJ cQ b0 b a1 a2 a3 n xs
  | 99, _ => wla_99 D cI cJ cQ b0 b a1 a2 a3 n xs
  | 100, _ => wla_100 D cI cJ cQ b0 b a1 a2 a3 n xs
  | 101, _ => wla_101 D cI cJ cQ b0 b a1 a2 a3 n xs
  | 102, _ => wla_102 D cI cJ cQ b0 b a1 a2 a3 n xs
  | 103, _ => wla_103 D cI cJ cQ b0 b a1 a2 a3 n xs
  | 104, _ => wla_104 D cI cJ cQ b0 b a1 a2 a3 n xs
  | 105, _ => wla_105 D cI cJ cQ b0 b a1 a2 a3 n xs
  | 106, _ => wla_106 D cI cJ cQ b0 b a1 a2 a3 n xs
  | 107, _ => wla_107 D cI cJ cQ b0 b a1 a2 a3 n xs
  | 108, _ => wla_108 D cI cJ cQ b0 b a1 a2 a3 n xs
  | 109, _ => wla_109 D cI cJ cQ b0 b a1 a2 a3 n xs
  | 110, _ => wla_110 D cI cJ cQ b0 b a1 a2 a3 n xs
  | 111, _ => wla_111 D cI cJ cQ b0 b a1 a2 a3 n xs
  | 112, _ => wla_112 D cI cJ cQ b0 b a1 a2 a3 n xs
  | 113, _ => wla_113 D cI cJ cQ b0 b a1 a2 a3 n xs
  | 114, _ => wla_114 D cI cJ cQ b0 b a1 a2 a3 n xs
  | 115, _ => wla_115 D cI cJ cQ b0 b a1 a2 a3 n xs
  | 116, _ => wla_116 D cI cJ cQ b0 b a1 a2 a3 n xs
  | 117, _ => wla_117 D cI cJ cQ b0 b a1 a2 a3 n xs
  | 118, _ => wla_118 D cI cJ cQ b0 b a1 a2 a3 n xs
  | 119, _ => wla_119 D cI cJ cQ b0 b a1 a2 a3 n xs
  | q + 120, h => absurd h (by omega)
