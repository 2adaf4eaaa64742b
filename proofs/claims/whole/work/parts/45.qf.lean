/-! the cells at the start -/
theorem XM0_ZC (n : Nat) (xs : Nat → Int32) : ZC (XM0 n xs) := by
  refine ⟨⟨⟨fun i h0 h1 => ?_, fun i h0 h1 => ?_⟩, fun i h0 h1 => ?_⟩, fun a m ha hm => ?_⟩
  · show (if i = 0 then (1 : Int) else 0) = loOf i
    rfl
  · show (if i = 0 then (9999 : Int) else if i = 1 then 1 else if i ≤ 3 then 51 else if i ≤ 5 then 167 else if i ≤ 13 then 500 else 2) = hiOf i
    unfold hiOf
    repeat' split
    all_goals omega
  · show (if i = 0 then (100 : Int) else if i = 1 then 1 else if i = 2 then 0 else if i = 3 then 51 else if i = 4 then 0 else if i = 5 then 167 else if i ≤ 13 then 100 else 0) = usual i
    unfold usual
    repeat' split
    all_goals omega
  · unfold XM0
    rw [if_neg (by omega), if_neg (by omega), if_neg (by omega), if_neg (by omega), if_neg (by omega), if_neg (by omega), if_pos (by omega)]
    rw [show 42 + a - 42 = a by omega, Int.toNat_natCast]
theorem emptiesTo_none {e : Int → Int} (h : ∀ j, e j = -1) : ∀ n : Nat, emptiesTo e n = 0
  | 0 => rfl
  | n + 1 => by
    show emptiesTo e n + (if e (n : Int) = -1 then 0 else 1) = 0
    rw [emptiesTo_none h n, if_pos (h _)]
    rfl
theorem XM0_z (n : Nat) (xs : Nat → Int32) (k : Nat) (h : k ≠ 12 ∧ k ≠ 79 ∧ k ≠ 82 ∧ k ≠ 95 ∧ k ≠ 13 ∧ k ≠ 81) (h2 : k < 42 ∨ 67 ≤ k) (h3 : k < 1000) : XM0 n xs k = fun _ => 0 := by
  funext j
  unfold XM0
  rw [if_neg h.1, if_neg h.2.1, if_neg h.2.2.1, if_neg h.2.2.2.1, if_neg h.2.2.2.2.1, if_neg h.2.2.2.2.2, if_neg (by omega), if_neg (by omega), if_neg (by omega), if_neg (by omega), if_neg (by omega)]
theorem XM0_DCt (n : Nat) (xs : Nat → Int32) : DCt (XM0 n xs) (XM0 n xs) := by
  have z := XM0_z n xs
  have e81 : ∀ j, j ≠ 18 → j ≠ 28 → j ≠ 29 → XM0 n xs 81 j = 0 := fun j a b c => by
    have e : XM0 n xs 81 j = if j = 18 then 51 else if j = 28 then (-1) else if j = 29 then (-1) else 0 := rfl
    rw [e, if_neg a, if_neg b, if_neg c]
  unfold DCt
  generalize hE : emptiesTo = E
  rw [z 2 (by decide) (by decide) (by decide), z 3 (by decide) (by decide) (by decide), z 86 (by decide) (by decide) (by decide), z 4 (by decide) (by decide) (by decide), z 87 (by decide) (by decide) (by decide), z 5 (by decide) (by decide) (by decide), z 88 (by decide) (by decide) (by decide), z 6 (by decide) (by decide) (by decide), z 89 (by decide) (by decide) (by decide), z 7 (by decide) (by decide) (by decide), z 90 (by decide) (by decide) (by decide), z 8 (by decide) (by decide) (by decide), z 91 (by decide) (by decide) (by decide), z 9 (by decide) (by decide) (by decide), z 92 (by decide) (by decide) (by decide), z 10 (by decide) (by decide) (by decide), z 93 (by decide) (by decide) (by decide), z 11 (by decide) (by decide) (by decide), z 94 (by decide) (by decide) (by decide)]
  rw [e81 5 (by decide) (by decide) (by decide), e81 7 (by decide) (by decide) (by decide), e81 11 (by decide) (by decide) (by decide)]
  subst hE
  refine ⟨rfl, rfl, rfl, rfl, rfl, rfl, rfl, rfl, rfl, rfl, rfl, rfl, ?_, ?_⟩
  · funext j; exact (rfl : XM0 n xs 12 j = -1).trans (rfl : XM0 n xs 95 j = -1).symm
  · exact (emptiesTo_none (e := XM0 n xs 95) (fun j => (rfl : XM0 n xs 95 j = -1)) 832).symm
theorem XM0_DCl (n : Nat) (xs : Nat → Int32) : DCl (XM0 n xs) (XM0 n xs) := by
  have z := XM0_z n xs
  unfold DCl
  rw [z 14 (by decide) (by decide) (by decide), z 15 (by decide) (by decide) (by decide), z 16 (by decide) (by decide) (by decide), z 17 (by decide) (by decide) (by decide), z 18 (by decide) (by decide) (by decide), z 19 (by decide) (by decide) (by decide), z 20 (by decide) (by decide) (by decide), z 21 (by decide) (by decide) (by decide)]
  rw [z 96 (by decide) (by decide) (by decide), z 97 (by decide) (by decide) (by decide), z 98 (by decide) (by decide) (by decide), z 99 (by decide) (by decide) (by decide), z 100 (by decide) (by decide) (by decide), z 101 (by decide) (by decide) (by decide), z 102 (by decide) (by decide) (by decide), z 103 (by decide) (by decide) (by decide)]
  have a0 : XM0 n xs 13 0 = 0 := rfl
  have a1 : XM0 n xs 13 1 = 51 := rfl
  have a2 : XM0 n xs 13 2 = -1 := rfl
  have b0 : XM0 n xs 81 19 = 0 := rfl
  have b1 : XM0 n xs 81 18 = 51 := rfl
  have b2 : XM0 n xs 81 28 = -1 := rfl
  exact ⟨a0.trans b0.symm, a1.trans b1.symm, a2.trans b2.symm, rfl, rfl, rfl, rfl, rfl, rfl, rfl, rfl⟩
theorem XM0_Inv (n : Nat) (xs : Nat → Int32) : Inv (XM0 n xs) (XM0 n xs) := by
  have c81 : ∀ j, XM0 n xs 81 j = if j = 18 then 51 else if j = 28 then (-1) else if j = 29 then (-1) else 0 := fun _ => rfl
  have c13 : ∀ j, XM0 n xs 13 j = if j = 1 then 51 else if j = 2 then (-1) else 0 := fun _ => rfl
  have c95 : ∀ j, XM0 n xs 95 j = -1 := fun _ => rfl
  have c82 : ∀ j, XM0 n xs 82 j = -1 := fun _ => rfl
  have c83 : ∀ j, XM0 n xs 83 j = 0 := fun _ => rfl
  have c79 : ∀ j, XM0 n xs 79 j = -1 := fun _ => rfl
  have c22 : ∀ j, XM0 n xs 22 j = 0 := fun _ => rfl
  have s3 : XM0 n xs 73 3 = 0 := rfl
  have s4 : XM0 n xs 81 4 = 0 := rfl
  have w1 : XM0 n xs 81 28 = -1 := rfl
  have w2 : XM0 n xs 81 29 = -1 := rfl
  have t5 : XM0 n xs 81 5 = 0 := rfl
  have t7 : XM0 n xs 81 7 = 0 := rfl
  have t11 : XM0 n xs 81 11 = 0 := rfl
  have t19 : XM0 n xs 81 19 = 0 := rfl
  have t18 : XM0 n xs 81 18 = 51 := rfl
  have t31 : XM0 n xs 81 31 = 0 := rfl
  refine ⟨XM0_DCt n xs, XM0_DCl n xs, ⟨s3.trans s4.symm, ?_⟩, ⟨by omega, by omega, by omega, ?_, ?_, ?_⟩, ⟨by omega, by omega, ?_⟩, fun _ _ => rfl, w1, w2, ?_⟩
  · intro q h0 h3
    refine Or.inl ⟨c82 q, c79 q, ?_, ?_⟩
    · rw [c83]; omega
    · rw [c83]; omega
  · intro t h0 h1; omega
  · intro t h0 h1; omega
  · intro t h0 h1; omega
  · intro t h0 h1; omega
  · unfold DCr Rpt
    simp only [c22, t31]
    have hp : pp (bt (XM0 n xs 104) 0) 0 = (0, 0, 0, 0, 0) := by
      have hb : bt (XM0 n xs 104) 0 0 = -1 := if_neg (by omega)
      unfold pp
      rw [hb]
      rfl
    refine ⟨by trivial, by first | trivial | omega, by first | trivial | omega, fun i h0 h1 => by omega, by first | trivial | omega, by first | trivial | omega, by first | trivial | omega, ⟨fun _ => 0, rfl, rfl, fun k h0 h1 => by omega⟩, Or.inr ⟨by first | trivial | omega, Or.inl ?_⟩⟩
    rw [hp]
