/-! ===== the maths: what the F_ say, in numbers ===== -/
theorem st_fn (M : XM) (k : Nat) (j v : Int) (a : Nat) : st M k j v a = if a = k then (fun b => if b = j then v else M k b) else M a := by
  unfold st
  by_cases h : a = k
  · rw [if_pos h]
  · rw [if_neg h]
theorem sl_ap (L : XL) (i : Nat) (v : Int) (a : Nat) : sl L i v a = if a = i then v else L a := rfl
theorem iAdd_id {x y : Int} (h1 : -2147483648 ≤ x + y) (h2 : x + y < 2147483648) : iAdd x y = x + y := x32_id ⟨h1, h2⟩
theorem iSub_id {x y : Int} (h1 : -2147483648 ≤ x - y) (h2 : x - y < 2147483648) : iSub x y = x - y := x32_id ⟨h1, h2⟩
theorem iMul_id {x y : Int} (h1 : -2147483648 ≤ x * y) (h2 : x * y < 2147483648) : iMul x y = x * y := x32_id ⟨h1, h2⟩
theorem lAdd_id {x y : Int} (h1 : -9223372036854775808 ≤ x + y) (h2 : x + y < 9223372036854775808) : lAdd x y = x + y := x64_id ⟨h1, h2⟩
theorem lSub_id {x y : Int} (h1 : -9223372036854775808 ≤ x - y) (h2 : x - y < 9223372036854775808) : lSub x y = x - y := x64_id ⟨h1, h2⟩
theorem lMul_id {x y : Int} (h1 : -9223372036854775808 ≤ x * y) (h2 : x * y < 9223372036854775808) : lMul x y = x * y := x64_id ⟨h1, h2⟩
theorem b01_ne (P : Prop) [Decidable P] : ((if P then (1 : Int) else 0) ≠ 0) ↔ P := by by_cases h : P <;> simp [h]
theorem b01_eq (P : Prop) [Decidable P] : ((if P then (1 : Int) else 0) = 0) ↔ ¬ P := by by_cases h : P <;> simp [h]
theorem b01_or (P : Prop) [Decidable P] : ((if P then (1 : Int) else 0) = 0 ∨ (if P then (1 : Int) else 0) = 1) ↔ True := by by_cases h : P <;> simp [h]
theorem wp_and {A P X Y : Prop} : ((A → (P → Y) ∧ (¬P → X)) ∧ (¬A → X)) ↔ ((A ∧ P → Y) ∧ (¬(A ∧ P) → X)) :=
  ⟨fun h => ⟨fun q => (h.1 q.1).1 q.2, fun q => by
    by_cases a : A
    · exact (h.1 a).2 fun p => q ⟨a, p⟩
    · exact h.2 a⟩, fun h => ⟨fun a => ⟨fun p => h.1 ⟨a, p⟩, fun p => h.2 fun q => p q.2⟩, fun a => h.2 fun q => a q.1⟩⟩
theorem wp_or {A P X Y : Prop} : ((A → X) ∧ (¬A → (P → X) ∧ (¬P → Y))) ↔ ((A ∨ P → X) ∧ (¬(A ∨ P) → Y)) :=
  ⟨fun h => ⟨fun q => by
    by_cases a : A
    · exact h.1 a
    · exact (h.2 a).1 (q.resolve_left a), fun q => (h.2 fun a => q (Or.inl a)).2 fun p => q (Or.inr p)⟩, fun h => ⟨fun a => h.1 (Or.inl a), fun a => ⟨fun p => h.1 (Or.inr p), fun p => h.2 fun q => q.elim a p⟩⟩⟩
/-! the data: d has the reference's numbers. DC: the class's cells hold it; DR: the reference's do; V: it is as the acts leave it -/
def emptiesTo (e : Int → Int) : Nat → Int
  | 0 => 0
  | n + 1 => emptiesTo e n + if e (n : Int) = -1 then 0 else 1
def DCt (M d : XM) : Prop := M 2 0 = d 81 5 ∧ M 3 = d 86 ∧ M 2 2 = d 81 7 ∧ M 4 = d 87 ∧ M 5 = d 88 ∧ M 6 = d 89 ∧ M 2 6 = d 81 11 ∧ M 7 = d 90 ∧ M 8 = d 91 ∧ M 9 = d 92 ∧ M 10 = d 93 ∧ M 11 = d 94 ∧ M 12 = d 95 ∧ M 2 12 = emptiesTo (d 95) 832
def DCl (M d : XM) : Prop := M 13 0 = d 81 19 ∧ M 13 1 = d 81 18 ∧ M 13 2 = d 81 28 ∧ M 14 = d 96 ∧ M 15 = d 97 ∧ M 16 = d 98 ∧ M 17 = d 99 ∧ M 18 = d 100 ∧ M 19 = d 101 ∧ M 20 = d 102 ∧ M 21 = d 103
def Vt (d : XM) : Prop := (0 ≤ d 81 5 ∧ d 81 5 ≤ 12) ∧ (0 ≤ d 81 7 ∧ d 81 7 ≤ 24) ∧ (0 ≤ d 81 11 ∧ d 81 11 ≤ 16) ∧ (∀ t, 0 ≤ t → t < d 81 5 → 0 ≤ d 86 t ∧ d 86 t ≤ 51) ∧ (∀ t, 0 ≤ t → t < d 81 7 → 0 ≤ d 87 t ∧ d 87 t < d 81 5 ∧ 0 ≤ d 88 t ∧ d 88 t ≤ 3 ∧ 0 ≤ d 89 t ∧ d 89 t ≤ 1000000) ∧ (∀ s, 0 ≤ s → s < d 81 11 → 0 ≤ d 90 s ∧ d 90 s ≤ 3 ∧ 1 ≤ d 91 s ∧ d 91 s ≤ 100 ∧ 0 ≤ d 92 s ∧ d 92 s ≤ d 93 s ∧ d 93 s ≤ 51 ∧ 0 ≤ d 94 s ∧ d 94 s ≤ 1000)
def Vl (d : XM) : Prop := (0 ≤ d 81 19 ∧ d 81 19 ≤ 150) ∧ (0 ≤ d 81 18 ∧ d 81 18 ≤ 51) ∧ (∀ k, 0 ≤ k → k < d 81 19 → 0 ≤ d 96 k ∧ d 96 k < d 81 11 ∧ 0 ≤ d 97 k ∧ d 97 k < d 81 7 ∧ 0 ≤ d 98 k ∧ d 98 k ≤ 51 ∧ 0 ≤ d 99 k ∧ d 99 k ≤ 167 ∧ 1 ≤ d 100 k ∧ d 100 k ≤ 100000 ∧ 0 ≤ d 101 k ∧ d 101 k ≤ 3 ∧ d 98 k ≤ d 102 k ∧ d 102 k ≤ 51)
def SheetsRel (r0 r1 r2 r3 len mo m s it : Int → Int) : Prop := ∀ q, 0 ≤ q → q ≤ 3 → (m q = -1 ∧ len q = -1 ∧ 0 ≤ s q ∧ s q ≤ 120) ∨ (0 ≤ m q ∧ m q ≤ 3 ∧ 0 ≤ s q ∧ s q ≤ 120 ∧ len q = s q ∧ mo q = m q ∧ ∀ i, 0 ≤ i → i < s q → (if q = 0 then r0 else if q = 1 then r1 else if q = 2 then r2 else r3) i = it (120 * q + i))
def DCs (M d : XM) : Prop := M 73 3 = d 81 4 ∧ SheetsRel (M 75) (M 76) (M 77) (M 78) (M 79) (M 80) (d 82) (d 83) (d 84)
def FW (Z M : XM) : Prop := ∀ k, (41 ≤ k ∧ k ≤ 66) ∨ 1000 ≤ k → M k = Z k
def Inv (Z M : XM) : Prop := DCt M M ∧ DCl M M ∧ DCs M M ∧ Vt M ∧ Vl M ∧ FW Z M ∧ M 81 28 = -1 ∧ M 81 29 = -1
/-! tests -/
theorem F_M_within_iff {a b c : Int} {M : XM} {Q : Int → XM → Prop} : F_M_within a b c M Q ↔ Q (if b ≤ a ∧ a ≤ c then 1 else 0) M := by
  unfold F_M_within S_M_within
  simp only [sSeq, sSet, sInc, sPF, sPA, sPD, sOF, sOA, sX, sIf, sSkip, sRet, sRetB, sRetV, sSw, sSel, eK, eL, eR, eF, eA, eQ, eD, eU, eB, eV, eIf, ePF, eC0, eC1, eC2, eC3, eC4, eC5, eC6, eC7, cB, cZ, cAnd, cOr, cNot, i2l, st_fn, sl_ap, if_true, if_false, ↓reduceIte, reduceIte, Nat.reduceEqDiff, Int.reduceEq, Int.reduceLT, Int.reduceLE, Int.reduceAdd, Int.reduceSub, Int.reduceMul, Int.reduceNeg, and_true, true_and, not_true, not_false_eq_true, true_or, or_true, ne_eq]
  by_cases h1 : b ≤ a <;> by_cases h2 : a ≤ c <;> simp [h1, h2]
theorem F_R_in_iff {a b c : Int} {M : XM} {Q : Int → XM → Prop} : F_R_in a b c M Q ↔ Q (if b ≤ a ∧ a ≤ c then 1 else 0) M := by
  unfold F_R_in S_R_in
  simp only [sSeq, sSet, sInc, sPF, sPA, sPD, sOF, sOA, sX, sIf, sSkip, sRet, sRetB, sRetV, sSw, sSel, eK, eL, eR, eF, eA, eQ, eD, eU, eB, eV, eIf, ePF, eC0, eC1, eC2, eC3, eC4, eC5, eC6, eC7, cB, cZ, cAnd, cOr, cNot, i2l, st_fn, sl_ap, if_true, if_false, ↓reduceIte, reduceIte, Nat.reduceEqDiff, Int.reduceEq, Int.reduceLT, Int.reduceLE, Int.reduceAdd, Int.reduceSub, Int.reduceMul, Int.reduceNeg, and_true, true_and, not_true, not_false_eq_true, true_or, or_true, ne_eq]
  by_cases h1 : b ≤ a <;> by_cases h2 : a ≤ c <;> simp [h1, h2]
theorem F_M_isWeek_iff {a : Int} {M : XM} {Q : Int → XM → Prop} : F_M_isWeek a M Q ↔ Q (if 0 ≤ a ∧ a ≤ 51 then 1 else 0) M := by
  unfold F_M_isWeek S_M_isWeek
  simp only [sSeq, sSet, sInc, sPF, sPA, sPD, sOF, sOA, sX, sIf, sSkip, sRet, sRetB, sRetV, sSw, sSel, eK, eL, eR, eF, eA, eQ, eD, eU, eB, eV, eIf, ePF, eC0, eC1, eC2, eC3, eC4, eC5, eC6, eC7, cB, cZ, cAnd, cOr, cNot, i2l, st_fn, sl_ap, if_true, if_false, ↓reduceIte, reduceIte, Nat.reduceEqDiff, Int.reduceEq, Int.reduceLT, Int.reduceLE, Int.reduceAdd, Int.reduceSub, Int.reduceMul, Int.reduceNeg, and_true, true_and, not_true, not_false_eq_true, true_or, or_true, ne_eq, F_M_within_iff, b01_or]
theorem F_R_isWeek_iff {a : Int} {M : XM} {Q : Int → XM → Prop} : F_R_isWeek a M Q ↔ Q (if 0 ≤ a ∧ a ≤ 51 then 1 else 0) M := by
  unfold F_R_isWeek S_R_isWeek
  simp only [sSeq, sSet, sInc, sPF, sPA, sPD, sOF, sOA, sX, sIf, sSkip, sRet, sRetB, sRetV, sSw, sSel, eK, eL, eR, eF, eA, eQ, eD, eU, eB, eV, eIf, ePF, eC0, eC1, eC2, eC3, eC4, eC5, eC6, eC7, cB, cZ, cAnd, cOr, cNot, i2l, st_fn, sl_ap, if_true, if_false, ↓reduceIte, reduceIte, Nat.reduceEqDiff, Int.reduceEq, Int.reduceLT, Int.reduceLE, Int.reduceAdd, Int.reduceSub, Int.reduceMul, Int.reduceNeg, and_true, true_and, not_true, not_false_eq_true, true_or, or_true, ne_eq, F_R_in_iff, b01_or]
theorem F_Trade_isTitle_iff {a : Int} {M : XM} {Q : Int → XM → Prop} (h1 : 0 ≤ M 2 0) (h2 : M 2 0 ≤ 12) : F_Trade_isTitle a M Q ↔ Q (if 0 ≤ a ∧ a < M 2 0 then 1 else 0) M := by
  unfold F_Trade_isTitle S_Trade_isTitle
  simp (disch := omega) only [sSeq, sSet, sInc, sPF, sPA, sPD, sOF, sOA, sX, sIf, sSkip, sRet, sRetB, sRetV, sSw, sSel, eK, eL, eR, eF, eA, eQ, eD, eU, eB, eV, eIf, ePF, eC0, eC1, eC2, eC3, eC4, eC5, eC6, eC7, cB, cZ, cAnd, cOr, cNot, i2l, st_fn, sl_ap, if_true, if_false, ↓reduceIte, reduceIte, Nat.reduceEqDiff, Int.reduceEq, Int.reduceLT, Int.reduceLE, Int.reduceAdd, Int.reduceSub, Int.reduceMul, Int.reduceNeg, and_true, true_and, not_true, not_false_eq_true, true_or, or_true, ne_eq, F_M_within_iff, b01_or, iSub_id, Int.le_sub_one_iff]
theorem F_Trade_isThing_iff {a : Int} {M : XM} {Q : Int → XM → Prop} (h1 : 0 ≤ M 2 2) (h2 : M 2 2 ≤ 24) : F_Trade_isThing a M Q ↔ Q (if 0 ≤ a ∧ a < M 2 2 then 1 else 0) M := by
  unfold F_Trade_isThing S_Trade_isThing
  simp (disch := omega) only [sSeq, sSet, sInc, sPF, sPA, sPD, sOF, sOA, sX, sIf, sSkip, sRet, sRetB, sRetV, sSw, sSel, eK, eL, eR, eF, eA, eQ, eD, eU, eB, eV, eIf, ePF, eC0, eC1, eC2, eC3, eC4, eC5, eC6, eC7, cB, cZ, cAnd, cOr, cNot, i2l, st_fn, sl_ap, if_true, if_false, ↓reduceIte, reduceIte, Nat.reduceEqDiff, Int.reduceEq, Int.reduceLT, Int.reduceLE, Int.reduceAdd, Int.reduceSub, Int.reduceMul, Int.reduceNeg, and_true, true_and, not_true, not_false_eq_true, true_or, or_true, ne_eq, F_M_within_iff, b01_or, iSub_id, Int.le_sub_one_iff]
theorem F_Trade_isShop_iff {a : Int} {M : XM} {Q : Int → XM → Prop} (h1 : 0 ≤ M 2 6) (h2 : M 2 6 ≤ 16) : F_Trade_isShop a M Q ↔ Q (if 0 ≤ a ∧ a < M 2 6 then 1 else 0) M := by
  unfold F_Trade_isShop S_Trade_isShop
  simp (disch := omega) only [sSeq, sSet, sInc, sPF, sPA, sPD, sOF, sOA, sX, sIf, sSkip, sRet, sRetB, sRetV, sSw, sSel, eK, eL, eR, eF, eA, eQ, eD, eU, eB, eV, eIf, ePF, eC0, eC1, eC2, eC3, eC4, eC5, eC6, eC7, cB, cZ, cAnd, cOr, cNot, i2l, st_fn, sl_ap, if_true, if_false, ↓reduceIte, reduceIte, Nat.reduceEqDiff, Int.reduceEq, Int.reduceLT, Int.reduceLE, Int.reduceAdd, Int.reduceSub, Int.reduceMul, Int.reduceNeg, and_true, true_and, not_true, not_false_eq_true, true_or, or_true, ne_eq, F_M_within_iff, b01_or, iSub_id, Int.le_sub_one_iff]
theorem F_Ledger_isSale_iff {a : Int} {M : XM} {Q : Int → XM → Prop} (h1 : 0 ≤ M 13 0) (h2 : M 13 0 ≤ 150) : F_Ledger_isSale a M Q ↔ Q (if 0 ≤ a ∧ a < M 13 0 then 1 else 0) M := by
  unfold F_Ledger_isSale S_Ledger_isSale
  simp (disch := omega) only [sSeq, sSet, sInc, sPF, sPA, sPD, sOF, sOA, sX, sIf, sSkip, sRet, sRetB, sRetV, sSw, sSel, eK, eL, eR, eF, eA, eQ, eD, eU, eB, eV, eIf, ePF, eC0, eC1, eC2, eC3, eC4, eC5, eC6, eC7, cB, cZ, cAnd, cOr, cNot, i2l, st_fn, sl_ap, if_true, if_false, ↓reduceIte, reduceIte, Nat.reduceEqDiff, Int.reduceEq, Int.reduceLT, Int.reduceLE, Int.reduceAdd, Int.reduceSub, Int.reduceMul, Int.reduceNeg, and_true, true_and, not_true, not_false_eq_true, true_or, or_true, ne_eq, F_M_within_iff, b01_or, iSub_id, Int.le_sub_one_iff]
theorem F_R_isTitle_iff {a : Int} {M : XM} {Q : Int → XM → Prop} (h1 : 0 ≤ M 81 5) (h2 : M 81 5 ≤ 12) : F_R_isTitle a M Q ↔ Q (if 0 ≤ a ∧ a < M 81 5 then 1 else 0) M := by
  unfold F_R_isTitle S_R_isTitle
  simp (disch := omega) only [sSeq, sSet, sInc, sPF, sPA, sPD, sOF, sOA, sX, sIf, sSkip, sRet, sRetB, sRetV, sSw, sSel, eK, eL, eR, eF, eA, eQ, eD, eU, eB, eV, eIf, ePF, eC0, eC1, eC2, eC3, eC4, eC5, eC6, eC7, cB, cZ, cAnd, cOr, cNot, i2l, st_fn, sl_ap, if_true, if_false, ↓reduceIte, reduceIte, Nat.reduceEqDiff, Int.reduceEq, Int.reduceLT, Int.reduceLE, Int.reduceAdd, Int.reduceSub, Int.reduceMul, Int.reduceNeg, and_true, true_and, not_true, not_false_eq_true, true_or, or_true, ne_eq, F_R_in_iff, b01_or, iSub_id, Int.le_sub_one_iff]
theorem F_R_isThing_iff {a : Int} {M : XM} {Q : Int → XM → Prop} (h1 : 0 ≤ M 81 7) (h2 : M 81 7 ≤ 24) : F_R_isThing a M Q ↔ Q (if 0 ≤ a ∧ a < M 81 7 then 1 else 0) M := by
  unfold F_R_isThing S_R_isThing
  simp (disch := omega) only [sSeq, sSet, sInc, sPF, sPA, sPD, sOF, sOA, sX, sIf, sSkip, sRet, sRetB, sRetV, sSw, sSel, eK, eL, eR, eF, eA, eQ, eD, eU, eB, eV, eIf, ePF, eC0, eC1, eC2, eC3, eC4, eC5, eC6, eC7, cB, cZ, cAnd, cOr, cNot, i2l, st_fn, sl_ap, if_true, if_false, ↓reduceIte, reduceIte, Nat.reduceEqDiff, Int.reduceEq, Int.reduceLT, Int.reduceLE, Int.reduceAdd, Int.reduceSub, Int.reduceMul, Int.reduceNeg, and_true, true_and, not_true, not_false_eq_true, true_or, or_true, ne_eq, F_R_in_iff, b01_or, iSub_id, Int.le_sub_one_iff]
theorem F_R_isShop_iff {a : Int} {M : XM} {Q : Int → XM → Prop} (h1 : 0 ≤ M 81 11) (h2 : M 81 11 ≤ 16) : F_R_isShop a M Q ↔ Q (if 0 ≤ a ∧ a < M 81 11 then 1 else 0) M := by
  unfold F_R_isShop S_R_isShop
  simp (disch := omega) only [sSeq, sSet, sInc, sPF, sPA, sPD, sOF, sOA, sX, sIf, sSkip, sRet, sRetB, sRetV, sSw, sSel, eK, eL, eR, eF, eA, eQ, eD, eU, eB, eV, eIf, ePF, eC0, eC1, eC2, eC3, eC4, eC5, eC6, eC7, cB, cZ, cAnd, cOr, cNot, i2l, st_fn, sl_ap, if_true, if_false, ↓reduceIte, reduceIte, Nat.reduceEqDiff, Int.reduceEq, Int.reduceLT, Int.reduceLE, Int.reduceAdd, Int.reduceSub, Int.reduceMul, Int.reduceNeg, and_true, true_and, not_true, not_false_eq_true, true_or, or_true, ne_eq, F_R_in_iff, b01_or, iSub_id, Int.le_sub_one_iff]
theorem F_R_hasSale_iff {a : Int} {M : XM} {Q : Int → XM → Prop} (h1 : 0 ≤ M 81 19) (h2 : M 81 19 ≤ 150) : F_R_hasSale a M Q ↔ Q (if 0 ≤ a ∧ a < M 81 19 then 1 else 0) M := by
  unfold F_R_hasSale S_R_hasSale
  simp (disch := omega) only [sSeq, sSet, sInc, sPF, sPA, sPD, sOF, sOA, sX, sIf, sSkip, sRet, sRetB, sRetV, sSw, sSel, eK, eL, eR, eF, eA, eQ, eD, eU, eB, eV, eIf, ePF, eC0, eC1, eC2, eC3, eC4, eC5, eC6, eC7, cB, cZ, cAnd, cOr, cNot, i2l, st_fn, sl_ap, if_true, if_false, ↓reduceIte, reduceIte, Nat.reduceEqDiff, Int.reduceEq, Int.reduceLT, Int.reduceLE, Int.reduceAdd, Int.reduceSub, Int.reduceMul, Int.reduceNeg, and_true, true_and, not_true, not_false_eq_true, true_or, or_true, ne_eq, F_R_in_iff, b01_or, iSub_id, Int.le_sub_one_iff]
/-! the acts that only set down -/
set_option maxHeartbeats 1000000 in
theorem ok_title {Z M : XM} (h : Inv Z M) (x1 : Int) : F_M_title x1 M (fun v M1 => F_R_title x1 M1 (fun w M2 => v = w ∧ Inv Z M2)) := by
  obtain ⟨⟨h1, h2, h3, h4, h5, h6, h7, h8, h9, h10, h11, h12, h13, h14⟩, ⟨l1, l2, l3, l4, l5, l6, l7, l8, l9, l10, l11⟩, ⟨s1, s2⟩, ⟨v1, v2, v3, v4, v5, v6⟩, ⟨w1, w2, w3⟩, hF, m1, m2⟩ := id h
  unfold F_M_title S_M_title F_Trade_addTitle S_Trade_addTitle F_R_title S_R_title
  simp (disch := first | omega | (simp only [st_fn, Nat.reduceEqDiff, ↓reduceIte, reduceIte, Int.reduceEq, if_true, if_false]; omega)) only [sSeq, sSet, sInc, sPF, sPA, sPD, sOF, sOA, sX, sIf, sSkip, sRet, sRetB, sRetV, sSw, sSel, eK, eL, eR, eF, eA, eQ, eD, eU, eB, eV, eIf, ePF, eC0, eC1, eC2, eC3, eC4, eC5, eC6, eC7, cB, cZ, cAnd, cOr, cNot, i2l, st_fn, sl_ap, if_true, if_false, ↓reduceIte, reduceIte, Nat.reduceEqDiff, Int.reduceEq, Int.reduceLT, Int.reduceLE, Int.reduceAdd, Int.reduceSub, Int.reduceMul, Int.reduceNeg, and_true, true_and, not_true, not_false_eq_true, true_or, or_true, ne_eq, F_M_isWeek_iff, F_R_isWeek_iff, F_M_within_iff, F_R_in_iff, F_Trade_isTitle_iff, F_Trade_isThing_iff, F_Trade_isShop_iff, F_Ledger_isSale_iff, F_R_isTitle_iff, F_R_isThing_iff, F_R_isShop_iff, F_R_hasSale_iff, b01_ne, iAdd_id, iSub_id, h1, h2, h3, h4, h5, h6, h7, h8, h9, h10, h11, h12, h13, h14, l1, l2, l3, l4, l5, l6, l7, l8, l9, l10, l11, s1]
  repeat' (first | (with_reducible intro _) | (with_reducible refine And.intro ?_ ?_))
  all_goals first
    | exact h
    | omega
    | (exfalso; omega)
    | skip
  all_goals (
    refine ⟨?_, ?_, ?_, ?_, ?_, ?_, ?_, ?_⟩
    · unfold DCt
      simp only [st_fn, Nat.reduceEqDiff, ↓reduceIte, reduceIte, Int.reduceEq, if_true, if_false, true_and, and_true, and_self, h1, h2, h3, h4, h5, h6, h7, h8, h9, h10, h11, h12, h13, h14, l1, l2, l3, l4, l5, l6, l7, l8, l9, l10, l11, s1]
    · unfold DCl
      simp only [st_fn, Nat.reduceEqDiff, ↓reduceIte, reduceIte, Int.reduceEq, if_true, if_false, true_and, and_true, and_self, h1, h2, h3, h4, h5, h6, h7, h8, h9, h10, h11, h12, h13, h14, l1, l2, l3, l4, l5, l6, l7, l8, l9, l10, l11, s1]
    · unfold DCs
      simp only [st_fn, Nat.reduceEqDiff, ↓reduceIte, reduceIte, Int.reduceEq, if_true, if_false, true_and, and_true, and_self, h1, h2, h3, h4, h5, h6, h7, h8, h9, h10, h11, h12, h13, h14, l1, l2, l3, l4, l5, l6, l7, l8, l9, l10, l11, s1]
      exact s2
    · unfold Vt
      simp only [st_fn, Nat.reduceEqDiff, ↓reduceIte, reduceIte, Int.reduceEq, if_true, if_false, true_and, and_true, and_self, h1, h2, h3, h4, h5, h6, h7, h8, h9, h10, h11, h12, h13, h14, l1, l2, l3, l4, l5, l6, l7, l8, l9, l10, l11, s1]
      exact ⟨by omega, by omega, by omega, fun t a b => by have e := v4 t a; (repeat' split) <;> omega, fun t a b => by have e := v5 t a; (repeat' split) <;> omega, fun t a b => by have e := v6 t a; (repeat' split) <;> omega⟩
    · unfold Vl
      simp only [st_fn, Nat.reduceEqDiff, ↓reduceIte, reduceIte, Int.reduceEq, if_true, if_false, true_and, and_true, and_self, h1, h2, h3, h4, h5, h6, h7, h8, h9, h10, h11, h12, h13, h14, l1, l2, l3, l4, l5, l6, l7, l8, l9, l10, l11, s1]
      exact ⟨by omega, by omega, fun t a b => by have e := w3 t a; (repeat' split) <;> omega⟩
    · intro k hk
      simp only [st_fn]
      repeat rw [if_neg (by omega)]
      exact hF k hk
    · simp only [st_fn, Nat.reduceEqDiff, ↓reduceIte, reduceIte, Int.reduceEq, if_true, if_false, true_and, and_true, and_self]
      exact m1
    · simp only [st_fn, Nat.reduceEqDiff, ↓reduceIte, reduceIte, Int.reduceEq, if_true, if_false, true_and, and_true, and_self]
      exact m2)
set_option maxHeartbeats 1000000 in
theorem ok_thing {Z M : XM} (h : Inv Z M) (x1 x2 x3 : Int) : F_M_thing x1 x2 x3 M (fun v M1 => F_R_thing x1 x2 x3 M1 (fun w M2 => v = w ∧ Inv Z M2)) := by
  obtain ⟨⟨h1, h2, h3, h4, h5, h6, h7, h8, h9, h10, h11, h12, h13, h14⟩, ⟨l1, l2, l3, l4, l5, l6, l7, l8, l9, l10, l11⟩, ⟨s1, s2⟩, ⟨v1, v2, v3, v4, v5, v6⟩, ⟨w1, w2, w3⟩, hF, m1, m2⟩ := id h
  unfold F_M_thing S_M_thing F_Trade_addThing S_Trade_addThing F_R_thing S_R_thing
  simp (disch := first | omega | (simp only [st_fn, Nat.reduceEqDiff, ↓reduceIte, reduceIte, Int.reduceEq, if_true, if_false]; omega)) only [sSeq, sSet, sInc, sPF, sPA, sPD, sOF, sOA, sX, sIf, sSkip, sRet, sRetB, sRetV, sSw, sSel, eK, eL, eR, eF, eA, eQ, eD, eU, eB, eV, eIf, ePF, eC0, eC1, eC2, eC3, eC4, eC5, eC6, eC7, cB, cZ, cAnd, cOr, cNot, i2l, st_fn, sl_ap, if_true, if_false, ↓reduceIte, reduceIte, Nat.reduceEqDiff, Int.reduceEq, Int.reduceLT, Int.reduceLE, Int.reduceAdd, Int.reduceSub, Int.reduceMul, Int.reduceNeg, and_true, true_and, not_true, not_false_eq_true, true_or, or_true, ne_eq, F_M_isWeek_iff, F_R_isWeek_iff, F_M_within_iff, F_R_in_iff, F_Trade_isTitle_iff, F_Trade_isThing_iff, F_Trade_isShop_iff, F_Ledger_isSale_iff, F_R_isTitle_iff, F_R_isThing_iff, F_R_isShop_iff, F_R_hasSale_iff, b01_ne, iAdd_id, iSub_id, h1, h2, h3, h4, h5, h6, h7, h8, h9, h10, h11, h12, h13, h14, l1, l2, l3, l4, l5, l6, l7, l8, l9, l10, l11, s1]
  repeat' (first | (with_reducible intro _) | (with_reducible refine And.intro ?_ ?_))
  all_goals first
    | exact h
    | omega
    | (exfalso; omega)
    | skip
  all_goals (
    refine ⟨?_, ?_, ?_, ?_, ?_, ?_, ?_, ?_⟩
    · unfold DCt
      simp only [st_fn, Nat.reduceEqDiff, ↓reduceIte, reduceIte, Int.reduceEq, if_true, if_false, true_and, and_true, and_self, h1, h2, h3, h4, h5, h6, h7, h8, h9, h10, h11, h12, h13, h14, l1, l2, l3, l4, l5, l6, l7, l8, l9, l10, l11, s1]
    · unfold DCl
      simp only [st_fn, Nat.reduceEqDiff, ↓reduceIte, reduceIte, Int.reduceEq, if_true, if_false, true_and, and_true, and_self, h1, h2, h3, h4, h5, h6, h7, h8, h9, h10, h11, h12, h13, h14, l1, l2, l3, l4, l5, l6, l7, l8, l9, l10, l11, s1]
    · unfold DCs
      simp only [st_fn, Nat.reduceEqDiff, ↓reduceIte, reduceIte, Int.reduceEq, if_true, if_false, true_and, and_true, and_self, h1, h2, h3, h4, h5, h6, h7, h8, h9, h10, h11, h12, h13, h14, l1, l2, l3, l4, l5, l6, l7, l8, l9, l10, l11, s1]
      exact s2
    · unfold Vt
      simp only [st_fn, Nat.reduceEqDiff, ↓reduceIte, reduceIte, Int.reduceEq, if_true, if_false, true_and, and_true, and_self, h1, h2, h3, h4, h5, h6, h7, h8, h9, h10, h11, h12, h13, h14, l1, l2, l3, l4, l5, l6, l7, l8, l9, l10, l11, s1]
      exact ⟨by omega, by omega, by omega, fun t a b => by have e := v4 t a; (repeat' split) <;> omega, fun t a b => by have e := v5 t a; (repeat' split) <;> omega, fun t a b => by have e := v6 t a; (repeat' split) <;> omega⟩
    · unfold Vl
      simp only [st_fn, Nat.reduceEqDiff, ↓reduceIte, reduceIte, Int.reduceEq, if_true, if_false, true_and, and_true, and_self, h1, h2, h3, h4, h5, h6, h7, h8, h9, h10, h11, h12, h13, h14, l1, l2, l3, l4, l5, l6, l7, l8, l9, l10, l11, s1]
      exact ⟨by omega, by omega, fun t a b => by have e := w3 t a; (repeat' split) <;> omega⟩
    · intro k hk
      simp only [st_fn]
      repeat rw [if_neg (by omega)]
      exact hF k hk
    · simp only [st_fn, Nat.reduceEqDiff, ↓reduceIte, reduceIte, Int.reduceEq, if_true, if_false, true_and, and_true, and_self]
      exact m1
    · simp only [st_fn, Nat.reduceEqDiff, ↓reduceIte, reduceIte, Int.reduceEq, if_true, if_false, true_and, and_true, and_self]
      exact m2)
set_option maxHeartbeats 1000000 in
theorem ok_shop {Z M : XM} (h : Inv Z M) (x1 x2 x3 x4 : Int) : F_M_shop x1 x2 x3 x4 M (fun v M1 => F_R_shop x1 x2 x3 x4 M1 (fun w M2 => v = w ∧ Inv Z M2)) := by
  obtain ⟨⟨h1, h2, h3, h4, h5, h6, h7, h8, h9, h10, h11, h12, h13, h14⟩, ⟨l1, l2, l3, l4, l5, l6, l7, l8, l9, l10, l11⟩, ⟨s1, s2⟩, ⟨v1, v2, v3, v4, v5, v6⟩, ⟨w1, w2, w3⟩, hF, m1, m2⟩ := id h
  unfold F_M_shop S_M_shop F_Trade_addShop S_Trade_addShop F_R_shop S_R_shop
  simp (disch := first | omega | (simp only [st_fn, Nat.reduceEqDiff, ↓reduceIte, reduceIte, Int.reduceEq, if_true, if_false]; omega)) only [sSeq, sSet, sInc, sPF, sPA, sPD, sOF, sOA, sX, sIf, sSkip, sRet, sRetB, sRetV, sSw, sSel, eK, eL, eR, eF, eA, eQ, eD, eU, eB, eV, eIf, ePF, eC0, eC1, eC2, eC3, eC4, eC5, eC6, eC7, cB, cZ, cAnd, cOr, cNot, i2l, st_fn, sl_ap, if_true, if_false, ↓reduceIte, reduceIte, Nat.reduceEqDiff, Int.reduceEq, Int.reduceLT, Int.reduceLE, Int.reduceAdd, Int.reduceSub, Int.reduceMul, Int.reduceNeg, and_true, true_and, not_true, not_false_eq_true, true_or, or_true, ne_eq, F_M_isWeek_iff, F_R_isWeek_iff, F_M_within_iff, F_R_in_iff, F_Trade_isTitle_iff, F_Trade_isThing_iff, F_Trade_isShop_iff, F_Ledger_isSale_iff, F_R_isTitle_iff, F_R_isThing_iff, F_R_isShop_iff, F_R_hasSale_iff, b01_ne, iAdd_id, iSub_id, h1, h2, h3, h4, h5, h6, h7, h8, h9, h10, h11, h12, h13, h14, l1, l2, l3, l4, l5, l6, l7, l8, l9, l10, l11, s1]
  repeat' (first | (with_reducible intro _) | (with_reducible refine And.intro ?_ ?_))
  all_goals first
    | exact h
    | omega
    | (exfalso; omega)
    | skip
  all_goals (
    refine ⟨?_, ?_, ?_, ?_, ?_, ?_, ?_, ?_⟩
    · unfold DCt
      simp only [st_fn, Nat.reduceEqDiff, ↓reduceIte, reduceIte, Int.reduceEq, if_true, if_false, true_and, and_true, and_self, h1, h2, h3, h4, h5, h6, h7, h8, h9, h10, h11, h12, h13, h14, l1, l2, l3, l4, l5, l6, l7, l8, l9, l10, l11, s1]
    · unfold DCl
      simp only [st_fn, Nat.reduceEqDiff, ↓reduceIte, reduceIte, Int.reduceEq, if_true, if_false, true_and, and_true, and_self, h1, h2, h3, h4, h5, h6, h7, h8, h9, h10, h11, h12, h13, h14, l1, l2, l3, l4, l5, l6, l7, l8, l9, l10, l11, s1]
    · unfold DCs
      simp only [st_fn, Nat.reduceEqDiff, ↓reduceIte, reduceIte, Int.reduceEq, if_true, if_false, true_and, and_true, and_self, h1, h2, h3, h4, h5, h6, h7, h8, h9, h10, h11, h12, h13, h14, l1, l2, l3, l4, l5, l6, l7, l8, l9, l10, l11, s1]
      exact s2
    · unfold Vt
      simp only [st_fn, Nat.reduceEqDiff, ↓reduceIte, reduceIte, Int.reduceEq, if_true, if_false, true_and, and_true, and_self, h1, h2, h3, h4, h5, h6, h7, h8, h9, h10, h11, h12, h13, h14, l1, l2, l3, l4, l5, l6, l7, l8, l9, l10, l11, s1]
      exact ⟨by omega, by omega, by omega, fun t a b => by have e := v4 t a; (repeat' split) <;> omega, fun t a b => by have e := v5 t a; (repeat' split) <;> omega, fun t a b => by have e := v6 t a; (repeat' split) <;> omega⟩
    · unfold Vl
      simp only [st_fn, Nat.reduceEqDiff, ↓reduceIte, reduceIte, Int.reduceEq, if_true, if_false, true_and, and_true, and_self, h1, h2, h3, h4, h5, h6, h7, h8, h9, h10, h11, h12, h13, h14, l1, l2, l3, l4, l5, l6, l7, l8, l9, l10, l11, s1]
      exact ⟨by omega, by omega, fun t a b => by have e := w3 t a; (repeat' split) <;> omega⟩
    · intro k hk
      simp only [st_fn]
      repeat rw [if_neg (by omega)]
      exact hF k hk
    · simp only [st_fn, Nat.reduceEqDiff, ↓reduceIte, reduceIte, Int.reduceEq, if_true, if_false, true_and, and_true, and_self]
      exact m1
    · simp only [st_fn, Nat.reduceEqDiff, ↓reduceIte, reduceIte, Int.reduceEq, if_true, if_false, true_and, and_true, and_self]
      exact m2)
set_option maxHeartbeats 1000000 in
theorem ok_coins {Z M : XM} (h : Inv Z M) (x1 x2 : Int) : F_M_coins x1 x2 M (fun v M1 => F_R_coins x1 x2 M1 (fun w M2 => v = w ∧ Inv Z M2)) := by
  obtain ⟨⟨h1, h2, h3, h4, h5, h6, h7, h8, h9, h10, h11, h12, h13, h14⟩, ⟨l1, l2, l3, l4, l5, l6, l7, l8, l9, l10, l11⟩, ⟨s1, s2⟩, ⟨v1, v2, v3, v4, v5, v6⟩, ⟨w1, w2, w3⟩, hF, m1, m2⟩ := id h
  unfold F_M_coins S_M_coins  F_R_coins S_R_coins
  simp (disch := first | omega | (simp only [st_fn, Nat.reduceEqDiff, ↓reduceIte, reduceIte, Int.reduceEq, if_true, if_false]; omega)) only [sSeq, sSet, sInc, sPF, sPA, sPD, sOF, sOA, sX, sIf, sSkip, sRet, sRetB, sRetV, sSw, sSel, eK, eL, eR, eF, eA, eQ, eD, eU, eB, eV, eIf, ePF, eC0, eC1, eC2, eC3, eC4, eC5, eC6, eC7, cB, cZ, cAnd, cOr, cNot, i2l, st_fn, sl_ap, if_true, if_false, ↓reduceIte, reduceIte, Nat.reduceEqDiff, Int.reduceEq, Int.reduceLT, Int.reduceLE, Int.reduceAdd, Int.reduceSub, Int.reduceMul, Int.reduceNeg, and_true, true_and, not_true, not_false_eq_true, true_or, or_true, ne_eq, F_M_isWeek_iff, F_R_isWeek_iff, F_M_within_iff, F_R_in_iff, F_Trade_isTitle_iff, F_Trade_isThing_iff, F_Trade_isShop_iff, F_Ledger_isSale_iff, F_R_isTitle_iff, F_R_isThing_iff, F_R_isShop_iff, F_R_hasSale_iff, b01_ne, iAdd_id, iSub_id, h1, h2, h3, h4, h5, h6, h7, h8, h9, h10, h11, h12, h13, h14, l1, l2, l3, l4, l5, l6, l7, l8, l9, l10, l11, s1]
  repeat' (first | (with_reducible intro _) | (with_reducible refine And.intro ?_ ?_))
  all_goals first
    | exact h
    | omega
    | (exfalso; omega)
    | skip
  all_goals (
    refine ⟨?_, ?_, ?_, ?_, ?_, ?_, ?_, ?_⟩
    · unfold DCt
      simp only [st_fn, Nat.reduceEqDiff, ↓reduceIte, reduceIte, Int.reduceEq, if_true, if_false, true_and, and_true, and_self, h1, h2, h3, h4, h5, h6, h7, h8, h9, h10, h11, h12, h13, h14, l1, l2, l3, l4, l5, l6, l7, l8, l9, l10, l11, s1]
    · unfold DCl
      simp only [st_fn, Nat.reduceEqDiff, ↓reduceIte, reduceIte, Int.reduceEq, if_true, if_false, true_and, and_true, and_self, h1, h2, h3, h4, h5, h6, h7, h8, h9, h10, h11, h12, h13, h14, l1, l2, l3, l4, l5, l6, l7, l8, l9, l10, l11, s1]
    · unfold DCs
      simp only [st_fn, Nat.reduceEqDiff, ↓reduceIte, reduceIte, Int.reduceEq, if_true, if_false, true_and, and_true, and_self, h1, h2, h3, h4, h5, h6, h7, h8, h9, h10, h11, h12, h13, h14, l1, l2, l3, l4, l5, l6, l7, l8, l9, l10, l11, s1]
      exact s2
    · unfold Vt
      simp only [st_fn, Nat.reduceEqDiff, ↓reduceIte, reduceIte, Int.reduceEq, if_true, if_false, true_and, and_true, and_self, h1, h2, h3, h4, h5, h6, h7, h8, h9, h10, h11, h12, h13, h14, l1, l2, l3, l4, l5, l6, l7, l8, l9, l10, l11, s1]
      exact ⟨by omega, by omega, by omega, fun t a b => by have e := v4 t a; (repeat' split) <;> omega, fun t a b => by have e := v5 t a; (repeat' split) <;> omega, fun t a b => by have e := v6 t a; (repeat' split) <;> omega⟩
    · unfold Vl
      simp only [st_fn, Nat.reduceEqDiff, ↓reduceIte, reduceIte, Int.reduceEq, if_true, if_false, true_and, and_true, and_self, h1, h2, h3, h4, h5, h6, h7, h8, h9, h10, h11, h12, h13, h14, l1, l2, l3, l4, l5, l6, l7, l8, l9, l10, l11, s1]
      exact ⟨by omega, by omega, fun t a b => by have e := w3 t a; (repeat' split) <;> omega⟩
    · intro k hk
      simp only [st_fn]
      repeat rw [if_neg (by omega)]
      exact hF k hk
    · simp only [st_fn, Nat.reduceEqDiff, ↓reduceIte, reduceIte, Int.reduceEq, if_true, if_false, true_and, and_true, and_self]
      exact m1
    · simp only [st_fn, Nat.reduceEqDiff, ↓reduceIte, reduceIte, Int.reduceEq, if_true, if_false, true_and, and_true, and_self]
      exact m2)
set_option maxHeartbeats 1000000 in
theorem ok_strike {Z M : XM} (h : Inv Z M) (x1 x2 : Int) : F_M_strike x1 x2 M (fun v M1 => F_R_strike x1 x2 M1 (fun w M2 => v = w ∧ Inv Z M2)) := by
  obtain ⟨⟨h1, h2, h3, h4, h5, h6, h7, h8, h9, h10, h11, h12, h13, h14⟩, ⟨l1, l2, l3, l4, l5, l6, l7, l8, l9, l10, l11⟩, ⟨s1, s2⟩, ⟨v1, v2, v3, v4, v5, v6⟩, ⟨w1, w2, w3⟩, hF, m1, m2⟩ := id h
  unfold F_M_strike S_M_strike  F_R_strike S_R_strike
  simp (disch := first | omega | (simp only [st_fn, Nat.reduceEqDiff, ↓reduceIte, reduceIte, Int.reduceEq, if_true, if_false]; omega)) only [sSeq, sSet, sInc, sPF, sPA, sPD, sOF, sOA, sX, sIf, sSkip, sRet, sRetB, sRetV, sSw, sSel, eK, eL, eR, eF, eA, eQ, eD, eU, eB, eV, eIf, ePF, eC0, eC1, eC2, eC3, eC4, eC5, eC6, eC7, cB, cZ, cAnd, cOr, cNot, i2l, st_fn, sl_ap, if_true, if_false, ↓reduceIte, reduceIte, Nat.reduceEqDiff, Int.reduceEq, Int.reduceLT, Int.reduceLE, Int.reduceAdd, Int.reduceSub, Int.reduceMul, Int.reduceNeg, and_true, true_and, not_true, not_false_eq_true, true_or, or_true, ne_eq, F_M_isWeek_iff, F_R_isWeek_iff, F_M_within_iff, F_R_in_iff, F_Trade_isTitle_iff, F_Trade_isThing_iff, F_Trade_isShop_iff, F_Ledger_isSale_iff, F_R_isTitle_iff, F_R_isThing_iff, F_R_isShop_iff, F_R_hasSale_iff, b01_ne, iAdd_id, iSub_id, h1, h2, h3, h4, h5, h6, h7, h8, h9, h10, h11, h12, h13, h14, l1, l2, l3, l4, l5, l6, l7, l8, l9, l10, l11, s1]
  repeat' (first | (with_reducible intro _) | (with_reducible refine And.intro ?_ ?_))
  all_goals first
    | exact h
    | omega
    | (exfalso; omega)
    | skip
  all_goals (
    refine ⟨?_, ?_, ?_, ?_, ?_, ?_, ?_, ?_⟩
    · unfold DCt
      simp only [st_fn, Nat.reduceEqDiff, ↓reduceIte, reduceIte, Int.reduceEq, if_true, if_false, true_and, and_true, and_self, h1, h2, h3, h4, h5, h6, h7, h8, h9, h10, h11, h12, h13, h14, l1, l2, l3, l4, l5, l6, l7, l8, l9, l10, l11, s1]
    · unfold DCl
      simp only [st_fn, Nat.reduceEqDiff, ↓reduceIte, reduceIte, Int.reduceEq, if_true, if_false, true_and, and_true, and_self, h1, h2, h3, h4, h5, h6, h7, h8, h9, h10, h11, h12, h13, h14, l1, l2, l3, l4, l5, l6, l7, l8, l9, l10, l11, s1]
    · unfold DCs
      simp only [st_fn, Nat.reduceEqDiff, ↓reduceIte, reduceIte, Int.reduceEq, if_true, if_false, true_and, and_true, and_self, h1, h2, h3, h4, h5, h6, h7, h8, h9, h10, h11, h12, h13, h14, l1, l2, l3, l4, l5, l6, l7, l8, l9, l10, l11, s1]
      exact s2
    · unfold Vt
      simp only [st_fn, Nat.reduceEqDiff, ↓reduceIte, reduceIte, Int.reduceEq, if_true, if_false, true_and, and_true, and_self, h1, h2, h3, h4, h5, h6, h7, h8, h9, h10, h11, h12, h13, h14, l1, l2, l3, l4, l5, l6, l7, l8, l9, l10, l11, s1]
      exact ⟨by omega, by omega, by omega, fun t a b => by have e := v4 t a; (repeat' split) <;> omega, fun t a b => by have e := v5 t a; (repeat' split) <;> omega, fun t a b => by have e := v6 t a; (repeat' split) <;> omega⟩
    · unfold Vl
      simp only [st_fn, Nat.reduceEqDiff, ↓reduceIte, reduceIte, Int.reduceEq, if_true, if_false, true_and, and_true, and_self, h1, h2, h3, h4, h5, h6, h7, h8, h9, h10, h11, h12, h13, h14, l1, l2, l3, l4, l5, l6, l7, l8, l9, l10, l11, s1]
      exact ⟨by omega, by omega, fun t a b => by have e := w3 t a; (repeat' split) <;> omega⟩
    · intro k hk
      simp only [st_fn]
      repeat rw [if_neg (by omega)]
      exact hF k hk
    · simp only [st_fn, Nat.reduceEqDiff, ↓reduceIte, reduceIte, Int.reduceEq, if_true, if_false, true_and, and_true, and_self]
      exact m1
    · simp only [st_fn, Nat.reduceEqDiff, ↓reduceIte, reduceIte, Int.reduceEq, if_true, if_false, true_and, and_true, and_self]
      exact m2)
set_option maxHeartbeats 1000000 in
theorem ok_back {Z M : XM} (h : Inv Z M) (x1 : Int) : F_M_back x1 M (fun v M1 => F_R_back x1 M1 (fun w M2 => v = w ∧ Inv Z M2)) := by
  obtain ⟨⟨h1, h2, h3, h4, h5, h6, h7, h8, h9, h10, h11, h12, h13, h14⟩, ⟨l1, l2, l3, l4, l5, l6, l7, l8, l9, l10, l11⟩, ⟨s1, s2⟩, ⟨v1, v2, v3, v4, v5, v6⟩, ⟨w1, w2, w3⟩, hF, m1, m2⟩ := id h
  unfold F_M_back S_M_back  F_R_back S_R_back
  simp (disch := first | omega | (simp only [st_fn, Nat.reduceEqDiff, ↓reduceIte, reduceIte, Int.reduceEq, if_true, if_false]; omega)) only [sSeq, sSet, sInc, sPF, sPA, sPD, sOF, sOA, sX, sIf, sSkip, sRet, sRetB, sRetV, sSw, sSel, eK, eL, eR, eF, eA, eQ, eD, eU, eB, eV, eIf, ePF, eC0, eC1, eC2, eC3, eC4, eC5, eC6, eC7, cB, cZ, cAnd, cOr, cNot, i2l, st_fn, sl_ap, if_true, if_false, ↓reduceIte, reduceIte, Nat.reduceEqDiff, Int.reduceEq, Int.reduceLT, Int.reduceLE, Int.reduceAdd, Int.reduceSub, Int.reduceMul, Int.reduceNeg, and_true, true_and, not_true, not_false_eq_true, true_or, or_true, ne_eq, F_M_isWeek_iff, F_R_isWeek_iff, F_M_within_iff, F_R_in_iff, F_Trade_isTitle_iff, F_Trade_isThing_iff, F_Trade_isShop_iff, F_Ledger_isSale_iff, F_R_isTitle_iff, F_R_isThing_iff, F_R_isShop_iff, F_R_hasSale_iff, b01_ne, iAdd_id, iSub_id, h1, h2, h3, h4, h5, h6, h7, h8, h9, h10, h11, h12, h13, h14, l1, l2, l3, l4, l5, l6, l7, l8, l9, l10, l11, s1]
  repeat' (first | (with_reducible intro _) | (with_reducible refine And.intro ?_ ?_))
  all_goals first
    | exact h
    | omega
    | (exfalso; omega)
    | skip
  all_goals (
    refine ⟨?_, ?_, ?_, ?_, ?_, ?_, ?_, ?_⟩
    · unfold DCt
      simp only [st_fn, Nat.reduceEqDiff, ↓reduceIte, reduceIte, Int.reduceEq, if_true, if_false, true_and, and_true, and_self, h1, h2, h3, h4, h5, h6, h7, h8, h9, h10, h11, h12, h13, h14, l1, l2, l3, l4, l5, l6, l7, l8, l9, l10, l11, s1]
    · unfold DCl
      simp only [st_fn, Nat.reduceEqDiff, ↓reduceIte, reduceIte, Int.reduceEq, if_true, if_false, true_and, and_true, and_self, h1, h2, h3, h4, h5, h6, h7, h8, h9, h10, h11, h12, h13, h14, l1, l2, l3, l4, l5, l6, l7, l8, l9, l10, l11, s1]
    · unfold DCs
      simp only [st_fn, Nat.reduceEqDiff, ↓reduceIte, reduceIte, Int.reduceEq, if_true, if_false, true_and, and_true, and_self, h1, h2, h3, h4, h5, h6, h7, h8, h9, h10, h11, h12, h13, h14, l1, l2, l3, l4, l5, l6, l7, l8, l9, l10, l11, s1]
      exact s2
    · unfold Vt
      simp only [st_fn, Nat.reduceEqDiff, ↓reduceIte, reduceIte, Int.reduceEq, if_true, if_false, true_and, and_true, and_self, h1, h2, h3, h4, h5, h6, h7, h8, h9, h10, h11, h12, h13, h14, l1, l2, l3, l4, l5, l6, l7, l8, l9, l10, l11, s1]
      exact ⟨by omega, by omega, by omega, fun t a b => by have e := v4 t a; (repeat' split) <;> omega, fun t a b => by have e := v5 t a; (repeat' split) <;> omega, fun t a b => by have e := v6 t a; (repeat' split) <;> omega⟩
    · unfold Vl
      simp only [st_fn, Nat.reduceEqDiff, ↓reduceIte, reduceIte, Int.reduceEq, if_true, if_false, true_and, and_true, and_self, h1, h2, h3, h4, h5, h6, h7, h8, h9, h10, h11, h12, h13, h14, l1, l2, l3, l4, l5, l6, l7, l8, l9, l10, l11, s1]
      exact ⟨by omega, by omega, fun t a b => by have e := w3 t a; (repeat' split) <;> omega⟩
    · intro k hk
      simp only [st_fn]
      repeat rw [if_neg (by omega)]
      exact hF k hk
    · simp only [st_fn, Nat.reduceEqDiff, ↓reduceIte, reduceIte, Int.reduceEq, if_true, if_false, true_and, and_true, and_self]
      exact m1
    · simp only [st_fn, Nat.reduceEqDiff, ↓reduceIte, reduceIte, Int.reduceEq, if_true, if_false, true_and, and_true, and_self]
      exact m2)
set_option maxHeartbeats 1000000 in
theorem ok_asOf {Z M : XM} (h : Inv Z M) (x1 : Int) : F_M_asOf x1 M (fun v M1 => F_R_asOf x1 M1 (fun w M2 => v = w ∧ Inv Z M2)) := by
  obtain ⟨⟨h1, h2, h3, h4, h5, h6, h7, h8, h9, h10, h11, h12, h13, h14⟩, ⟨l1, l2, l3, l4, l5, l6, l7, l8, l9, l10, l11⟩, ⟨s1, s2⟩, ⟨v1, v2, v3, v4, v5, v6⟩, ⟨w1, w2, w3⟩, hF, m1, m2⟩ := id h
  unfold F_M_asOf S_M_asOf  F_R_asOf S_R_asOf
  simp (disch := first | omega | (simp only [st_fn, Nat.reduceEqDiff, ↓reduceIte, reduceIte, Int.reduceEq, if_true, if_false]; omega)) only [sSeq, sSet, sInc, sPF, sPA, sPD, sOF, sOA, sX, sIf, sSkip, sRet, sRetB, sRetV, sSw, sSel, eK, eL, eR, eF, eA, eQ, eD, eU, eB, eV, eIf, ePF, eC0, eC1, eC2, eC3, eC4, eC5, eC6, eC7, cB, cZ, cAnd, cOr, cNot, i2l, st_fn, sl_ap, if_true, if_false, ↓reduceIte, reduceIte, Nat.reduceEqDiff, Int.reduceEq, Int.reduceLT, Int.reduceLE, Int.reduceAdd, Int.reduceSub, Int.reduceMul, Int.reduceNeg, and_true, true_and, not_true, not_false_eq_true, true_or, or_true, ne_eq, F_M_isWeek_iff, F_R_isWeek_iff, F_M_within_iff, F_R_in_iff, F_Trade_isTitle_iff, F_Trade_isThing_iff, F_Trade_isShop_iff, F_Ledger_isSale_iff, F_R_isTitle_iff, F_R_isThing_iff, F_R_isShop_iff, F_R_hasSale_iff, b01_ne, iAdd_id, iSub_id, h1, h2, h3, h4, h5, h6, h7, h8, h9, h10, h11, h12, h13, h14, l1, l2, l3, l4, l5, l6, l7, l8, l9, l10, l11, s1]
  repeat' (first | (with_reducible intro _) | (with_reducible refine And.intro ?_ ?_))
  all_goals first
    | exact h
    | omega
    | (exfalso; omega)
    | skip
  all_goals (
    refine ⟨?_, ?_, ?_, ?_, ?_, ?_, ?_, ?_⟩
    · unfold DCt
      simp only [st_fn, Nat.reduceEqDiff, ↓reduceIte, reduceIte, Int.reduceEq, if_true, if_false, true_and, and_true, and_self, h1, h2, h3, h4, h5, h6, h7, h8, h9, h10, h11, h12, h13, h14, l1, l2, l3, l4, l5, l6, l7, l8, l9, l10, l11, s1]
    · unfold DCl
      simp only [st_fn, Nat.reduceEqDiff, ↓reduceIte, reduceIte, Int.reduceEq, if_true, if_false, true_and, and_true, and_self, h1, h2, h3, h4, h5, h6, h7, h8, h9, h10, h11, h12, h13, h14, l1, l2, l3, l4, l5, l6, l7, l8, l9, l10, l11, s1]
    · unfold DCs
      simp only [st_fn, Nat.reduceEqDiff, ↓reduceIte, reduceIte, Int.reduceEq, if_true, if_false, true_and, and_true, and_self, h1, h2, h3, h4, h5, h6, h7, h8, h9, h10, h11, h12, h13, h14, l1, l2, l3, l4, l5, l6, l7, l8, l9, l10, l11, s1]
      exact s2
    · unfold Vt
      simp only [st_fn, Nat.reduceEqDiff, ↓reduceIte, reduceIte, Int.reduceEq, if_true, if_false, true_and, and_true, and_self, h1, h2, h3, h4, h5, h6, h7, h8, h9, h10, h11, h12, h13, h14, l1, l2, l3, l4, l5, l6, l7, l8, l9, l10, l11, s1]
      exact ⟨by omega, by omega, by omega, fun t a b => by have e := v4 t a; (repeat' split) <;> omega, fun t a b => by have e := v5 t a; (repeat' split) <;> omega, fun t a b => by have e := v6 t a; (repeat' split) <;> omega⟩
    · unfold Vl
      simp only [st_fn, Nat.reduceEqDiff, ↓reduceIte, reduceIte, Int.reduceEq, if_true, if_false, true_and, and_true, and_self, h1, h2, h3, h4, h5, h6, h7, h8, h9, h10, h11, h12, h13, h14, l1, l2, l3, l4, l5, l6, l7, l8, l9, l10, l11, s1]
      exact ⟨by omega, by omega, fun t a b => by have e := w3 t a; (repeat' split) <;> omega⟩
    · intro k hk
      simp only [st_fn]
      repeat rw [if_neg (by omega)]
      exact hF k hk
    · simp only [st_fn, Nat.reduceEqDiff, ↓reduceIte, reduceIte, Int.reduceEq, if_true, if_false, true_and, and_true, and_self]
      exact m1
    · simp only [st_fn, Nat.reduceEqDiff, ↓reduceIte, reduceIte, Int.reduceEq, if_true, if_false, true_and, and_true, and_self]
      exact m2)
