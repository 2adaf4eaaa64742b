/-! empty -/
theorem emptiesTo_r (e : Int → Int) : ∀ n : Nat, 0 ≤ emptiesTo e n ∧ emptiesTo e n ≤ (n : Int)
  | 0 => ⟨Int.le_refl _, Int.le_refl _⟩
  | n + 1 => by
    have h := emptiesTo_r e n
    show 0 ≤ emptiesTo e n + (if e (n : Int) = -1 then 0 else 1) ∧ emptiesTo e n + (if e (n : Int) = -1 then 0 else 1) ≤ _
    split <;> omega
theorem emptiesTo_out {e : Int → Int} {j v : Int} : ∀ {n : Nat}, (n : Int) ≤ j → emptiesTo (fun b => if b = j then v else e b) n = emptiesTo e n
  | 0, _ => rfl
  | n + 1, h => by
    have ih := emptiesTo_out (e := e) (v := v) (n := n) (j := j) (by omega)
    show emptiesTo _ n + (if (if (n : Int) = j then v else e n) = -1 then 0 else 1) = emptiesTo e n + (if e (n : Int) = -1 then 0 else 1)
    rw [ih, if_neg (show ¬ (n : Int) = j by omega)]
theorem emptiesTo_set {e : Int → Int} {j v : Int} (h0 : 0 ≤ j) (hv : v ≠ -1) : ∀ {n : Nat}, j < (n : Int) → emptiesTo (fun b => if b = j then v else e b) n = emptiesTo e n + (if e j = -1 then 1 else 0)
  | 0, h => by omega
  | n + 1, h => by
    show emptiesTo _ n + (if (if (n : Int) = j then v else e n) = -1 then 0 else 1) = emptiesTo e n + (if e (n : Int) = -1 then 0 else 1) + _
    by_cases c : (n : Int) = j
    · rw [emptiesTo_out (by omega), if_pos c, if_neg hv, c]
      split <;> omega
    · rw [emptiesTo_set h0 hv (by omega), if_neg c]
      omega
set_option maxRecDepth 100000 in
set_option maxHeartbeats 1000000 in
theorem ok_empty {Z M : XM} (h : Inv Z M) (x1 x2 x3 : Int) : F_M_empty x1 x2 x3 M (fun v M1 => F_R_empty x1 x2 x3 M1 (fun w M2 => v = w ∧ Inv Z M2)) := by
  obtain ⟨⟨h1, h2, h3, h4, h5, h6, h7, h8, h9, h10, h11, h12, h13, h14⟩, ⟨l1, l2, l3, l4, l5, l6, l7, l8, l9, l10, l11⟩, ⟨s1, s2⟩, ⟨v1, v2, v3, v4, v5, v6⟩, ⟨w1, w2, w3⟩, hF, m1, m2, m3⟩ := id h
  have e0 := emptiesTo_r (M 95) 832
  by_cases c0 : 0 ≤ x1 ∧ x1 < M 81 11
  all_goals by_cases c1 : 0 ≤ x2 ∧ x2 ≤ 51
  all_goals simp (disch := first | omega | (simp only [st_fn, Nat.reduceEqDiff, ↓reduceIte, reduceIte, Int.reduceEq, if_true, if_false]; omega)) only [F_M_empty, S_M_empty, F_R_empty, S_R_empty, F_Trade_sayEmpty, S_Trade_sayEmpty, sSeq, sSet, sInc, sPF, sPA, sPD, sOF, sOA, sX, sIf, sSkip, sRet, sRetB, sRetV, sSw, sSel, eK, eL, eR, eF, eA, eQ, eD, eU, eB, eV, eIf, ePF, eC0, eC1, eC2, eC3, eC4, eC5, eC6, eC7, cB, cZ, cAnd, cOr, cNot, i2l, st_fn, sl_ap, if_true, if_false, ↓reduceIte, reduceIte, Nat.reduceEqDiff, Int.reduceEq, Int.reduceLT, Int.reduceLE, Int.reduceAdd, Int.reduceSub, Int.reduceMul, Int.reduceNeg, and_true, true_and, not_true, not_false_eq_true, true_or, or_true, ne_eq, F_M_isWeek_iff, F_R_isWeek_iff, F_M_within_iff, F_R_in_iff, F_Trade_isShop_iff, F_R_isShop_iff, b01_ne, iAdd_id, iSub_id, iMul_id, Int.mul_comm 52 x1, wp_and, wp_or, h1, h2, h3, h4, h5, h6, h7, h8, h9, h10, h11, h12, h13, h14, l1, l2, l3, l4, l5, l6, l7, l8, l9, l10, l11, s1]
  repeat' (first | (with_reducible intro _) | (with_reducible refine And.intro ?_ ?_))
  all_goals first
    | exact h
    | omega
    | (exfalso; omega)
    | skip
  all_goals (
    refine ⟨?_, ?_, ?_, ?_, ?_, ?_, ?_, ?_, ?_⟩
    · unfold DCt
      simp only [st_fn, Nat.reduceEqDiff, ↓reduceIte, reduceIte, Int.reduceEq, if_true, if_false, true_and, and_true, and_self, h1, h2, h3, h4, h5, h6, h7, h8, h9, h10, h11, h12, h13, h14, l1, l2, l3, l4, l5, l6, l7, l8, l9, l10, l11, s1]
      rw [emptiesTo_set (n := 832) (j := x1 * 52 + x2) (by omega) (by omega) (by omega)]
      split <;> omega
    · unfold DCl
      simp only [st_fn, Nat.reduceEqDiff, ↓reduceIte, reduceIte, Int.reduceEq, if_true, if_false, true_and, and_true, and_self, h1, h2, h3, h4, h5, h6, h7, h8, h9, h10, h11, h12, h13, h14, l1, l2, l3, l4, l5, l6, l7, l8, l9, l10, l11, s1]
    · unfold DCs
      simp only [st_fn, Nat.reduceEqDiff, ↓reduceIte, reduceIte, Int.reduceEq, if_true, if_false, true_and, and_true, and_self, h1, h2, h3, h4, h5, h6, h7, h8, h9, h10, h11, h12, h13, h14, l1, l2, l3, l4, l5, l6, l7, l8, l9, l10, l11, s1]
      exact s2
    · unfold Vt
      simp only [st_fn, Nat.reduceEqDiff, ↓reduceIte, reduceIte, Int.reduceEq, if_true, if_false, true_and, and_true, and_self, h1, h2, h3, h4, h5, h6, h7, h8, h9, h10, h11, h12, h13, h14, l1, l2, l3, l4, l5, l6, l7, l8, l9, l10, l11, s1]
      exact ⟨by omega, by omega, by omega, fun t a b => by have e := v4 t a; (repeat' split) <;> omega, fun t a b => by have e := v5 t a; (repeat' split) <;> omega, fun t a b => by have e := v6 t a; (repeat' split) <;> omega⟩
    · unfold Vl
      simp only [st_fn, Nat.reduceEqDiff, ↓reduceIte, reduceIte, Int.reduceEq, if_true, if_false, true_and, and_true, and_self, h1, h2, h3, h4, h5, h6, h7, h8, h9, h10, h11, h12, h13, h14, l1, l2, l3, l4, l5, l6, l7, l8, l9, l10, l11, s1]
      exact ⟨by omega, by omega, fun t a b => by have e := w3 t a; (repeat' split) <;> omega⟩
    · intro k hk
      simp only [st_fn]
      repeat rw [if_neg (by omega)]
      exact hF k hk
    · simp only [st_fn, Nat.reduceEqDiff, ↓reduceIte, reduceIte, Int.reduceEq, if_true, if_false, true_and, and_true, and_self]
      exact m1
    · simp only [st_fn, Nat.reduceEqDiff, ↓reduceIte, reduceIte, Int.reduceEq, if_true, if_false, true_and, and_true, and_self]
      exact m2
    · unfold DCr at m3 ⊢
      simp only [st_fn, Nat.reduceEqDiff, ↓reduceIte, reduceIte, Int.reduceEq, if_true, if_false, true_and, and_true, and_self]
      exact m3)
