/-! sheets -/
theorem F_Sheets_isNumber_iff {a : Int} {M : XM} {Q : Int → XM → Prop} : F_Sheets_isNumber a M Q ↔ Q (if 0 ≤ a ∧ a ≤ 3 then 1 else 0) M := by
  unfold F_Sheets_isNumber S_Sheets_isNumber
  simp only [sSeq, sSet, sInc, sPF, sPA, sPD, sOF, sOA, sX, sIf, sSkip, sRet, sRetB, sRetV, sSw, sSel, eK, eL, eR, eF, eA, eQ, eD, eU, eB, eV, eIf, ePF, eC0, eC1, eC2, eC3, eC4, eC5, eC6, eC7, cB, cZ, cAnd, cOr, cNot, i2l, st_fn, sl_ap, if_true, if_false, ↓reduceIte, reduceIte, Nat.reduceEqDiff, Int.reduceEq, Int.reduceLT, Int.reduceLE, Int.reduceAdd, Int.reduceSub, Int.reduceMul, Int.reduceNeg, and_true, true_and, not_true, not_false_eq_true, true_or, or_true, ne_eq, F_M_within_iff, b01_or]
theorem F_Sheets_isMould_iff {a : Int} {M : XM} {Q : Int → XM → Prop} : F_Sheets_isMould a M Q ↔ Q (if 0 ≤ a ∧ a ≤ 3 then 1 else 0) M := by
  unfold F_Sheets_isMould S_Sheets_isMould
  simp only [sSeq, sSet, sInc, sPF, sPA, sPD, sOF, sOA, sX, sIf, sSkip, sRet, sRetB, sRetV, sSw, sSel, eK, eL, eR, eF, eA, eQ, eD, eU, eB, eV, eIf, ePF, eC0, eC1, eC2, eC3, eC4, eC5, eC6, eC7, cB, cZ, cAnd, cOr, cNot, i2l, st_fn, sl_ap, if_true, if_false, ↓reduceIte, reduceIte, Nat.reduceEqDiff, Int.reduceEq, Int.reduceLT, Int.reduceLE, Int.reduceAdd, Int.reduceSub, Int.reduceMul, Int.reduceNeg, and_true, true_and, not_true, not_false_eq_true, true_or, or_true, ne_eq, F_M_within_iff, b01_or]
theorem F_R_isSheet_iff {a : Int} {M : XM} {Q : Int → XM → Prop} : F_R_isSheet a M Q ↔ Q (if 0 ≤ a ∧ a ≤ 3 then 1 else 0) M := by
  unfold F_R_isSheet S_R_isSheet
  simp only [sSeq, sSet, sInc, sPF, sPA, sPD, sOF, sOA, sX, sIf, sSkip, sRet, sRetB, sRetV, sSw, sSel, eK, eL, eR, eF, eA, eQ, eD, eU, eB, eV, eIf, ePF, eC0, eC1, eC2, eC3, eC4, eC5, eC6, eC7, cB, cZ, cAnd, cOr, cNot, i2l, st_fn, sl_ap, if_true, if_false, ↓reduceIte, reduceIte, Nat.reduceEqDiff, Int.reduceEq, Int.reduceLT, Int.reduceLE, Int.reduceAdd, Int.reduceSub, Int.reduceMul, Int.reduceNeg, and_true, true_and, not_true, not_false_eq_true, true_or, or_true, ne_eq, F_R_in_iff, b01_or]
theorem F_Sheets_isLost_iff {a : Int} {M : XM} {Q : Int → XM → Prop} (h1 : 0 ≤ a) (h2 : a < 4) : F_Sheets_isLost a M Q ↔ Q (if M 79 a = -1 then 1 else 0) M := by
  unfold F_Sheets_isLost S_Sheets_isLost
  simp only [sSeq, sSet, sInc, sPF, sPA, sPD, sOF, sOA, sX, sIf, sSkip, sRet, sRetB, sRetV, sSw, sSel, eK, eL, eR, eF, eA, eQ, eD, eU, eB, eV, eIf, ePF, eC0, eC1, eC2, eC3, eC4, eC5, eC6, eC7, cB, cZ, cAnd, cOr, cNot, i2l, st_fn, sl_ap, if_true, if_false, ↓reduceIte, reduceIte, Nat.reduceEqDiff, Int.reduceEq, Int.reduceLT, Int.reduceLE, Int.reduceAdd, Int.reduceSub, Int.reduceMul, Int.reduceNeg, and_true, true_and, not_true, not_false_eq_true, true_or, or_true, ne_eq, h1, h2]
  by_cases c : M 79 a = -1 <;> simp [c]
theorem SheetsRel_at {r0 r1 r2 r3 len mo m s it : Int → Int} (h : SheetsRel r0 r1 r2 r3 len mo m s it) (q : Int) : ¬ (0 ≤ q ∧ q ≤ 3) ∨ (m q = -1 ∧ len q = -1 ∧ 0 ≤ s q ∧ s q ≤ 120) ∨ (0 ≤ m q ∧ m q ≤ 3 ∧ 0 ≤ s q ∧ s q ≤ 120 ∧ len q = s q ∧ mo q = m q) := by
  by_cases c : 0 ≤ q ∧ q ≤ 3
  · rcases h q c.1 c.2 with a | ⟨a1, a2, a3, a4, a5, a6, -⟩
    · exact Or.inr (Or.inl a)
    · exact Or.inr (Or.inr ⟨a1, a2, a3, a4, a5, a6⟩)
  · exact Or.inl c
set_option maxRecDepth 100000 in
set_option maxHeartbeats 1000000 in
theorem ok_lose {Z M : XM} (h : Inv Z M) (x1 : Int) : F_M_lose x1 M (fun v M1 => F_R_lose x1 M1 (fun w M2 => v = w ∧ Inv Z M2)) := by
  obtain ⟨⟨h1, h2, h3, h4, h5, h6, h7, h8, h9, h10, h11, h12, h13, h14⟩, ⟨l1, l2, l3, l4, l5, l6, l7, l8, l9, l10, l11⟩, ⟨s1, s2⟩, ⟨v1, v2, v3, v4, v5, v6⟩, ⟨w1, w2, w3⟩, hF, m1, m2, m3⟩ := id h
  have s3 := SheetsRel_at s2 x1
  by_cases c0 : 0 ≤ x1 ∧ x1 ≤ 3
  all_goals simp (disch := first | omega | (simp only [st_fn, Nat.reduceEqDiff, ↓reduceIte, reduceIte, Int.reduceEq, if_true, if_false]; omega)) only [F_M_lose, S_M_lose, F_R_lose, S_R_lose, F_Sheets_found, S_Sheets_found, F_R_met, S_R_met, sSeq, sSet, sInc, sPF, sPA, sPD, sOF, sOA, sX, sIf, sSkip, sRet, sRetB, sRetV, sSw, sSel, eK, eL, eR, eF, eA, eQ, eD, eU, eB, eV, eIf, ePF, eC0, eC1, eC2, eC3, eC4, eC5, eC6, eC7, cB, cZ, cAnd, cOr, cNot, i2l, st_fn, sl_ap, if_true, if_false, ↓reduceIte, reduceIte, Nat.reduceEqDiff, Int.reduceEq, Int.reduceLT, Int.reduceLE, Int.reduceAdd, Int.reduceSub, Int.reduceMul, Int.reduceNeg, and_true, true_and, not_true, not_false_eq_true, true_or, or_true, ne_eq, F_M_isWeek_iff, F_R_isWeek_iff, F_M_within_iff, F_R_in_iff, F_Sheets_isNumber_iff, F_Sheets_isMould_iff, F_R_isSheet_iff, F_Sheets_isLost_iff, b01_ne, iAdd_id, iSub_id, iMul_id, wp_and, wp_or, h1, h2, h3, h4, h5, h6, h7, h8, h9, h10, h11, h12, h13, h14, l1, l2, l3, l4, l5, l6, l7, l8, l9, l10, l11, s1]
  repeat' (first | (with_reducible intro _) | (with_reducible refine And.intro ?_ ?_))
  all_goals first
    | exact h
    | omega
    | (exfalso; omega)
    | skip
  all_goals (
    refine ⟨?_, ?_, ?_, ?_, ?_, ?_, ?_, ?_, ?_⟩
    · unfold DCt
      simp only [st_fn, Nat.reduceEqDiff, ↓reduceIte, reduceIte, Int.reduceEq, if_true, if_false, true_and, and_true, and_self, h1, h2, h3, h4, h5, h6, h7, h8, h9, h10, h11, h12, h13, h14, l1, l2, l3, l4, l5, l6, l7, l8, l9, l10, l11, s1]
    · unfold DCl
      simp only [st_fn, Nat.reduceEqDiff, ↓reduceIte, reduceIte, Int.reduceEq, if_true, if_false, true_and, and_true, and_self, h1, h2, h3, h4, h5, h6, h7, h8, h9, h10, h11, h12, h13, h14, l1, l2, l3, l4, l5, l6, l7, l8, l9, l10, l11, s1]
    · unfold DCs
      simp only [st_fn, Nat.reduceEqDiff, ↓reduceIte, reduceIte, Int.reduceEq, if_true, if_false, true_and, and_true, and_self, h1, h2, h3, h4, h5, h6, h7, h8, h9, h10, h11, h12, h13, h14, l1, l2, l3, l4, l5, l6, l7, l8, l9, l10, l11, s1]
      first
        | exact s2
        | (intro q a b
           by_cases e : q = x1
           · exact Or.inl ⟨if_pos e, if_pos e, by subst e; omega⟩
           · have z := s2 q a b
             simp only [if_neg e]
             exact z)
    · unfold Vt
      simp only [st_fn, Nat.reduceEqDiff, ↓reduceIte, reduceIte, Int.reduceEq, if_true, if_false, true_and, and_true, and_self, h1, h2, h3, h4, h5, h6, h7, h8, h9, h10, h11, h12, h13, h14, l1, l2, l3, l4, l5, l6, l7, l8, l9, l10, l11, s1]
      exact ⟨by omega, by omega, by omega, fun t a b => by have e := v4 t a; (repeat' split) <;> omega, fun t a b => by have e := v5 t a; (repeat' split) <;> omega, fun t a b => by have e := v6 t a; (repeat' split) <;> omega⟩
    · unfold Vl
      simp only [st_fn, Nat.reduceEqDiff, ↓reduceIte, reduceIte, Int.reduceEq, if_true, if_false, true_and, and_true, and_self, h1, h2, h3, h4, h5, h6, h7, h8, h9, h10, h11, h12, h13, h14, l1, l2, l3, l4, l5, l6, l7, l8, l9, l10, l11, s1]
      exact ⟨by omega, by omega, fun t a b => by have e := w3 t a; (repeat' split) <;> omega⟩
    · intro k hk
      simp only [st_fn]
      repeat rw [if_neg (by omega)]
      exact hF k hk
    · simp only [st_fn, Nat.reduceEqDiff, ↓reduceIte, reduceIte, Int.reduceEq, if_true, if_false, true_and, and_true, and_self]
      exact m1
    · simp only [st_fn, Nat.reduceEqDiff, ↓reduceIte, reduceIte, Int.reduceEq, if_true, if_false, true_and, and_true, and_self]
      exact m2
    · unfold DCr at m3 ⊢
      simp only [st_fn, Nat.reduceEqDiff, ↓reduceIte, reduceIte, Int.reduceEq, if_true, if_false, true_and, and_true, and_self]
      exact m3)
