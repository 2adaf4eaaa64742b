/-! acts, more -/
theorem wp_if {P : Prop} [Decidable P] {Q : Int → Prop} {a b : Int} : ((P → Q a) ∧ (¬P → Q b)) ↔ Q (if P then a else b) := by by_cases h : P <;> simp [h]
theorem F_Ledger_isKnown_iff {k : Int} {M : XM} {Q : Int → XM → Prop} (h1 : 0 ≤ k) (h2 : k < 150) : F_Ledger_isKnown k M Q ↔ Q (if ¬ k = M 13 2 ∧ M 20 k ≤ M 13 1 ∧ (M 21 k = -1 ∨ M 13 1 < M 21 k) then 1 else 0) M := by
  unfold F_Ledger_isKnown S_Ledger_isKnown
  simp only [sSeq, sSet, sInc, sPF, sPA, sPD, sOF, sOA, sX, sIf, sSkip, sRet, sRetB, sRetV, sSw, sSel, eK, eL, eR, eF, eA, eQ, eD, eU, eB, eV, eIf, ePF, eC0, eC1, eC2, eC3, eC4, eC5, eC6, eC7, cB, cZ, cAnd, cOr, cNot, i2l, st_fn, sl_ap, if_true, if_false, ↓reduceIte, reduceIte, Nat.reduceEqDiff, Int.reduceEq, Int.reduceLT, Int.reduceLE, Int.reduceAdd, Int.reduceSub, Int.reduceMul, Int.reduceNeg, and_true, true_and, not_true, not_false_eq_true, true_or, or_true, ne_eq, h1, h2, wp_or]
  simp only [← Int.not_lt (a := M 13 1)]
  by_cases c1 : k = M 13 2 <;> by_cases c2 : M 13 1 < M 20 k <;> by_cases c3 : M 21 k = -1 <;> by_cases c4 : M 13 1 < M 21 k <;> simp only [c1, c2, c3, c4, true_or, or_true, or_false, false_or, not_true_eq_false, not_false_eq_true, true_and, and_true, false_and, and_false, if_true, if_false, true_imp_iff, false_imp_iff, or_self, and_self]
theorem F_R_isKnown_iff {k : Int} {M : XM} {Q : Int → XM → Prop} (h1 : 0 ≤ k) (h2 : k < 150) : F_R_isKnown k M Q ↔ Q (if ¬ k = M 81 28 ∧ M 102 k ≤ M 81 18 ∧ (M 103 k = -1 ∨ M 81 18 < M 103 k) then 1 else 0) M := by
  unfold F_R_isKnown S_R_isKnown
  simp only [sSeq, sSet, sInc, sPF, sPA, sPD, sOF, sOA, sX, sIf, sSkip, sRet, sRetB, sRetV, sSw, sSel, eK, eL, eR, eF, eA, eQ, eD, eU, eB, eV, eIf, ePF, eC0, eC1, eC2, eC3, eC4, eC5, eC6, eC7, cB, cZ, cAnd, cOr, cNot, i2l, st_fn, sl_ap, if_true, if_false, ↓reduceIte, reduceIte, Nat.reduceEqDiff, Int.reduceEq, Int.reduceLT, Int.reduceLE, Int.reduceAdd, Int.reduceSub, Int.reduceMul, Int.reduceNeg, and_true, true_and, not_true, not_false_eq_true, true_or, or_true, ne_eq, h1, h2, wp_and, wp_or]
  by_cases c : ¬ k = M 81 28 ∧ M 102 k ≤ M 81 18 ∧ (M 103 k = -1 ∨ M 81 18 < M 103 k)
  · rw [if_pos c]
    exact ⟨fun q => q.1 c, fun q => ⟨fun _ => q, fun n => absurd c n⟩⟩
  · rw [if_neg c]
    exact ⟨fun q => q.2 c, fun q => ⟨fun n => absurd n c, fun _ => q⟩⟩
set_option maxRecDepth 100000 in
set_option maxHeartbeats 1000000 in
theorem ok_about {Z M : XM} (h : Inv Z M) (x1 x2 : Int) : F_M_about x1 x2 M (fun v M1 => F_R_about x1 x2 M1 (fun w M2 => v = w ∧ Inv Z M2)) := by
  obtain ⟨⟨h1, h2, h3, h4, h5, h6, h7, h8, h9, h10, h11, h12, h13, h14⟩, ⟨l1, l2, l3, l4, l5, l6, l7, l8, l9, l10, l11⟩, ⟨s1, s2⟩, ⟨v1, v2, v3, v4, v5, v6⟩, ⟨w1, w2, w3⟩, hF, m1, m2, m3⟩ := id h
  by_cases c0 : 0 ≤ x1 ∧ x1 < M 81 19
  all_goals simp (disch := first | omega | (simp only [st_fn, Nat.reduceEqDiff, ↓reduceIte, reduceIte, Int.reduceEq, if_true, if_false]; omega)) only [F_M_about, S_M_about, F_R_about, S_R_about, sSeq, sSet, sInc, sPF, sPA, sPD, sOF, sOA, sX, sIf, sSkip, sRet, sRetB, sRetV, sSw, sSel, eK, eL, eR, eF, eA, eQ, eD, eU, eB, eV, eIf, ePF, eC0, eC1, eC2, eC3, eC4, eC5, eC6, eC7, cB, cZ, cAnd, cOr, cNot, i2l, st_fn, sl_ap, if_true, if_false, ↓reduceIte, reduceIte, Nat.reduceEqDiff, Int.reduceEq, Int.reduceLT, Int.reduceLE, Int.reduceAdd, Int.reduceSub, Int.reduceMul, Int.reduceNeg, and_true, true_and, not_true, not_false_eq_true, true_or, or_true, ne_eq, F_M_isWeek_iff, F_R_isWeek_iff, F_M_within_iff, F_R_in_iff, F_Trade_isTitle_iff, F_Trade_isThing_iff, F_Trade_isShop_iff, F_Ledger_isSale_iff, F_R_isTitle_iff, F_R_isThing_iff, F_R_isShop_iff, F_R_hasSale_iff, b01_ne, iAdd_id, iSub_id, F_Ledger_isKnown_iff, F_R_isKnown_iff, h1, h2, h3, h4, h5, h6, h7, h8, h9, h10, h11, h12, h13, h14, l1, l2, l3, l4, l5, l6, l7, l8, l9, l10, l11, s1]
  repeat' (first | (with_reducible intro _) | (with_reducible refine And.intro ?_ ?_))
  all_goals first
    | exact h
    | omega
    | (exfalso; omega)
    | skip
  all_goals (
    refine ⟨?_, ?_, ?_, ?_, ?_, ?_, ?_, ?_, ?_⟩
    · unfold DCt
      simp only [st_fn, Nat.reduceEqDiff, ↓reduceIte, reduceIte, Int.reduceEq, if_true, if_false, true_and, and_true, and_self, h1, h2, h3, h4, h5, h6, h7, h8, h9, h10, h11, h12, h13, h14, l1, l2, l3, l4, l5, l6, l7, l8, l9, l10, l11, s1]
    · unfold DCl
      simp only [st_fn, Nat.reduceEqDiff, ↓reduceIte, reduceIte, Int.reduceEq, if_true, if_false, true_and, and_true, and_self, h1, h2, h3, h4, h5, h6, h7, h8, h9, h10, h11, h12, h13, h14, l1, l2, l3, l4, l5, l6, l7, l8, l9, l10, l11, s1]
    · unfold DCs
      simp only [st_fn, Nat.reduceEqDiff, ↓reduceIte, reduceIte, Int.reduceEq, if_true, if_false, true_and, and_true, and_self, h1, h2, h3, h4, h5, h6, h7, h8, h9, h10, h11, h12, h13, h14, l1, l2, l3, l4, l5, l6, l7, l8, l9, l10, l11, s1]
      exact s2
    · unfold Vt
      simp only [st_fn, Nat.reduceEqDiff, ↓reduceIte, reduceIte, Int.reduceEq, if_true, if_false, true_and, and_true, and_self, h1, h2, h3, h4, h5, h6, h7, h8, h9, h10, h11, h12, h13, h14, l1, l2, l3, l4, l5, l6, l7, l8, l9, l10, l11, s1]
      exact ⟨by omega, by omega, by omega, fun t a b => by have e := v4 t a; (repeat' split) <;> omega, fun t a b => by have e := v5 t a; (repeat' split) <;> omega, fun t a b => by have e := v6 t a; (repeat' split) <;> omega⟩
    · unfold Vl
      simp only [st_fn, Nat.reduceEqDiff, ↓reduceIte, reduceIte, Int.reduceEq, if_true, if_false, true_and, and_true, and_self, h1, h2, h3, h4, h5, h6, h7, h8, h9, h10, h11, h12, h13, h14, l1, l2, l3, l4, l5, l6, l7, l8, l9, l10, l11, s1]
      exact ⟨by omega, by omega, fun t a b => by have e := w3 t a; (repeat' split) <;> omega⟩
    · intro k hk
      simp only [st_fn]
      repeat rw [if_neg (by omega)]
      exact hF k hk
    · simp only [st_fn, Nat.reduceEqDiff, ↓reduceIte, reduceIte, Int.reduceEq, if_true, if_false, true_and, and_true, and_self]
      exact m1
    · simp only [st_fn, Nat.reduceEqDiff, ↓reduceIte, reduceIte, Int.reduceEq, if_true, if_false, true_and, and_true, and_self]
      exact m2
    · unfold DCr at m3 ⊢
      simp only [st_fn, Nat.reduceEqDiff, ↓reduceIte, reduceIte, Int.reduceEq, if_true, if_false, true_and, and_true, and_self]
      exact m3)
set_option maxRecDepth 100000 in
set_option maxHeartbeats 1000000 in
theorem ok_sale {Z M : XM} (h : Inv Z M) (x1 x2 x3 x4 x5 x6 x7 : Int) (r1 : r32 x1) (r2 : r32 x2) (r3 : r32 x3) (r4 : r32 x4) (r5 : r32 x5) (r6 : r32 x6) (r7 : r32 x7) : F_M_sale x1 x2 x3 x4 x5 x6 x7 M (fun v M1 => F_R_sale x1 x2 x3 x4 x5 x6 x7 M1 (fun w M2 => v = w ∧ Inv Z M2)) := by
  obtain ⟨⟨h1, h2, h3, h4, h5, h6, h7, h8, h9, h10, h11, h12, h13, h14⟩, ⟨l1, l2, l3, l4, l5, l6, l7, l8, l9, l10, l11⟩, ⟨s1, s2⟩, ⟨v1, v2, v3, v4, v5, v6⟩, ⟨w1, w2, w3⟩, hF, m1, m2, m3⟩ := id h
  simp (disch := first | omega | (simp only [st_fn, Nat.reduceEqDiff, ↓reduceIte, reduceIte, Int.reduceEq, if_true, if_false]; omega)) only [F_M_sale, S_M_sale, F_M_enter, S_M_enter, F_Ledger_add, S_Ledger_add, F_R_isSale, S_R_isSale, F_R_adds, S_R_adds, F_R_sale, S_R_sale, x32_id r1, x32_id r2, x32_id r3, x32_id r4, x32_id r5, x32_id r6, x32_id r7, sSeq, sSet, sInc, sPF, sPA, sPD, sOF, sOA, sX, sIf, sSkip, sRet, sRetB, sRetV, sSw, sSel, eK, eL, eR, eF, eA, eQ, eD, eU, eB, eV, eIf, ePF, eC0, eC1, eC2, eC3, eC4, eC5, eC6, eC7, cB, cZ, cAnd, cOr, cNot, i2l, st_fn, sl_ap, if_true, if_false, ↓reduceIte, reduceIte, Nat.reduceEqDiff, Int.reduceEq, Int.reduceLT, Int.reduceLE, Int.reduceAdd, Int.reduceSub, Int.reduceMul, Int.reduceNeg, and_true, true_and, not_true, not_false_eq_true, true_or, or_true, ne_eq, F_M_isWeek_iff, F_R_isWeek_iff, F_M_within_iff, F_R_in_iff, F_Trade_isTitle_iff, F_Trade_isThing_iff, F_Trade_isShop_iff, F_Ledger_isSale_iff, F_R_isTitle_iff, F_R_isThing_iff, F_R_isShop_iff, F_R_hasSale_iff, b01_ne, iAdd_id, iSub_id, wp_and, wp_or, l2i, b01_or, h1, h2, h3, h4, h5, h6, h7, h8, h9, h10, h11, h12, h13, h14, l1, l2, l3, l4, l5, l6, l7, l8, l9, l10, l11, s1]
  repeat' (first | (with_reducible intro _) | (with_reducible refine And.intro ?_ ?_))
  all_goals first
    | exact h
    | omega
    | (exfalso; omega)
    | skip
  all_goals (
    refine ⟨?_, ?_, ?_, ?_, ?_, ?_, ?_, ?_, ?_⟩
    · unfold DCt
      simp only [st_fn, Nat.reduceEqDiff, ↓reduceIte, reduceIte, Int.reduceEq, if_true, if_false, true_and, and_true, and_self, h1, h2, h3, h4, h5, h6, h7, h8, h9, h10, h11, h12, h13, h14, l1, l2, l3, l4, l5, l6, l7, l8, l9, l10, l11, s1]
    · unfold DCl
      simp only [st_fn, Nat.reduceEqDiff, ↓reduceIte, reduceIte, Int.reduceEq, if_true, if_false, true_and, and_true, and_self, h1, h2, h3, h4, h5, h6, h7, h8, h9, h10, h11, h12, h13, h14, l1, l2, l3, l4, l5, l6, l7, l8, l9, l10, l11, s1]
    · unfold DCs
      simp only [st_fn, Nat.reduceEqDiff, ↓reduceIte, reduceIte, Int.reduceEq, if_true, if_false, true_and, and_true, and_self, h1, h2, h3, h4, h5, h6, h7, h8, h9, h10, h11, h12, h13, h14, l1, l2, l3, l4, l5, l6, l7, l8, l9, l10, l11, s1]
      exact s2
    · unfold Vt
      simp only [st_fn, Nat.reduceEqDiff, ↓reduceIte, reduceIte, Int.reduceEq, if_true, if_false, true_and, and_true, and_self, h1, h2, h3, h4, h5, h6, h7, h8, h9, h10, h11, h12, h13, h14, l1, l2, l3, l4, l5, l6, l7, l8, l9, l10, l11, s1]
      exact ⟨by omega, by omega, by omega, fun t a b => by have e := v4 t a; (repeat' split) <;> omega, fun t a b => by have e := v5 t a; (repeat' split) <;> omega, fun t a b => by have e := v6 t a; (repeat' split) <;> omega⟩
    · unfold Vl
      simp only [st_fn, Nat.reduceEqDiff, ↓reduceIte, reduceIte, Int.reduceEq, if_true, if_false, true_and, and_true, and_self, h1, h2, h3, h4, h5, h6, h7, h8, h9, h10, h11, h12, h13, h14, l1, l2, l3, l4, l5, l6, l7, l8, l9, l10, l11, s1]
      exact ⟨by omega, by omega, fun t a b => by have e := w3 t a; (repeat' split) <;> omega⟩
    · intro k hk
      simp only [st_fn]
      repeat rw [if_neg (by omega)]
      exact hF k hk
    · simp only [st_fn, Nat.reduceEqDiff, ↓reduceIte, reduceIte, Int.reduceEq, if_true, if_false, true_and, and_true, and_self]
      exact m1
    · simp only [st_fn, Nat.reduceEqDiff, ↓reduceIte, reduceIte, Int.reduceEq, if_true, if_false, true_and, and_true, and_self]
      exact m2
    · unfold DCr at m3 ⊢
      simp only [st_fn, Nat.reduceEqDiff, ↓reduceIte, reduceIte, Int.reduceEq, if_true, if_false, true_and, and_true, and_self]
      exact m3)
