/-! amount, sum, sure, place, line -/
abbrev LMIN : Int := -9223372036854775808
theorem SL_SC : ∀ k ∈ SL, k ∈ SC := by decide
abbrev vAmount (d : XM) (s t w r : Int) : Int := if (0 ≤ s ∧ s < d 81 11) ∧ (0 ≤ t ∧ t < d 81 7) ∧ (0 ≤ w ∧ w ≤ 51) ∧ 0 ≤ r ∧ r ≤ 51 then amt d w r s t else LMIN
def S_M_amount_ (FG : XF2) : XS := sSeq (sIf (cOr (cOr (cOr (cNot (cZ (fun x => x ≠ 0) (eC1 F_Trade_isShop (eU i2l (eL 1))))) (cNot (cZ (fun x => x ≠ 0) (eC1 F_Trade_isThing (eU i2l (eL 2)))))) (cNot (cZ (fun x => x ≠ 0) (eC1 F_M_isWeek (eU i2l (eL 3)))))) (cNot (cZ (fun x => x ≠ 0) (eC1 F_M_isWeek (eU i2l (eL 4)))))) (sRet (eK (-9223372036854775808))) sSkip) (sSeq (sX (eC2 FG (eL 3) (eL 4))) (sRet (eU i2l (eC2 F_Tally_amountAt (eL 1) (eL 2)))))
theorem M_amount_gen (FG : XF2) {d M : XM} {s t w r : Int} {Q : Int → XM → Prop} (hB : Base d) (hC : CF d M) (hG : GaSpec d FG) (hQ : ∀ M', Only SC M M' → Q (vAmount d s t w r) M') : S_M_amount_ FG (fun _ _ => False) Q (sl (sl (sl (sl (fun _ => 0) 1 s) 2 t) 3 w) 4 r) M := by
  obtain ⟨h1, h2, h3, h4, h5, h6, h7, h8, h9, h10, h11, h12, h13, h14⟩ := hC.dct hB
  obtain ⟨v1, v2, v3, v4, v5, v6⟩ := hB.2.2.1
  unfold S_M_amount_
  simp (disch := omega) only [sSeq, sSet, sInc, sPF, sPA, sPD, sOF, sOA, sX, sIf, sSkip, sRet, sRetB, sRetV, sSw, sSel, eK, eL, eR, eF, eA, eQ, eD, eU, eB, eV, eIf, ePF, eC0, eC1, eC2, eC3, eC4, eC5, eC6, eC7, cB, cZ, cAnd, cOr, cNot, i2l, st_fn, sl_ap, if_true, if_false, ↓reduceIte, reduceIte, Nat.reduceEqDiff, Int.reduceEq, Int.reduceLT, Int.reduceLE, Int.reduceAdd, Int.reduceSub, Int.reduceMul, Int.reduceNeg, and_true, true_and, not_true, not_false_eq_true, true_or, or_true, ne_eq, F_Trade_isShop_iff, F_Trade_isThing_iff, F_M_isWeek_iff, b01_ne, h7, h3]
  unfold vAmount at hQ
  by_cases c : (0 ≤ s ∧ s < d 81 11) ∧ (0 ≤ t ∧ t < d 81 7) ∧ (0 ≤ w ∧ w ≤ 51) ∧ 0 ≤ r ∧ r ≤ 51
  · rw [if_pos c] at hQ
    ((repeat' (first | (with_reducible intro _) | (with_reducible refine And.intro ?_ ?_))) <;> try (exfalso; omega))
    refine hG M w r _ hC c.2.2.1 fun M1 o1 g1 => Tally_amountAt_ok hB g1 ⟨c.1.1, by omega⟩ ⟨c.2.1.1, by omega⟩ ?_
    exact hQ M1 (o1.wk (by decide))
  · rw [if_neg c] at hQ
    ((repeat' (first | (with_reducible intro _) | (with_reducible refine And.intro ?_ ?_))) <;> try (exfalso; omega))
    all_goals exact hQ M Only.rf
def S_R_amount_ (FG : XF2) : XS := sSeq (sIf (cOr (cOr (cOr (cNot (cZ (fun x => x ≠ 0) (eC1 F_R_isShop (eU i2l (eL 1))))) (cNot (cZ (fun x => x ≠ 0) (eC1 F_R_isThing (eU i2l (eL 2)))))) (cNot (cZ (fun x => x ≠ 0) (eC1 F_R_isWeek (eU i2l (eL 3)))))) (cNot (cZ (fun x => x ≠ 0) (eC1 F_R_isWeek (eU i2l (eL 4)))))) (sRet (eK (-9223372036854775808))) sSkip) (sSeq (sX (eC2 FG (eL 3) (eL 4))) (sRet (eA 108 384 (eB iAdd (eB iMul (eK 16) (eL 2)) (eL 1)))))
theorem R_amount_gen (FG : XF2) {d M : XM} {s t w r : Int} {Q : Int → XM → Prop} (hB : Base d) (hC : RF d M) (hlo : M 81 29 = -1) (hG : FaSpec d FG) (hQ : ∀ M', OnlyR SR SF M M' → M' 81 29 = -1 → Q (vAmount d s t w r) M') : S_R_amount_ FG (fun _ _ => False) Q (sl (sl (sl (sl (fun _ => 0) 1 s) 2 t) 3 w) 4 r) M := by
  obtain ⟨v1, v2, v3, v4, v5, v6⟩ := hB.2.2.1
  have e11 := hC.2.1 11 (by decide)
  have e7 := hC.2.1 7 (by decide)
  unfold S_R_amount_
  simp (disch := omega) only [sSeq, sSet, sInc, sPF, sPA, sPD, sOF, sOA, sX, sIf, sSkip, sRet, sRetB, sRetV, sSw, sSel, eK, eL, eR, eF, eA, eQ, eD, eU, eB, eV, eIf, ePF, eC0, eC1, eC2, eC3, eC4, eC5, eC6, eC7, cB, cZ, cAnd, cOr, cNot, i2l, st_fn, sl_ap, if_true, if_false, ↓reduceIte, reduceIte, Nat.reduceEqDiff, Int.reduceEq, Int.reduceLT, Int.reduceLE, Int.reduceAdd, Int.reduceSub, Int.reduceMul, Int.reduceNeg, and_true, true_and, not_true, not_false_eq_true, true_or, or_true, ne_eq, F_R_isShop_iff, F_R_isThing_iff, F_R_isWeek_iff, b01_ne, e11, e7]
  unfold vAmount at hQ
  by_cases c : (0 ≤ s ∧ s < d 81 11) ∧ (0 ≤ t ∧ t < d 81 7) ∧ (0 ≤ w ∧ w ≤ 51) ∧ 0 ≤ r ∧ r ≤ 51
  · rw [if_pos c] at hQ
    ((repeat' (first | (with_reducible intro _) | (with_reducible refine And.intro ?_ ?_))) <;> try (exfalso; omega))
    refine hG M w r _ hC c.2.2.1 fun M1 o1 g1 => ?_
    rw [iMul_id (by omega) (by omega), iAdd_id (by omega) (by omega), g1.2 s t c.1.1 (by omega) c.2.1.1 (by omega)]
    exact ⟨by omega, by omega, hQ M1 (o1.wk (by decide) (by decide)) ((o1.2 29 (by decide)).trans hlo)⟩
  · rw [if_neg c] at hQ
    ((repeat' (first | (with_reducible intro _) | (with_reducible refine And.intro ?_ ?_))) <;> try (exfalso; omega))
    all_goals exact hQ M OnlyR.rf hlo
theorem ok_amount {Z M : XM} (hZ : ZC Z) (h : Inv Z M) (x1 x2 x3 x4 : Int) : F_M_amount x1 x2 x3 x4 M (fun v M1 => F_R_amount x1 x2 x3 x4 M1 (fun w M2 => v = w ∧ Inv Z M2)) :=
  ok_of (FM := F_M_amount x1 x2 x3 x4) (FR := F_R_amount x1 x2 x3 x4) h (vAmount M x1 x2 x3 x4) (fun _ hQ => M_amount_gen F_Tally_gather (h.base hZ) CF.rf (ga_spec (h.base hZ)) hQ) (fun _ _ hC hlo hQ => R_amount_gen F_R_findAmounts (h.base hZ) hC hlo (fa_spec (h.base hZ)) hQ)
/-! sum -/
abbrev vSum (d : XM) (T w r k : Int) : Int := if (0 ≤ T ∧ T < d 81 5) ∧ (0 ≤ w ∧ w ≤ 51) ∧ (0 ≤ r ∧ r ≤ 51) ∧ 0 ≤ k ∧ k ≤ 2 then (if k = 0 then SUM d (-1) w r T else if k = 1 then TOL d (-1) w r T else FOL d (-1) w r T) else LMIN
def S_M_sum_ (FG : XF2) (FW FT : XF1) : XS := sSeq (sIf (cOr (cOr (cOr (cNot (cZ (fun x => x ≠ 0) (eC1 F_Trade_isTitle (eU i2l (eL 1))))) (cNot (cZ (fun x => x ≠ 0) (eC1 F_M_isWeek (eU i2l (eL 2)))))) (cNot (cZ (fun x => x ≠ 0) (eC1 F_M_isWeek (eU i2l (eL 3)))))) (cNot (cZ (fun x => x ≠ 0) (eC3 F_M_within (eU i2l (eL 4)) (eK 0) (eK 2))))) (sRet (eK (-9223372036854775808))) sSkip) (sSeq (sX (eC2 FG (eL 2) (eL 3))) (sSeq (sX (eC1 FW (eK (-1)))) (sSw (eL 4) [(0, sRet (eA 36 12 (eL 1))), (1, sRet (eC1 FT (eL 1)))] (sRet (eB lSub (eA 36 12 (eL 1)) (eC1 FT (eL 1)))))))
theorem M_sum_gen (FG : XF2) (FW FT : XF1) {d M : XM} {T w r k : Int} {Q : Int → XM → Prop} (hB : Base d) (hC : CF d M) (hG : GaSpec d FG) (hW : WeSpec d FW) (hT : ∀ (M : XM) (Q : Int → XM → Prop), 0 ≤ T ∧ T < 12 → (∀ T K, 0 ≤ T → T < 12 → 0 ≤ K → K < 4 → M 33 (4 * T + K) = TO d (-1) w r T K) → Q (TOL d (-1) w r T) M → FT T M Q) (hQ : ∀ M', Only SC M M' → Q (vSum d T w r k) M') : S_M_sum_ FG FW FT (fun _ _ => False) Q (sl (sl (sl (sl (fun _ => 0) 1 T) 2 w) 3 r) 4 k) M := by
  obtain ⟨h1, h2, h3, h4, h5, h6, h7, h8, h9, h10, h11, h12, h13, h14⟩ := hC.dct hB
  obtain ⟨v1, v2, v3, v4, v5, v6⟩ := hB.2.2.1
  unfold S_M_sum_
  simp (disch := omega) only [sSeq, sSet, sInc, sPF, sPA, sPD, sOF, sOA, sX, sIf, sSkip, sRet, sRetB, sRetV, sSw, sSel, eK, eL, eR, eF, eA, eQ, eD, eU, eB, eV, eIf, ePF, eC0, eC1, eC2, eC3, eC4, eC5, eC6, eC7, cB, cZ, cAnd, cOr, cNot, i2l, st_fn, sl_ap, if_true, if_false, ↓reduceIte, reduceIte, Nat.reduceEqDiff, Int.reduceEq, Int.reduceLT, Int.reduceLE, Int.reduceAdd, Int.reduceSub, Int.reduceMul, Int.reduceNeg, and_true, true_and, not_true, not_false_eq_true, true_or, or_true, ne_eq, F_Trade_isTitle_iff, F_M_within_iff, F_M_isWeek_iff, b01_ne, h1]
  unfold vSum at hQ
  by_cases c : (0 ≤ T ∧ T < d 81 5) ∧ (0 ≤ w ∧ w ≤ 51) ∧ (0 ≤ r ∧ r ≤ 51) ∧ 0 ≤ k ∧ k ≤ 2
  · rw [if_pos c] at hQ
    ((repeat' (first | (with_reducible intro _) | (with_reducible refine And.intro ?_ ?_))) <;> try (exfalso; omega))
    refine hG M w r _ hC c.2.1 fun M1 o1 g1 => hW M1 (-1) w r _ (hC.go o1 (by decide)) g1 fun M2 o2 g2 => ?_
    have hQ2 := hQ M2 ((o1.trans o2 (U := [24, 25, 30, 31, 32, 33, 34, 35, 36]) (by decide) (by decide)).wk (by decide))
    have b1 := SUM_bd hB (-1) w r T
    have b2 := TOL_bdN hB (-1) w r T (n := 4) (by omega)
    have e36 := g2.2.2 T c.1.1 c.1.2
    rw [e36]
    refine ⟨fun ck => ?_, fun ck => ⟨fun ck2 => ?_, fun ck2 => ?_⟩⟩
    · rw [if_pos ck] at hQ2
      exact ⟨c.1.1, by omega, hQ2⟩
    · rw [if_neg ck, if_pos ck2] at hQ2
      exact hT M2 _ ⟨c.1.1, by omega⟩ g2.2.1 hQ2
    · rw [if_neg ck, if_neg ck2] at hQ2
      refine ⟨c.1.1, by omega, hT M2 _ ⟨c.1.1, by omega⟩ g2.2.1 ?_⟩
      have b3 : TOL d (-1) w r T = sumN (fun K => TO d (-1) w r T K) 4 := rfl
      rw [lSub_id (by omega) (by omega)]
      have : SUM d (-1) w r T - TOL d (-1) w r T = FOL d (-1) w r T := by unfold SUM; omega
      rw [this]
      exact hQ2
  · rw [if_neg c] at hQ
    ((repeat' (first | (with_reducible intro _) | (with_reducible refine And.intro ?_ ?_))) <;> try (exfalso; omega))
    all_goals exact hQ M Only.rf
def S_R_sum_ (FG : XF2) : XS := sSeq (sIf (cOr (cOr (cOr (cNot (cZ (fun x => x ≠ 0) (eC1 F_R_isTitle (eL 1)))) (cNot (cZ (fun x => x ≠ 0) (eC1 F_R_isWeek (eU i2l (eL 2)))))) (cNot (cZ (fun x => x ≠ 0) (eC1 F_R_isWeek (eU i2l (eL 3)))))) (cNot (cZ (fun x => x ≠ 0) (eC3 F_R_in (eU i2l (eL 4)) (eK 0) (eK 2))))) (sRet (eK (-9223372036854775808))) sSkip) (sSeq (sX (eC2 FG (eL 2) (eL 3))) (sRet (eIf (cZ (fun x => x = 0) (eL 4)) (eC1 F_R_sumOf (eL 1)) (eIf (cB (fun x y => x = y) (eL 4) (eK 1)) (eA 113 12 (eL 1)) (eA 114 12 (eL 1))))))
theorem R_sum_gen (FG : XF2) {d M : XM} {T w r k : Int} {Q : Int → XM → Prop} (hB : Base d) (hC : RF d M) (hlo : M 81 29 = -1) (hG : FsSpec d FG) (hQ : ∀ M', OnlyR SR SF M M' → M' 81 29 = -1 → Q (vSum d T w r k) M') : S_R_sum_ FG (fun _ _ => False) Q (sl (sl (sl (sl (fun _ => 0) 1 T) 2 w) 3 r) 4 k) M := by
  obtain ⟨v1, v2, v3, v4, v5, v6⟩ := hB.2.2.1
  have e5 := hC.2.1 5 (by decide)
  unfold S_R_sum_
  simp (disch := omega) only [sSeq, sSet, sInc, sPF, sPA, sPD, sOF, sOA, sX, sIf, sSkip, sRet, sRetB, sRetV, sSw, sSel, eK, eL, eR, eF, eA, eQ, eD, eU, eB, eV, eIf, ePF, eC0, eC1, eC2, eC3, eC4, eC5, eC6, eC7, cB, cZ, cAnd, cOr, cNot, i2l, st_fn, sl_ap, if_true, if_false, ↓reduceIte, reduceIte, Nat.reduceEqDiff, Int.reduceEq, Int.reduceLT, Int.reduceLE, Int.reduceAdd, Int.reduceSub, Int.reduceMul, Int.reduceNeg, and_true, true_and, not_true, not_false_eq_true, true_or, or_true, ne_eq, F_R_isTitle_iff, F_R_in_iff, F_R_isWeek_iff, b01_ne, e5]
  unfold vSum at hQ
  by_cases c : (0 ≤ T ∧ T < d 81 5) ∧ (0 ≤ w ∧ w ≤ 51) ∧ (0 ≤ r ∧ r ≤ 51) ∧ 0 ≤ k ∧ k ≤ 2
  · rw [if_pos c] at hQ
    ((repeat' (first | (with_reducible intro _) | (with_reducible refine And.intro ?_ ?_))) <;> try (exfalso; omega))
    refine hG M (-1) w r _ hC hlo c.2.1 fun M1 o1 g1 => ?_
    have hQ2 := hQ M1 (o1.wk (by decide) (by decide)) ((o1.2 29 (by decide)).trans hlo)
    have g := g1.2.2.2.1 T c.1.1 c.1.2
    refine ⟨fun ck => ?_, fun ck => ⟨fun ck2 => ?_, fun ck2 => ?_⟩⟩
    · rw [if_pos ck] at hQ2
      rw [F_R_sumOf_iff ⟨c.1.1, by omega⟩, R_sum_val hB g1 c.1]
      exact hQ2
    · rw [if_neg ck, if_pos ck2] at hQ2
      rw [g.1]
      exact ⟨c.1.1, by omega, hQ2⟩
    · rw [if_neg ck, if_neg ck2] at hQ2
      rw [g.2]
      exact ⟨c.1.1, by omega, hQ2⟩
  · rw [if_neg c] at hQ
    ((repeat' (first | (with_reducible intro _) | (with_reducible refine And.intro ?_ ?_))) <;> try (exfalso; omega))
    all_goals exact hQ M OnlyR.rf hlo
theorem ok_sum {Z M : XM} (hZ : ZC Z) (h : Inv Z M) (x1 x2 x3 x4 : Int) : F_M_sum x1 x2 x3 x4 M (fun v M1 => F_R_sum x1 x2 x3 x4 M1 (fun w M2 => v = w ∧ Inv Z M2)) :=
  ok_of (FM := F_M_sum x1 x2 x3 x4) (FR := F_R_sum x1 x2 x3 x4) h (vSum M x1 x2 x3 x4) (fun _ hQ => M_sum_gen F_Tally_gather F_Tally_weigh F_Tally_toldOf (h.base hZ) CF.rf (ga_spec (h.base hZ)) (we_spec (h.base hZ)) (fun _ _ h1 h2 h3 => Tally_toldOf_ok (h.base hZ) h1 h2 h3) hQ) (fun _ _ hC hlo hQ => R_sum_gen F_R_findSums (h.base hZ) hC hlo (fs_spec (h.base hZ)) hQ)
/-! sure -/
def clamp (x : Int) : Int := if 1000000 < x then 1000000 else if x < -1000000 then -1000000 else x
abbrev vSure (d : XM) (T w : Int) : Int := if (0 ≤ T ∧ T < d 81 5) ∧ 0 ≤ w ∧ w ≤ 51 then (if SUM d (-1) w w T ≤ 0 then -3 else clamp ((10000 * TOL d (-1) w w T).tdiv (SUM d (-1) w w T))) else -2
def S_M_sure_ (FG : XF2) (FW FT : XF1) : XS := sSeq (sIf (cOr (cNot (cZ (fun x => x ≠ 0) (eC1 F_Trade_isTitle (eU i2l (eL 1))))) (cNot (cZ (fun x => x ≠ 0) (eC1 F_M_isWeek (eU i2l (eL 2)))))) (sRet (eK (-2))) sSkip) (sSeq (sX (eC2 FG (eL 2) (eL 2))) (sSeq (sX (eC1 FW (eK (-1)))) (sSeq (sSet 3 (eA 36 12 (eL 1))) (sSeq (sIf (cB (fun x y => x ≤ y) (eL 3) (eK 0)) (sRet (eK (-3))) sSkip) (sSeq (sSet 5 (eV lDiv (eB lMul (eK 10000) (eC1 FT (eL 1))) (eL 3))) (sRet (eU l2i (eB mMax (eK (-1000000)) (eB mMin (eK 1000000) (eL 5))))))))))
theorem M_sure_gen (FG : XF2) (FW FT : XF1) {d M : XM} {T w : Int} {Q : Int → XM → Prop} (hB : Base d) (hC : CF d M) (hG : GaSpec d FG) (hW : WeSpec d FW) (hT : ∀ (M : XM) (Q : Int → XM → Prop), 0 ≤ T ∧ T < 12 → (∀ T K, 0 ≤ T → T < 12 → 0 ≤ K → K < 4 → M 33 (4 * T + K) = TO d (-1) w w T K) → Q (TOL d (-1) w w T) M → FT T M Q) (hQ : ∀ M', Only SC M M' → Q (vSure d T w) M') : S_M_sure_ FG FW FT (fun _ _ => False) Q (sl (sl (fun _ => 0) 1 T) 2 w) M := by
  obtain ⟨h1, h2, h3, h4, h5, h6, h7, h8, h9, h10, h11, h12, h13, h14⟩ := hC.dct hB
  obtain ⟨v1, v2, v3, v4, v5, v6⟩ := hB.2.2.1
  unfold S_M_sure_
  simp (disch := omega) only [sSeq, sSet, sInc, sPF, sPA, sPD, sOF, sOA, sX, sIf, sSkip, sRet, sRetB, sRetV, sSw, sSel, eK, eL, eR, eF, eA, eQ, eD, eU, eB, eV, eIf, ePF, eC0, eC1, eC2, eC3, eC4, eC5, eC6, eC7, cB, cZ, cAnd, cOr, cNot, i2l, st_fn, sl_ap, if_true, if_false, ↓reduceIte, reduceIte, Nat.reduceEqDiff, Int.reduceEq, Int.reduceLT, Int.reduceLE, Int.reduceAdd, Int.reduceSub, Int.reduceMul, Int.reduceNeg, and_true, true_and, not_true, not_false_eq_true, true_or, or_true, ne_eq, F_Trade_isTitle_iff, F_M_isWeek_iff, b01_ne, h1]
  unfold vSure at hQ
  by_cases c : (0 ≤ T ∧ T < d 81 5) ∧ 0 ≤ w ∧ w ≤ 51
  · rw [if_pos c] at hQ
    ((repeat' (first | (with_reducible intro _) | (with_reducible refine And.intro ?_ ?_))) <;> try (exfalso; omega))
    refine hG M w w _ hC c.2 fun M1 o1 g1 => hW M1 (-1) w w _ (hC.go o1 (by decide)) g1 fun M2 o2 g2 => ?_
    have hQ2 := hQ M2 ((o1.trans o2 (U := [24, 25, 30, 31, 32, 33, 34, 35, 36]) (by decide) (by decide)).wk (by decide))
    have b1 := SUM_bd hB (-1) w w T
    have b2 := TOL_bdN hB (-1) w w T (n := 4) (by omega)
    have b3 : TOL d (-1) w w T = sumN (fun K => TO d (-1) w w T K) 4 := rfl
    have e36 := g2.2.2 T c.1.1 c.1.2
    rw [e36]
    refine ⟨c.1.1, by omega, fun ck => ?_, fun ck => ?_⟩
    · rw [if_pos ck] at hQ2
      exact hQ2
    · rw [if_neg ck] at hQ2
      refine hT M2 _ ⟨c.1.1, by omega⟩ g2.2.1 ?_
      rw [lMul_id (by omega) (by omega), lDiv_id (by omega) (by omega)]
      refine ⟨by omega, ?_⟩
      generalize (10000 * TOL d (-1) w w T).tdiv (SUM d (-1) w w T) = q at *
      have e : l2i (mMax (-1000000) (mMin 1000000 q)) = clamp q := by
        unfold l2i clamp mMax mMin
        rw [x32_id ⟨by (repeat' split) <;> omega, by (repeat' split) <;> omega⟩]
        (repeat' split) <;> omega
      rw [e]
      exact hQ2
  · rw [if_neg c] at hQ
    ((repeat' (first | (with_reducible intro _) | (with_reducible refine And.intro ?_ ?_))) <;> try (exfalso; omega))
    all_goals exact hQ M Only.rf
def S_R_sure_ (FG : XF2) : XS := sSeq (sIf (cOr (cNot (cZ (fun x => x ≠ 0) (eC1 F_R_isTitle (eL 1)))) (cNot (cZ (fun x => x ≠ 0) (eC1 F_R_isWeek (eU i2l (eL 2)))))) (sRet (eK (-2))) sSkip) (sSeq (sX (eC2 FG (eL 2) (eL 2))) (sSeq (sIf (cB (fun x y => x ≤ y) (eC1 F_R_sumOf (eL 1)) (eK 0)) (sRet (eK (-3))) sSkip) (sSeq (sSet 3 (eV lDiv (eB lMul (eA 113 12 (eL 1)) (eK 10000)) (eC1 F_R_sumOf (eL 1)))) (sRet (eU l2i (eIf (cB (fun x y => y < x) (eL 3) (eK 1000000)) (eK 1000000) (eIf (cB (fun x y => x < y) (eL 3) (eK (-1000000))) (eK (-1000000)) (eL 3))))))))
theorem R_sure_gen (FG : XF2) {d M : XM} {T w : Int} {Q : Int → XM → Prop} (hB : Base d) (hC : RF d M) (hlo : M 81 29 = -1) (hG : FsSpec d FG) (hQ : ∀ M', OnlyR SR SF M M' → M' 81 29 = -1 → Q (vSure d T w) M') : S_R_sure_ FG (fun _ _ => False) Q (sl (sl (fun _ => 0) 1 T) 2 w) M := by
  obtain ⟨v1, v2, v3, v4, v5, v6⟩ := hB.2.2.1
  have e5 := hC.2.1 5 (by decide)
  unfold S_R_sure_
  simp (disch := omega) only [sSeq, sSet, sInc, sPF, sPA, sPD, sOF, sOA, sX, sIf, sSkip, sRet, sRetB, sRetV, sSw, sSel, eK, eL, eR, eF, eA, eQ, eD, eU, eB, eV, eIf, ePF, eC0, eC1, eC2, eC3, eC4, eC5, eC6, eC7, cB, cZ, cAnd, cOr, cNot, i2l, st_fn, sl_ap, if_true, if_false, ↓reduceIte, reduceIte, Nat.reduceEqDiff, Int.reduceEq, Int.reduceLT, Int.reduceLE, Int.reduceAdd, Int.reduceSub, Int.reduceMul, Int.reduceNeg, and_true, true_and, not_true, not_false_eq_true, true_or, or_true, ne_eq, F_R_isTitle_iff, F_R_isWeek_iff, b01_ne, e5]
  unfold vSure at hQ
  by_cases c : (0 ≤ T ∧ T < d 81 5) ∧ 0 ≤ w ∧ w ≤ 51
  · rw [if_pos c] at hQ
    ((repeat' (first | (with_reducible intro _) | (with_reducible refine And.intro ?_ ?_))) <;> try (exfalso; omega))
    refine hG M (-1) w w _ hC hlo c.2 fun M1 o1 g1 => ?_
    have hQ2 := hQ M1 (o1.wk (by decide) (by decide)) ((o1.2 29 (by decide)).trans hlo)
    have g := g1.2.2.2.1 T c.1.1 c.1.2
    have b1 := SUM_bd hB (-1) w w T
    have b2 := TOL_bdN hB (-1) w w T (n := 4) (by omega)
    have b3 : TOL d (-1) w w T = sumN (fun K => TO d (-1) w w T K) 4 := rfl
    rw [F_R_sumOf_iff ⟨c.1.1, by omega⟩, R_sum_val hB g1 c.1, g.1]
    refine ⟨fun ck => ?_, fun ck => ⟨c.1.1, by omega, ?_⟩⟩
    · rw [if_pos ck] at hQ2
      exact hQ2
    · rw [if_neg ck] at hQ2
      rw [F_R_sumOf_iff ⟨c.1.1, by omega⟩, R_sum_val hB g1 c.1, lMul_id (by omega) (by omega), Int.mul_comm _ 10000, lDiv_id (by omega) (by omega)]
      refine ⟨by omega, ?_⟩
      generalize (10000 * TOL d (-1) w w T).tdiv (SUM d (-1) w w T) = q at *
      unfold clamp at hQ2
      refine ⟨fun c1 => ?_, fun c1 => ⟨fun c2 => ?_, fun c2 => ?_⟩⟩
      · rw [if_pos c1] at hQ2
        exact hQ2
      · rw [if_neg c1, if_pos c2] at hQ2
        exact hQ2
      · rw [if_neg c1, if_neg c2] at hQ2
        rw [show l2i q = q from x32_id ⟨by omega, by omega⟩]
        exact hQ2
  · rw [if_neg c] at hQ
    ((repeat' (first | (with_reducible intro _) | (with_reducible refine And.intro ?_ ?_))) <;> try (exfalso; omega))
    all_goals exact hQ M OnlyR.rf hlo
theorem ok_sure {Z M : XM} (hZ : ZC Z) (h : Inv Z M) (x1 x2 : Int) : F_M_sure x1 x2 M (fun v M1 => F_R_sure x1 x2 M1 (fun w M2 => v = w ∧ Inv Z M2)) :=
  ok_of (FM := F_M_sure x1 x2) (FR := F_R_sure x1 x2) h (vSure M x1 x2) (fun _ hQ => M_sure_gen F_Tally_gather F_Tally_weigh F_Tally_toldOf (h.base hZ) CF.rf (ga_spec (h.base hZ)) (we_spec (h.base hZ)) (fun _ _ h1 h2 h3 => Tally_toldOf_ok (h.base hZ) h1 h2 h3) hQ) (fun _ _ hC hlo hQ => R_sure_gen F_R_findSums (h.base hZ) hC hlo (fs_spec (h.base hZ)) hQ)
/-! place -/
abbrev vPlace (d : XM) (T w r : Int) : Int := if (0 ≤ T ∧ T < d 81 5) ∧ (0 ≤ w ∧ w ≤ 51) ∧ 0 ≤ r ∧ r ≤ 51 then PL d (-1) w r T else -2
def S_M_place_ (FG : XF2) : XS := sSeq (sIf (cOr (cOr (cNot (cZ (fun x => x ≠ 0) (eC1 F_Trade_isTitle (eU i2l (eL 1))))) (cNot (cZ (fun x => x ≠ 0) (eC1 F_M_isWeek (eU i2l (eL 2)))))) (cNot (cZ (fun x => x ≠ 0) (eC1 F_M_isWeek (eU i2l (eL 3)))))) (sRet (eK (-2))) sSkip) (sSeq (sX (eC2 FG (eL 2) (eL 3))) (sRet (eA 38 12 (eL 1))))
theorem M_place_gen (FG : XF2) {d M : XM} {T w r : Int} {Q : Int → XM → Prop} (hB : Base d) (hC : CF d M) (hG : MlSpec d FG) (hQ : ∀ M', Only SC M M' → Q (vPlace d T w r) M') : S_M_place_ FG (fun _ _ => False) Q (sl (sl (sl (fun _ => 0) 1 T) 2 w) 3 r) M := by
  obtain ⟨h1, h2, h3, h4, h5, h6, h7, h8, h9, h10, h11, h12, h13, h14⟩ := hC.dct hB
  obtain ⟨v1, v2, v3, v4, v5, v6⟩ := hB.2.2.1
  unfold S_M_place_
  simp (disch := omega) only [sSeq, sSet, sInc, sPF, sPA, sPD, sOF, sOA, sX, sIf, sSkip, sRet, sRetB, sRetV, sSw, sSel, eK, eL, eR, eF, eA, eQ, eD, eU, eB, eV, eIf, ePF, eC0, eC1, eC2, eC3, eC4, eC5, eC6, eC7, cB, cZ, cAnd, cOr, cNot, i2l, st_fn, sl_ap, if_true, if_false, ↓reduceIte, reduceIte, Nat.reduceEqDiff, Int.reduceEq, Int.reduceLT, Int.reduceLE, Int.reduceAdd, Int.reduceSub, Int.reduceMul, Int.reduceNeg, and_true, true_and, not_true, not_false_eq_true, true_or, or_true, ne_eq, F_Trade_isTitle_iff, F_M_isWeek_iff, b01_ne, h1]
  unfold vPlace at hQ
  by_cases c : (0 ≤ T ∧ T < d 81 5) ∧ (0 ≤ w ∧ w ≤ 51) ∧ 0 ≤ r ∧ r ≤ 51
  · rw [if_pos c] at hQ
    ((repeat' (first | (with_reducible intro _) | (with_reducible refine And.intro ?_ ?_))) <;> try (exfalso; omega))
    refine hG M w r _ hC c.2.1 fun M1 o1 g1 g2 g3 => ⟨c.1.1, by omega, ?_⟩
    rw [g3.2.2 T c.1.1 c.1.2]
    exact hQ M1 (o1.wk SL_SC)
  · rw [if_neg c] at hQ
    ((repeat' (first | (with_reducible intro _) | (with_reducible refine And.intro ?_ ?_))) <;> try (exfalso; omega))
    all_goals exact hQ M Only.rf
def S_R_place_ (FG : XF2) : XS := sSeq (sIf (cOr (cOr (cNot (cZ (fun x => x ≠ 0) (eC1 F_R_isTitle (eL 1)))) (cNot (cZ (fun x => x ≠ 0) (eC1 F_R_isWeek (eU i2l (eL 2)))))) (cNot (cZ (fun x => x ≠ 0) (eC1 F_R_isWeek (eU i2l (eL 3)))))) (sRet (eK (-2))) sSkip) (sSeq (sX (eC2 FG (eL 2) (eL 3))) (sRet (eA 117 12 (eL 1))))
theorem R_place_gen (FG : XF2) {d M : XM} {T w r : Int} {Q : Int → XM → Prop} (hB : Base d) (hC : RF d M) (hlo : M 81 29 = -1) (hG : FlSpec d FG) (hQ : ∀ M', OnlyR SR SF M M' → M' 81 29 = -1 → Q (vPlace d T w r) M') : S_R_place_ FG (fun _ _ => False) Q (sl (sl (sl (fun _ => 0) 1 T) 2 w) 3 r) M := by
  obtain ⟨v1, v2, v3, v4, v5, v6⟩ := hB.2.2.1
  have e5 := hC.2.1 5 (by decide)
  unfold S_R_place_
  simp (disch := omega) only [sSeq, sSet, sInc, sPF, sPA, sPD, sOF, sOA, sX, sIf, sSkip, sRet, sRetB, sRetV, sSw, sSel, eK, eL, eR, eF, eA, eQ, eD, eU, eB, eV, eIf, ePF, eC0, eC1, eC2, eC3, eC4, eC5, eC6, eC7, cB, cZ, cAnd, cOr, cNot, i2l, st_fn, sl_ap, if_true, if_false, ↓reduceIte, reduceIte, Nat.reduceEqDiff, Int.reduceEq, Int.reduceLT, Int.reduceLE, Int.reduceAdd, Int.reduceSub, Int.reduceMul, Int.reduceNeg, and_true, true_and, not_true, not_false_eq_true, true_or, or_true, ne_eq, F_R_isTitle_iff, F_R_isWeek_iff, b01_ne, e5]
  unfold vPlace at hQ
  by_cases c : (0 ≤ T ∧ T < d 81 5) ∧ (0 ≤ w ∧ w ≤ 51) ∧ 0 ≤ r ∧ r ≤ 51
  · rw [if_pos c] at hQ
    ((repeat' (first | (with_reducible intro _) | (with_reducible refine And.intro ?_ ?_))) <;> try (exfalso; omega))
    refine hG M (-1) w r _ hC hlo c.2.1 fun M1 o1 g1 g2 => ⟨c.1.1, by omega, ?_⟩
    rw [g2.2.2 T c.1.1 c.1.2]
    exact hQ M1 (o1.wk (by decide) (by decide)) ((o1.2 29 (by decide)).trans hlo)
  · rw [if_neg c] at hQ
    ((repeat' (first | (with_reducible intro _) | (with_reducible refine And.intro ?_ ?_))) <;> try (exfalso; omega))
    all_goals exact hQ M OnlyR.rf hlo
theorem ok_place {Z M : XM} (hZ : ZC Z) (h : Inv Z M) (x1 x2 x3 : Int) : F_M_place x1 x2 x3 M (fun v M1 => F_R_place x1 x2 x3 M1 (fun w M2 => v = w ∧ Inv Z M2)) :=
  ok_of (FM := F_M_place x1 x2 x3) (FR := F_R_place x1 x2 x3) h (vPlace M x1 x2 x3) (fun _ hQ => M_place_gen F_Tally_makeList (h.base hZ) CF.rf (ml_spec (h.base hZ)) hQ) (fun _ _ hC hlo hQ => R_place_gen F_R_findList (h.base hZ) hC hlo (fl_spec (h.base hZ)) hQ)
/-! line -/
abbrev vLine (d : XM) (w r i : Int) : Int := if (0 ≤ w ∧ w ≤ 51) ∧ (0 ≤ r ∧ r ≤ 51) ∧ 0 ≤ i then (if i < (LN d (-1) w r : Int) then LO d (-1) w r i else -1) else -2
def S_M_line_ (FG : XF2) : XS := sSeq (sIf (cOr (cOr (cNot (cZ (fun x => x ≠ 0) (eC1 F_M_isWeek (eU i2l (eL 1))))) (cNot (cZ (fun x => x ≠ 0) (eC1 F_M_isWeek (eU i2l (eL 2)))))) (cZ (fun x => x < 0) (eL 3))) (sRet (eK (-2))) sSkip) (sSeq (sX (eC2 FG (eL 1) (eL 2))) (sRet (eIf (cB (fun x y => x < y) (eL 3) (eF 29 11)) (eA 37 12 (eL 3)) (eK (-1)))))
theorem M_line_gen (FG : XF2) {d M : XM} {w r i : Int} {Q : Int → XM → Prop} (hB : Base d) (hC : CF d M) (hG : MlSpec d FG) (hQ : ∀ M', Only SC M M' → Q (vLine d w r i) M') : S_M_line_ FG (fun _ _ => False) Q (sl (sl (sl (fun _ => 0) 1 w) 2 r) 3 i) M := by
  have v1 := hB.2.2.1.1
  unfold S_M_line_
  simp (disch := omega) only [sSeq, sSet, sInc, sPF, sPA, sPD, sOF, sOA, sX, sIf, sSkip, sRet, sRetB, sRetV, sSw, sSel, eK, eL, eR, eF, eA, eQ, eD, eU, eB, eV, eIf, ePF, eC0, eC1, eC2, eC3, eC4, eC5, eC6, eC7, cB, cZ, cAnd, cOr, cNot, i2l, st_fn, sl_ap, if_true, if_false, ↓reduceIte, reduceIte, Nat.reduceEqDiff, Int.reduceEq, Int.reduceLT, Int.reduceLE, Int.reduceAdd, Int.reduceSub, Int.reduceMul, Int.reduceNeg, and_true, true_and, not_true, not_false_eq_true, true_or, or_true, ne_eq, F_M_isWeek_iff, b01_ne]
  unfold vLine at hQ
  by_cases c : (0 ≤ w ∧ w ≤ 51) ∧ (0 ≤ r ∧ r ≤ 51) ∧ 0 ≤ i
  · rw [if_pos c] at hQ
    ((repeat' (first | (with_reducible intro _) | (with_reducible refine And.intro ?_ ?_))) <;> try (exfalso; omega))
    refine hG M w r _ hC c.1 fun M1 o1 g1 g2 g3 => ?_
    have hQ2 := hQ M1 (o1.wk SL_SC)
    have hL := (L_r hB.2.2.1 (-1) w r).1
    rw [g3.1]
    refine ⟨fun ci => ⟨c.2.2, by omega, ?_⟩, fun ci => ?_⟩
    · rw [if_pos ci] at hQ2
      rw [g3.2.1 i c.2.2 ci]
      exact hQ2
    · rw [if_neg ci] at hQ2
      exact hQ2
  · rw [if_neg c] at hQ
    ((repeat' (first | (with_reducible intro _) | (with_reducible refine And.intro ?_ ?_))) <;> try (exfalso; omega))
    all_goals exact hQ M Only.rf
def S_R_line_ (FG : XF2) : XS := sSeq (sIf (cOr (cOr (cNot (cZ (fun x => x ≠ 0) (eC1 F_R_isWeek (eU i2l (eL 1))))) (cNot (cZ (fun x => x ≠ 0) (eC1 F_R_isWeek (eU i2l (eL 2)))))) (cZ (fun x => x < 0) (eL 3))) (sRet (eK (-2))) sSkip) (sSeq (sX (eC2 FG (eL 1) (eL 2))) (sRet (eIf (cB (fun x y => x < y) (eL 3) (eF 81 45)) (eA 116 12 (eL 3)) (eK (-1)))))
theorem R_line_gen (FG : XF2) {d M : XM} {w r i : Int} {Q : Int → XM → Prop} (hB : Base d) (hC : RF d M) (hlo : M 81 29 = -1) (hG : FlSpec d FG) (hQ : ∀ M', OnlyR SR SF M M' → M' 81 29 = -1 → Q (vLine d w r i) M') : S_R_line_ FG (fun _ _ => False) Q (sl (sl (sl (fun _ => 0) 1 w) 2 r) 3 i) M := by
  have v1 := hB.2.2.1.1
  unfold S_R_line_
  simp (disch := omega) only [sSeq, sSet, sInc, sPF, sPA, sPD, sOF, sOA, sX, sIf, sSkip, sRet, sRetB, sRetV, sSw, sSel, eK, eL, eR, eF, eA, eQ, eD, eU, eB, eV, eIf, ePF, eC0, eC1, eC2, eC3, eC4, eC5, eC6, eC7, cB, cZ, cAnd, cOr, cNot, i2l, st_fn, sl_ap, if_true, if_false, ↓reduceIte, reduceIte, Nat.reduceEqDiff, Int.reduceEq, Int.reduceLT, Int.reduceLE, Int.reduceAdd, Int.reduceSub, Int.reduceMul, Int.reduceNeg, and_true, true_and, not_true, not_false_eq_true, true_or, or_true, ne_eq, F_R_isWeek_iff, b01_ne]
  unfold vLine at hQ
  by_cases c : (0 ≤ w ∧ w ≤ 51) ∧ (0 ≤ r ∧ r ≤ 51) ∧ 0 ≤ i
  · rw [if_pos c] at hQ
    ((repeat' (first | (with_reducible intro _) | (with_reducible refine And.intro ?_ ?_))) <;> try (exfalso; omega))
    refine hG M (-1) w r _ hC hlo c.1 fun M1 o1 g1 g2 => ?_
    have hQ2 := hQ M1 (o1.wk (by decide) (by decide)) ((o1.2 29 (by decide)).trans hlo)
    have hL := (L_r hB.2.2.1 (-1) w r).1
    rw [g2.1]
    refine ⟨fun ci => ⟨c.2.2, by omega, ?_⟩, fun ci => ?_⟩
    · rw [if_pos ci] at hQ2
      rw [g2.2.1 i c.2.2 ci]
      exact hQ2
    · rw [if_neg ci] at hQ2
      exact hQ2
  · rw [if_neg c] at hQ
    ((repeat' (first | (with_reducible intro _) | (with_reducible refine And.intro ?_ ?_))) <;> try (exfalso; omega))
    all_goals exact hQ M OnlyR.rf hlo
theorem ok_line {Z M : XM} (hZ : ZC Z) (h : Inv Z M) (x1 x2 x3 : Int) : F_M_line x1 x2 x3 M (fun v M1 => F_R_line x1 x2 x3 M1 (fun w M2 => v = w ∧ Inv Z M2)) :=
  ok_of (FM := F_M_line x1 x2 x3) (FR := F_R_line x1 x2 x3) h (vLine M x1 x2 x3) (fun _ hQ => M_line_gen F_Tally_makeList (h.base hZ) CF.rf (ml_spec (h.base hZ)) hQ) (fun _ _ hC hlo hQ => R_line_gen F_R_findList (h.base hZ) hC hlo (fl_spec (h.base hZ)) hQ)
