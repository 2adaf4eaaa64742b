/-! odd -/
def oStp (d : XM) (w a b : Int) (p : Int × Int) : Int × Int := if ¬ HB d w a = 0 ∧ ¬ HB d w b = 0 then (if p.1 = -1 ∨ chP d w a b < p.2 then (100 * a + b, chP d w a b) else p) else p
def oRow (d : XM) (w a : Int) : Nat → Int × Int → Int × Int
  | 0, p => p
  | n + 1, p => oStp d w a (a + 1 + (n : Int)) (oRow d w a n p)
def oAll (d : XM) (w : Int) : Nat → Int × Int
  | 0 => (-1, 0)
  | n + 1 => oRow d w (n : Int) (d 81 11 - ((n : Int) + 1)).toNat (oAll d w n)
theorem oRow_succ (d : XM) (w a : Int) (p : Int × Int) {b : Int} (h : a + 1 ≤ b) : oRow d w a (b + 1 - (a + 1)).toNat p = oStp d w a b (oRow d w a (b - (a + 1)).toNat p) := by
  rw [show (b + 1 - (a + 1)).toNat = (b - (a + 1)).toNat + 1 by omega]
  show oStp d w a (a + 1 + (((b - (a + 1)).toNat : Nat) : Int)) (oRow d w a (b - (a + 1)).toNat p) = _
  rw [show a + 1 + (((b - (a + 1)).toNat : Nat) : Int) = b by omega]
theorem oAll_succ (d : XM) (w : Int) {x : Int} (h : 0 ≤ x) : oAll d w (x + 1).toNat = oRow d w x (d 81 11 - (x + 1)).toNat (oAll d w x.toNat) := by
  have e1 : ((x.toNat : Nat) : Int) = x := by omega
  rw [show (x + 1).toNat = x.toNat + 1 by omega]
  show oRow d w ((x.toNat : Nat) : Int) (d 81 11 - (((x.toNat : Nat) : Int) + 1)).toNat (oAll d w x.toNat) = _
  rw [e1]
abbrev vOdd (d : XM) (w : Int) : Int := if 0 ≤ w ∧ w ≤ 51 then (oAll d w (d 81 11).toNat).1 else -2
def S_Habits_oddPair_ (FC : XF2) : XS := sSeq (sSet 2 (eK (-1))) (sSeq (sSet 3 (eK 0)) (sSeq (sSeq (sSet 4 (eK 0)) (sWhile (cB (fun x y => x < y) (eL 4) (eL 1)) (sSeq (sSeq (sSet 5 (eB iAdd (eL 4) (eK 1))) (sWhile (cB (fun x y => x < y) (eL 5) (eL 1)) (sSeq (sIf (cAnd (cZ (fun x => x ≠ 0) (eA 40 16 (eL 4))) (cZ (fun x => x ≠ 0) (eA 40 16 (eL 5)))) (sSeq (sSet 6 (eC2 FC (eL 4) (eL 5))) (sIf (cOr (cB (fun x y => x = y) (eL 2) (eK (-1))) (cB (fun x y => x < y) (eL 6) (eL 3))) (sSeq (sSet 2 (eB iAdd (eB iMul (eK 100) (eL 4)) (eL 5))) (sSet 3 (eL 6))) sSkip)) sSkip) (sInc 5 1)))) (sInc 4 1)))) (sRet (eL 2))))
theorem oddPair_gen (FC : XF2) {d M : XM} {w : Int} {Q : Int → XM → Prop} (hB : Base d) (hW : cWays M) (hc : HcSpec FC) (h40 : ∀ s, 0 ≤ s → s < d 81 11 → M 40 s = ((HB d w s : Nat) : Int)) (hQ : Q (oAll d w (d 81 11).toNat).1 M) : S_Habits_oddPair_ FC (fun _ _ => False) Q (sl (fun _ => 0) 1 (d 81 11)) M := by
  have v3 := hB.2.2.1.2.2.1
  unfold S_Habits_oddPair_
  simp only [sSeq, sSet, sInc, sPF, sPA, sPD, sOF, sOA, sX, sIf, sSkip, sRet, sRetB, sRetV, sSw, sSel, eK, eL, eR, eF, eA, eQ, eD, eU, eB, eV, eIf, ePF, eC0, eC1, eC2, eC3, eC4, eC5, eC6, eC7, cB, cZ, cAnd, cOr, cNot, i2l, st_fn, sl_ap, if_true, if_false, ↓reduceIte, reduceIte, Nat.reduceEqDiff, Int.reduceEq, Int.reduceLT, Int.reduceLE, Int.reduceAdd, Int.reduceSub, Int.reduceMul, Int.reduceNeg, and_true, true_and, not_true, not_false_eq_true, true_or, or_true, ne_eq]
  refine while_up 4 0 (d 81 11) (fun x L M' => M' = M ∧ L 1 = d 81 11 ∧ L 2 = (oAll d w x.toNat).1 ∧ L 3 = (oAll d w x.toNat).2) v3.1 rfl ⟨rfl, rfl, rfl, rfl⟩ ?_ ?_ ?_
  · intro x L M' P F a1 a2 hL ⟨_, k1, _⟩ hT hF
    simp only [sSeq, sSet, sInc, sPF, sPA, sPD, sOF, sOA, sX, sIf, sSkip, sRet, sRetB, sRetV, sSw, sSel, eK, eL, eR, eF, eA, eQ, eD, eU, eB, eV, eIf, ePF, eC0, eC1, eC2, eC3, eC4, eC5, eC6, eC7, cB, cZ, cAnd, cOr, cNot, i2l, st_fn, sl_ap, if_true, if_false, ↓reduceIte, reduceIte, Nat.reduceEqDiff, Int.reduceEq, Int.reduceLT, Int.reduceLE, Int.reduceAdd, Int.reduceSub, Int.reduceMul, Int.reduceNeg, and_true, true_and, not_true, not_false_eq_true, true_or, or_true, ne_eq, hL, k1]
    exact ⟨hT, hF⟩
  · intro x L M' Q' hx0 hx1 hL ⟨k1, k2, k3, k4⟩ hQ'
    subst k1
    have hsu := oAll_succ d w hx0
    simp only [sSeq, sSet, sInc, sPF, sPA, sPD, sOF, sOA, sX, sIf, sSkip, sRet, sRetB, sRetV, sSw, sSel, eK, eL, eR, eF, eA, eQ, eD, eU, eB, eV, eIf, ePF, eC0, eC1, eC2, eC3, eC4, eC5, eC6, eC7, cB, cZ, cAnd, cOr, cNot, i2l, st_fn, sl_ap, if_true, if_false, ↓reduceIte, reduceIte, Nat.reduceEqDiff, Int.reduceEq, Int.reduceLT, Int.reduceLE, Int.reduceAdd, Int.reduceSub, Int.reduceMul, Int.reduceNeg, and_true, true_and, not_true, not_false_eq_true, true_or, or_true, ne_eq, hL]
    rw [iAdd_id (by omega) (by omega)]
    refine while_up 5 (x + 1) (d 81 11) (fun y L2 N => N = M' ∧ L2 1 = d 81 11 ∧ L2 4 = x ∧ L2 2 = (oRow d w x (y - (x + 1)).toNat (oAll d w x.toNat)).1 ∧ L2 3 = (oRow d w x (y - (x + 1)).toNat (oAll d w x.toNat)).2) (by omega) rfl ⟨rfl, by simp only [sl_ap, st_fn, Nat.reduceEqDiff, ↓reduceIte, reduceIte, Int.reduceEq, if_true, if_false]; exact k2, by simp only [sl_ap, st_fn, Nat.reduceEqDiff, ↓reduceIte, reduceIte, Int.reduceEq, if_true, if_false]; exact hL, by rw [show (x + 1 - (x + 1)).toNat = 0 by omega]; simp only [sl_ap, st_fn, Nat.reduceEqDiff, ↓reduceIte, reduceIte, Int.reduceEq, if_true, if_false]; exact k3, by rw [show (x + 1 - (x + 1)).toNat = 0 by omega]; simp only [sl_ap, st_fn, Nat.reduceEqDiff, ↓reduceIte, reduceIte, Int.reduceEq, if_true, if_false]; exact k4⟩ ?_ ?_ ?_
    · intro y L2 N P F a1 a2 hL2 ⟨_, b1, _⟩ hT hF
      simp only [sSeq, sSet, sInc, sPF, sPA, sPD, sOF, sOA, sX, sIf, sSkip, sRet, sRetB, sRetV, sSw, sSel, eK, eL, eR, eF, eA, eQ, eD, eU, eB, eV, eIf, ePF, eC0, eC1, eC2, eC3, eC4, eC5, eC6, eC7, cB, cZ, cAnd, cOr, cNot, i2l, st_fn, sl_ap, if_true, if_false, ↓reduceIte, reduceIte, Nat.reduceEqDiff, Int.reduceEq, Int.reduceLT, Int.reduceLE, Int.reduceAdd, Int.reduceSub, Int.reduceMul, Int.reduceNeg, and_true, true_and, not_true, not_false_eq_true, true_or, or_true, ne_eq, hL2, b1]
      exact ⟨hT, hF⟩
    · intro y L2 N Q2 hy0 hy1 hL2 ⟨b0, b1, b2, b3, b4⟩ hQ2
      subst b0
      have hro := oRow_succ d w x (oAll d w x.toNat) hy0
      have hfin : ∀ L3 : XL, L3 5 = y + 1 → L3 1 = d 81 11 → L3 4 = x → L3 2 = (oStp d w x y (oRow d w x (y - (x + 1)).toNat (oAll d w x.toNat))).1 → L3 3 = (oStp d w x y (oRow d w x (y - (x + 1)).toNat (oAll d w x.toNat))).2 → Q2 L3 N := by
        intro L3 c1 c2 c3 c4 c5
        refine hQ2 _ _ c1 ⟨rfl, c2, c3, ?_, ?_⟩
        · rw [hro]; exact c4
        · rw [hro]; exact c5
      generalize oRow d w x (y - (x + 1)).toNat (oAll d w x.toNat) = p at *
      simp only [sSeq, sSet, sInc, sPF, sPA, sPD, sOF, sOA, sX, sIf, sSkip, sRet, sRetB, sRetV, sSw, sSel, eK, eL, eR, eF, eA, eQ, eD, eU, eB, eV, eIf, ePF, eC0, eC1, eC2, eC3, eC4, eC5, eC6, eC7, cB, cZ, cAnd, cOr, cNot, i2l, st_fn, sl_ap, if_true, if_false, ↓reduceIte, reduceIte, Nat.reduceEqDiff, Int.reduceEq, Int.reduceLT, Int.reduceLE, Int.reduceAdd, Int.reduceSub, Int.reduceMul, Int.reduceNeg, and_true, true_and, not_true, not_false_eq_true, true_or, or_true, ne_eq, hL2, b2, b3, b4, h40 x hx0 hx1, h40 y (by omega) hy1]
      rw [iAdd_id (x := y) (by omega) (by omega)]
      have hno : ¬ (¬ HB d w x = 0 ∧ ¬ HB d w y = 0) → Q2 (sl L2 5 (y + 1)) N := by
        intro c
        have e : oStp d w x y p = p := if_neg c
        rw [e] at hfin
        exact hfin _ rfl b1 b2 b3 b4
      refine ⟨hx0, by omega, fun c1 => ⟨by omega, by omega, fun c2 => ?_, fun c2 => hno (by omega)⟩, fun c1 => hno (by omega)⟩
      refine hc _ x y _ _ _ hW ⟨hx0, by omega⟩ ⟨by omega, by omega⟩ (HB_lt d w x) (HB_lt d w y) (h40 x hx0 hx1) (h40 y (by omega) hy1) ?_
      have hch : chS (PC (HB d w x) : Nat) (PC (HB d w y) : Nat) (PC (HB d w x &&& HB d w y) : Nat) = chP d w x y := rfl
      rw [hch, iMul_id (by omega) (by omega), iAdd_id (by omega) (by omega)]
      have e1 : oStp d w x y p = if p.1 = -1 ∨ chP d w x y < p.2 then (100 * x + y, chP d w x y) else p := if_pos ⟨by omega, by omega⟩
      rw [e1] at hfin
      have hyes : (p.1 = -1 ∨ chP d w x y < p.2) → ∀ u, Q2 (sl (sl (sl (sl L2 6 u) 2 (100 * x + y)) 3 (chP d w x y)) 5 (y + 1)) N := by
        intro c u
        rw [if_pos c] at hfin
        refine hfin _ ?_ ?_ ?_ ?_ ?_
        all_goals simp only [sl_ap, st_fn, Nat.reduceEqDiff, ↓reduceIte, reduceIte, Int.reduceEq, if_true, if_false]
        · exact b1
        · exact b2
      refine ⟨fun c3 => hyes (Or.inl c3) _, fun c3 => ⟨fun c4 => hyes (Or.inr c4) _, fun c4 => ?_⟩⟩
      rw [if_neg (fun q => q.elim c3 c4)] at hfin
      refine hfin _ ?_ ?_ ?_ ?_ ?_
      all_goals simp only [sl_ap, st_fn, Nat.reduceEqDiff, ↓reduceIte, reduceIte, Int.reduceEq, if_true, if_false]
      · exact b1
      · exact b2
      · exact b3
      · exact b4
    · intro L2 N _ ⟨b0, b1, b2, b3, b4⟩
      subst b0
      rw [b2, iAdd_id (by omega) (by omega)]
      refine hQ' _ _ rfl ⟨rfl, ?_, ?_, ?_⟩
      · simp only [sl_ap, st_fn, Nat.reduceEqDiff, ↓reduceIte, reduceIte, Int.reduceEq, if_true, if_false]; exact b1
      · simp only [sl_ap, st_fn, Nat.reduceEqDiff, ↓reduceIte, reduceIte, Int.reduceEq, if_true, if_false]; rw [hsu]; exact b3
      · simp only [sl_ap, st_fn, Nat.reduceEqDiff, ↓reduceIte, reduceIte, Int.reduceEq, if_true, if_false]; rw [hsu]; exact b4
  · intro L M' _ ⟨k1, k2, k3, k4⟩
    subst k1
    rw [k3]
    exact hQ
def S_M_odd_ (FH FO : XF1) : XS := sSeq (sIf (cNot (cZ (fun x => x ≠ 0) (eC1 F_M_isWeek (eU i2l (eL 1))))) (sRet (eK (-2))) sSkip) (sSeq (sX (eC1 FH (eL 1))) (sRet (eC1 FO (eF 2 6))))
theorem M_odd_gen (FH FO : XF1) {d M : XM} {w : Int} {Q : Int → XM → Prop} (hB : Base d) (hC : CF d M) (hW : cWays d) (hH : HgSpec d FH) (hO : ∀ (M : XM) (Q : Int → XM → Prop), cWays M → (∀ s, 0 ≤ s → s < d 81 11 → M 40 s = ((HB d w s : Nat) : Int)) → Q (oAll d w (d 81 11).toNat).1 M → FO (d 81 11) M Q) (hQ : ∀ M', Only SC M M' → Q (vOdd d w) M') : S_M_odd_ FH FO (fun _ _ => False) Q (sl (fun _ => 0) 1 w) M := by
  unfold S_M_odd_
  simp (disch := omega) only [sSeq, sSet, sInc, sPF, sPA, sPD, sOF, sOA, sX, sIf, sSkip, sRet, sRetB, sRetV, sSw, sSel, eK, eL, eR, eF, eA, eQ, eD, eU, eB, eV, eIf, ePF, eC0, eC1, eC2, eC3, eC4, eC5, eC6, eC7, cB, cZ, cAnd, cOr, cNot, i2l, st_fn, sl_ap, if_true, if_false, ↓reduceIte, reduceIte, Nat.reduceEqDiff, Int.reduceEq, Int.reduceLT, Int.reduceLE, Int.reduceAdd, Int.reduceSub, Int.reduceMul, Int.reduceNeg, and_true, true_and, not_true, not_false_eq_true, true_or, or_true, ne_eq, F_M_isWeek_iff, b01_ne]
  unfold vOdd at hQ
  by_cases c : 0 ≤ w ∧ w ≤ 51
  · rw [if_pos c] at hQ
    refine ⟨fun _ => ?_, fun q => absurd c q⟩
    refine hH M w _ hC fun M1 o1 g1 => ?_
    rw [((hC.go o1 (by decide)).dct hB).2.2.2.2.2.2.1]
    exact hO M1 _ (cWays_go (hC.go o1 (by decide)) hW) g1 (hQ M1 (o1.wk (by decide)))
  · rw [if_neg c] at hQ
    exact ⟨fun q => absurd q c, fun _ => hQ M Only.rf⟩
def S_R_odd_ (FO : XF1) (FH : XF2) (FC : XF3) : XS := sSeq (sIf (cNot (cZ (fun x => x ≠ 0) (eC1 F_R_isWeek (eU i2l (eL 1))))) (sRet (eK (-2))) sSkip) (sSeq (sX (eC0 F_R_reads)) (sSeq (sSet 2 (eK (-1))) (sSeq (sSet 3 (eK 0)) (sSeq (sSeq (sSet 4 (eK 0)) (sWhile (cB (fun x y => x < y) (eL 4) (eF 81 11)) (sSeq (sSeq (sSet 5 (eB iAdd (eL 4) (eK 1))) (sWhile (cB (fun x y => x < y) (eL 5) (eF 81 11)) (sSeq (sSeq (sSet 6 (eC2 FH (eL 4) (eL 1))) (sSeq (sSet 7 (eC2 FH (eL 5) (eL 1))) (sIf (cAnd (cZ (fun x => x ≠ 0) (eL 6)) (cZ (fun x => x ≠ 0) (eL 7))) (sSeq (sSet 8 (eC3 FC (eC1 FO (eL 6)) (eC1 FO (eL 7)) (eC1 FO (eB iAnd (eL 6) (eL 7))))) (sIf (cOr (cB (fun x y => x = y) (eL 2) (eK (-1))) (cB (fun x y => x < y) (eL 8) (eL 3))) (sSeq (sSet 2 (eB iAdd (eB iMul (eK 100) (eL 4)) (eL 5))) (sSet 3 (eL 8))) sSkip)) sSkip))) (sInc 5 1)))) (sInc 4 1)))) (sRet (eL 2))))))
theorem R_odd_gen (FO : XF1) (FH : XF2) (FC : XF3) {d M : XM} {w : Int} {Q : Int → XM → Prop} (hB : Base d) (hC : RF d M) (hlo : M 81 29 = -1) (hO : ∀ (n : Nat) (M : XM) (Q : Int → XM → Prop), n < 16777216 → Q ((PC n : Nat) : Int) M → FO (n : Int) M Q) (hH : ∀ (M : XM) (s : Int) (Q : Int → XM → Prop), RF d M → RdP d M → 0 ≤ s ∧ s < d 81 11 → Q ((HB d w s : Nat) : Int) M → FH s w M Q) (hc : ∀ (n m k : Nat) (M : XM) (Q : Int → XM → Prop), n ≤ 24 → m ≤ 24 → k ≤ 24 → Q (chS n m k) M → FC (n : Int) (m : Int) (k : Int) M Q) (hQ : ∀ M', OnlyR SR SF M M' → M' 81 29 = -1 → Q (vOdd d w) M') : S_R_odd_ FO FH FC (fun _ _ => False) Q (sl (fun _ => 0) 1 w) M := by
  have v3 := hB.2.2.1.2.2.1
  unfold S_R_odd_
  simp (disch := omega) only [sSeq, sSet, sInc, sPF, sPA, sPD, sOF, sOA, sX, sIf, sSkip, sRet, sRetB, sRetV, sSw, sSel, eK, eL, eR, eF, eA, eQ, eD, eU, eB, eV, eIf, ePF, eC0, eC1, eC2, eC3, eC4, eC5, eC6, eC7, cB, cZ, cAnd, cOr, cNot, i2l, st_fn, sl_ap, if_true, if_false, ↓reduceIte, reduceIte, Nat.reduceEqDiff, Int.reduceEq, Int.reduceLT, Int.reduceLE, Int.reduceAdd, Int.reduceSub, Int.reduceMul, Int.reduceNeg, and_true, true_and, not_true, not_false_eq_true, true_or, or_true, ne_eq, F_R_isWeek_iff, b01_ne]
  unfold vOdd at hQ
  by_cases c : 0 ≤ w ∧ w ≤ 51
  · rw [if_pos c] at hQ
    refine ⟨fun _ => ?_, fun q => absurd c q⟩
    refine R_reads_gen hB.2.2.2.2.1 hC fun M1 o1 g1 => ?_
    have hC1 := hC.go o1 (by decide) (by decide)
    have hQ1 := hQ M1 (o1.wk (by decide) (by decide)) ((o1.2 29 (by decide)).trans hlo)
    have e11 : M1 81 11 = d 81 11 := hC1.2.1 11 (by decide)
    refine while_up 4 0 (d 81 11) (fun x L M' => M' = M1 ∧ L 1 = w ∧ L 2 = (oAll d w x.toNat).1 ∧ L 3 = (oAll d w x.toNat).2) v3.1 rfl ⟨rfl, rfl, rfl, rfl⟩ ?_ ?_ ?_
    · intro x L M' P F a1 a2 hL ⟨b0, k1, _⟩ hT hF
      subst b0
      simp only [sSeq, sSet, sInc, sPF, sPA, sPD, sOF, sOA, sX, sIf, sSkip, sRet, sRetB, sRetV, sSw, sSel, eK, eL, eR, eF, eA, eQ, eD, eU, eB, eV, eIf, ePF, eC0, eC1, eC2, eC3, eC4, eC5, eC6, eC7, cB, cZ, cAnd, cOr, cNot, i2l, st_fn, sl_ap, if_true, if_false, ↓reduceIte, reduceIte, Nat.reduceEqDiff, Int.reduceEq, Int.reduceLT, Int.reduceLE, Int.reduceAdd, Int.reduceSub, Int.reduceMul, Int.reduceNeg, and_true, true_and, not_true, not_false_eq_true, true_or, or_true, ne_eq, hL, e11]
      exact ⟨hT, hF⟩
    · intro x L M' Q' hx0 hx1 hL ⟨k1, k2, k3, k4⟩ hQ'
      subst k1
      have hsu := oAll_succ d w hx0
      simp only [sSeq, sSet, sInc, sPF, sPA, sPD, sOF, sOA, sX, sIf, sSkip, sRet, sRetB, sRetV, sSw, sSel, eK, eL, eR, eF, eA, eQ, eD, eU, eB, eV, eIf, ePF, eC0, eC1, eC2, eC3, eC4, eC5, eC6, eC7, cB, cZ, cAnd, cOr, cNot, i2l, st_fn, sl_ap, if_true, if_false, ↓reduceIte, reduceIte, Nat.reduceEqDiff, Int.reduceEq, Int.reduceLT, Int.reduceLE, Int.reduceAdd, Int.reduceSub, Int.reduceMul, Int.reduceNeg, and_true, true_and, not_true, not_false_eq_true, true_or, or_true, ne_eq, hL]
      rw [iAdd_id (by omega) (by omega)]
      refine while_up 5 (x + 1) (d 81 11) (fun y L2 N => N = M' ∧ L2 1 = w ∧ L2 4 = x ∧ L2 2 = (oRow d w x (y - (x + 1)).toNat (oAll d w x.toNat)).1 ∧ L2 3 = (oRow d w x (y - (x + 1)).toNat (oAll d w x.toNat)).2) (by omega) rfl ⟨rfl, by simp only [sl_ap, st_fn, Nat.reduceEqDiff, ↓reduceIte, reduceIte, Int.reduceEq, if_true, if_false]; exact k2, by simp only [sl_ap, st_fn, Nat.reduceEqDiff, ↓reduceIte, reduceIte, Int.reduceEq, if_true, if_false]; exact hL, by rw [show (x + 1 - (x + 1)).toNat = 0 by omega]; simp only [sl_ap, st_fn, Nat.reduceEqDiff, ↓reduceIte, reduceIte, Int.reduceEq, if_true, if_false]; exact k3, by rw [show (x + 1 - (x + 1)).toNat = 0 by omega]; simp only [sl_ap, st_fn, Nat.reduceEqDiff, ↓reduceIte, reduceIte, Int.reduceEq, if_true, if_false]; exact k4⟩ ?_ ?_ ?_
      · intro y L2 N P F a1 a2 hL2 ⟨b0, b1, _⟩ hT hF
        subst b0
        simp only [sSeq, sSet, sInc, sPF, sPA, sPD, sOF, sOA, sX, sIf, sSkip, sRet, sRetB, sRetV, sSw, sSel, eK, eL, eR, eF, eA, eQ, eD, eU, eB, eV, eIf, ePF, eC0, eC1, eC2, eC3, eC4, eC5, eC6, eC7, cB, cZ, cAnd, cOr, cNot, i2l, st_fn, sl_ap, if_true, if_false, ↓reduceIte, reduceIte, Nat.reduceEqDiff, Int.reduceEq, Int.reduceLT, Int.reduceLE, Int.reduceAdd, Int.reduceSub, Int.reduceMul, Int.reduceNeg, and_true, true_and, not_true, not_false_eq_true, true_or, or_true, ne_eq, hL2, e11]
        exact ⟨hT, hF⟩
      · intro y L2 N Q2 hy0 hy1 hL2 ⟨b0, b1, b2, b3, b4⟩ hQ2
        subst b0
        have hro := oRow_succ d w x (oAll d w x.toNat) hy0
        have hfin : ∀ L3 : XL, L3 5 = y + 1 → L3 1 = w → L3 4 = x → L3 2 = (oStp d w x y (oRow d w x (y - (x + 1)).toNat (oAll d w x.toNat))).1 → L3 3 = (oStp d w x y (oRow d w x (y - (x + 1)).toNat (oAll d w x.toNat))).2 → Q2 L3 N := by
          intro L3 c1 c2 c3 c4 c5
          refine hQ2 _ _ c1 ⟨rfl, c2, c3, ?_, ?_⟩
          · rw [hro]; exact c4
          · rw [hro]; exact c5
        generalize oRow d w x (y - (x + 1)).toNat (oAll d w x.toNat) = p at *
        have lx := HB_lt d w x
        have ly := HB_lt d w y
        have lxy : HB d w x &&& HB d w y < 16777216 := Nat.lt_of_le_of_lt Nat.and_le_left lx
        simp only [sSeq, sSet, sInc, sPF, sPA, sPD, sOF, sOA, sX, sIf, sSkip, sRet, sRetB, sRetV, sSw, sSel, eK, eL, eR, eF, eA, eQ, eD, eU, eB, eV, eIf, ePF, eC0, eC1, eC2, eC3, eC4, eC5, eC6, eC7, cB, cZ, cAnd, cOr, cNot, i2l, st_fn, sl_ap, if_true, if_false, ↓reduceIte, reduceIte, Nat.reduceEqDiff, Int.reduceEq, Int.reduceLT, Int.reduceLE, Int.reduceAdd, Int.reduceSub, Int.reduceMul, Int.reduceNeg, and_true, true_and, not_true, not_false_eq_true, true_or, or_true, ne_eq, hL2, b1, b2]
        refine hH N x _ hC1 g1 ⟨hx0, hx1⟩ (hH N y _ hC1 g1 ⟨by omega, hy1⟩ ?_)
        rw [iAdd_id (x := y) (by omega) (by omega)]
        have hno : ¬ (¬ HB d w x = 0 ∧ ¬ HB d w y = 0) → Q2 (sl (sl (sl L2 6 ((HB d w x : Nat) : Int)) 7 ((HB d w y : Nat) : Int)) 5 (y + 1)) N := by
          intro c
          have e : oStp d w x y p = p := if_neg c
          rw [e] at hfin
          refine hfin _ ?_ ?_ ?_ ?_ ?_
          all_goals simp only [sl_ap, st_fn, Nat.reduceEqDiff, ↓reduceIte, reduceIte, Int.reduceEq, if_true, if_false]
          · exact b1
          · exact b2
          · exact b3
          · exact b4
        refine ⟨fun c1 => ⟨fun c2 => ?_, fun c2 => hno (by omega)⟩, fun c1 => hno (by omega)⟩
        rw [iAnd_n (by omega)]
        refine hO _ _ _ lx (hO _ _ _ ly (hO _ _ _ lxy (hc _ _ _ _ _ (PC_le lx) (PC_le ly) (PC_le lxy) ?_)))
        have hch : chS (PC (HB d w x) : Nat) (PC (HB d w y) : Nat) (PC (HB d w x &&& HB d w y) : Nat) = chP d w x y := rfl
        rw [hch]
        simp only [sSeq, sSet, sInc, sPF, sPA, sPD, sOF, sOA, sX, sIf, sSkip, sRet, sRetB, sRetV, sSw, sSel, eK, eL, eR, eF, eA, eQ, eD, eU, eB, eV, eIf, ePF, eC0, eC1, eC2, eC3, eC4, eC5, eC6, eC7, cB, cZ, cAnd, cOr, cNot, i2l, st_fn, sl_ap, if_true, if_false, ↓reduceIte, reduceIte, Nat.reduceEqDiff, Int.reduceEq, Int.reduceLT, Int.reduceLE, Int.reduceAdd, Int.reduceSub, Int.reduceMul, Int.reduceNeg, and_true, true_and, not_true, not_false_eq_true, true_or, or_true, ne_eq, hL2, b1, b2, b3, b4]
        rw [iMul_id (by omega) (by omega), iAdd_id (by omega) (by omega)]
        have e1 : oStp d w x y p = if p.1 = -1 ∨ chP d w x y < p.2 then (100 * x + y, chP d w x y) else p := if_pos ⟨by omega, by omega⟩
        rw [e1] at hfin
        have hyes : (p.1 = -1 ∨ chP d w x y < p.2) → Q2 (sl (sl (sl (sl (sl (sl L2 6 ((HB d w x : Nat) : Int)) 7 ((HB d w y : Nat) : Int)) 8 (chP d w x y)) 2 (100 * x + y)) 3 (chP d w x y)) 5 (y + 1)) N := by
          intro c
          rw [if_pos c] at hfin
          refine hfin _ ?_ ?_ ?_ ?_ ?_
          all_goals simp only [sl_ap, st_fn, Nat.reduceEqDiff, ↓reduceIte, reduceIte, Int.reduceEq, if_true, if_false]
          · exact b1
          · exact b2
        refine ⟨fun c3 => hyes (Or.inl c3), fun c3 => ⟨fun c4 => hyes (Or.inr c4), fun c4 => ?_⟩⟩
        rw [if_neg (fun q => q.elim c3 c4)] at hfin
        refine hfin _ ?_ ?_ ?_ ?_ ?_
        all_goals simp only [sl_ap, st_fn, Nat.reduceEqDiff, ↓reduceIte, reduceIte, Int.reduceEq, if_true, if_false]
        · exact b1
        · exact b2
        · exact b3
        · exact b4
      · intro L2 N _ ⟨b0, b1, b2, b3, b4⟩
        subst b0
        rw [b2, iAdd_id (by omega) (by omega)]
        refine hQ' _ _ rfl ⟨rfl, ?_, ?_, ?_⟩
        · simp only [sl_ap, st_fn, Nat.reduceEqDiff, ↓reduceIte, reduceIte, Int.reduceEq, if_true, if_false]; exact b1
        · simp only [sl_ap, st_fn, Nat.reduceEqDiff, ↓reduceIte, reduceIte, Int.reduceEq, if_true, if_false]; rw [hsu]; exact b3
        · simp only [sl_ap, st_fn, Nat.reduceEqDiff, ↓reduceIte, reduceIte, Int.reduceEq, if_true, if_false]; rw [hsu]; exact b4
    · intro L M' _ ⟨k1, k2, k3, k4⟩
      subst k1
      rw [k3]
      exact hQ1
  · rw [if_neg c] at hQ
    exact ⟨fun q => absurd q c, fun _ => hQ M OnlyR.rf hlo⟩
theorem ok_odd {Z M : XM} (hZ : ZC Z) (h : Inv Z M) (x1 : Int) : F_M_odd x1 M (fun v M1 => F_R_odd x1 M1 (fun w M2 => v = w ∧ Inv Z M2)) :=
  have hB := h.base hZ
  ok_of (FM := F_M_odd x1) (FR := F_R_odd x1) h (vOdd M x1) (fun _ hQ => M_odd_gen F_Habits_gather F_Habits_oddPair hB CF.rf (ways_of hZ h) (hg_spec hB) (fun _ _ h1 h2 h3 => oddPair_gen F_Habits_chance hB h1 hc_spec h2 h3) hQ) (fun _ _ hC hlo hQ => R_odd_gen F_R_ones F_R_hoursOf F_R_chanceOf hB hC hlo (fun _ _ _ h1 h2 => R_ones_ok h1 h2) (fun _ _ _ h1 h2 h3 h4 => R_hoursOf_ok hB h1 h2 h3 h4) (fun _ _ _ _ _ h1 h2 h3 h4 => R_chanceOf_ok h1 h2 h3 h4) hQ)
