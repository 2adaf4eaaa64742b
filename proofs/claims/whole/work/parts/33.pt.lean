/-! count -/
def KN (d : XM) : Int := sumN (fun k => if kn d k then 1 else 0) (d 81 19).toNat
def cnt (d : XM) (u : Int) : Int := if u = 0 then d 81 5 else if u = 1 then d 81 7 else if u = 2 then d 81 11 else if u = 3 then d 81 19 else if u = 4 then KN d else if u = 5 then d 81 18 else if u = 6 then d 81 31 else if u = 7 then emptiesTo (d 95) 832 else if u = 8 then d 81 4 else -2
theorem KN_bd {d : XM} {n : Nat} : 0 ≤ sumN (fun k => if kn d k then 1 else 0) n ∧ sumN (fun k => if kn d k then 1 else 0) n ≤ n := by
  induction n with
  | zero => exact ⟨Int.le_refl 0, Int.le_refl 0⟩
  | succ n ih =>
    show 0 ≤ sumN (fun k => if kn d k then 1 else 0) n + (if kn d (n : Int) then 1 else 0) ∧ sumN (fun k => if kn d k then 1 else 0) n + (if kn d (n : Int) then 1 else 0) ≤ ((n + 1 : Nat) : Int)
    split <;> omega
theorem C_kn {d M : XM} (hd : DCl M d) (k : Int) : (¬ k = M 13 2 ∧ M 20 k ≤ M 13 1 ∧ (M 21 k = -1 ∨ M 13 1 < M 21 k)) ↔ kn d k := by
  obtain ⟨l1, l2, l3, l4, l5, l6, l7, l8, l9, l10, l11⟩ := hd
  rw [l3, l10, l2, l11]
theorem Ledger_countKnown_ok {d M : XM} {Q : Int → XM → Prop} (hB : Base d) (hC : CF d M) (hQ : Q (KN d) M) : F_Ledger_countKnown M Q := by
  have hd := hC.dcl hB
  have hs := hB.2.2.2.1.1
  unfold F_Ledger_countKnown S_Ledger_countKnown
  simp only [sSeq, sSet, sInc, sPF, sPA, sPD, sOF, sOA, sX, sIf, sSkip, sRet, sRetB, sRetV, sSw, sSel, eK, eL, eR, eF, eA, eQ, eD, eU, eB, eV, eIf, ePF, eC0, eC1, eC2, eC3, eC4, eC5, eC6, eC7, cB, cZ, cAnd, cOr, cNot, i2l, st_fn, sl_ap, if_true, if_false, ↓reduceIte, reduceIte, Nat.reduceEqDiff, Int.reduceEq, Int.reduceLT, Int.reduceLE, Int.reduceAdd, Int.reduceSub, Int.reduceMul, Int.reduceNeg, and_true, true_and, not_true, not_false_eq_true, true_or, or_true, ne_eq]
  refine while_up 2 0 (d 81 19) (fun x L M' => M' = M ∧ L 1 = sumN (fun k => if kn d k then 1 else 0) x.toNat) hs.1 rfl ⟨rfl, rfl⟩ ?_ ?_ ?_
  · intro x L M' P F a1 a2 hL ⟨k1, _⟩ hT hF
    subst k1
    simp only [sSeq, sSet, sInc, sPF, sPA, sPD, sOF, sOA, sX, sIf, sSkip, sRet, sRetB, sRetV, sSw, sSel, eK, eL, eR, eF, eA, eQ, eD, eU, eB, eV, eIf, ePF, eC0, eC1, eC2, eC3, eC4, eC5, eC6, eC7, cB, cZ, cAnd, cOr, cNot, i2l, st_fn, sl_ap, if_true, if_false, ↓reduceIte, reduceIte, Nat.reduceEqDiff, Int.reduceEq, Int.reduceLT, Int.reduceLE, Int.reduceAdd, Int.reduceSub, Int.reduceMul, Int.reduceNeg, and_true, true_and, not_true, not_false_eq_true, true_or, or_true, ne_eq, hL, hd.1]
    exact ⟨hT, hF⟩
  · intro x L M' Q' hx0 hx1 hL ⟨k1, k2⟩ hQ'
    subst k1
    have b := KN_bd (d := d) (n := x.toNat)
    simp (disch := omega) only [sSeq, sSet, sInc, sPF, sPA, sPD, sOF, sOA, sX, sIf, sSkip, sRet, sRetB, sRetV, sSw, sSel, eK, eL, eR, eF, eA, eQ, eD, eU, eB, eV, eIf, ePF, eC0, eC1, eC2, eC3, eC4, eC5, eC6, eC7, cB, cZ, cAnd, cOr, cNot, i2l, st_fn, sl_ap, if_true, if_false, ↓reduceIte, reduceIte, Nat.reduceEqDiff, Int.reduceEq, Int.reduceLT, Int.reduceLE, Int.reduceAdd, Int.reduceSub, Int.reduceMul, Int.reduceNeg, and_true, true_and, not_true, not_false_eq_true, true_or, or_true, ne_eq, hL, F_Ledger_isKnown_iff, b01_ne, k2, iAdd_id]
    refine ⟨fun c => ?_, fun c => ?_⟩
    · refine hQ' _ _ rfl ⟨rfl, ?_⟩
      simp only [sl_ap, st_fn, Nat.reduceEqDiff, ↓reduceIte, reduceIte, Int.reduceEq, if_true, if_false]
      rw [sumN_succ _ hx0, if_pos ((C_kn hd x).mp c)]
    · refine hQ' _ _ rfl ⟨rfl, ?_⟩
      simp only [sl_ap, st_fn, Nat.reduceEqDiff, ↓reduceIte, reduceIte, Int.reduceEq, if_true, if_false]
      rw [sumN_succ _ hx0, if_neg (fun q => c ((C_kn hd x).mpr q)), Int.add_zero]
      exact k2
  · intro L M' _ ⟨k1, k2⟩
    subst k1
    rw [k2]
    exact hQ
def CntSpec (d : XM) (F : XF1) (P : XM → Prop) : Prop := ∀ (M : XM) (u : Int) (Q : Int → XM → Prop), P M → Q (cnt d u) M → F u M Q
theorem M_count_ok {d M : XM} {u : Int} {Q : Int → XM → Prop} (hB : Base d) (hC : CF d M) (hl : d 73 3 = d 81 4) (hQ : Q (cnt d u) M) : F_M_count u M Q := by
  obtain ⟨h1, h2, h3, h4, h5, h6, h7, h8, h9, h10, h11, h12, h13, h14⟩ := hC.dct hB
  obtain ⟨l1, l2, l3, -⟩ := hC.dcl hB
  have e22 : M 22 1 = d 81 31 := by
    rw [hC 22 (by decide) (by omega)]
    have hr := hB.2.2.2.2.1
    unfold DCr Rpt at hr
    exact hr.1
  have e73 : M 73 3 = d 81 4 := by rw [hC 73 (by decide) (by omega)]; exact hl
  have hk : F_Ledger_countKnown M Q ∨ ¬ u = 4 := by
    by_cases c : u = 4
    · left
      refine Ledger_countKnown_ok hB hC ?_
      unfold cnt at hQ
      rw [if_neg (by omega), if_neg (by omega), if_neg (by omega), if_neg (by omega), if_pos c] at hQ
      exact hQ
    · exact Or.inr c
  unfold F_M_count S_M_count
  simp only [sSeq, sSet, sInc, sPF, sPA, sPD, sOF, sOA, sX, sIf, sSkip, sRet, sRetB, sRetV, sSw, sSel, eK, eL, eR, eF, eA, eQ, eD, eU, eB, eV, eIf, ePF, eC0, eC1, eC2, eC3, eC4, eC5, eC6, eC7, cB, cZ, cAnd, cOr, cNot, i2l, st_fn, sl_ap, if_true, if_false, ↓reduceIte, reduceIte, Nat.reduceEqDiff, Int.reduceEq, Int.reduceLT, Int.reduceLE, Int.reduceAdd, Int.reduceSub, Int.reduceMul, Int.reduceNeg, and_true, true_and, not_true, not_false_eq_true, true_or, or_true, ne_eq, h1, h3, h7, h14, l1, l2, e22, e73]
  unfold cnt at hQ
  refine ⟨fun c => ?_, fun c => ⟨fun c1 => ?_, fun c1 => ⟨fun c2 => ?_, fun c2 => ⟨fun c3 => ?_, fun c3 => ⟨fun c4 => ?_, fun c4 => ⟨fun c5 => ?_, fun c5 => ⟨fun c6 => ?_, fun c6 => ⟨fun c7 => ?_, fun c7 => ⟨fun c8 => ?_, fun c8 => ?_⟩⟩⟩⟩⟩⟩⟩⟩⟩
  · rw [if_pos c] at hQ; exact hQ
  · rw [if_neg c, if_pos c1] at hQ; exact hQ
  · rw [if_neg c, if_neg c1, if_pos c2] at hQ; exact hQ
  · rw [if_neg c, if_neg c1, if_neg c2, if_pos c3] at hQ; exact hQ
  · exact hk.resolve_right (fun q => q c4)
  · rw [if_neg c, if_neg c1, if_neg c2, if_neg c3, if_neg c4, if_pos c5] at hQ; exact hQ
  · rw [if_neg c, if_neg c1, if_neg c2, if_neg c3, if_neg c4, if_neg c5, if_pos c6] at hQ; exact hQ
  · rw [if_neg c, if_neg c1, if_neg c2, if_neg c3, if_neg c4, if_neg c5, if_neg c6, if_pos c7] at hQ; exact hQ
  · rw [if_neg c, if_neg c1, if_neg c2, if_neg c3, if_neg c4, if_neg c5, if_neg c6, if_neg c7, if_pos c8] at hQ; exact hQ
  · rw [if_neg c, if_neg c1, if_neg c2, if_neg c3, if_neg c4, if_neg c5, if_neg c6, if_neg c7, if_neg c8] at hQ; exact hQ
theorem emptiesTo_succ (e : Int → Int) {x : Int} (h : 0 ≤ x) : emptiesTo e (x + 1).toNat = emptiesTo e x.toNat + if e x = -1 then 0 else 1 := by
  have e1 : ((x.toNat : Nat) : Int) = x := by omega
  rw [show (x + 1).toNat = x.toNat + 1 by omega]
  show emptiesTo e x.toNat + (if e ((x.toNat : Nat) : Int) = -1 then 0 else 1) = _
  rw [e1]
theorem R_count_ok {d M : XM} {u : Int} {Q : Int → XM → Prop} (hB : Base d) (hC : RF d M) (hQ : Q (cnt d u) M) : F_R_count u M Q := by
  have hs := hB.2.2.2.1.1
  have e := hC.2.1
  unfold F_R_count S_R_count
  simp only [sSeq, sSet, sInc, sPF, sPA, sPD, sOF, sOA, sX, sIf, sSkip, sRet, sRetB, sRetV, sSw, sSel, eK, eL, eR, eF, eA, eQ, eD, eU, eB, eV, eIf, ePF, eC0, eC1, eC2, eC3, eC4, eC5, eC6, eC7, cB, cZ, cAnd, cOr, cNot, i2l, st_fn, sl_ap, if_true, if_false, ↓reduceIte, reduceIte, Nat.reduceEqDiff, Int.reduceEq, Int.reduceLT, Int.reduceLE, Int.reduceAdd, Int.reduceSub, Int.reduceMul, Int.reduceNeg, and_true, true_and, not_true, not_false_eq_true, true_or, or_true, ne_eq, e 5 (by decide), e 7 (by decide), e 11 (by decide), e 19 (by decide), e 18 (by decide), e 31 (by decide), e 4 (by decide)]
  unfold cnt at hQ
  refine ⟨fun c => ?_, fun c => ⟨fun c1 => ?_, fun c1 => ⟨fun c2 => ?_, fun c2 => ⟨fun c3 => ?_, fun c3 => ⟨fun c4 => ?_, fun c4 => ⟨fun c5 => ?_, fun c5 => ⟨fun c6 => ?_, fun c6 => ⟨fun c7 => ?_, fun c7 => ⟨fun c8 => ?_, fun c8 => ?_⟩⟩⟩⟩⟩⟩⟩⟩⟩
  · rw [if_pos c] at hQ; exact hQ
  · rw [if_neg c, if_pos c1] at hQ; exact hQ
  · rw [if_neg c, if_neg c1, if_pos c2] at hQ; exact hQ
  · rw [if_neg c, if_neg c1, if_neg c2, if_pos c3] at hQ; exact hQ
  · rw [if_neg c, if_neg c1, if_neg c2, if_neg c3, if_pos c4] at hQ
    refine while_up 3 0 (d 81 19) (fun x L M' => M' = M ∧ L 2 = sumN (fun k => if kn d k then 1 else 0) x.toNat) hs.1 rfl ⟨rfl, rfl⟩ ?_ ?_ ?_
    · intro x L M' P F a1 a2 hL ⟨k1, _⟩ hT hF
      subst k1
      simp only [sSeq, sSet, sInc, sPF, sPA, sPD, sOF, sOA, sX, sIf, sSkip, sRet, sRetB, sRetV, sSw, sSel, eK, eL, eR, eF, eA, eQ, eD, eU, eB, eV, eIf, ePF, eC0, eC1, eC2, eC3, eC4, eC5, eC6, eC7, cB, cZ, cAnd, cOr, cNot, i2l, st_fn, sl_ap, if_true, if_false, ↓reduceIte, reduceIte, Nat.reduceEqDiff, Int.reduceEq, Int.reduceLT, Int.reduceLE, Int.reduceAdd, Int.reduceSub, Int.reduceMul, Int.reduceNeg, and_true, true_and, not_true, not_false_eq_true, true_or, or_true, ne_eq, hL, e 19 (by decide)]
      exact ⟨hT, hF⟩
    · intro x L M' Q' hx0 hx1 hL ⟨k1, k2⟩ hQ'
      subst k1
      have b := KN_bd (d := d) (n := x.toNat)
      have hkn := R_kn hC x
      simp (disch := omega) only [sSeq, sSet, sInc, sPF, sPA, sPD, sOF, sOA, sX, sIf, sSkip, sRet, sRetB, sRetV, sSw, sSel, eK, eL, eR, eF, eA, eQ, eD, eU, eB, eV, eIf, ePF, eC0, eC1, eC2, eC3, eC4, eC5, eC6, eC7, cB, cZ, cAnd, cOr, cNot, i2l, st_fn, sl_ap, if_true, if_false, ↓reduceIte, reduceIte, Nat.reduceEqDiff, Int.reduceEq, Int.reduceLT, Int.reduceLE, Int.reduceAdd, Int.reduceSub, Int.reduceMul, Int.reduceNeg, and_true, true_and, not_true, not_false_eq_true, true_or, or_true, ne_eq, hL, F_R_isKnown_iff, b01_ne, k2, iAdd_id]
      refine ⟨fun c => ?_, fun c => ?_⟩
      · refine hQ' _ _ rfl ⟨rfl, ?_⟩
        simp only [sl_ap, st_fn, Nat.reduceEqDiff, ↓reduceIte, reduceIte, Int.reduceEq, if_true, if_false]
        rw [sumN_succ _ hx0, if_pos (hkn.mp c)]
      · refine hQ' _ _ rfl ⟨rfl, ?_⟩
        simp only [sl_ap, st_fn, Nat.reduceEqDiff, ↓reduceIte, reduceIte, Int.reduceEq, if_true, if_false]
        rw [sumN_succ _ hx0, if_neg (fun q => c (hkn.mpr q))]
    · intro L M' _ ⟨k1, k2⟩
      subst k1
      rw [k2]
      exact hQ
  · rw [if_neg c, if_neg c1, if_neg c2, if_neg c3, if_neg c4, if_pos c5] at hQ; exact hQ
  · rw [if_neg c, if_neg c1, if_neg c2, if_neg c3, if_neg c4, if_neg c5, if_pos c6] at hQ; exact hQ
  · rw [if_neg c, if_neg c1, if_neg c2, if_neg c3, if_neg c4, if_neg c5, if_neg c6, if_pos c7] at hQ
    have e95 : M 95 = d 95 := hC.1 95 (by omega) (by omega) (by decide)
    refine while_up 3 0 832 (fun x L M' => M' = M ∧ L 2 = emptiesTo (d 95) x.toNat) (by omega) rfl ⟨rfl, rfl⟩ ?_ ?_ ?_
    · intro x L M' P F a1 a2 hL ⟨k1, _⟩ hT hF
      simp only [sSeq, sSet, sInc, sPF, sPA, sPD, sOF, sOA, sX, sIf, sSkip, sRet, sRetB, sRetV, sSw, sSel, eK, eL, eR, eF, eA, eQ, eD, eU, eB, eV, eIf, ePF, eC0, eC1, eC2, eC3, eC4, eC5, eC6, eC7, cB, cZ, cAnd, cOr, cNot, i2l, st_fn, sl_ap, if_true, if_false, ↓reduceIte, reduceIte, Nat.reduceEqDiff, Int.reduceEq, Int.reduceLT, Int.reduceLE, Int.reduceAdd, Int.reduceSub, Int.reduceMul, Int.reduceNeg, and_true, true_and, not_true, not_false_eq_true, true_or, or_true, ne_eq, hL]
      exact ⟨hT, hF⟩
    · intro x L M' Q' hx0 hx1 hL ⟨k1, k2⟩ hQ'
      subst k1
      have b := emptiesTo_r (d 95) x.toNat
      simp (disch := omega) only [sSeq, sSet, sInc, sPF, sPA, sPD, sOF, sOA, sX, sIf, sSkip, sRet, sRetB, sRetV, sSw, sSel, eK, eL, eR, eF, eA, eQ, eD, eU, eB, eV, eIf, ePF, eC0, eC1, eC2, eC3, eC4, eC5, eC6, eC7, cB, cZ, cAnd, cOr, cNot, i2l, st_fn, sl_ap, if_true, if_false, ↓reduceIte, reduceIte, Nat.reduceEqDiff, Int.reduceEq, Int.reduceLT, Int.reduceLE, Int.reduceAdd, Int.reduceSub, Int.reduceMul, Int.reduceNeg, and_true, true_and, not_true, not_false_eq_true, true_or, or_true, ne_eq, hL, e95, k2, iAdd_id]
      refine ⟨hx0, hx1, fun c => ?_, fun c => ?_⟩
      · refine hQ' _ _ rfl ⟨rfl, ?_⟩
        simp only [sl_ap, st_fn, Nat.reduceEqDiff, ↓reduceIte, reduceIte, Int.reduceEq, if_true, if_false]
        rw [emptiesTo_succ _ hx0, if_pos c]
      · refine hQ' _ _ rfl ⟨rfl, ?_⟩
        simp only [sl_ap, st_fn, Nat.reduceEqDiff, ↓reduceIte, reduceIte, Int.reduceEq, if_true, if_false]
        rw [emptiesTo_succ _ hx0, if_neg c]
    · intro L M' _ ⟨k1, k2⟩
      subst k1
      rw [k2]
      exact hQ
  · rw [if_neg c, if_neg c1, if_neg c2, if_neg c3, if_neg c4, if_neg c5, if_neg c6, if_neg c7, if_pos c8] at hQ; exact hQ
  · rw [if_neg c, if_neg c1, if_neg c2, if_neg c3, if_neg c4, if_neg c5, if_neg c6, if_neg c7, if_neg c8] at hQ; exact hQ
theorem ok_count {Z M : XM} (hZ : ZC Z) (h : Inv Z M) (x1 : Int) : F_M_count x1 M (fun v M1 => F_R_count x1 M1 (fun w M2 => v = w ∧ Inv Z M2)) :=
  ok_of (FM := F_M_count x1) (FR := F_R_count x1) h (cnt M x1) (fun _ hQ => M_count_ok (h.base hZ) CF.rf ((DCs_iff M).mp h.2.2.1).1 (hQ M Only.rf)) (fun _ _ hC hlo hQ => R_count_ok (h.base hZ) hC (hQ _ OnlyR.rf hlo))
/-! digest -/
def dgC (d : XM) : Nat → Int
  | 0 => 17
  | n + 1 => lAdd (lMul 31 (dgC d n)) (cnt d (n : Int))
def dgI (d : XM) (w h : Int) : Nat → Int
  | 0 => h
  | n + 1 => lAdd (lMul 31 (lAdd (lMul 31 (dgI d w h n)) (LO d (-1) w w (n : Int)))) (SUM d (-1) w w (LO d (-1) w w (n : Int)))
def dgW (d : XM) : Nat → Int
  | 0 => lAdd (lMul 31 (dgC d 8)) (d 22 2)
  | n + 1 => dgI d (5 * (n : Int)) (lAdd (lMul 31 (dgW d n)) (LN d (-1) (5 * (n : Int)) (5 * (n : Int)) : Int)) (LN d (-1) (5 * (n : Int)) (5 * (n : Int)))
theorem dgC_succ (d : XM) {x : Int} (h : 0 ≤ x) : dgC d (x + 1).toNat = lAdd (lMul 31 (dgC d x.toNat)) (cnt d x) := by
  have e1 : ((x.toNat : Nat) : Int) = x := by omega
  rw [show (x + 1).toNat = x.toNat + 1 by omega]
  show lAdd (lMul 31 (dgC d x.toNat)) (cnt d ((x.toNat : Nat) : Int)) = _
  rw [e1]
theorem dgI_succ (d : XM) (w hh : Int) {x : Int} (h : 0 ≤ x) : dgI d w hh (x + 1).toNat = lAdd (lMul 31 (lAdd (lMul 31 (dgI d w hh x.toNat)) (LO d (-1) w w x))) (SUM d (-1) w w (LO d (-1) w w x)) := by
  have e1 : ((x.toNat : Nat) : Int) = x := by omega
  rw [show (x + 1).toNat = x.toNat + 1 by omega]
  show lAdd (lMul 31 (lAdd (lMul 31 (dgI d w hh x.toNat)) (LO d (-1) w w ((x.toNat : Nat) : Int)))) (SUM d (-1) w w (LO d (-1) w w ((x.toNat : Nat) : Int))) = _
  rw [e1]
def S_M_digest_ (FC : XF1) (FG : XF2) : XS := sSeq (sSet 1 (eK 17)) (sSeq (sSeq (sSet 3 (eK 0)) (sWhile (cB (fun x y => x ≤ y) (eL 3) (eK 7)) (sSeq (sSet 1 (eB lAdd (eB lMul (eK 31) (eL 1)) (eU i2l (eC1 FC (eL 3))))) (sInc 3 1)))) (sSeq (sSet 1 (eB lAdd (eB lMul (eK 31) (eL 1)) (eU i2l (eF 22 2)))) (sSeq (sSeq (sSet 3 (eK 0)) (sWhile (cB (fun x y => x < y) (eL 3) (eK 52)) (sSeq (sSeq (sX (eC2 FG (eL 3) (eL 3))) (sSeq (sSet 1 (eB lAdd (eB lMul (eK 31) (eL 1)) (eU i2l (eF 29 11)))) (sSeq (sSet 4 (eK 0)) (sWhile (cB (fun x y => x < y) (eL 4) (eF 29 11)) (sSeq (sSeq (sSet 5 (eA 37 12 (eL 4))) (sSet 1 (eB lAdd (eB lMul (eK 31) (eB lAdd (eB lMul (eK 31) (eL 1)) (eU i2l (eL 5)))) (eA 36 12 (eL 5))))) (sInc 4 1)))))) (sInc 3 5)))) (sRet (eL 1)))))
theorem M_digest_gen (FC : XF1) (FG : XF2) {d M : XM} {Q : Int → XM → Prop} (hB : Base d) (hC : CF d M) (hN : CntSpec d FC (CF d)) (hG : MlSpec d FG) (hQ : ∀ M', Only SC M M' → Q (dgW d 11) M') : S_M_digest_ FC FG (fun _ _ => False) Q (fun _ => 0) M := by
  unfold S_M_digest_
  simp only [sSeq, sSet, sInc, sPF, sPA, sPD, sOF, sOA, sX, sIf, sSkip, sRet, sRetB, sRetV, sSw, sSel, eK, eL, eR, eF, eA, eQ, eD, eU, eB, eV, eIf, ePF, eC0, eC1, eC2, eC3, eC4, eC5, eC6, eC7, cB, cZ, cAnd, cOr, cNot, i2l, st_fn, sl_ap, if_true, if_false, ↓reduceIte, reduceIte, Nat.reduceEqDiff, Int.reduceEq, Int.reduceLT, Int.reduceLE, Int.reduceAdd, Int.reduceSub, Int.reduceMul, Int.reduceNeg, and_true, true_and, not_true, not_false_eq_true, true_or, or_true, ne_eq]
  refine while_up 3 0 8 (fun x L M' => M' = M ∧ L 1 = dgC d x.toNat) (by omega) rfl ⟨rfl, rfl⟩ ?_ ?_ ?_
  · intro x L M' P F a1 a2 hL _ hT hF
    simp only [sSeq, sSet, sInc, sPF, sPA, sPD, sOF, sOA, sX, sIf, sSkip, sRet, sRetB, sRetV, sSw, sSel, eK, eL, eR, eF, eA, eQ, eD, eU, eB, eV, eIf, ePF, eC0, eC1, eC2, eC3, eC4, eC5, eC6, eC7, cB, cZ, cAnd, cOr, cNot, i2l, st_fn, sl_ap, if_true, if_false, ↓reduceIte, reduceIte, Nat.reduceEqDiff, Int.reduceEq, Int.reduceLT, Int.reduceLE, Int.reduceAdd, Int.reduceSub, Int.reduceMul, Int.reduceNeg, and_true, true_and, not_true, not_false_eq_true, true_or, or_true, ne_eq, hL]
    exact ⟨fun q => hT (by omega), fun q => hF (by omega)⟩
  · intro x L M' Q' hx0 hx1 hL ⟨k1, k2⟩ hQ'
    subst k1
    simp only [sSeq, sSet, sInc, sPF, sPA, sPD, sOF, sOA, sX, sIf, sSkip, sRet, sRetB, sRetV, sSw, sSel, eK, eL, eR, eF, eA, eQ, eD, eU, eB, eV, eIf, ePF, eC0, eC1, eC2, eC3, eC4, eC5, eC6, eC7, cB, cZ, cAnd, cOr, cNot, i2l, st_fn, sl_ap, if_true, if_false, ↓reduceIte, reduceIte, Nat.reduceEqDiff, Int.reduceEq, Int.reduceLT, Int.reduceLE, Int.reduceAdd, Int.reduceSub, Int.reduceMul, Int.reduceNeg, and_true, true_and, not_true, not_false_eq_true, true_or, or_true, ne_eq, hL, k2]
    refine hN _ _ _ hC ?_
    rw [iAdd_id (by omega) (by omega)]
    refine hQ' _ _ rfl ⟨rfl, ?_⟩
    simp only [sl_ap, st_fn, Nat.reduceEqDiff, ↓reduceIte, reduceIte, Int.reduceEq, if_true, if_false]
    exact (dgC_succ d hx0).symm
  intro L1 M1 _ ⟨k1, k2⟩
  subst k1
  rw [k2, hC 22 (by decide) (by omega)]
  refine while_inv (fun L M' => ∃ n : Nat, n ≤ 11 ∧ L 3 = 5 * (n : Int) ∧ L 1 = dgW d n ∧ Only SL M1 M') (fun L _ => (55 - L 3).toNat) ⟨0, by omega, rfl, rfl, Only.rf⟩ ?_
  intro L M' ⟨n, n1, n2, n3, n4⟩ Q' hQ'
  simp only [sSeq, sSet, sInc, sPF, sPA, sPD, sOF, sOA, sX, sIf, sSkip, sRet, sRetB, sRetV, sSw, sSel, eK, eL, eR, eF, eA, eQ, eD, eU, eB, eV, eIf, ePF, eC0, eC1, eC2, eC3, eC4, eC5, eC6, eC7, cB, cZ, cAnd, cOr, cNot, i2l, st_fn, sl_ap, if_true, if_false, ↓reduceIte, reduceIte, Nat.reduceEqDiff, Int.reduceEq, Int.reduceLT, Int.reduceLE, Int.reduceAdd, Int.reduceSub, Int.reduceMul, Int.reduceNeg, and_true, true_and, not_true, not_false_eq_true, true_or, or_true, ne_eq, n2, n3]
  refine ⟨fun c => ?_, fun c => ?_⟩
  · refine hG M' (5 * (n : Int)) (5 * (n : Int)) _ (hC.go n4 SL_SC) (by omega) fun M2 o g1 g2 g3 => ?_
    have hLr := L_r hB.2.2.1 (-1) (5 * (n : Int)) (5 * (n : Int))
    have hv := hB.2.2.1.1
    rw [g3.1]
    refine while_up 4 0 (LN d (-1) (5 * (n : Int)) (5 * (n : Int))) (fun x L2 N => N = M2 ∧ L2 3 = 5 * (n : Int) ∧ L2 1 = dgI d (5 * (n : Int)) (lAdd (lMul 31 (dgW d n)) (LN d (-1) (5 * (n : Int)) (5 * (n : Int)) : Int)) x.toNat) (by omega) rfl ⟨rfl, by simp only [sl_ap, st_fn, Nat.reduceEqDiff, ↓reduceIte, reduceIte, Int.reduceEq, if_true, if_false]; exact n2, rfl⟩ ?_ ?_ ?_
    · intro x L2 N P F a1 a2 hL2 ⟨b1, _⟩ hT hF
      subst b1
      simp only [sSeq, sSet, sInc, sPF, sPA, sPD, sOF, sOA, sX, sIf, sSkip, sRet, sRetB, sRetV, sSw, sSel, eK, eL, eR, eF, eA, eQ, eD, eU, eB, eV, eIf, ePF, eC0, eC1, eC2, eC3, eC4, eC5, eC6, eC7, cB, cZ, cAnd, cOr, cNot, i2l, st_fn, sl_ap, if_true, if_false, ↓reduceIte, reduceIte, Nat.reduceEqDiff, Int.reduceEq, Int.reduceLT, Int.reduceLE, Int.reduceAdd, Int.reduceSub, Int.reduceMul, Int.reduceNeg, and_true, true_and, not_true, not_false_eq_true, true_or, or_true, ne_eq, hL2, g3.1]
      exact ⟨hT, hF⟩
    · intro x L2 N Q2 hx0 hx1 hL2 ⟨b1, b2, b3⟩ hQ2
      subst b1
      have a1 := hLr.2 x hx0 hx1
      simp only [sSeq, sSet, sInc, sPF, sPA, sPD, sOF, sOA, sX, sIf, sSkip, sRet, sRetB, sRetV, sSw, sSel, eK, eL, eR, eF, eA, eQ, eD, eU, eB, eV, eIf, ePF, eC0, eC1, eC2, eC3, eC4, eC5, eC6, eC7, cB, cZ, cAnd, cOr, cNot, i2l, st_fn, sl_ap, if_true, if_false, ↓reduceIte, reduceIte, Nat.reduceEqDiff, Int.reduceEq, Int.reduceLT, Int.reduceLE, Int.reduceAdd, Int.reduceSub, Int.reduceMul, Int.reduceNeg, and_true, true_and, not_true, not_false_eq_true, true_or, or_true, ne_eq, hL2, b3, g3.2.1 x hx0 hx1, g2.2.2 _ a1.1 a1.2]
      rw [iAdd_id (by omega) (by omega)]
      refine ⟨hx0, by omega, a1.1, by omega, hQ2 _ _ rfl ⟨rfl, ?_, ?_⟩⟩
      · simp only [sl_ap, st_fn, Nat.reduceEqDiff, ↓reduceIte, reduceIte, Int.reduceEq, if_true, if_false]; exact b2
      · simp only [sl_ap, st_fn, Nat.reduceEqDiff, ↓reduceIte, reduceIte, Int.reduceEq, if_true, if_false]
        exact (dgI_succ d _ _ hx0).symm
    · intro L2 N _ ⟨b1, b2, b3⟩
      subst b1
      rw [b2, iAdd_id (by omega) (by omega)]
      refine hQ' _ _ ⟨n + 1, by omega, ?_, ?_, n4.trans o (by decide) (by decide)⟩ ?_
      · simp only [sl_ap, st_fn, Nat.reduceEqDiff, ↓reduceIte, reduceIte, Int.reduceEq, if_true, if_false]
        omega
      · simp only [sl_ap, st_fn, Nat.reduceEqDiff, ↓reduceIte, reduceIte, Int.reduceEq, if_true, if_false]
        rw [b3]
        rfl
      · simp only [sl_ap, st_fn, Nat.reduceEqDiff, ↓reduceIte, reduceIte, Int.reduceEq, if_true, if_false, n2]
        omega
  · have e : n = 11 := by omega
    rw [e]
    exact hQ M' (n4.wk SL_SC)
def S_R_digest_ (FC : XF1) (FG : XF2) : XS := sSeq (sSet 1 (eK 17)) (sSeq (sSeq (sSet 3 (eK 0)) (sWhile (cB (fun x y => x < y) (eL 3) (eK 8)) (sSeq (sSet 1 (eB lAdd (eB lMul (eK 31) (eL 1)) (eU i2l (eC1 FC (eL 3))))) (sInc 3 1)))) (sSeq (sSet 1 (eB lAdd (eB lMul (eK 31) (eL 1)) (eU i2l (eC0 F_R_reads)))) (sSeq (sSeq (sSet 3 (eK 0)) (sWhile (cB (fun x y => x < y) (eL 3) (eK 52)) (sSeq (sSeq (sX (eC2 FG (eL 3) (eL 3))) (sSeq (sSet 1 (eB lAdd (eB lMul (eK 31) (eL 1)) (eU i2l (eF 81 45)))) (sSeq (sSet 4 (eK 0)) (sWhile (cB (fun x y => x < y) (eL 4) (eF 81 45)) (sSeq (sSeq (sSet 1 (eB lAdd (eB lMul (eK 31) (eL 1)) (eU i2l (eA 116 12 (eL 4))))) (sSet 1 (eB lAdd (eB lMul (eK 31) (eL 1)) (eC1 F_R_sumOf (eA 116 12 (eL 4)))))) (sInc 4 1)))))) (sInc 3 5)))) (sRet (eL 1)))))
theorem R_digest_gen (FC : XF1) (FG : XF2) {d M : XM} {Q : Int → XM → Prop} (hB : Base d) (hC : RF d M) (hlo : M 81 29 = -1) (hN : CntSpec d FC (RF d)) (hG : FlSpec d FG) (hQ : ∀ M', OnlyR SR SF M M' → M' 81 29 = -1 → Q (dgW d 11) M') : S_R_digest_ FC FG (fun _ _ => False) Q (fun _ => 0) M := by
  unfold S_R_digest_
  simp only [sSeq, sSet, sInc, sPF, sPA, sPD, sOF, sOA, sX, sIf, sSkip, sRet, sRetB, sRetV, sSw, sSel, eK, eL, eR, eF, eA, eQ, eD, eU, eB, eV, eIf, ePF, eC0, eC1, eC2, eC3, eC4, eC5, eC6, eC7, cB, cZ, cAnd, cOr, cNot, i2l, st_fn, sl_ap, if_true, if_false, ↓reduceIte, reduceIte, Nat.reduceEqDiff, Int.reduceEq, Int.reduceLT, Int.reduceLE, Int.reduceAdd, Int.reduceSub, Int.reduceMul, Int.reduceNeg, and_true, true_and, not_true, not_false_eq_true, true_or, or_true, ne_eq]
  refine while_up 3 0 8 (fun x L M' => M' = M ∧ L 1 = dgC d x.toNat) (by omega) rfl ⟨rfl, rfl⟩ ?_ ?_ ?_
  · intro x L M' P F a1 a2 hL _ hT hF
    simp only [sSeq, sSet, sInc, sPF, sPA, sPD, sOF, sOA, sX, sIf, sSkip, sRet, sRetB, sRetV, sSw, sSel, eK, eL, eR, eF, eA, eQ, eD, eU, eB, eV, eIf, ePF, eC0, eC1, eC2, eC3, eC4, eC5, eC6, eC7, cB, cZ, cAnd, cOr, cNot, i2l, st_fn, sl_ap, if_true, if_false, ↓reduceIte, reduceIte, Nat.reduceEqDiff, Int.reduceEq, Int.reduceLT, Int.reduceLE, Int.reduceAdd, Int.reduceSub, Int.reduceMul, Int.reduceNeg, and_true, true_and, not_true, not_false_eq_true, true_or, or_true, ne_eq, hL]
    exact ⟨hT, hF⟩
  · intro x L M' Q' hx0 hx1 hL ⟨k1, k2⟩ hQ'
    subst k1
    simp only [sSeq, sSet, sInc, sPF, sPA, sPD, sOF, sOA, sX, sIf, sSkip, sRet, sRetB, sRetV, sSw, sSel, eK, eL, eR, eF, eA, eQ, eD, eU, eB, eV, eIf, ePF, eC0, eC1, eC2, eC3, eC4, eC5, eC6, eC7, cB, cZ, cAnd, cOr, cNot, i2l, st_fn, sl_ap, if_true, if_false, ↓reduceIte, reduceIte, Nat.reduceEqDiff, Int.reduceEq, Int.reduceLT, Int.reduceLE, Int.reduceAdd, Int.reduceSub, Int.reduceMul, Int.reduceNeg, and_true, true_and, not_true, not_false_eq_true, true_or, or_true, ne_eq, hL, k2]
    refine hN _ _ _ hC ?_
    rw [iAdd_id (by omega) (by omega)]
    refine hQ' _ _ rfl ⟨rfl, ?_⟩
    simp only [sl_ap, st_fn, Nat.reduceEqDiff, ↓reduceIte, reduceIte, Int.reduceEq, if_true, if_false]
    exact (dgC_succ d hx0).symm
  intro L1 M1 _ ⟨k1, k2⟩
  subst k1
  rw [k2]
  refine R_reads_gen hB.2.2.2.2.1 hC fun M2 o2 g2 => ?_
  have h29 : M2 81 29 = -1 := (o2.2 29 (by decide)).trans hlo
  refine while_inv (fun L M' => ∃ n : Nat, n ≤ 11 ∧ L 3 = 5 * (n : Int) ∧ L 1 = dgW d n ∧ OnlyR SR SF M1 M' ∧ M' 81 29 = -1) (fun L _ => (55 - L 3).toNat) ⟨0, by omega, rfl, rfl, o2.wk (by decide) (by decide), h29⟩ ?_
  intro L M' ⟨n, n1, n2, n3, n4, n5⟩ Q' hQ'
  simp only [sSeq, sSet, sInc, sPF, sPA, sPD, sOF, sOA, sX, sIf, sSkip, sRet, sRetB, sRetV, sSw, sSel, eK, eL, eR, eF, eA, eQ, eD, eU, eB, eV, eIf, ePF, eC0, eC1, eC2, eC3, eC4, eC5, eC6, eC7, cB, cZ, cAnd, cOr, cNot, i2l, st_fn, sl_ap, if_true, if_false, ↓reduceIte, reduceIte, Nat.reduceEqDiff, Int.reduceEq, Int.reduceLT, Int.reduceLE, Int.reduceAdd, Int.reduceSub, Int.reduceMul, Int.reduceNeg, and_true, true_and, not_true, not_false_eq_true, true_or, or_true, ne_eq, n2, n3]
  refine ⟨fun c => ?_, fun c => ?_⟩
  · refine hG M' (-1) (5 * (n : Int)) (5 * (n : Int)) _ (hC.go n4 (fun _ q => q) (fun _ q => q)) n5 (by omega) fun M3 o g1 g3 => ?_
    have hLr := L_r hB.2.2.1 (-1) (5 * (n : Int)) (5 * (n : Int))
    have hv := hB.2.2.1.1
    rw [g3.1]
    refine while_up 4 0 (LN d (-1) (5 * (n : Int)) (5 * (n : Int))) (fun x L2 N => N = M3 ∧ L2 3 = 5 * (n : Int) ∧ L2 1 = dgI d (5 * (n : Int)) (lAdd (lMul 31 (dgW d n)) (LN d (-1) (5 * (n : Int)) (5 * (n : Int)) : Int)) x.toNat) (by omega) rfl ⟨rfl, by simp only [sl_ap, st_fn, Nat.reduceEqDiff, ↓reduceIte, reduceIte, Int.reduceEq, if_true, if_false]; exact n2, rfl⟩ ?_ ?_ ?_
    · intro x L2 N P F a1 a2 hL2 ⟨b1, _⟩ hT hF
      subst b1
      simp only [sSeq, sSet, sInc, sPF, sPA, sPD, sOF, sOA, sX, sIf, sSkip, sRet, sRetB, sRetV, sSw, sSel, eK, eL, eR, eF, eA, eQ, eD, eU, eB, eV, eIf, ePF, eC0, eC1, eC2, eC3, eC4, eC5, eC6, eC7, cB, cZ, cAnd, cOr, cNot, i2l, st_fn, sl_ap, if_true, if_false, ↓reduceIte, reduceIte, Nat.reduceEqDiff, Int.reduceEq, Int.reduceLT, Int.reduceLE, Int.reduceAdd, Int.reduceSub, Int.reduceMul, Int.reduceNeg, and_true, true_and, not_true, not_false_eq_true, true_or, or_true, ne_eq, hL2, g3.1]
      exact ⟨hT, hF⟩
    · intro x L2 N Q2 hx0 hx1 hL2 ⟨b1, b2, b3⟩ hQ2
      subst b1
      have a1 := hLr.2 x hx0 hx1
      simp only [sSeq, sSet, sInc, sPF, sPA, sPD, sOF, sOA, sX, sIf, sSkip, sRet, sRetB, sRetV, sSw, sSel, eK, eL, eR, eF, eA, eQ, eD, eU, eB, eV, eIf, ePF, eC0, eC1, eC2, eC3, eC4, eC5, eC6, eC7, cB, cZ, cAnd, cOr, cNot, i2l, st_fn, sl_ap, if_true, if_false, ↓reduceIte, reduceIte, Nat.reduceEqDiff, Int.reduceEq, Int.reduceLT, Int.reduceLE, Int.reduceAdd, Int.reduceSub, Int.reduceMul, Int.reduceNeg, and_true, true_and, not_true, not_false_eq_true, true_or, or_true, ne_eq, hL2, b3, g3.2.1 x hx0 hx1]
      refine ⟨hx0, by omega, hx0, by omega, ?_⟩
      rw [F_R_sumOf_iff ⟨a1.1, by omega⟩, R_sum_val hB g1 a1, iAdd_id (by omega) (by omega)]
      refine hQ2 _ _ rfl ⟨rfl, ?_, ?_⟩
      · simp only [sl_ap, st_fn, Nat.reduceEqDiff, ↓reduceIte, reduceIte, Int.reduceEq, if_true, if_false]; exact b2
      · simp only [sl_ap, st_fn, Nat.reduceEqDiff, ↓reduceIte, reduceIte, Int.reduceEq, if_true, if_false]
        exact (dgI_succ d _ _ hx0).symm
    · intro L2 N _ ⟨b1, b2, b3⟩
      subst b1
      rw [b2, iAdd_id (by omega) (by omega)]
      refine hQ' _ _ ⟨n + 1, by omega, ?_, ?_, n4.trans o (fun _ q => q) (by decide) (fun _ q => q) (by decide), (o.2 29 (by decide)).trans n5⟩ ?_
      · simp only [sl_ap, st_fn, Nat.reduceEqDiff, ↓reduceIte, reduceIte, Int.reduceEq, if_true, if_false]
        omega
      · simp only [sl_ap, st_fn, Nat.reduceEqDiff, ↓reduceIte, reduceIte, Int.reduceEq, if_true, if_false]
        rw [b3]
        rfl
      · simp only [sl_ap, st_fn, Nat.reduceEqDiff, ↓reduceIte, reduceIte, Int.reduceEq, if_true, if_false, n2]
        omega
  · have e : n = 11 := by omega
    rw [e]
    exact hQ M' n4 n5
theorem ok_digest {Z M : XM} (hZ : ZC Z) (h : Inv Z M) : F_M_digest M (fun v M1 => F_R_digest M1 (fun w M2 => v = w ∧ Inv Z M2)) :=
  ok_of (FM := F_M_digest) (FR := F_R_digest) h (dgW M 11) (fun _ hQ => M_digest_gen F_M_count F_Tally_makeList (h.base hZ) CF.rf (fun _ _ _ hc hq => M_count_ok (h.base hZ) hc ((DCs_iff M).mp h.2.2.1).1 hq) (ml_spec (h.base hZ)) hQ) (fun _ _ hC hlo hQ => R_digest_gen F_R_count F_R_findList (h.base hZ) hC hlo (fun _ _ _ hc hq => R_count_ok (h.base hZ) hc hq) (fl_spec (h.base hZ)) hQ)
