/-! ===== the parser: the class ===== -/
theorem Q_ite (Q : Int → XM → Prop) (P : Prop) [Decidable P] (a b : Int) (M : XM) : Q (if P then a else b) M ↔ (if P then Q a M else Q b M) := by split <;> exact Iff.rfl
theorem F_Rules_byteAt_iff {p : Int} {M : XM} {Q : Int → XM → Prop} (h : M 22 1 ≤ 200) : F_Rules_byteAt p M Q ↔ Q (bt (M 23) (M 22 1) p) M := by
  unfold F_Rules_byteAt S_Rules_byteAt bt
  simp only [sSeq, sSet, sInc, sPF, sPA, sPD, sOF, sOA, sX, sIf, sSkip, sRet, sRetB, sRetV, sSw, sSel, eK, eL, eR, eF, eA, eQ, eD, eU, eB, eV, eIf, ePF, eC0, eC1, eC2, eC3, eC4, eC5, eC6, eC7, cB, cZ, cAnd, cOr, cNot, i2l, st_fn, sl_ap, if_true, if_false, ↓reduceIte, reduceIte, Nat.reduceEqDiff, Int.reduceEq, Int.reduceLT, Int.reduceLE, Int.reduceAdd, Int.reduceSub, Int.reduceMul, Int.reduceNeg, and_true, true_and, not_true, not_false_eq_true, true_or, or_true, ne_eq]
  by_cases c1 : 0 ≤ p
  · by_cases c2 : p < M 22 1
    · simp [c1, c2, show p < 200 by omega]
    · simp [c1, c2]
  · simp [c1]
theorem F_Rules_itemOfLetter_iff {b : Int} {M : XM} {Q : Int → XM → Prop} : F_Rules_itemOfLetter b M Q ↔ Q (itmOf b) M := by
  unfold F_Rules_itemOfLetter S_Rules_itemOfLetter itmOf
  simp only [sSeq, sSet, sInc, sPF, sPA, sPD, sOF, sOA, sX, sIf, sSkip, sRet, sRetB, sRetV, sSw, sSel, eK, eL, eR, eF, eA, eQ, eD, eU, eB, eV, eIf, ePF, eC0, eC1, eC2, eC3, eC4, eC5, eC6, eC7, cB, cZ, cAnd, cOr, cNot, i2l, st_fn, sl_ap, if_true, if_false, ↓reduceIte, reduceIte, Nat.reduceEqDiff, Int.reduceEq, Int.reduceLT, Int.reduceLE, Int.reduceAdd, Int.reduceSub, Int.reduceMul, Int.reduceNeg, and_true, true_and, not_true, not_false_eq_true, true_or, or_true, ne_eq, wp_ite, Q_ite Q]
theorem F_R_itemOf_iff {b : Int} {M : XM} {Q : Int → XM → Prop} : F_R_itemOf b M Q ↔ Q (itmOf b) M := by
  unfold F_R_itemOf S_R_itemOf itmOf
  simp only [sSeq, sSet, sInc, sPF, sPA, sPD, sOF, sOA, sX, sIf, sSkip, sRet, sRetB, sRetV, sSw, sSel, eK, eL, eR, eF, eA, eQ, eD, eU, eB, eV, eIf, ePF, eC0, eC1, eC2, eC3, eC4, eC5, eC6, eC7, cB, cZ, cAnd, cOr, cNot, i2l, st_fn, sl_ap, if_true, if_false, ↓reduceIte, reduceIte, Nat.reduceEqDiff, Int.reduceEq, Int.reduceLT, Int.reduceLE, Int.reduceAdd, Int.reduceSub, Int.reduceMul, Int.reduceNeg, and_true, true_and, not_true, not_false_eq_true, true_or, or_true, ne_eq, wp_ite, Q_ite Q]
theorem F_R_mostOf_iff {b : Int} {M : XM} {Q : Int → XM → Prop} : F_R_mostOf b M Q ↔ Q (hiOf b) M := by
  unfold F_R_mostOf S_R_mostOf hiOf
  simp only [sSeq, sSet, sInc, sPF, sPA, sPD, sOF, sOA, sX, sIf, sSkip, sRet, sRetB, sRetV, sSw, sSel, eK, eL, eR, eF, eA, eQ, eD, eU, eB, eV, eIf, ePF, eC0, eC1, eC2, eC3, eC4, eC5, eC6, eC7, cB, cZ, cAnd, cOr, cNot, i2l, st_fn, sl_ap, if_true, if_false, ↓reduceIte, reduceIte, Nat.reduceEqDiff, Int.reduceEq, Int.reduceLT, Int.reduceLE, Int.reduceAdd, Int.reduceSub, Int.reduceMul, Int.reduceNeg, and_true, true_and, not_true, not_false_eq_true, true_or, or_true, ne_eq, wp_ite, Q_ite Q]
def NumJ (n : Int) (B : Int → Int) (f : Nat) (a : Int) (x : Int) (v : Int) : Prop := (x = 0 → v = -1) ∧ nd B f a = x.toNat + nd B (f - x.toNat) (a + x) ∧ nv B f a 0 = nv B (f - x.toNat) (a + x) (if x = 0 then 0 else v) ∧ (0 < x → 0 ≤ v) ∧ (x = 1 → v ≤ 9) ∧ (x = 2 → v ≤ 99) ∧ (x = 3 → v ≤ 999) ∧ a + x ≤ n
theorem Rules_parseNumber_ok {f : Nat} {M : XM} {a : Int} {Q : Int → XM → Prop} (hf : f ≤ 4) (h1 : M 22 1 ≤ 200) (h2 : 0 ≤ a) (h3 : a ≤ M 22 1) (hB : ∀ p, -1 ≤ bt (M 23) (M 22 1) p ∧ bt (M 23) (M 22 1) p ≤ 255)
    (hQ : Q (if nd (bt (M 23) (M 22 1)) f a = 0 then -1 else nv (bt (M 23) (M 22 1)) f a 0) (st M 22 10 (a + nd (bt (M 23) (M 22 1)) f a))) : F_Rules_parseNumber (f : Int) (st M 22 10 a) Q := by
  unfold F_Rules_parseNumber S_Rules_parseNumber
  simp only [sSeq, sSet, sInc, sPF, sPA, sPD, sOF, sOA, sX, sIf, sSkip, sRet, sRetB, sRetV, sSw, sSel, eK, eL, eR, eF, eA, eQ, eD, eU, eB, eV, eIf, ePF, eC0, eC1, eC2, eC3, eC4, eC5, eC6, eC7, cB, cZ, cAnd, cOr, cNot, i2l, st_fn, sl_ap, if_true, if_false, ↓reduceIte, reduceIte, Nat.reduceEqDiff, Int.reduceEq, Int.reduceLT, Int.reduceLE, Int.reduceAdd, Int.reduceSub, Int.reduceMul, Int.reduceNeg, and_true, true_and, not_true, not_false_eq_true, true_or, or_true, ne_eq]
  refine while_up 3 0 f (fun x L M' => L 1 = f ∧ M' = st M 22 10 (a + x) ∧ NumJ (M 22 1) (bt (M 23) (M 22 1)) f a x (L 2)) (by omega) rfl ?_ ?_ ?_ ?_
  · refine ⟨rfl, by rw [Int.add_zero], ?_⟩
    unfold NumJ
    simp [sl_ap]
    omega
  · intro x L M' T F h1 h2 hL ⟨j1, j2, j3⟩ hT hF
    simp only [sSeq, sSet, sInc, sPF, sPA, sPD, sOF, sOA, sX, sIf, sSkip, sRet, sRetB, sRetV, sSw, sSel, eK, eL, eR, eF, eA, eQ, eD, eU, eB, eV, eIf, ePF, eC0, eC1, eC2, eC3, eC4, eC5, eC6, eC7, cB, cZ, cAnd, cOr, cNot, i2l, st_fn, sl_ap, if_true, if_false, ↓reduceIte, reduceIte, Nat.reduceEqDiff, Int.reduceEq, Int.reduceLT, Int.reduceLE, Int.reduceAdd, Int.reduceSub, Int.reduceMul, Int.reduceNeg, and_true, true_and, not_true, not_false_eq_true, true_or, or_true, ne_eq, hL, j1]
    exact ⟨hT, hF⟩
  · intro x L M' Q' hx0 hx1 hL ⟨j1, j2, j3⟩ hQ'
    subst j2
    unfold NumJ at j3
    obtain ⟨k1, k2, k3, k4, k5, k6, k7, k8⟩ := j3
    have hk : x.toNat < f := by omega
    rw [nd_step _ hk] at k2
    rw [nv_step _ hk] at k3
    have hb := hB (a + x)
    have hlt : 48 ≤ bt (M 23) (M 22 1) (a + x) → a + x < M 22 1 := fun c => bt_lt (x := bt (M 23) (M 22 1) (a + x)) (by omega) rfl (by omega)
    simp (disch := first | omega | (simp only [st_fn, Nat.reduceEqDiff, ↓reduceIte, reduceIte, Int.reduceEq, if_true, if_false]; omega)) only [sSeq, sSet, sInc, sPF, sPA, sPD, sOF, sOA, sX, sIf, sSkip, sRet, sRetB, sRetV, sSw, sSel, eK, eL, eR, eF, eA, eQ, eD, eU, eB, eV, eIf, ePF, eC0, eC1, eC2, eC3, eC4, eC5, eC6, eC7, cB, cZ, cAnd, cOr, cNot, i2l, st_fn, sl_ap, if_true, if_false, ↓reduceIte, reduceIte, Nat.reduceEqDiff, Int.reduceEq, Int.reduceLT, Int.reduceLE, Int.reduceAdd, Int.reduceSub, Int.reduceMul, Int.reduceNeg, and_true, true_and, not_true, not_false_eq_true, true_or, or_true, ne_eq, hL, F_Rules_byteAt_iff]
    generalize bt (M 23) (M 22 1) (a + x) = b at *
    rw [iSub_id (x := b) (by omega) (by omega), iAdd_id (x := x) (by omega) (by omega), st_st]
    have hfin : 48 ≤ b → b ≤ 57 → ∀ v, v = (if x = 0 then 0 else 10 * L 2) + (b - 48) → Q' (sl (sl (sl L 4 (b - 48)) 2 v) 3 (x + 1)) (st M 22 10 (iAdd (a + x) 1)) := by
      intro c1 c2 v hv
      have h10 := hlt c1
      rw [iAdd_id (x := a + x) (by omega) (by omega)]
      rw [if_pos ⟨c1, c2⟩] at k2 k3
      refine hQ' _ _ rfl ⟨?_, ?_, ?_⟩
      · simp [sl_ap, j1]
      · rw [Int.add_assoc]
      · unfold NumJ
        simp only [sl_ap, Nat.reduceEqDiff, if_true, if_false]
        have e1 : (x + 1).toNat = x.toNat + 1 := by omega
        rw [e1, show a + (x + 1) = a + x + 1 by omega, if_neg (by omega : ¬ x + 1 = 0)]
        refine ⟨by omega, by omega, ?_, ?_, ?_, ?_, ?_, by omega⟩
        · rw [k3]
          congr 1
          split at hv <;> rename_i c <;> simp only [c, if_true, if_false] <;> omega
        all_goals (split at hv <;> omega)
    have hret : ¬ (48 ≤ b ∧ b ≤ 57) → Q (L 2) (st M 22 10 (a + x)) := by
      intro c
      rw [if_neg c] at k2 k3
      rw [k2, k3] at hQ
      by_cases c0 : x = 0
      · rw [k1 c0]
        subst c0
        simpa using hQ
      · rw [if_neg (by omega), if_neg c0] at hQ
        rw [show ((x.toNat + 0 : Nat) : Int) = x by omega] at hQ
        exact hQ
    refine ⟨fun c => hret (by omega), fun c => ⟨fun c => hret (by omega), fun c => ⟨fun c0 => ?_, fun c0 => ?_⟩⟩⟩
    · rw [iAdd_id (by omega) (by omega)]
      exact hfin (by omega) (by omega) _ (by rw [if_pos c0])
    · rw [iMul_id (by omega) (by omega), iAdd_id (by omega) (by omega)]
      exact hfin (by omega) (by omega) _ (by rw [if_neg c0])
  · intro L M' hL ⟨j1, j2, j3⟩
    subst j2
    unfold NumJ at j3
    obtain ⟨k1, k2, k3, k4, k5, k6, k7, k8⟩ := j3
    rw [show f - (f : Int).toNat = 0 by omega] at k2 k3
    have k2' : nd (bt (M 23) (M 22 1)) f a = f := k2.trans (by show (f : Int).toNat + 0 = f; omega)
    have k3' : nv (bt (M 23) (M 22 1)) f a 0 = (if (f : Int) = 0 then 0 else L 2) := k3
    rw [k2', k3'] at hQ
    by_cases c0 : f = 0
    · rw [if_pos c0] at hQ
      rw [k1 (by omega)]
      exact hQ
    · rw [if_neg c0, if_neg (by omega)] at hQ
      exact hQ
def PB (M : XM) : Prop := (∀ i, 0 ≤ i → i ≤ 14 → M 1001 i = loOf i) ∧ (∀ i, 0 ≤ i → i ≤ 14 → M 1002 i = hiOf i) ∧ M 22 1 ≤ 200 ∧ 0 ≤ M 22 8 ∧ M 22 8 < 50 ∧ ∀ p, -1 ≤ bt (M 23) (M 22 1) p ∧ bt (M 23) (M 22 1) p ≤ 255
def S_pp3 : XS := sSeq (sIf (cB (fun x y => x ≠ y) (eC1 F_Rules_byteAt (eF 22 10)) (eK 61)) (sRet (eF 22 10)) sSkip) (sSeq (sOF 22 10 iAdd (eK 1)) (sSeq (sSet 2 (eF 22 10)) (sSeq (sSet 3 (eC1 F_Rules_parseNumber (eK 4))) (sSeq (sIf (cNot (cZ (fun x => x ≠ 0) (eC3 F_M_within (eU i2l (eL 3)) (eU i2l (eA 1001 15 (eL 1))) (eU i2l (eA 1002 15 (eL 1)))))) (sRet (eL 2)) sSkip) (sSeq (sSet 4 (eK 0)) (sSeq (sIf (cB (fun x y => x = y) (eC1 F_Rules_byteAt (eF 22 10)) (eK 64)) (sSeq (sOF 22 10 iAdd (eK 1)) (sSeq (sSet 2 (eF 22 10)) (sSeq (sSet 4 (eC1 F_Rules_parseNumber (eK 2))) (sIf (cNot (cZ (fun x => x ≠ 0) (eC1 F_M_isWeek (eU i2l (eL 4))))) (sRet (eL 2)) sSkip)))) sSkip) (sSeq (sPA 26 50 (eF 22 8) (eL 1)) (sSeq (sPA 27 50 (eF 22 8) (eL 3)) (sSeq (sPA 28 50 (eF 22 8) (eL 4)) (sRet (eK (-1))))))))))))
def S_pp4 : XS := sSeq (sSet 4 (eK 0)) (sSeq (sIf (cB (fun x y => x = y) (eC1 F_Rules_byteAt (eF 22 10)) (eK 64)) (sSeq (sOF 22 10 iAdd (eK 1)) (sSeq (sSet 2 (eF 22 10)) (sSeq (sSet 4 (eC1 F_Rules_parseNumber (eK 2))) (sIf (cNot (cZ (fun x => x ≠ 0) (eC1 F_M_isWeek (eU i2l (eL 4))))) (sRet (eL 2)) sSkip)))) sSkip) (sSeq (sPA 26 50 (eF 22 8) (eL 1)) (sSeq (sPA 27 50 (eF 22 8) (eL 3)) (sSeq (sPA 28 50 (eF 22 8) (eL 4)) (sRet (eK (-1)))))))
theorem S_pp3_eq : S_pp3 = sSeq (sIf (cB (fun x y => x ≠ y) (eC1 F_Rules_byteAt (eF 22 10)) (eK 61)) (sRet (eF 22 10)) sSkip) (sSeq (sOF 22 10 iAdd (eK 1)) (sSeq (sSet 2 (eF 22 10)) (sSeq (sSet 3 (eC1 F_Rules_parseNumber (eK 4))) (sSeq (sIf (cNot (cZ (fun x => x ≠ 0) (eC3 F_M_within (eU i2l (eL 3)) (eU i2l (eA 1001 15 (eL 1))) (eU i2l (eA 1002 15 (eL 1)))))) (sRet (eL 2)) sSkip) S_pp4)))) := rfl
theorem S_Rules_parsePart_eq : S_Rules_parsePart = sSeq (sSet 1 (eC1 F_Rules_itemOfLetter (eC1 F_Rules_byteAt (eF 22 10)))) (sSeq (sIf (cOr (cB (fun x y => x = y) (eL 1) (eK (-1))) (cB (fun x y => y ≤ x) (eF 22 8) (eK 50))) (sRet (eF 22 10)) sSkip) (sSeq (sOF 22 10 iAdd (eK 1)) (sSeq (sIf (cOr (cB (fun x y => x = y) (eL 1) (eK 6)) (cB (fun x y => x = y) (eL 1) (eK 10))) (sSeq (sSet 2 (eB iSub (eC1 F_Rules_byteAt (eF 22 10)) (eK 48))) (sSeq (sIf (cNot (cZ (fun x => x ≠ 0) (eC3 F_M_within (eU i2l (eL 2)) (eK 0) (eK 3)))) (sRet (eF 22 10)) sSkip) (sSeq (sSet 1 (eB iAdd (eL 1) (eL 2))) (sOF 22 10 iAdd (eK 1))))) sSkip) S_pp3))) := rfl
theorem pp4_ok {M : XM} {Q : Int → XM → Prop} {L : XL} {i v e : Int} (hb : PB M) (hi0 : 0 ≤ i) (hi1 : i ≤ 14) (h1 : L 1 = i) (h3 : L 3 = v) (he : 0 ≤ e) (he2 : e ≤ M 22 1)
    (hQ1 : (p4 (bt (M 23) (M 22 1)) i v e).1 ≠ -1 → ∀ z, Q (p4 (bt (M 23) (M 22 1)) i v e).1 (st M 22 10 z))
    (hQ2 : ∀ i' v' w e', p4 (bt (M 23) (M 22 1)) i v e = (-1, i', v', w, e') → Q (-1) (st (st (st (st M 22 10 e') 26 (M 22 8) i') 27 (M 22 8) v') 28 (M 22 8) w)) : S_pp4 (fun _ _ => False) Q L (st M 22 10 e) := by
  obtain ⟨b1, b2, b3, b4, b5, b6⟩ := hb
  unfold S_pp4
  simp (disch := first | omega | (simp only [st_fn, Nat.reduceEqDiff, ↓reduceIte, reduceIte, Int.reduceEq, if_true, if_false]; omega)) only [sSeq, sSet, sInc, sPF, sPA, sPD, sOF, sOA, sX, sIf, sSkip, sRet, sRetB, sRetV, sSw, sSel, eK, eL, eR, eF, eA, eQ, eD, eU, eB, eV, eIf, ePF, eC0, eC1, eC2, eC3, eC4, eC5, eC6, eC7, cB, cZ, cAnd, cOr, cNot, i2l, st_fn, sl_ap, if_true, if_false, ↓reduceIte, reduceIte, Nat.reduceEqDiff, Int.reduceEq, Int.reduceLT, Int.reduceLE, Int.reduceAdd, Int.reduceSub, Int.reduceMul, Int.reduceNeg, and_true, true_and, not_true, not_false_eq_true, true_or, or_true, ne_eq, F_Rules_byteAt_iff, h1, h3]
  unfold p4 at hQ1 hQ2
  refine ⟨fun c => ?_, fun c => ?_⟩
  · have hlt := bt_lt he c (by omega)
    rw [iAdd_id (by omega) (by omega), st_st]
    rw [if_pos c] at hQ1 hQ2
    refine Rules_parseNumber_ok (f := 2) (by omega) b3 (by omega) (by omega) b6 ?_
    simp (disch := first | omega | (simp only [st_fn, Nat.reduceEqDiff, ↓reduceIte, reduceIte, Int.reduceEq, if_true, if_false]; omega)) only [sSeq, sSet, sInc, sPF, sPA, sPD, sOF, sOA, sX, sIf, sSkip, sRet, sRetB, sRetV, sSw, sSel, eK, eL, eR, eF, eA, eQ, eD, eU, eB, eV, eIf, ePF, eC0, eC1, eC2, eC3, eC4, eC5, eC6, eC7, cB, cZ, cAnd, cOr, cNot, i2l, st_fn, sl_ap, if_true, if_false, ↓reduceIte, reduceIte, Nat.reduceEqDiff, Int.reduceEq, Int.reduceLT, Int.reduceLE, Int.reduceAdd, Int.reduceSub, Int.reduceMul, Int.reduceNeg, and_true, true_and, not_true, not_false_eq_true, true_or, or_true, ne_eq, F_M_isWeek_iff, b01_ne, h1, h3]
    have hn := nv_pos (bt (M 23) (M 22 1)) 2 (e + 1) 0 (Int.le_refl 0)
    refine ⟨fun c2 => ⟨by omega, by omega, by omega, by omega, by omega, by omega, ?_⟩, fun c2 => ?_⟩
    · have c3 : ¬ (nd (bt (M 23) (M 22 1)) 2 (e + 1) = 0 ∨ 51 < nv (bt (M 23) (M 22 1)) 2 (e + 1) 0) := by
        by_cases q : nd (bt (M 23) (M 22 1)) 2 (e + 1) = 0
        · rw [if_pos q] at c2
          omega
        · rw [if_neg q] at c2
          omega
      rw [if_neg c3] at hQ2
      rw [if_neg (fun q => c3 (Or.inl q))]
      exact hQ2 _ _ _ _ rfl
    · have c3 : nd (bt (M 23) (M 22 1)) 2 (e + 1) = 0 ∨ 51 < nv (bt (M 23) (M 22 1)) 2 (e + 1) 0 := by
        by_cases q : nd (bt (M 23) (M 22 1)) 2 (e + 1) = 0
        · exact Or.inl q
        · rw [if_neg q] at c2
          omega
      rw [if_pos c3] at hQ1
      exact hQ1 (by dsimp only; omega) _
  · rw [if_neg c] at hQ1 hQ2
    exact ⟨by omega, by omega, by omega, by omega, by omega, by omega, hQ2 _ _ _ _ rfl⟩
theorem pp3_ok {M : XM} {Q : Int → XM → Prop} {L : XL} {i b : Int} (hb : PB M) (hi0 : 0 ≤ i) (hi1 : i ≤ 14) (h1 : L 1 = i) (he : 0 ≤ b) (he2 : b ≤ M 22 1)
    (hQ1 : (p3 (bt (M 23) (M 22 1)) i b).1 ≠ -1 → ∀ z, Q (p3 (bt (M 23) (M 22 1)) i b).1 (st M 22 10 z))
    (hQ2 : ∀ i' v' w e', p3 (bt (M 23) (M 22 1)) i b = (-1, i', v', w, e') → Q (-1) (st (st (st (st M 22 10 e') 26 (M 22 8) i') 27 (M 22 8) v') 28 (M 22 8) w)) : S_pp3 (fun _ _ => False) Q L (st M 22 10 b) := by
  have hb' := hb
  obtain ⟨b1, b2, b3, b4, b5, b6⟩ := hb
  rw [S_pp3_eq]
  simp (disch := first | omega | (simp only [st_fn, Nat.reduceEqDiff, ↓reduceIte, reduceIte, Int.reduceEq, if_true, if_false]; omega)) only [sSeq, sSet, sInc, sPF, sPA, sPD, sOF, sOA, sX, sIf, sSkip, sRet, sRetB, sRetV, sSw, sSel, eK, eL, eR, eF, eA, eQ, eD, eU, eB, eV, eIf, ePF, eC0, eC1, eC2, eC3, eC4, eC5, eC6, eC7, cB, cZ, cAnd, cOr, cNot, i2l, st_fn, sl_ap, if_true, if_false, ↓reduceIte, reduceIte, Nat.reduceEqDiff, Int.reduceEq, Int.reduceLT, Int.reduceLE, Int.reduceAdd, Int.reduceSub, Int.reduceMul, Int.reduceNeg, and_true, true_and, not_true, not_false_eq_true, true_or, or_true, ne_eq, F_Rules_byteAt_iff, h1]
  unfold p3 at hQ1 hQ2
  refine ⟨fun c => ?_, fun c => ?_⟩
  · rw [if_neg c] at hQ1
    exact hQ1 (by dsimp only; omega) _
  · have c : bt (M 23) (M 22 1) b = 61 := by omega
    have hlt := bt_lt he c (by omega)
    rw [iAdd_id (by omega) (by omega), st_st]
    rw [if_pos c] at hQ1 hQ2
    refine Rules_parseNumber_ok (f := 4) (by omega) b3 (by omega) (by omega) b6 ?_
    simp (disch := first | omega | (simp only [st_fn, Nat.reduceEqDiff, ↓reduceIte, reduceIte, Int.reduceEq, if_true, if_false]; omega)) only [sSeq, sSet, sInc, sPF, sPA, sPD, sOF, sOA, sX, sIf, sSkip, sRet, sRetB, sRetV, sSw, sSel, eK, eL, eR, eF, eA, eQ, eD, eU, eB, eV, eIf, ePF, eC0, eC1, eC2, eC3, eC4, eC5, eC6, eC7, cB, cZ, cAnd, cOr, cNot, i2l, st_fn, sl_ap, if_true, if_false, ↓reduceIte, reduceIte, Nat.reduceEqDiff, Int.reduceEq, Int.reduceLT, Int.reduceLE, Int.reduceAdd, Int.reduceSub, Int.reduceMul, Int.reduceNeg, and_true, true_and, not_true, not_false_eq_true, true_or, or_true, ne_eq, F_M_within_iff, b01_ne, h1]
    have hn := nv_pos (bt (M 23) (M 22 1)) 4 (b + 1) 0 (Int.le_refl 0)
    have hlo : 0 ≤ loOf i := by unfold loOf; split <;> omega
    rw [b1 i hi0 hi1, b2 i hi0 hi1]
    refine ⟨by omega, by omega, by omega, by omega, fun c2 => ?_, fun c2 => ?_⟩
    · have c3 : ¬ (nd (bt (M 23) (M 22 1)) 4 (b + 1) = 0 ∨ nv (bt (M 23) (M 22 1)) 4 (b + 1) 0 < loOf i ∨ hiOf i < nv (bt (M 23) (M 22 1)) 4 (b + 1) 0) := by
        by_cases q : nd (bt (M 23) (M 22 1)) 4 (b + 1) = 0
        · rw [if_pos q] at c2
          omega
        · rw [if_neg q] at c2
          omega
      rw [if_neg c3] at hQ1 hQ2
      have hbd := nd_bt (T := M 23) (n := M 22 1) 4 (b + 1) (by omega) (by omega)
      refine pp4_ok hb' hi0 hi1 ?_ ?_ (by omega) hbd hQ1 hQ2
      · simp only [sSeq, sSet, sInc, sPF, sPA, sPD, sOF, sOA, sX, sIf, sSkip, sRet, sRetB, sRetV, sSw, sSel, eK, eL, eR, eF, eA, eQ, eD, eU, eB, eV, eIf, ePF, eC0, eC1, eC2, eC3, eC4, eC5, eC6, eC7, cB, cZ, cAnd, cOr, cNot, i2l, st_fn, sl_ap, if_true, if_false, ↓reduceIte, reduceIte, Nat.reduceEqDiff, Int.reduceEq, Int.reduceLT, Int.reduceLE, Int.reduceAdd, Int.reduceSub, Int.reduceMul, Int.reduceNeg, and_true, true_and, not_true, not_false_eq_true, true_or, or_true, ne_eq, h1]
      · simp only [sSeq, sSet, sInc, sPF, sPA, sPD, sOF, sOA, sX, sIf, sSkip, sRet, sRetB, sRetV, sSw, sSel, eK, eL, eR, eF, eA, eQ, eD, eU, eB, eV, eIf, ePF, eC0, eC1, eC2, eC3, eC4, eC5, eC6, eC7, cB, cZ, cAnd, cOr, cNot, i2l, st_fn, sl_ap, if_true, if_false, ↓reduceIte, reduceIte, Nat.reduceEqDiff, Int.reduceEq, Int.reduceLT, Int.reduceLE, Int.reduceAdd, Int.reduceSub, Int.reduceMul, Int.reduceNeg, and_true, true_and, not_true, not_false_eq_true, true_or, or_true, ne_eq, h1]
        rw [if_neg (fun q => c3 (Or.inl q))]
    · have c3 : nd (bt (M 23) (M 22 1)) 4 (b + 1) = 0 ∨ nv (bt (M 23) (M 22 1)) 4 (b + 1) 0 < loOf i ∨ hiOf i < nv (bt (M 23) (M 22 1)) 4 (b + 1) 0 := by
        by_cases q : nd (bt (M 23) (M 22 1)) 4 (b + 1) = 0
        · exact Or.inl q
        · rw [if_neg q] at c2
          omega
      rw [if_pos c3] at hQ1
      exact hQ1 (by dsimp only; omega) _
/-- the faults of the class's parser, and what it sets down -/
theorem Rules_parsePart_ok {M : XM} {a : Int} {Q : Int → XM → Prop} (hb : PB M) (h2 : 0 ≤ a) (h3 : a ≤ M 22 1)
    (hQ1 : (pp (bt (M 23) (M 22 1)) a).1 ≠ -1 → ∀ z, Q (pp (bt (M 23) (M 22 1)) a).1 (st M 22 10 z))
    (hQ2 : ∀ i v w e, pp (bt (M 23) (M 22 1)) a = (-1, i, v, w, e) → Q (-1) (st (st (st (st M 22 10 e) 26 (M 22 8) i) 27 (M 22 8) v) 28 (M 22 8) w)) : F_Rules_parsePart (st M 22 10 a) Q := by
  have hb' := hb
  obtain ⟨b1, b2, b3, b4, b5, b6⟩ := hb
  unfold F_Rules_parsePart
  rw [S_Rules_parsePart_eq]
  simp (disch := first | omega | (simp only [st_fn, Nat.reduceEqDiff, ↓reduceIte, reduceIte, Int.reduceEq, if_true, if_false]; omega)) only [sSeq, sSet, sInc, sPF, sPA, sPD, sOF, sOA, sX, sIf, sSkip, sRet, sRetB, sRetV, sSw, sSel, eK, eL, eR, eF, eA, eQ, eD, eU, eB, eV, eIf, ePF, eC0, eC1, eC2, eC3, eC4, eC5, eC6, eC7, cB, cZ, cAnd, cOr, cNot, i2l, st_fn, sl_ap, if_true, if_false, ↓reduceIte, reduceIte, Nat.reduceEqDiff, Int.reduceEq, Int.reduceLT, Int.reduceLE, Int.reduceAdd, Int.reduceSub, Int.reduceMul, Int.reduceNeg, and_true, true_and, not_true, not_false_eq_true, true_or, or_true, ne_eq, F_Rules_byteAt_iff, F_Rules_itemOfLetter_iff, F_M_within_iff, b01_ne, wp_or]
  have e0 : pp (bt (M 23) (M 22 1)) a = if itmOf (bt (M 23) (M 22 1) a) = -1 then (a, 0, 0, 0, 0) else p2 (bt (M 23) (M 22 1)) (itmOf (bt (M 23) (M 22 1) a)) (a + 1) := rfl
  rw [e0] at hQ1 hQ2
  have hi := itmOf_r (bt (M 23) (M 22 1) a)
  have hlt : itmOf (bt (M 23) (M 22 1) a) ≠ -1 → a < M 22 1 := fun c => by
    apply Int.not_le.mp
    intro hn
    have : bt (M 23) (M 22 1) a = -1 := if_neg (by omega)
    rw [this] at c
    exact c (by decide)
  generalize itmOf (bt (M 23) (M 22 1) a) = i at *
  refine ⟨fun c => ?_, fun c => ?_⟩
  · have c : i = -1 := c.resolve_right (by omega)
    rw [if_pos c] at hQ1
    exact hQ1 (by dsimp only; omega) _
  have ci : ¬ i = -1 := fun h => c (Or.inl h)
  rw [if_neg ci] at hQ1 hQ2
  have hlt := hlt ci
  simp only [st_st]
  rw [iAdd_id (x := a) (by omega) (by omega)]
  unfold p2 at hQ1 hQ2
  refine ⟨fun c1 => ?_, fun c1 => ?_⟩
  · rw [if_pos c1] at hQ1 hQ2
    have hbb := b6 (a + 1)
    simp only [iSub_id (x := bt (M 23) (M 22 1) (a + 1)) (y := 48) (by omega) (by omega)]
    refine ⟨fun c2 => ?_, fun c2 => ?_⟩
    · have c2' : 48 ≤ bt (M 23) (M 22 1) (a + 1) ∧ bt (M 23) (M 22 1) (a + 1) ≤ 51 := by omega
      rw [if_pos c2'] at hQ1 hQ2
      have hl2 : a + 1 < M 22 1 := bt_lt (x := bt (M 23) (M 22 1) (a + 1)) (by omega) rfl (by omega)
      rw [iAdd_id (x := a + 1) (by omega) (by omega), iAdd_id (x := i) (by omega) (by omega)]
      refine pp3_ok (i := i + (bt (M 23) (M 22 1) (a + 1) - 48)) hb' (by omega) (by omega) ?_ (by omega) (by omega) hQ1 hQ2
      simp only [sSeq, sSet, sInc, sPF, sPA, sPD, sOF, sOA, sX, sIf, sSkip, sRet, sRetB, sRetV, sSw, sSel, eK, eL, eR, eF, eA, eQ, eD, eU, eB, eV, eIf, ePF, eC0, eC1, eC2, eC3, eC4, eC5, eC6, eC7, cB, cZ, cAnd, cOr, cNot, i2l, st_fn, sl_ap, if_true, if_false, ↓reduceIte, reduceIte, Nat.reduceEqDiff, Int.reduceEq, Int.reduceLT, Int.reduceLE, Int.reduceAdd, Int.reduceSub, Int.reduceMul, Int.reduceNeg, and_true, true_and, not_true, not_false_eq_true, true_or, or_true, ne_eq]
    · rw [if_neg (by omega)] at hQ1
      exact hQ1 (by dsimp only; omega) _
  · rw [if_neg c1] at hQ1 hQ2
    refine pp3_ok (i := i) hb' (by omega) (by omega) ?_ (by omega) (by omega) hQ1 hQ2
    simp only [sSeq, sSet, sInc, sPF, sPA, sPD, sOF, sOA, sX, sIf, sSkip, sRet, sRetB, sRetV, sSw, sSel, eK, eL, eR, eF, eA, eQ, eD, eU, eB, eV, eIf, ePF, eC0, eC1, eC2, eC3, eC4, eC5, eC6, eC7, cB, cZ, cAnd, cOr, cNot, i2l, st_fn, sl_ap, if_true, if_false, ↓reduceIte, reduceIte, Nat.reduceEqDiff, Int.reduceEq, Int.reduceLT, Int.reduceLE, Int.reduceAdd, Int.reduceSub, Int.reduceMul, Int.reduceNeg, and_true, true_and, not_true, not_false_eq_true, true_or, or_true, ne_eq]
/-! ===== the parser: the reference ===== -/
theorem F_R_must_iff {M : XM} {a x : Int} {Q : Int → XM → Prop} (h0 : 0 ≤ a) (h1 : a ≤ 200) (h2 : M 81 31 ≤ 200) (hx : x ≠ -1) : F_R_must x (st M 81 32 a) Q ↔ Q (if bt (M 104) (M 81 31) a = x then 1 else 0) (st M 81 32 (if bt (M 104) (M 81 31) a = x then a + 1 else a)) := by
  unfold F_R_must S_R_must
  simp only [sSeq, sSet, sInc, sPF, sPA, sPD, sOF, sOA, sX, sIf, sSkip, sRet, sRetB, sRetV, sSw, sSel, eK, eL, eR, eF, eA, eQ, eD, eU, eB, eV, eIf, ePF, eC0, eC1, eC2, eC3, eC4, eC5, eC6, eC7, cB, cZ, cAnd, cOr, cNot, i2l, st_fn, sl_ap, if_true, if_false, ↓reduceIte, reduceIte, Nat.reduceEqDiff, Int.reduceEq, Int.reduceLT, Int.reduceLE, Int.reduceAdd, Int.reduceSub, Int.reduceMul, Int.reduceNeg, and_true, true_and, not_true, not_false_eq_true, true_or, or_true, ne_eq, b01_or]
  have e1 : iAdd a 1 = a + 1 := iAdd_id (by omega) (by omega)
  have e0 : iAdd a 0 = a := by rw [iAdd_id (by omega) (by omega)]; omega
  by_cases c1 : a < M 81 31
  · have e : bt (M 104) (M 81 31) a = M 104 a := if_pos ⟨h0, c1⟩
    rw [e]
    by_cases c2 : M 104 a = x
    · simp [c1, c2, e1, e0, st_st, h0, show a < 200 by omega]
    · simp [c1, c2, e1, e0, st_st, h0, show a < 200 by omega]
  · have e : bt (M 104) (M 81 31) a = -1 := if_neg (by omega)
    rw [e]
    simp [c1, Ne.symm hx, e1, e0, st_st]
def NumI (B : Int → Int) (f : Nat) (a : Int) (x : Nat) (v : Int) : Prop := nd B f a = x + nd B (f - x) (a + x) ∧ nv B f a 0 = nv B (f - x) (a + x) v ∧ 0 ≤ v ∧ (x = 0 → v = 0) ∧ (x = 1 → v ≤ 9) ∧ (x = 2 → v ≤ 99) ∧ (x = 3 → v ≤ 999)
theorem R_number_ok {f : Nat} {M : XM} {a lo hi : Int} {Q : Int → XM → Prop} (hf : f ≤ 4) (h1 : M 81 31 ≤ 200) (h2 : 0 ≤ a) (h3 : a ≤ M 81 31) (hB : ∀ p, -1 ≤ bt (M 104) (M 81 31) p ∧ bt (M 104) (M 81 31) p ≤ 255)
    (hQ1 : (nd (bt (M 104) (M 81 31)) f a = 0 ∨ nv (bt (M 104) (M 81 31)) f a 0 < lo ∨ hi < nv (bt (M 104) (M 81 31)) f a 0) → Q (-1) (st M 81 32 a))
    (hQ2 : ¬ (nd (bt (M 104) (M 81 31)) f a = 0 ∨ nv (bt (M 104) (M 81 31)) f a 0 < lo ∨ hi < nv (bt (M 104) (M 81 31)) f a 0) → Q (nv (bt (M 104) (M 81 31)) f a 0) (st M 81 32 (a + nd (bt (M 104) (M 81 31)) f a))) : F_R_number (f : Int) lo hi (st M 81 32 a) Q := by
  unfold F_R_number S_R_number
  simp only [sSeq, sSet, sInc, sPF, sPA, sPD, sOF, sOA, sX, sIf, sSkip, sRet, sRetB, sRetV, sSw, sSel, eK, eL, eR, eF, eA, eQ, eD, eU, eB, eV, eIf, ePF, eC0, eC1, eC2, eC3, eC4, eC5, eC6, eC7, cB, cZ, cAnd, cOr, cNot, i2l, st_fn, sl_ap, if_true, if_false, ↓reduceIte, reduceIte, Nat.reduceEqDiff, Int.reduceEq, Int.reduceLT, Int.reduceLE, Int.reduceAdd, Int.reduceSub, Int.reduceMul, Int.reduceNeg, and_true, true_and, not_true, not_false_eq_true, true_or, or_true, ne_eq, F_R_in_iff, b01_ne, wp_or]
  refine while_inv (fun L M' => ∃ x : Nat, x ≤ f ∧ L 1 = f ∧ L 2 = lo ∧ L 3 = hi ∧ L 4 = a ∧ M' = st M 81 32 (a + x) ∧ NumI (bt (M 104) (M 81 31)) f a x (L 5) ∧ a + x ≤ M 81 31) (fun _ M' => (a + f - M' 81 32).toNat) ?_ ?_
  · refine ⟨0, Nat.zero_le _, rfl, rfl, rfl, rfl, by rw [show a + ((0 : Nat) : Int) = a by omega], ?_, by omega⟩
    unfold NumI
    simp [sl_ap]
  · intro L M' ⟨x, hx, i1, i2, i3, i4, i5, i6, i7⟩ Q' hQ'
    subst i5
    unfold NumI at i6
    obtain ⟨k2, k3, k4, k5, k6, k7, k8⟩ := i6
    have hexit : (x < f → ¬ (48 ≤ bt (M 104) (M 81 31) (a + x) ∧ bt (M 104) (M 81 31) (a + x) ≤ 57)) → (nd (bt (M 104) (M 81 31)) f a = x ∧ nv (bt (M 104) (M 81 31)) f a 0 = L 5) := by
      intro c
      by_cases c1 : x < f
      · rw [nd_step _ c1, if_neg (c c1)] at k2
        rw [nv_step _ c1, if_neg (c c1)] at k3
        exact ⟨k2, k3⟩
      · rw [show f - x = 0 by omega] at k2 k3
        exact ⟨k2, k3⟩
    simp (disch := first | omega | (simp only [st_fn, Nat.reduceEqDiff, ↓reduceIte, reduceIte, Int.reduceEq, if_true, if_false]; omega)) only [sSeq, sSet, sInc, sPF, sPA, sPD, sOF, sOA, sX, sIf, sSkip, sRet, sRetB, sRetV, sSw, sSel, eK, eL, eR, eF, eA, eQ, eD, eU, eB, eV, eIf, ePF, eC0, eC1, eC2, eC3, eC4, eC5, eC6, eC7, cB, cZ, cAnd, cOr, cNot, i2l, st_fn, sl_ap, if_true, if_false, ↓reduceIte, reduceIte, Nat.reduceEqDiff, Int.reduceEq, Int.reduceLT, Int.reduceLE, Int.reduceAdd, Int.reduceSub, Int.reduceMul, Int.reduceNeg, and_true, true_and, not_true, not_false_eq_true, true_or, or_true, ne_eq, i1, i2, i3, i4, F_R_in_iff, b01_ne]
    have hend : (x < f → ¬ (48 ≤ bt (M 104) (M 81 31) (a + x) ∧ bt (M 104) (M 81 31) (a + x) ≤ 57)) → ((a + (x : Int) = a → Q (-1) (st (st M 81 32 (a + x)) 81 32 a)) ∧ (¬ (a + (x : Int) = a) → (lo ≤ L 5 ∧ L 5 ≤ hi → Q (L 5) (st M 81 32 (a + x))) ∧ (¬ (lo ≤ L 5 ∧ L 5 ≤ hi) → Q (-1) (st (st M 81 32 (a + x)) 81 32 a)))) := by
      intro c
      obtain ⟨e1, e2⟩ := hexit c
      rw [e1, e2] at hQ2
      rw [e1, e2] at hQ1
      rw [st_st]
      exact ⟨fun q => hQ1 (by omega), fun q => ⟨fun q2 => hQ2 (by omega), fun q2 => hQ1 (by omega)⟩⟩
    have hd : a + (x : Int) < M 81 31 → bt (M 104) (M 81 31) (a + x) = M 104 (a + x) := fun c => if_pos ⟨by omega, c⟩
    refine ⟨fun c1 => ⟨fun c2 => ⟨by omega, by omega, fun c3 => ?_, fun c3 => ?_⟩, fun c2 => ?_⟩, fun c1 => ?_⟩
    · rw [iAdd_id (x := a) (by omega) (by omega)] at c2
      have hxf : x < f := by omega
      rw [← hd c1] at c3
      rw [nd_step _ hxf, if_pos c3] at k2
      rw [nv_step _ hxf, if_pos c3] at k3
      refine ⟨by omega, by omega, ?_⟩
      rw [← hd c1]
      generalize bt (M 104) (M 81 31) (a + ↑x) = b at *
      rw [iMul_id (by omega) (by omega), iAdd_id (x := 10 * L 5) (by omega) (by omega), iSub_id (by omega) (by omega), iAdd_id (by omega) (by omega), st_st]
      refine hQ' _ _ ⟨x + 1, hxf, ?_, ?_, ?_, ?_, by rw [show a + ((x + 1 : Nat) : Int) = a + x + 1 by omega], ?_, by omega⟩ ?_
      · simp only [sl_ap, Nat.reduceEqDiff, if_false]; exact i1
      · simp only [sl_ap, Nat.reduceEqDiff, if_false]; exact i2
      · simp only [sl_ap, Nat.reduceEqDiff, if_false]; exact i3
      · simp only [sl_ap, Nat.reduceEqDiff, if_false]; exact i4
      · unfold NumI
        simp only [sl_ap, if_true]
        rw [show a + ((x + 1 : Nat) : Int) = a + x + 1 by omega]
        refine ⟨by omega, k3, by omega, by omega, ?_, ?_, ?_⟩ <;> intro q <;> omega
      · simp only [st_fn, if_true]
        omega
    · exact hend (fun _ => by rw [hd c1]; exact c3)
    · rw [iAdd_id (x := a) (by omega) (by omega)] at c2
      exact hend (fun q => by omega)
    · refine hend (fun _ q => ?_)
      have : bt (M 104) (M 81 31) (a + x) = -1 := if_neg (by omega)
      omega
def PRm (M : XM) : Prop := M 81 31 ≤ 200 ∧ 0 ≤ M 81 33 ∧ M 81 33 < 70 ∧ ∀ p, -1 ≤ bt (M 104) (M 81 31) p ∧ bt (M 104) (M 81 31) p ≤ 255
def S_rp3 : XS := sSeq (sIf (cNot (cZ (fun x => x ≠ 0) (eC1 F_R_must (eK 61)))) (sRetB (eK 0)) sSkip) (sSeq (sSet 2 (eC3 F_R_number (eK 4) (eIf (cZ (fun x => x = 0) (eL 1)) (eK 1) (eK 0)) (eC1 F_R_mostOf (eL 1)))) (sSeq (sIf (cZ (fun x => x < 0) (eL 2)) (sRetB (eK 0)) sSkip) (sSeq (sSet 3 (eK 0)) (sSeq (sIf (cZ (fun x => x ≠ 0) (eC1 F_R_must (eK 64))) (sSeq (sSet 3 (eC3 F_R_number (eK 2) (eK 0) (eK 51))) (sIf (cZ (fun x => x < 0) (eL 3)) (sRetB (eK 0)) sSkip)) sSkip) (sSeq (sPA 105 70 (eF 81 33) (eL 1)) (sSeq (sPA 106 70 (eF 81 33) (eL 2)) (sSeq (sPA 107 70 (eF 81 33) (eL 3)) (sSeq (sOF 81 33 iAdd (eK 1)) (sRetB (eK 1))))))))))
def S_rp4 : XS := sSeq (sSet 3 (eK 0)) (sSeq (sIf (cZ (fun x => x ≠ 0) (eC1 F_R_must (eK 64))) (sSeq (sSet 3 (eC3 F_R_number (eK 2) (eK 0) (eK 51))) (sIf (cZ (fun x => x < 0) (eL 3)) (sRetB (eK 0)) sSkip)) sSkip) (sSeq (sPA 105 70 (eF 81 33) (eL 1)) (sSeq (sPA 106 70 (eF 81 33) (eL 2)) (sSeq (sPA 107 70 (eF 81 33) (eL 3)) (sSeq (sOF 81 33 iAdd (eK 1)) (sRetB (eK 1)))))))
theorem S_rp3_eq : S_rp3 = sSeq (sIf (cNot (cZ (fun x => x ≠ 0) (eC1 F_R_must (eK 61)))) (sRetB (eK 0)) sSkip) (sSeq (sSet 2 (eC3 F_R_number (eK 4) (eIf (cZ (fun x => x = 0) (eL 1)) (eK 1) (eK 0)) (eC1 F_R_mostOf (eL 1)))) (sSeq (sIf (cZ (fun x => x < 0) (eL 2)) (sRetB (eK 0)) sSkip) S_rp4)) := rfl
theorem S_R_readsPart_eq : S_R_readsPart = sSeq (sSet 1 (eIf (cB (fun x y => x < y) (eF 81 32) (eF 81 31)) (eC1 F_R_itemOf (eA 104 200 (eF 81 32))) (eK (-1)))) (sSeq (sIf (cB (fun x y => x = y) (eL 1) (eK (-1))) (sRetB (eK 0)) sSkip) (sSeq (sOF 81 32 iAdd (eK 1)) (sSeq (sIf (cOr (cB (fun x y => x = y) (eL 1) (eK 6)) (cB (fun x y => x = y) (eL 1) (eK 10))) (sSeq (sSet 2 (eC3 F_R_number (eK 1) (eK 0) (eK 3))) (sSeq (sIf (cZ (fun x => x < 0) (eL 2)) (sRetB (eK 0)) sSkip) (sSet 1 (eB iAdd (eL 1) (eL 2))))) sSkip) S_rp3))) := rfl
def rfin (M : XM) (i v w e : Int) : XM := st (st (st (st (st M 81 32 e) 105 (M 81 33) i) 106 (M 81 33) v) 107 (M 81 33) w) 81 33 (M 81 33 + 1)
theorem rp4_ok {M : XM} {Q : Int → XM → Prop} {L : XL} {i v e : Int} (hb : PRm M) (h1 : L 1 = i) (h2 : L 2 = v) (he : 0 ≤ e) (he2 : e ≤ M 81 31)
    (hQ1 : (p4 (bt (M 104) (M 81 31)) i v e).1 ≠ -1 → Q 0 (st M 81 32 (p4 (bt (M 104) (M 81 31)) i v e).1))
    (hQ2 : ∀ i' v' w e', p4 (bt (M 104) (M 81 31)) i v e = (-1, i', v', w, e') → Q 1 (rfin M i' v' w e')) : S_rp4 (fun _ _ => False) Q L (st M 81 32 e) := by
  obtain ⟨b1, b2, b3, b4⟩ := hb
  unfold S_rp4
  simp (disch := first | omega | (simp only [st_fn, Nat.reduceEqDiff, ↓reduceIte, reduceIte, Int.reduceEq, if_true, if_false]; omega)) only [sSeq, sSet, sInc, sPF, sPA, sPD, sOF, sOA, sX, sIf, sSkip, sRet, sRetB, sRetV, sSw, sSel, eK, eL, eR, eF, eA, eQ, eD, eU, eB, eV, eIf, ePF, eC0, eC1, eC2, eC3, eC4, eC5, eC6, eC7, cB, cZ, cAnd, cOr, cNot, i2l, st_fn, sl_ap, if_true, if_false, ↓reduceIte, reduceIte, Nat.reduceEqDiff, Int.reduceEq, Int.reduceLT, Int.reduceLE, Int.reduceAdd, Int.reduceSub, Int.reduceMul, Int.reduceNeg, and_true, true_and, not_true, not_false_eq_true, true_or, or_true, ne_eq, F_R_must_iff, b01_ne, h1, h2]
  unfold p4 at hQ1 hQ2
  refine ⟨fun c => ?_, fun c => ?_⟩
  · have hlt := bt_lt he c (by omega)
    rw [if_pos c]
    rw [if_pos c] at hQ1 hQ2
    have hn := nv_pos (bt (M 104) (M 81 31)) 2 (e + 1) 0 (Int.le_refl 0)
    refine R_number_ok (f := 2) (by omega) b1 (by omega) (by omega) b4 (fun c2 => ?_) (fun c2 => ?_)
    · have c3 : nd (bt (M 104) (M 81 31)) 2 (e + 1) = 0 ∨ 51 < nv (bt (M 104) (M 81 31)) 2 (e + 1) 0 := by omega
      rw [if_pos c3] at hQ1
      simp only [sSeq, sSet, sInc, sPF, sPA, sPD, sOF, sOA, sX, sIf, sSkip, sRet, sRetB, sRetV, sSw, sSel, eK, eL, eR, eF, eA, eQ, eD, eU, eB, eV, eIf, ePF, eC0, eC1, eC2, eC3, eC4, eC5, eC6, eC7, cB, cZ, cAnd, cOr, cNot, i2l, st_fn, sl_ap, if_true, if_false, ↓reduceIte, reduceIte, Nat.reduceEqDiff, Int.reduceEq, Int.reduceLT, Int.reduceLE, Int.reduceAdd, Int.reduceSub, Int.reduceMul, Int.reduceNeg, and_true, true_and, not_true, not_false_eq_true, true_or, or_true, ne_eq, h1, h2]
      exact ⟨fun _ => hQ1 (by dsimp only; omega), fun q => q.elim⟩
    · have c3 : ¬ (nd (bt (M 104) (M 81 31)) 2 (e + 1) = 0 ∨ 51 < nv (bt (M 104) (M 81 31)) 2 (e + 1) 0) := by omega
      rw [if_neg c3] at hQ2
      simp only [sSeq, sSet, sInc, sPF, sPA, sPD, sOF, sOA, sX, sIf, sSkip, sRet, sRetB, sRetV, sSw, sSel, eK, eL, eR, eF, eA, eQ, eD, eU, eB, eV, eIf, ePF, eC0, eC1, eC2, eC3, eC4, eC5, eC6, eC7, cB, cZ, cAnd, cOr, cNot, i2l, st_fn, sl_ap, if_true, if_false, ↓reduceIte, reduceIte, Nat.reduceEqDiff, Int.reduceEq, Int.reduceLT, Int.reduceLE, Int.reduceAdd, Int.reduceSub, Int.reduceMul, Int.reduceNeg, and_true, true_and, not_true, not_false_eq_true, true_or, or_true, ne_eq, h1, h2]
      refine ⟨fun q => by omega, fun _ => ⟨by omega, by omega, by omega, by omega, by omega, by omega, ?_⟩⟩
      rw [iAdd_id (by omega) (by omega)]
      exact hQ2 _ _ _ _ rfl
  · rw [if_neg c]
    rw [if_neg c] at hQ2
    refine ⟨by omega, by omega, by omega, by omega, by omega, by omega, ?_⟩
    rw [iAdd_id (by omega) (by omega)]
    exact hQ2 _ _ _ _ rfl
theorem rp3_ok {M : XM} {Q : Int → XM → Prop} {L : XL} {i b : Int} (hb : PRm M) (h1 : L 1 = i) (he : 0 ≤ b) (he2 : b ≤ M 81 31)
    (hQ1 : (p3 (bt (M 104) (M 81 31)) i b).1 ≠ -1 → Q 0 (st M 81 32 (p3 (bt (M 104) (M 81 31)) i b).1))
    (hQ2 : ∀ i' v' w e', p3 (bt (M 104) (M 81 31)) i b = (-1, i', v', w, e') → Q 1 (rfin M i' v' w e')) : S_rp3 (fun _ _ => False) Q L (st M 81 32 b) := by
  have hb' := hb
  obtain ⟨b1, b2, b3, b4⟩ := hb
  rw [S_rp3_eq]
  simp (disch := first | omega | (simp only [st_fn, Nat.reduceEqDiff, ↓reduceIte, reduceIte, Int.reduceEq, if_true, if_false]; omega)) only [sSeq, sSet, sInc, sPF, sPA, sPD, sOF, sOA, sX, sIf, sSkip, sRet, sRetB, sRetV, sSw, sSel, eK, eL, eR, eF, eA, eQ, eD, eU, eB, eV, eIf, ePF, eC0, eC1, eC2, eC3, eC4, eC5, eC6, eC7, cB, cZ, cAnd, cOr, cNot, i2l, st_fn, sl_ap, if_true, if_false, ↓reduceIte, reduceIte, Nat.reduceEqDiff, Int.reduceEq, Int.reduceLT, Int.reduceLE, Int.reduceAdd, Int.reduceSub, Int.reduceMul, Int.reduceNeg, and_true, true_and, not_true, not_false_eq_true, true_or, or_true, ne_eq, F_R_must_iff, F_R_mostOf_iff, b01_ne, b01_eq, h1]
  unfold p3 at hQ1 hQ2
  refine ⟨fun c => ?_, fun c => ?_⟩
  · have c : bt (M 104) (M 81 31) b = 61 := Classical.byContradiction fun q => c q
    have hlt := bt_lt he c (by omega)
    rw [if_pos c]
    rw [if_pos c] at hQ1 hQ2
    have hn := nv_pos (bt (M 104) (M 81 31)) 4 (b + 1) 0 (Int.le_refl 0)
    have key : ∀ lo, lo = loOf i → F_R_number 4 lo (hiOf i) (st M 81 32 (b + 1)) (fun v M2 => (v < 0 → Q 0 M2) ∧ (¬ v < 0 → S_rp4 (fun _ _ => False) Q (sl L 2 v) M2)) := by
      intro lo hlo
      subst hlo
      have hlo : 0 ≤ loOf i := by unfold loOf; split <;> omega
      refine R_number_ok (f := 4) (by omega) b1 (by omega) (by omega) b4 (fun c2 => ?_) (fun c2 => ?_)
      · rw [if_pos c2] at hQ1
        exact ⟨fun _ => hQ1 (by dsimp only; omega), fun q => absurd (by decide) q⟩
      · rw [if_neg c2] at hQ1 hQ2
        have hbd := nd_bt (T := M 104) (n := M 81 31) 4 (b + 1) (by omega) (by omega)
        refine ⟨fun q => by omega, fun _ => rp4_ok hb' ?_ ?_ (by omega) hbd hQ1 hQ2⟩
        · simp only [sl_ap, Nat.reduceEqDiff, if_false]; exact h1
        · simp only [sl_ap, if_true]
    unfold loOf at key
    refine ⟨fun c0 => ?_, fun c0 => ?_⟩
    · have := key 1 (by rw [if_pos c0])
      exact this
    · have := key 0 (by rw [if_neg c0])
      exact this
  · have c : ¬ bt (M 104) (M 81 31) b = 61 := fun q => c (fun z => z q)
    rw [if_neg c] at hQ1
    rw [if_neg c]
    exact hQ1 (by dsimp only; omega)
theorem R_readsPart_ok {M : XM} {a : Int} {Q : Int → XM → Prop} (hb : PRm M) (h2 : 0 ≤ a) (h3 : a ≤ M 81 31)
    (hQ1 : (pp (bt (M 104) (M 81 31)) a).1 ≠ -1 → Q 0 (st M 81 32 (pp (bt (M 104) (M 81 31)) a).1))
    (hQ2 : ∀ i' v' w e', pp (bt (M 104) (M 81 31)) a = (-1, i', v', w, e') → Q 1 (rfin M i' v' w e')) : F_R_readsPart (st M 81 32 a) Q := by
  have hb' := hb
  obtain ⟨b1, b2, b3, b4⟩ := hb
  unfold F_R_readsPart
  rw [S_R_readsPart_eq]
  have e0 : pp (bt (M 104) (M 81 31)) a = if itmOf (bt (M 104) (M 81 31) a) = -1 then (a, 0, 0, 0, 0) else p2 (bt (M 104) (M 81 31)) (itmOf (bt (M 104) (M 81 31) a)) (a + 1) := rfl
  rw [e0] at hQ1 hQ2
  have hi := itmOf_r (bt (M 104) (M 81 31) a)
  simp (disch := first | omega | (simp only [st_fn, Nat.reduceEqDiff, ↓reduceIte, reduceIte, Int.reduceEq, if_true, if_false]; omega)) only [sSeq, sSet, sInc, sPF, sPA, sPD, sOF, sOA, sX, sIf, sSkip, sRet, sRetB, sRetV, sSw, sSel, eK, eL, eR, eF, eA, eQ, eD, eU, eB, eV, eIf, ePF, eC0, eC1, eC2, eC3, eC4, eC5, eC6, eC7, cB, cZ, cAnd, cOr, cNot, i2l, st_fn, sl_ap, if_true, if_false, ↓reduceIte, reduceIte, Nat.reduceEqDiff, Int.reduceEq, Int.reduceLT, Int.reduceLE, Int.reduceAdd, Int.reduceSub, Int.reduceMul, Int.reduceNeg, and_true, true_and, not_true, not_false_eq_true, true_or, or_true, ne_eq, F_R_itemOf_iff, wp_or]
  by_cases hlt : a < M 81 31
  · have e : bt (M 104) (M 81 31) a = M 104 a := if_pos ⟨h2, hlt⟩
    rw [e] at hQ1 hQ2 hi
    generalize itmOf (M 104 a) = i at *
    refine ⟨fun _ => ⟨by omega, by omega, fun c => ?_, fun c => ?_⟩, fun q => absurd hlt q⟩
    · rw [if_pos c] at hQ1
      exact hQ1 (by dsimp only; omega)
    · rw [if_neg c] at hQ1 hQ2
      rw [iAdd_id (x := a) (by omega) (by omega), st_st]
      unfold p2 at hQ1 hQ2
      refine ⟨fun c1 => ?_, fun c1 => ?_⟩
      · rw [if_pos c1] at hQ1 hQ2
        have hlt2 : 48 ≤ bt (M 104) (M 81 31) (a + 1) → a + 1 < M 81 31 := fun c => bt_lt (x := bt (M 104) (M 81 31) (a + 1)) (by omega) rfl (by omega)
        have e1 : nd (bt (M 104) (M 81 31)) 1 (a + 1) = if 48 ≤ bt (M 104) (M 81 31) (a + 1) ∧ bt (M 104) (M 81 31) (a + 1) ≤ 57 then 1 else 0 := rfl
        have e2 : nv (bt (M 104) (M 81 31)) 1 (a + 1) 0 = if 48 ≤ bt (M 104) (M 81 31) (a + 1) ∧ bt (M 104) (M 81 31) (a + 1) ≤ 57 then 10 * 0 + bt (M 104) (M 81 31) (a + 1) - 48 else 0 := rfl
        refine R_number_ok (f := 1) (by omega) b1 (by omega) (by omega) b4 (fun c2 => ?_) (fun c2 => ?_)
        · rw [e1, e2] at c2
          have c3 : ¬ (48 ≤ bt (M 104) (M 81 31) (a + 1) ∧ bt (M 104) (M 81 31) (a + 1) ≤ 51) := by
            intro q
            rw [if_pos ⟨q.1, by omega⟩, if_pos ⟨q.1, by omega⟩] at c2
            omega
          rw [if_neg c3] at hQ1
          simp only [sSeq, sSet, sInc, sPF, sPA, sPD, sOF, sOA, sX, sIf, sSkip, sRet, sRetB, sRetV, sSw, sSel, eK, eL, eR, eF, eA, eQ, eD, eU, eB, eV, eIf, ePF, eC0, eC1, eC2, eC3, eC4, eC5, eC6, eC7, cB, cZ, cAnd, cOr, cNot, i2l, st_fn, sl_ap, if_true, if_false, ↓reduceIte, reduceIte, Nat.reduceEqDiff, Int.reduceEq, Int.reduceLT, Int.reduceLE, Int.reduceAdd, Int.reduceSub, Int.reduceMul, Int.reduceNeg, and_true, true_and, not_true, not_false_eq_true, true_or, or_true, ne_eq]
          exact ⟨fun _ => hQ1 (by dsimp only; omega), fun q => q.elim⟩
        · rw [e1, e2] at c2
          have c3 : 48 ≤ bt (M 104) (M 81 31) (a + 1) ∧ bt (M 104) (M 81 31) (a + 1) ≤ 51 := by
            by_cases q : 48 ≤ bt (M 104) (M 81 31) (a + 1) ∧ bt (M 104) (M 81 31) (a + 1) ≤ 57
            · rw [if_pos q, if_pos q] at c2
              omega
            · rw [if_neg q, if_neg q] at c2
              omega
          have hl := hlt2 c3.1
          have c4 : 48 ≤ bt (M 104) (M 81 31) (a + 1) ∧ bt (M 104) (M 81 31) (a + 1) ≤ 57 := by omega
          rw [if_pos c3] at hQ1 hQ2
          rw [e1, e2, if_pos c4, if_pos c4]
          simp only [sSeq, sSet, sInc, sPF, sPA, sPD, sOF, sOA, sX, sIf, sSkip, sRet, sRetB, sRetV, sSw, sSel, eK, eL, eR, eF, eA, eQ, eD, eU, eB, eV, eIf, ePF, eC0, eC1, eC2, eC3, eC4, eC5, eC6, eC7, cB, cZ, cAnd, cOr, cNot, i2l, st_fn, sl_ap, if_true, if_false, ↓reduceIte, reduceIte, Nat.reduceEqDiff, Int.reduceEq, Int.reduceLT, Int.reduceLE, Int.reduceAdd, Int.reduceSub, Int.reduceMul, Int.reduceNeg, and_true, true_and, not_true, not_false_eq_true, true_or, or_true, ne_eq]
          refine ⟨fun q => by omega, fun _ => ?_⟩
          rw [iAdd_id (by omega) (by omega), show a + 1 + ((1 : Nat) : Int) = a + 1 + 1 by omega]
          refine rp3_ok hb' ?_ (by omega) (by omega) hQ1 hQ2
          simp only [sl_ap, if_true]
          omega
      · rw [if_neg c1] at hQ1 hQ2
        refine rp3_ok hb' ?_ (by omega) (by omega) hQ1 hQ2
        simp only [sl_ap, if_true]
  · have e : itmOf (bt (M 104) (M 81 31) a) = -1 := by
      rw [show bt (M 104) (M 81 31) a = -1 from if_neg (by omega)]
      decide
    rw [if_pos e] at hQ1
    exact ⟨fun q => absurd q hlt, fun _ => ⟨fun _ => hQ1 (by dsimp only; omega), fun q => absurd q (by simp)⟩⟩
/-! ===== all parts: the reference reads them from the start, the class keeps them ===== -/
def Only (S : List Nat) (M M' : XM) : Prop := ∀ k, k ∉ S → M' k = M k
theorem Only.rf {S : List Nat} {M : XM} : Only S M M := fun _ _ => rfl
theorem Only.trans {S T U : List Nat} {M M1 M2 : XM} (h1 : Only S M M1) (h2 : Only T M1 M2) (hS : ∀ k ∈ S, k ∈ U) (hT : ∀ k ∈ T, k ∈ U) : Only U M M2 := fun k hk => (h2 k (fun q => hk (hT k q))).trans (h1 k (fun q => hk (hS k q)))
theorem Only.set {S : List Nat} {M M1 : XM} (h : Only S M M1) {k : Nat} (hk : k ∈ S) (j v : Int) : Only S M (st M1 k j v) := fun a ha => by
  rw [st_ne M1 j v (fun e => ha (by rw [e]; exact hk))]
  exact h a ha
theorem Only.wk {S T : List Nat} {M M1 : XM} (h : Only S M M1) (hS : ∀ k ∈ S, k ∈ T) : Only T M M1 := fun a ha => h a (fun q => ha (hS a q))
def npI (d : XM) : Int := if d 22 2 = -1 then d 22 8 + 1 else 0
def RdP (d M : XM) : Prop := M 81 33 = npI d ∧ ∀ k, 0 ≤ k → k < npI d → M 105 k = d 26 k ∧ M 106 k = d 27 k ∧ M 107 k = d 28 k
def RdF (M M' : XM) : Prop := Only [81, 105, 106, 107] M M' ∧ ∀ j, j ≠ 32 → j ≠ 33 → M' 81 j = M 81 j
theorem bt_r {T : Int → Int} {n : Int} (h : ∀ i, 0 ≤ i → i < n → 0 ≤ T i ∧ T i ≤ 255) (p : Int) : -1 ≤ bt T n p ∧ bt T n p ≤ 255 := by
  unfold bt
  split
  · rename_i c
    have := h p c.1 c.2
    omega
  · omega
theorem RdF.set {M M' : XM} (h : RdF M M') {j v : Int} (hj : j = 32 ∨ j = 33) : RdF M (st M' 81 j v) := by
  refine ⟨h.1.set (by decide) j v, fun a h1 h2 => ?_⟩
  rw [st_fn, if_pos rfl]
  have e : ¬ a = j := by rcases hj with rfl | rfl <;> omega
  simp only [if_neg e]
  exact h.2 a h1 h2
theorem RdF.set2 {M M' : XM} (h : RdF M M') {k : Nat} {j v : Int} (hk : k = 105 ∨ k = 106 ∨ k = 107) : RdF M (st M' k j v) := by
  refine ⟨h.1.set (by rcases hk with rfl | rfl | rfl <;> decide) j v, fun a h1 h2 => ?_⟩
  rw [st_ne M' j v (by rcases hk with rfl | rfl | rfl <;> decide)]
  exact h.2 a h1 h2
theorem R_reads_ok {M : XM} {Q : Int → XM → Prop} (hr : DCr M) (hQ : ∀ M', RdF M M' → RdP M M' → Q (M 22 2) M') : F_R_reads M Q := by
  unfold DCr Rpt at hr
  obtain ⟨t1, t2, t3, t4, t5, t6, t7, ⟨pos, q1, q2, q3⟩, tl⟩ := hr
  have hB : ∀ p, -1 ≤ bt (M 104) (M 81 31) p ∧ bt (M 104) (M 81 31) p ≤ 255 := bt_r fun i h1 h2 => (t4 i h1 h2).2
  unfold F_R_reads S_R_reads
  simp only [sSeq, sSet, sInc, sPF, sPA, sPD, sOF, sOA, sX, sIf, sSkip, sRet, sRetB, sRetV, sSw, sSel, eK, eL, eR, eF, eA, eQ, eD, eU, eB, eV, eIf, ePF, eC0, eC1, eC2, eC3, eC4, eC5, eC6, eC7, cB, cZ, cAnd, cOr, cNot, i2l, st_fn, sl_ap, if_true, if_false, ↓reduceIte, reduceIte, Nat.reduceEqDiff, Int.reduceEq, Int.reduceLT, Int.reduceLE, Int.reduceAdd, Int.reduceSub, Int.reduceMul, Int.reduceNeg, and_true, true_and, not_true, not_false_eq_true, true_or, or_true, ne_eq, b01_ne]
  have f0 : RdF M (st (st M 81 32 0) 81 33 0) := (RdF.set (RdF.set ⟨Only.rf, fun _ _ _ => rfl⟩ (Or.inl rfl)) (Or.inr rfl))
  refine while_inv (fun L M' => (L 1 = 1 ∧ ∃ k, 0 ≤ k ∧ k ≤ M 22 8 ∧ RdF M M' ∧ M' 81 32 = pos k ∧ M' 81 33 = k ∧ ∀ a, 0 ≤ a → a < k → M' 105 a = M 26 a ∧ M' 106 a = M 27 a ∧ M' 107 a = M 28 a) ∨ (L 1 = 0 ∧ RdF M M' ∧ M 22 2 = -1 ∧ RdP M M')) (fun L M' => if L 1 = 0 then 0 else (M 22 8 - M' 81 33).toNat + 1) ?_ ?_
  · refine Or.inl ⟨rfl, 0, Int.le_refl 0, t5, f0, ?_, rfl, fun a h1 h2 => absurd h2 (by omega)⟩
    rw [q1]
    rfl
  · intro L M' hI Q' hQ'
    rcases hI with ⟨i1, k, i2, i3, i4, i5, i6, i7⟩ | ⟨i1, i2, i3, i4⟩
    · simp only [sSeq, sSet, sInc, sPF, sPA, sPD, sOF, sOA, sX, sIf, sSkip, sRet, sRetB, sRetV, sSw, sSel, eK, eL, eR, eF, eA, eQ, eD, eU, eB, eV, eIf, ePF, eC0, eC1, eC2, eC3, eC4, eC5, eC6, eC7, cB, cZ, cAnd, cOr, cNot, i2l, st_fn, sl_ap, if_true, if_false, ↓reduceIte, reduceIte, Nat.reduceEqDiff, Int.reduceEq, Int.reduceLT, Int.reduceLE, Int.reduceAdd, Int.reduceSub, Int.reduceMul, Int.reduceNeg, and_true, true_and, not_true, not_false_eq_true, true_or, or_true, ne_eq, i1]
      refine ⟨fun _ => ?_, fun q => absurd q (by simp)⟩
      have e104 : M' 104 = M 104 := i4.1 104 (by decide)
      have e31 : M' 81 31 = M 81 31 := i4.2 31 (by omega) (by omega)
      have hpos : 0 ≤ pos k ∧ pos k ≤ M 81 31 ∧ 4 * k ≤ 4 * M 22 8 := by
        by_cases c : k < M 22 8
        · obtain ⟨a1, a2, a3, a4⟩ := q3 k i2 c
          have := pp_ok (T := M 104) (n := M 81 31) a1 (by rw [a3])
          rw [a3] at this
          dsimp only at this
          omega
        · rw [show k = M 22 8 by omega, q2]
          omega
      have hPR : PRm M' := ⟨by omega, by omega, by omega, by rw [e104, e31]; exact hB⟩
      have hst : M' = st M' 81 32 (pos k) := (st_id' i5).symm
      rw [hst]
      refine R_readsPart_ok hPR hpos.1 (by rw [e31]; exact hpos.2.1) ?_ ?_
      · rw [e104, e31]
        intro hf
        simp only [st_fn, Nat.reduceEqDiff, ↓reduceIte, reduceIte, Int.reduceEq, if_true, if_false, not_true, not_false_eq_true, ne_eq]
        refine ⟨fun q => absurd q (by simp), fun _ => ?_⟩
        have c : ¬ k < M 22 8 := fun c => hf (by rw [(q3 k i2 c).2.2.1])
        have hk : k = M 22 8 := by omega
        rw [hk, q2] at hf ⊢
        rcases tl with ⟨l1, l2⟩ | ⟨l1, l2 | ⟨l2, l3⟩⟩
        · exact absurd (by rw [l2]) hf
        · rw [l2]
          refine hQ _ ((i4.set (Or.inl rfl)).set (Or.inr rfl)) ?_
          have : npI M = 0 := if_neg (by omega)
          unfold RdP
          rw [this]
          exact ⟨rfl, fun a h1 h2 => absurd h2 (by omega)⟩
        · exact absurd l2 hf
      · rw [e104, e31]
        intro i v w e hp
        have ho := pp_ok (T := M 104) (n := M 81 31) hpos.1 (by rw [hp])
        rw [hp] at ho
        dsimp only at ho
        have hfr : RdF M (rfin M' i v w e) := by
          unfold rfin
          exact ((((i4.set (Or.inl rfl)).set2 (Or.inl rfl)).set2 (Or.inr (Or.inl rfl))).set2 (Or.inr (Or.inr rfl))).set (Or.inr rfl)
        have hat : (rfin M' i v w e) 81 32 = e := rfl
        have hpa : (rfin M' i v w e) 81 33 = k + 1 := by
          unfold rfin
          simp only [st_fn, Nat.reduceEqDiff, ↓reduceIte, reduceIte, Int.reduceEq, if_true, if_false]
          omega
        have hty : (rfin M' i v w e) 81 31 = M 81 31 := hfr.2 31 (by omega) (by omega)
        have htx : (rfin M' i v w e) 104 = M 104 := hfr.1 104 (by decide)
        have hent : ∀ a, (rfin M' i v w e) 105 a = (if a = k then i else M' 105 a) ∧ (rfin M' i v w e) 106 a = (if a = k then v else M' 106 a) ∧ (rfin M' i v w e) 107 a = (if a = k then w else M' 107 a) := by
          intro a
          unfold rfin
          simp only [st_fn, Nat.reduceEqDiff, ↓reduceIte, reduceIte, Int.reduceEq, if_true, if_false, i6, and_self]
        have hst2 : rfin M' i v w e = st (rfin M' i v w e) 81 32 e := (st_id' hat).symm
        generalize rfin M' i v w e = N at *
        simp only [st_fn, Nat.reduceEqDiff, ↓reduceIte, reduceIte, Int.reduceEq, if_true, if_false, not_true, not_false_eq_true, ne_eq, hat, hty]
        refine ⟨fun _ => ⟨fun c => ?_, fun c => ?_⟩, fun q => absurd q (by simp)⟩
        · rw [hst2]
          rw [F_R_must_iff (by omega) (by omega) (by omega) (by decide)]
          rw [htx, hty]
          by_cases cb : bt (M 104) (M 81 31) e = 59
          · simp only [if_pos cb]
            refine ⟨fun _ => ?_, fun q => absurd q (by simp)⟩
            have ck : k < M 22 8 := by
              apply Int.not_le.mp
              intro ck
              have hk : k = M 22 8 := by omega
              rw [hk, q2] at hp
              rcases tl with ⟨l1, l2⟩ | ⟨l1, l2 | ⟨l2, l3, l4, l5⟩⟩
              · rw [l2] at hp
                have : M 81 31 = e := by injection hp with _ hp; injection hp with _ hp; injection hp with _ hp; injection hp
                omega
              · rw [hp] at l2
                dsimp only at l2
                omega
              · rw [hp] at l3
                dsimp only at l3
                exact l5 (l3 ▸ cb)
            obtain ⟨a1, a2, a3, a4⟩ := q3 k i2 ck
            rw [a3] at hp
            injection hp with _ hp
            injection hp with p1 hp
            injection hp with p2 hp
            injection hp with p3 p4
            refine hQ' _ _ (Or.inl ⟨by simp only [sl_ap, if_true], k + 1, by omega, by omega, hfr.set (Or.inl rfl), ?_, ?_, ?_⟩) ?_
            · simp only [st_fn, if_true]
              omega
            · simp only [st_fn, if_true, Int.reduceEq, if_false]
              exact hpa
            · intro a h1 h2
              simp only [st_fn, Nat.reduceEqDiff, if_false]
              have := hent a
              by_cases ca : a = k
              · subst ca
                rw [this.1, this.2.1, this.2.2]
                simp only [if_true]
                exact ⟨p1.symm, p2.symm, p3.symm⟩
              · rw [this.1, this.2.1, this.2.2]
                simp only [if_neg ca]
                exact i7 a h1 (by omega)
            · simp only [sl_ap, if_true, st_fn, Int.reduceEq, if_false, i1, hpa]
              omega
          · simp only [if_neg cb]
            refine ⟨fun q => absurd q (by simp), fun _ => ?_⟩
            have ck : ¬ k < M 22 8 := by
              intro ck
              obtain ⟨a1, a2, a3, a4⟩ := q3 k i2 ck
              rw [a3] at hp
              injection hp with _ hp
              injection hp with p1 hp
              injection hp with p2 hp
              injection hp with p3 p4
              exact cb (p4 ▸ a4)
            have hk : k = M 22 8 := by omega
            rw [hk, q2] at hp
            have hu : M 22 2 = e ∧ M 22 2 ≠ -1 := by
              rcases tl with ⟨l1, l2⟩ | ⟨l1, l2 | ⟨l2, l3, l4, l5⟩⟩
              · rw [l2] at hp
                have : M 81 31 = e := by injection hp with _ hp; injection hp with _ hp; injection hp with _ hp; injection hp
                omega
              · rw [hp] at l2
                dsimp only at l2
                omega
              · rw [hp] at l3
                dsimp only at l3
                omega
            rw [show e = M 22 2 from hu.1.symm]
            refine hQ _ ((hfr.set (Or.inl rfl)).set (Or.inr rfl)) ?_
            have : npI M = 0 := if_neg hu.2
            unfold RdP
            rw [this]
            exact ⟨rfl, fun a h1 h2 => absurd h2 (by omega)⟩
        · have he : e = M 81 31 := by omega
          have ck : ¬ k < M 22 8 := by
            intro ck
            obtain ⟨a1, a2, a3, a4⟩ := q3 k i2 ck
            rw [a3] at hp
            injection hp with _ hp
            injection hp with p1 hp
            injection hp with p2 hp
            injection hp with p3 p4
            have := bt_lt (x := 59) (by omega) a4 (by omega)
            omega
          have hk : k = M 22 8 := by omega
          rw [hk, q2] at hp
          rcases tl with ⟨l1, l2⟩ | ⟨l1, l2 | ⟨l2, l3, l4, l5⟩⟩
          · rw [l2] at hp
            injection hp with _ hp
            injection hp with p1 hp
            injection hp with p2 hp
            injection hp with p3 p4
            have hn : npI M = M 22 8 + 1 := if_pos l1
            refine hQ' _ _ (Or.inr ⟨by simp only [sl_ap, if_true], hfr, l1, by rw [hpa, hn, hk], fun a h1 h2 => ?_⟩) ?_
            · have := hent a
              rw [this.1, this.2.1, this.2.2]
              by_cases ca : a = k
              · subst ca
                simp only [if_true, hk]
                exact ⟨p1.symm, p2.symm, p3.symm⟩
              · simp only [if_neg ca]
                exact i7 a h1 (by omega)
            · simp only [sl_ap, if_true, i1, Int.reduceEq, if_false]
              omega
          · rw [hp] at l2
            dsimp only at l2
            omega
          · rw [hp] at l3
            dsimp only at l3
            omega
    · simp only [sSeq, sSet, sInc, sPF, sPA, sPD, sOF, sOA, sX, sIf, sSkip, sRet, sRetB, sRetV, sSw, sSel, eK, eL, eR, eF, eA, eQ, eD, eU, eB, eV, eIf, ePF, eC0, eC1, eC2, eC3, eC4, eC5, eC6, eC7, cB, cZ, cAnd, cOr, cNot, i2l, st_fn, sl_ap, if_true, if_false, ↓reduceIte, reduceIte, Nat.reduceEqDiff, Int.reduceEq, Int.reduceLT, Int.reduceLE, Int.reduceAdd, Int.reduceSub, Int.reduceMul, Int.reduceNeg, and_true, true_and, not_true, not_false_eq_true, true_or, or_true, ne_eq, i1]
      refine ⟨fun q => absurd q (by simp), fun _ => ?_⟩
      have := hQ M' i2 i4
      rw [i3] at this
      exact this
/-! ===== a byte more; all wiped ===== -/
def CZ (M : XM) : Prop := (∀ i, 0 ≤ i → i ≤ 14 → M 1001 i = loOf i) ∧ (∀ i, 0 ≤ i → i ≤ 14 → M 1002 i = hiOf i)
theorem tup {a b c d e a' b' c' d' e' : Int} (h : ((a, b, c, d, e) : PR) = (a', b', c', d', e')) : a = a' ∧ b = b' ∧ c = c' ∧ d = d' ∧ e = e' := by
  injection h with h1 h
  injection h with h2 h
  injection h with h3 h
  injection h with h4 h5
  exact ⟨h1, h2, h3, h4, h5⟩
theorem tup_eta (r : PR) (h : r.1 = -1) : r = (-1, r.2.1, r.2.2.1, r.2.2.2.1, r.2.2.2.2) := by
  obtain ⟨a, b, c, d, e⟩ := r
  have h : a = -1 := h
  rw [h]
/-- the class's state after one byte more -/
theorem Rpt_more {u tx it nu fr rt u' tx' it' nu' fr' rt' : Int → Int} {ty b : Int} (hr : Rpt u tx it nu fr rt ty) (hb : 0 ≤ b ∧ b ≤ 255) (hl : ty < 200) (hrt : rt' = fun j => if j = ty then b else rt j) (htx : tx' = fun j => if j = ty then b else tx j) (hu1 : u' 1 = ty + 1)
    (hold : ∀ k, k ≠ u 8 → it' k = it k ∧ nu' k = nu k ∧ fr' k = fr k)
    (hcase : ((pp (bt rt' (ty + 1)) (u 9)).1 ≠ -1 ∧ u' 2 = (pp (bt rt' (ty + 1)) (u 9)).1 ∧ u' 8 = u 8 ∧ u' 9 = u 9) ∨
      (∃ e, pp (bt rt' (ty + 1)) (u 9) = (-1, it' (u 8), nu' (u 8), fr' (u 8), e) ∧ ((e = ty + 1 ∧ u' 2 = -1 ∧ u' 8 = u 8 ∧ u' 9 = u 9) ∨ (e ≠ ty + 1 ∧ bt rt' (ty + 1) e ≠ 59 ∧ u' 2 = e ∧ u' 8 = u 8 ∧ u' 9 = u 9) ∨ (e ≠ ty + 1 ∧ bt rt' (ty + 1) e = 59 ∧ u' 2 = e + 1 ∧ u' 8 = u 8 + 1 ∧ u' 9 = e + 1)))) : Rpt u' tx' it' nu' fr' rt' (ty + 1) := by
  obtain ⟨t1, t2, t3, t4, t5, t6, t7, ⟨pos, q1, q2, q3⟩, tl⟩ := hr
  have hext : ∀ p, p < ty → bt rt' (ty + 1) p = bt rt ty p := by
    intro p hp
    unfold bt
    rw [hrt]
    by_cases c : 0 ≤ p
    · rw [if_pos ⟨c, by omega⟩, if_pos ⟨c, hp⟩]
      simp only
      rw [if_neg (by omega)]
    · rw [if_neg (by omega), if_neg (by omega)]
  have hclosed : ∀ k, 0 ≤ k → k < u 8 → 0 ≤ pos k ∧ pos (k + 1) ≤ ty + 1 ∧ pp (bt rt' (ty + 1)) (pos k) = (-1, it' k, nu' k, fr' k, pos (k + 1) - 1) ∧ bt rt' (ty + 1) (pos (k + 1) - 1) = 59 := by
    intro k h1 h2
    obtain ⟨a1, a2, a3, a4⟩ := q3 k h1 h2
    have he := pp_ext hext a1 (show okP (pp (bt rt ty) (pos k)) ty by rw [a3]; exact ⟨rfl, by dsimp only; omega⟩)
    obtain ⟨o1, o2, o3⟩ := hold k (by omega)
    refine ⟨a1, by omega, ?_, ?_⟩
    · rw [he.1, a3, o1, o2, o3]
    · rw [hext _ (by omega), a4]
  have htext : ∀ i, 0 ≤ i → i < ty + 1 → tx' i = rt' i ∧ 0 ≤ rt' i ∧ rt' i ≤ 255 := by
    intro i h1 h2
    rw [htx, hrt]
    by_cases c : i = ty
    · simp only [if_pos c]
      exact ⟨trivial, hb⟩
    · simp only [if_neg c]
      exact t4 i h1 (by omega)
  have hff := pp_f (T := rt') (n := ty + 1) (a := u 9) (by omega) (by omega)
  rcases hcase with ⟨c1, c2, c3, c4⟩ | ⟨e, ce, c⟩
  · refine ⟨hu1, by omega, by omega, htext, by omega, by omega, by omega, ⟨pos, q1, by rw [c3, c4]; exact q2, by rw [c3]; exact hclosed⟩, Or.inr ⟨by omega, Or.inl (by rw [c4, c2])⟩⟩
  · have ho := pp_ok (T := rt') (n := ty + 1) (a := u 9) (by omega) (by rw [ce])
    rw [ce] at ho
    dsimp only at ho
    rcases c with ⟨c1, c2, c3, c4⟩ | ⟨c0, c1, c2, c3, c4⟩ | ⟨c0, c1, c2, c3, c4⟩
    · exact ⟨hu1, by omega, by omega, htext, by omega, by omega, by omega, ⟨pos, q1, by rw [c3, c4]; exact q2, by rw [c3]; exact hclosed⟩, Or.inl ⟨c2, by rw [c4, c3, ce, c1]⟩⟩
    · exact ⟨hu1, by omega, by omega, htext, by omega, by omega, by omega, ⟨pos, q1, by rw [c3, c4]; exact q2, by rw [c3]; exact hclosed⟩, Or.inr ⟨by omega, Or.inr ⟨by rw [c4, ce], by rw [c4, ce, c2], by omega, by rw [c2]; exact c1⟩⟩⟩
    · have het : e = ty := by
        apply Classical.byContradiction
        intro hne
        have hlt : e < ty := by omega
        have hx := pp_ext (B := bt rt' (ty + 1)) (B' := bt rt ty) (n := ty) (a := u 9) (fun p hp => (hext p hp).symm) (by omega) (by rw [ce]; exact ⟨rfl, hlt⟩)
        rw [ce] at hx
        have h59 : bt rt ty e = 59 := by rw [← hext e hlt]; exact c1
        rcases tl with ⟨l1, l2⟩ | ⟨l1, l2 | ⟨l2, l3, l4, l5⟩⟩
        · rw [hx.1] at l2
          have := (tup l2).2.2.2.2
          omega
        · rw [hx.1] at l2
          dsimp only at l2
          omega
        · rw [hx.1] at l3
          dsimp only at l3
          exact l5 (l3 ▸ h59)
      refine ⟨hu1, by omega, by omega, htext, by omega, by omega, by omega, ⟨fun k => if k = u 8 + 1 then e + 1 else pos k, ?_, ?_, ?_⟩, Or.inr ⟨by omega, Or.inl ?_⟩⟩
      · simp only
        rw [if_neg (by omega)]
        exact q1
      · simp only
        rw [c3, c4, if_pos rfl]
      · intro k h1 h2
        simp only
        rw [if_neg (show ¬ k = u 8 + 1 by omega)]
        by_cases ck : k = u 8
        · subst ck
          rw [if_pos rfl, q2, show e + 1 - 1 = e by omega]
          exact ⟨by omega, by omega, ce, c1⟩
        · rw [if_neg (show ¬ k + 1 = u 8 + 1 by omega)]
          exact hclosed k h1 (by omega)
      · rw [c4, c2]
        have : bt rt' (ty + 1) (e + 1) = -1 := if_neg (by omega)
        unfold pp
        rw [this, if_pos (by decide)]
theorem Rules_append_ok {M : XM} {b : Int} {Q : Int → XM → Prop} (hr : DCr M) (hz : CZ M) (hb : 0 ≤ b ∧ b ≤ 255) (hl : M 22 1 < 200) (hQ : ∀ M1, Only [22, 23, 26, 27, 28] M M1 → Rpt (M1 22) (M1 23) (M1 26) (M1 27) (M1 28) (fun j => if j = M 81 31 then b else M 104 j) (M 81 31 + 1) → Q (M 81 31 + 1) M1) : F_Rules_append b M Q := by
  have hr' := hr
  unfold DCr at hr
  have hr0 := hr
  obtain ⟨t1, t2, t3, t4, t5, t6, t7, -, tl⟩ := hr
  unfold F_Rules_append S_Rules_append F_Rules_parseLast S_Rules_parseLast
  simp only [sSeq, sSet, sInc, sPF, sPA, sPD, sOF, sOA, sX, sIf, sSkip, sRet, sRetB, sRetV, sSw, sSel, eK, eL, eR, eF, eA, eQ, eD, eU, eB, eV, eIf, ePF, eC0, eC1, eC2, eC3, eC4, eC5, eC6, eC7, cB, cZ, cAnd, cOr, cNot, i2l, st_fn, sl_ap, if_true, if_false, ↓reduceIte, reduceIte, Nat.reduceEqDiff, Int.reduceEq, Int.reduceLT, Int.reduceLE, Int.reduceAdd, Int.reduceSub, Int.reduceMul, Int.reduceNeg, and_true, true_and, not_true, not_false_eq_true, true_or, or_true, ne_eq]
  refine ⟨fun q => absurd q (by omega), fun _ => ⟨by omega, hl, ?_⟩⟩
  rw [iAdd_id (by omega) (by omega)]
  have n23 : (st (st M 23 (M 22 1) b) 22 1 (M 22 1 + 1)) 23 = fun j => if j = M 81 31 then b else M 23 j := by
    funext j
    simp only [st_fn, Nat.reduceEqDiff, ↓reduceIte, reduceIte, if_true, if_false, t1]
  have n22 : (st (st M 23 (M 22 1) b) 22 1 (M 22 1 + 1)) 22 = fun j => if j = 1 then M 22 1 + 1 else M 22 j := by
    funext j
    simp only [st_fn, Nat.reduceEqDiff, ↓reduceIte, reduceIte, if_true, if_false]
  have hon0 : Only [22, 23] M (st (st M 23 (M 22 1) b) 22 1 (M 22 1 + 1)) := (Only.rf.set (by decide) _ _).set (by decide) _ _
  generalize st (st M 23 (M 22 1) b) 22 1 (M 22 1 + 1) = N at *
  have hon : Only [22, 23, 26, 27, 28] M N := hon0.wk (by decide)
  have hBB : bt (N 23) (N 22 1) = bt (fun j => if j = M 81 31 then b else M 104 j) (M 81 31 + 1) := by
    funext p
    unfold bt
    rw [n23, n22]
    simp only [if_true, t1]
    by_cases c : 0 ≤ p ∧ p < M 81 31 + 1
    · rw [if_pos c, if_pos c]
      by_cases c2 : p = M 81 31
      · rw [if_pos c2, if_pos c2]
      · rw [if_neg c2, if_neg c2]
        exact (t4 p c.1 (by omega)).1
    · rw [if_neg c, if_neg c]
  have hBr : ∀ p, -1 ≤ bt (N 23) (N 22 1) p ∧ bt (N 23) (N 22 1) p ≤ 255 := by
    rw [hBB]
    refine bt_r fun i h1 h2 => ?_
    split
    · exact hb
    · exact (t4 i h1 (by omega)).2
  have e1 : N 22 1 = M 81 31 + 1 := by rw [n22]; simp only [if_true, t1]
  have e8 : N 22 8 = M 22 8 := by rw [n22]; rfl
  have e9 : N 22 9 = M 22 9 := by rw [n22]; rfl
  have hPB : PB N := ⟨fun i h1 h2 => by rw [hon 1001 (by decide)]; exact hz.1 i h1 h2, fun i h1 h2 => by rw [hon 1002 (by decide)]; exact hz.2 i h1 h2, by omega, by omega, by omega, hBr⟩
  have hff := pp_f (T := fun j => if j = M 81 31 then b else M 104 j) (n := M 81 31 + 1) (a := M 22 9) (by omega) (by omega)
  rw [← hBB] at hff
  refine Rules_parsePart_ok hPB (by omega) (by omega) ?_ ?_
  · intro hf z
    simp only [sSeq, sSet, sInc, sPF, sPA, sPD, sOF, sOA, sX, sIf, sSkip, sRet, sRetB, sRetV, sSw, sSel, eK, eL, eR, eF, eA, eQ, eD, eU, eB, eV, eIf, ePF, eC0, eC1, eC2, eC3, eC4, eC5, eC6, eC7, cB, cZ, cAnd, cOr, cNot, i2l, st_fn, sl_ap, if_true, if_false, ↓reduceIte, reduceIte, Nat.reduceEqDiff, Int.reduceEq, Int.reduceLT, Int.reduceLE, Int.reduceAdd, Int.reduceSub, Int.reduceMul, Int.reduceNeg, and_true, true_and, not_true, not_false_eq_true, true_or, or_true, ne_eq]
    refine ⟨fun _ => ?_, fun q => absurd hf (fun h => q h)⟩
    rw [e1]
    refine hQ _ (((hon.set (by decide) _ _).set (by decide) _ _)) ?_
    refine Rpt_more hr0 hb (by omega) rfl ?_ ?_ ?_ (Or.inl ⟨by rw [← hBB]; exact hf, ?_, ?_, ?_⟩)
    · simp only [st_fn, Nat.reduceEqDiff, ↓reduceIte, reduceIte, if_true, if_false, n23]
    · simp only [st_fn, Nat.reduceEqDiff, ↓reduceIte, reduceIte, Int.reduceEq, if_true, if_false, e1]
    · intro k hk
      simp only [st_fn, Nat.reduceEqDiff, ↓reduceIte, reduceIte, if_true, if_false]
      exact ⟨by rw [hon0 26 (by decide)], by rw [hon0 27 (by decide)], by rw [hon0 28 (by decide)]⟩
    all_goals simp only [st_fn, Nat.reduceEqDiff, ↓reduceIte, reduceIte, Int.reduceEq, if_true, if_false, e8, e9]
    rw [← hBB, e1]
  · intro i v w e hp
    have ho := pp_ok (T := fun j => if j = M 81 31 then b else M 104 j) (n := M 81 31 + 1) (a := M 22 9) (by omega) (by rw [← hBB, hp])
    rw [← hBB, hp] at ho
    dsimp only at ho
    simp only [sSeq, sSet, sInc, sPF, sPA, sPD, sOF, sOA, sX, sIf, sSkip, sRet, sRetB, sRetV, sSw, sSel, eK, eL, eR, eF, eA, eQ, eD, eU, eB, eV, eIf, ePF, eC0, eC1, eC2, eC3, eC4, eC5, eC6, eC7, cB, cZ, cAnd, cOr, cNot, i2l, st_fn, sl_ap, if_true, if_false, ↓reduceIte, reduceIte, Nat.reduceEqDiff, Int.reduceEq, Int.reduceLT, Int.reduceLE, Int.reduceAdd, Int.reduceSub, Int.reduceMul, Int.reduceNeg, and_true, true_and, not_true, not_false_eq_true, true_or, or_true, ne_eq]
    have hp' : pp (bt (fun j => if j = M 81 31 then b else M 104 j) (M 81 31 + 1)) (M 22 9) = (-1, i, v, w, e) := by rw [← hBB]; exact hp
    have o26 : N 26 = M 26 := hon0 26 (by decide)
    have o27 : N 27 = M 27 := hon0 27 (by decide)
    have o28 : N 28 = M 28 := hon0 28 (by decide)
    refine ⟨fun q => absurd q (by simp), fun _ => ⟨fun ce => ?_, fun ce => ?_⟩⟩
    · have ce : e = N 22 1 := ce
      show Q (N 22 1) _
      rw [e1]
      refine hQ _ (((((hon.set (by decide) _ _).set (by decide) _ _).set (by decide) _ _).set (by decide) _ _).set (by decide) _ _) ?_
      refine Rpt_more hr0 hb (by omega) rfl ?_ ?_ ?_ (Or.inr ⟨e, ?_, Or.inl ⟨by omega, ?_, ?_, ?_⟩⟩)
      · simp only [st_fn, Nat.reduceEqDiff, ↓reduceIte, reduceIte, Int.reduceEq, if_true, if_false, n23]
      · simp only [st_fn, Nat.reduceEqDiff, ↓reduceIte, reduceIte, Int.reduceEq, if_true, if_false, e1]
      · intro k hk
        rw [← e8] at hk
        simp only [st_fn, Nat.reduceEqDiff, ↓reduceIte, reduceIte, Int.reduceEq, if_true, if_false, if_neg hk, o26, o27, o28, and_self]
      · simp only [st_fn, Nat.reduceEqDiff, ↓reduceIte, reduceIte, Int.reduceEq, if_true, if_false, e8]
        exact hp'
      all_goals simp only [st_fn, Nat.reduceEqDiff, ↓reduceIte, reduceIte, Int.reduceEq, if_true, if_false, e8, e9]
    · have ce : e ≠ N 22 1 := ce
      rw [F_Rules_byteAt_iff (by simp only [st_fn, Nat.reduceEqDiff, ↓reduceIte, reduceIte, Int.reduceEq, if_true, if_false]; omega)]
      simp only [st_fn, Nat.reduceEqDiff, ↓reduceIte, reduceIte, Int.reduceEq, if_true, if_false]
      rw [hBB]
      refine ⟨fun c => ?_, fun c => ?_⟩
      · rw [e1]
        rw [iAdd_id (by omega) (by omega), iAdd_id (by omega) (by omega)]
        refine hQ _ (((((((((hon.set (by decide) _ _).set (by decide) _ _).set (by decide) _ _).set (by decide) _ _).set (by decide) _ _).set (by decide) _ _).set (by decide) _ _).set (by decide) _ _).set (by decide) _ _) ?_
        refine Rpt_more hr0 hb (by omega) rfl ?_ ?_ ?_ (Or.inr ⟨e, ?_, Or.inr (Or.inr ⟨by omega, c, ?_, ?_, ?_⟩)⟩)
        · simp only [st_fn, Nat.reduceEqDiff, ↓reduceIte, reduceIte, Int.reduceEq, if_true, if_false, n23]
        · simp only [st_fn, Nat.reduceEqDiff, ↓reduceIte, reduceIte, Int.reduceEq, if_true, if_false, e1]
        · intro k hk
          rw [← e8] at hk
          simp only [st_fn, Nat.reduceEqDiff, ↓reduceIte, reduceIte, Int.reduceEq, if_true, if_false, if_neg hk, o26, o27, o28, and_self]
        · simp only [st_fn, Nat.reduceEqDiff, ↓reduceIte, reduceIte, Int.reduceEq, if_true, if_false, e8]
          exact hp'
        all_goals simp only [st_fn, Nat.reduceEqDiff, ↓reduceIte, reduceIte, Int.reduceEq, if_true, if_false, e8, e9]
      · rw [e1]
        refine hQ _ ((((((hon.set (by decide) _ _).set (by decide) _ _).set (by decide) _ _).set (by decide) _ _).set (by decide) _ _).set (by decide) _ _) ?_
        refine Rpt_more hr0 hb (by omega) rfl ?_ ?_ ?_ (Or.inr ⟨e, ?_, Or.inr (Or.inl ⟨by omega, c, ?_, ?_, ?_⟩)⟩)
        · simp only [st_fn, Nat.reduceEqDiff, ↓reduceIte, reduceIte, Int.reduceEq, if_true, if_false, n23]
        · simp only [st_fn, Nat.reduceEqDiff, ↓reduceIte, reduceIte, Int.reduceEq, if_true, if_false, e1]
        · intro k hk
          rw [← e8] at hk
          simp only [st_fn, Nat.reduceEqDiff, ↓reduceIte, reduceIte, Int.reduceEq, if_true, if_false, if_neg hk, o26, o27, o28, and_self]
        · simp only [st_fn, Nat.reduceEqDiff, ↓reduceIte, reduceIte, Int.reduceEq, if_true, if_false, e8]
          exact hp'
        all_goals simp only [st_fn, Nat.reduceEqDiff, ↓reduceIte, reduceIte, Int.reduceEq, if_true, if_false, e8, e9]
