/-! ===== the list: the reference ===== -/
theorem F_R_sumOf_iff {a : Int} {M : XM} {Q : Int → XM → Prop} (ha : 0 ≤ a ∧ a < 12) : F_R_sumOf a M Q ↔ Q (lAdd (M 113 a) (M 114 a)) M := by
  unfold F_R_sumOf S_R_sumOf
  simp only [sSeq, sSet, sInc, sPF, sPA, sPD, sOF, sOA, sX, sIf, sSkip, sRet, sRetB, sRetV, sSw, sSel, eK, eL, eR, eF, eA, eQ, eD, eU, eB, eV, eIf, ePF, eC0, eC1, eC2, eC3, eC4, eC5, eC6, eC7, cB, cZ, cAnd, cOr, cNot, i2l, st_fn, sl_ap, if_true, if_false, ↓reduceIte, reduceIte, Nat.reduceEqDiff, Int.reduceEq, Int.reduceLT, Int.reduceLE, Int.reduceAdd, Int.reduceSub, Int.reduceMul, Int.reduceNeg, and_true, true_and, not_true, not_false_eq_true, true_or, or_true, ne_eq, ha.1, ha.2]
theorem F_R_ahead_iff {a b c : Int} {M : XM} {Q : Int → XM → Prop} (ha : 0 ≤ a ∧ a < 12) (hb : 0 ≤ b ∧ b < 12) (hab : b < a) : F_R_ahead a b c M Q ↔ Q (if lAdd (M 113 b) (M 114 b) < lAdd (M 113 a) (M 114 a) ∨ (lAdd (M 113 a) (M 114 a) = lAdd (M 113 b) (M 114 b) ∧ c = 1 ∧ M 86 b < M 86 a) then 1 else 0) M := by
  unfold F_R_ahead S_R_ahead
  simp only [sSeq, sSet, sInc, sPF, sPA, sPD, sOF, sOA, sX, sIf, sSkip, sRet, sRetB, sRetV, sSw, sSel, eK, eL, eR, eF, eA, eQ, eD, eU, eB, eV, eIf, ePF, eC0, eC1, eC2, eC3, eC4, eC5, eC6, eC7, cB, cZ, cAnd, cOr, cNot, i2l, st_fn, sl_ap, if_true, if_false, ↓reduceIte, reduceIte, Nat.reduceEqDiff, Int.reduceEq, Int.reduceLT, Int.reduceLE, Int.reduceAdd, Int.reduceSub, Int.reduceMul, Int.reduceNeg, and_true, true_and, not_true, not_false_eq_true, true_or, or_true, ne_eq, F_R_sumOf_iff ha, F_R_sumOf_iff hb, ha.1, ha.2, hb.1, hb.2]
  generalize lAdd (M 113 a) (M 114 a) = u
  generalize lAdd (M 113 b) (M 114 b) = v
  have hn : ¬ a < b := by omega
  by_cases c1 : u = v
  · subst c1
    by_cases c2 : c = 1
    · by_cases c3 : M 86 a = M 86 b
      · simp [c2, c3, hn]
      · by_cases c4 : M 86 b < M 86 a <;> simp [c2, c3, c4]
    · simp [c2, hn]
  · by_cases c2 : v < u <;> simp [c1, c2]
def S_ins : XS := sSeq (sSet 5 (eF 81 45)) (sSeq (sWhile (cAnd (cZ (fun x => 0 < x) (eL 5)) (cZ (fun x => x ≠ 0) (eC3 F_R_ahead (eL 4) (eA 116 12 (eB iSub (eL 5) (eK 1))) (eL 3)))) (sSeq (sPA 116 12 (eL 5) (eA 116 12 (eB iSub (eL 5) (eK 1)))) (sInc 5 (-1)))) (sSeq (sPA 116 12 (eL 5) (eL 4)) (sOF 81 45 iAdd (eK 1))))
def S_R_findList_ (FS : XF2) (IN : XS) : XS := sSeq (sSeq (sX (eC2 FS (eL 1) (eL 2))) (sSeq (sSet 3 (eC2 F_R_says (eK 14) (eL 2))) (sSeq (sPF 81 45 (eK 0)) (sSeq (sSeq (sSet 4 (eK 0)) (sWhile (cB (fun x y => x < y) (eL 4) (eF 81 5)) (sSeq (sSeq (sPA 117 12 (eL 4) (eK (-1))) (sIf (cAnd (cB (fun x y => x ≤ y) (eA 86 12 (eL 4)) (eL 1)) (cB (fun x y => y < x) (eC1 F_R_sumOf (eL 4)) (eK 0))) IN sSkip)) (sInc 4 1)))) (sSeq (sSet 4 (eK 0)) (sWhile (cB (fun x y => x < y) (eL 4) (eF 81 45)) (sSeq (sSeq (sSet 5 (eIf (cAnd (cAnd (cB (fun x y => x = y) (eL 3) (eK 2)) (cZ (fun x => 0 < x) (eL 4))) (cB (fun x y => x = y) (eC1 F_R_sumOf (eA 116 12 (eL 4))) (eC1 F_R_sumOf (eA 116 12 (eB iSub (eL 4) (eK 1)))))) (eK 1) (eK 0))) (sPA 117 12 (eA 116 12 (eL 4)) (eIf (cZ (fun x => x ≠ 0) (eL 5)) (eA 117 12 (eA 116 12 (eB iSub (eL 4) (eK 1)))) (eB iAdd (eL 4) (eK 1))))) (sInc 4 1)))))))) sRetV
theorem S_R_findList_eq : S_R_findList = S_R_findList_ F_R_findSums S_ins := rfl
theorem R_ins_ok {M : XM} {L : XL} {t c : Int} {n : Nat} {A : Int → Int → Bool} {Qn : XL → XM → Prop} {Qr : Int → XM → Prop} (hn : M 81 45 = (n : Int)) (hn2 : n < 12) (ht : 0 ≤ t ∧ t < 12) (h4 : L 4 = t) (h3 : L 3 = c) (hv : ∀ i, 0 ≤ i → i < (n : Int) → 0 ≤ M 116 i ∧ M 116 i < t)
    (hA : ∀ b, 0 ≤ b → b < t → A t b = decide (lAdd (M 113 b) (M 114 b) < lAdd (M 113 t) (M 114 t) ∨ (lAdd (M 113 t) (M 114 t) = lAdd (M 113 b) (M 114 b) ∧ c = 1 ∧ M 86 b < M 86 t)))
    (hQ : ∀ L' M', L' 1 = L 1 → L' 2 = L 2 → L' 3 = c → L' 4 = t → OnlyR [116] [45] M M' → M' 81 45 = (n : Int) + 1 → M' 116 = insN A t n (M 116) → Qn L' M') : S_ins Qn Qr L M := by
  unfold S_ins
  simp only [sSeq, sSet, sInc, sPF, sPA, sPD, sOF, sOA, sX, sIf, sSkip, sRet, sRetB, sRetV, sSw, sSel, eK, eL, eR, eF, eA, eQ, eD, eU, eB, eV, eIf, ePF, eC0, eC1, eC2, eC3, eC4, eC5, eC6, eC7, cB, cZ, cAnd, cOr, cNot, i2l, st_fn, sl_ap, if_true, if_false, ↓reduceIte, reduceIte, Nat.reduceEqDiff, Int.reduceEq, Int.reduceLT, Int.reduceLE, Int.reduceAdd, Int.reduceSub, Int.reduceMul, Int.reduceNeg, and_true, true_and, not_true, not_false_eq_true, true_or, or_true, ne_eq]
  refine while_inv (fun L' M' => ∃ i : Nat, i ≤ n ∧ L' 5 = (i : Int) ∧ (L' 1 = L 1 ∧ L' 2 = L 2 ∧ L' 3 = c ∧ L' 4 = t) ∧ OnlyR [116] [] M M' ∧ insN A t i (M' 116) = insN A t n (M 116) ∧ ∀ j, 0 ≤ j → j < (i : Int) → M' 116 j = M 116 j) (fun L _ => (L 5).toNat) ⟨n, Nat.le_refl _, hn, ⟨rfl, rfl, h3, h4⟩, OnlyR.rf, rfl, fun _ _ _ => rfl⟩ ?_
  intro L' M' ⟨i, i1, i2, ⟨ia, ib, ic, i3⟩, i4, i5, i6⟩ Q' hQ'
  have hend : insN A t n (M 116) = upx (M' 116) i t → 0 ≤ (i : Int) ∧ (i : Int) < 12 ∧ Qn L' (st (st M' 116 i t) 81 45 (iAdd (M' 81 45) 1)) := by
    intro e
    refine ⟨by omega, by omega, ?_⟩
    have e81 : M' 81 45 = M 81 45 := i4.2 45 (by decide)
    rw [e81, hn, iAdd_id (by omega) (by omega)]
    refine hQ _ _ ia ib ic i3 (((i4.wk (by decide) (by decide)).set (by decide) (by decide) _ _).setF (by decide) _) ?_ ?_
    · simp only [st_fn, Nat.reduceEqDiff, ↓reduceIte, reduceIte, Int.reduceEq, if_true, if_false]
    · rw [st_ne _ _ _ (by decide), st_upx, e]
  simp only [sSeq, sSet, sInc, sPF, sPA, sPD, sOF, sOA, sX, sIf, sSkip, sRet, sRetB, sRetV, sSw, sSel, eK, eL, eR, eF, eA, eQ, eD, eU, eB, eV, eIf, ePF, eC0, eC1, eC2, eC3, eC4, eC5, eC6, eC7, cB, cZ, cAnd, cOr, cNot, i2l, st_fn, sl_ap, if_true, if_false, ↓reduceIte, reduceIte, Nat.reduceEqDiff, Int.reduceEq, Int.reduceLT, Int.reduceLE, Int.reduceAdd, Int.reduceSub, Int.reduceMul, Int.reduceNeg, and_true, true_and, not_true, not_false_eq_true, true_or, or_true, ne_eq, i2, i3, ic]
  refine ⟨fun c0 => ?_, fun c0 => ?_⟩
  · obtain ⟨k, rfl⟩ : ∃ k, i = k + 1 := ⟨i - 1, by omega⟩
    rw [iSub_id (by omega) (by omega)]
    have ek : ((k + 1 : Nat) : Int) - 1 = (k : Int) := by omega
    have hk := hv (k : Int) (by omega) (by omega)
    have hk2 := i6 (k : Int) (by omega) (by omega)
    have e113 : M' 113 = M 113 := i4.1 113 (by decide) (by decide)
    have e114 : M' 114 = M 114 := i4.1 114 (by decide) (by decide)
    have e86 : M' 86 = M 86 := i4.1 86 (by decide) (by decide)
    have hs : insN A t (k + 1) (M' 116) = if A t (M' 116 (k : Int)) = true then insN A t k (upx (M' 116) ((k : Int) + 1) (M' 116 (k : Int))) else upx (M' 116) ((k : Int) + 1) t := rfl
    rw [i5, hk2, hA _ hk.1 hk.2] at hs
    rw [ek]
    refine ⟨by omega, by omega, ?_⟩
    rw [F_R_ahead_iff ht (by rw [hk2]; omega) (by rw [hk2]; omega)]
    rw [e113, e114, e86, hk2]
    refine ⟨fun c2 => ?_, fun c2 => ?_⟩
    · have c2 := (b01_ne _).mp c2
      rw [if_pos (decide_eq_true c2)] at hs
      refine ⟨by omega, by omega, by omega, by omega, ?_⟩
      rw [iAdd_id (by omega) (by omega)]
      refine hQ' _ _ ⟨k, by omega, ?_, ?_, i4.set (by decide) (by decide) _ _, ?_, fun j h1 h2 => ?_⟩ ?_
      · simp only [sl_ap, if_true]
        omega
      · simp only [sl_ap, Nat.reduceEqDiff, if_false, ia, ib, ic, i3, and_self]
      · rw [st_upx, hs]
        rfl
      · rw [st_upx, upx_ap, if_neg (by omega)]
        exact i6 j h1 (by omega)
      · simp only [sl_ap, if_true, i2]
        omega
    · have c2 := fun q => c2 ((b01_ne _).mpr q)
      rw [if_neg (fun q => c2 (of_decide_eq_true q))] at hs
      exact hend hs
  · have e0 : i = 0 := by omega
    subst e0
    exact hend i5.symm
def LstR (d : XM) (lo w r : Int) (M : XM) : Prop := M 81 45 = (LN d lo w r : Int) ∧ (∀ i, 0 ≤ i → i < (LN d lo w r : Int) → M 116 i = LO d lo w r i) ∧ ∀ t, 0 ≤ t → t < d 81 5 → M 117 t = PL d lo w r t
def S2 : List Nat := [105, 106, 107, 108, 109, 110, 111, 112, 113, 114, 115, 116, 117]
theorem WeiR.go {d M M' : XM} {lo w r : Int} {S : List Nat} {F : List Int} (h : WeiR d lo w r M) (ho : OnlyR S F M M') (hS : 105 ∉ S ∧ 106 ∉ S ∧ 107 ∉ S ∧ 110 ∉ S ∧ 111 ∉ S ∧ 112 ∉ S ∧ 113 ∉ S ∧ 114 ∉ S ∧ 115 ∉ S) (hF : (33 : Int) ∉ F) : WeiR d lo w r M' := by
  refine ⟨h.1.go ho ⟨hS.1, hS.2.1, hS.2.2.1⟩ hF, ?_⟩
  rw [ho.1 110 (by decide) hS.2.2.2.1, ho.1 111 (by decide) hS.2.2.2.2.1, ho.1 112 (by decide) hS.2.2.2.2.2.1, ho.1 113 (by decide) hS.2.2.2.2.2.2.1, ho.1 114 (by decide) hS.2.2.2.2.2.2.2.1, ho.1 115 (by decide) hS.2.2.2.2.2.2.2.2]
  exact h.2
theorem R_sum_val {d M : XM} {lo w r T : Int} (hB : Base d) (h : WeiR d lo w r M) (hT : 0 ≤ T ∧ T < d 81 5) : lAdd (M 113 T) (M 114 T) = SUM d lo w r T := by
  have g := h.2.2.2.1 T hT.1 hT.2
  have b := SUM_bd hB lo w r T
  rw [g.1, g.2, lAdd_id (by unfold SUM at b; omega) (by unfold SUM at b; omega)]
  rfl
theorem R_findList_ok {d M : XM} {lo w r : Int} {Q : Int → XM → Prop} (hB : Base d) (hC : RF d M) (hlo : M 81 29 = lo) (hw : 0 ≤ w ∧ w ≤ 51) (hQ : ∀ M', OnlyR S2 [32, 33, 45] M M' → WeiR d lo w r M' → LstR d lo w r M' → Q 0 M') : F_R_findList w r M Q := by
  have v1 := hB.2.2.1.1
  have hV := hB.2.2.1
  have hr := hB.2.2.2.2.1
  have hn := DCr_n hr
  have key : ∀ (FS : XF2) (IN : XS), (∀ (Q : Int → XM → Prop), (∀ M', OnlyR S1 [32, 33] M M' → WeiR d lo w r M' → Q 0 M') → FS w r M Q) →
      (∀ (M1 : XM) (L : XL) (t : Int) (n : Nat) (Qn : XL → XM → Prop) (Qr : Int → XM → Prop), OnlyR S2 [32, 33, 45] M M1 → WeiR d lo w r M1 → L 4 = t → L 3 = rl d 14 r → M1 81 45 = (n : Int) → n < 12 → 0 ≤ t ∧ t < d 81 5 → (∀ i, 0 ≤ i → i < (n : Int) → 0 ≤ M1 116 i ∧ M1 116 i < t) → (∀ L' M', L' 1 = L 1 → L' 2 = L 2 → L' 3 = rl d 14 r → L' 4 = t → OnlyR [116] [45] M1 M' → M' 81 45 = (n : Int) + 1 → M' 116 = insN (ahB d lo w r) t n (M1 116) → Qn L' M') → IN Qn Qr L M1) → S_R_findList_ FS IN (fun _ _ => False) Q (sl (sl (fun _ => 0) 1 w) 2 r) M := by
    intro FS IN hFS hIN
    unfold S_R_findList_
    simp only [sSeq, sSet, sInc, sPF, sPA, sPD, sOF, sOA, sX, sIf, sSkip, sRet, sRetB, sRetV, sSw, sSel, eK, eL, eR, eF, eA, eQ, eD, eU, eB, eV, eIf, ePF, eC0, eC1, eC2, eC3, eC4, eC5, eC6, eC7, cB, cZ, cAnd, cOr, cNot, i2l, st_fn, sl_ap, if_true, if_false, ↓reduceIte, reduceIte, Nat.reduceEqDiff, Int.reduceEq, Int.reduceLT, Int.reduceLE, Int.reduceAdd, Int.reduceSub, Int.reduceMul, Int.reduceNeg, and_true, true_and, not_true, not_false_eq_true, true_or, or_true, ne_eq]
    refine hFS _ fun M1 o1 g1 => ?_
    refine R_says_ok g1.1 hn.1 hn.2.1 ?_
    have o1' : OnlyR S2 [32, 33, 45] M M1 := o1.wk (by decide) (by decide)
    refine while_up 4 0 (d 81 5) (fun x L M' => L 1 = w ∧ L 2 = r ∧ L 3 = rl d 14 r ∧ OnlyR S2 [32, 33, 45] M M' ∧ WeiR d lo w r M' ∧ M' 81 45 = ((rkT d lo w r x.toNat).1 : Int) ∧ EqTo (rkT d lo w r x.toNat).1 (M' 116) (rkT d lo w r x.toNat).2 ∧ ∀ t, 0 ≤ t → t < x → M' 117 t = -1) v1.1 rfl ⟨by simp only [st_fn, Nat.reduceEqDiff, ↓reduceIte, reduceIte, Int.reduceEq, if_true, if_false, sl_ap], by simp only [st_fn, Nat.reduceEqDiff, ↓reduceIte, reduceIte, Int.reduceEq, if_true, if_false, sl_ap], by simp only [st_fn, Nat.reduceEqDiff, ↓reduceIte, reduceIte, Int.reduceEq, if_true, if_false, sl_ap], o1'.setF (by decide) _, g1.go (S := []) (F := [45]) (OnlyR.rf.setF (by decide) _) (by decide) (by decide), ?_, fun i h1 h2 => absurd h2 ?_, fun i h1 h2 => absurd h2 (by omega)⟩ ?_ ?_ ?_
    · simp only [st_fn, Nat.reduceEqDiff, ↓reduceIte, reduceIte, Int.reduceEq, if_true, if_false]
      rfl
    · show ¬ i < (0 : Int)
      omega
    · intro x L M' P F h1 h2 hL ⟨_, _, _, k2, _⟩ hT hF
      simp only [sSeq, sSet, sInc, sPF, sPA, sPD, sOF, sOA, sX, sIf, sSkip, sRet, sRetB, sRetV, sSw, sSel, eK, eL, eR, eF, eA, eQ, eD, eU, eB, eV, eIf, ePF, eC0, eC1, eC2, eC3, eC4, eC5, eC6, eC7, cB, cZ, cAnd, cOr, cNot, i2l, st_fn, sl_ap, if_true, if_false, ↓reduceIte, reduceIte, Nat.reduceEqDiff, Int.reduceEq, Int.reduceLT, Int.reduceLE, Int.reduceAdd, Int.reduceSub, Int.reduceMul, Int.reduceNeg, and_true, true_and, not_true, not_false_eq_true, true_or, or_true, ne_eq, hL]
      rw [k2.2 5 (by decide), hC.2.1 5 (by decide)]
      exact ⟨hT, hF⟩
    · intro x L M' Q' hx0 hx1 hL ⟨k1, k1b, k1c, k2, k2b, k3, k4, k5⟩ hQ'
      have hC' : M' 86 = d 86 := (k2.1 86 (by decide) (by decide)).trans (hC.1 86 (by omega) (by omega) (by decide))
      have hrk := rkN_r (A := ahB d lo w r) (E := elB d lo w r) x.toNat
      have hs : rkT d lo w r (x + 1).toNat = if elB d lo w r x = true then ((rkT d lo w r x.toNat).1 + 1, insN (ahB d lo w r) x (rkT d lo w r x.toNat).1 (rkT d lo w r x.toNat).2) else rkT d lo w r x.toNat := by
        rw [show (x + 1).toNat = x.toNat + 1 by omega]
        show (if elB d lo w r ((x.toNat : Nat) : Int) = true then ((rkT d lo w r x.toNat).1 + 1, insN (ahB d lo w r) ((x.toNat : Nat) : Int) (rkT d lo w r x.toNat).1 (rkT d lo w r x.toNat).2) else rkT d lo w r x.toNat) = _
        rw [show ((x.toNat : Nat) : Int) = x by omega]
      have e36 : lAdd (M' 113 x) (M' 114 x) = SUM d lo w r x := R_sum_val hB k2b ⟨hx0, hx1⟩
      have o' : OnlyR S2 [32, 33, 45] M (st M' 117 x (-1)) := k2.set (by decide) (by decide) _ _
      have g' : WeiR d lo w r (st M' 117 x (-1)) := k2b.go (S := [117]) (F := []) (OnlyR.rf.set (by decide) (by decide) _ _) (by decide) (by decide)
      simp only [sSeq, sSet, sInc, sPF, sPA, sPD, sOF, sOA, sX, sIf, sSkip, sRet, sRetB, sRetV, sSw, sSel, eK, eL, eR, eF, eA, eQ, eD, eU, eB, eV, eIf, ePF, eC0, eC1, eC2, eC3, eC4, eC5, eC6, eC7, cB, cZ, cAnd, cOr, cNot, i2l, st_fn, sl_ap, if_true, if_false, ↓reduceIte, reduceIte, Nat.reduceEqDiff, Int.reduceEq, Int.reduceLT, Int.reduceLE, Int.reduceAdd, Int.reduceSub, Int.reduceMul, Int.reduceNeg, and_true, true_and, not_true, not_false_eq_true, true_or, or_true, ne_eq, hL, k1, hC', F_R_sumOf_iff (show 0 ≤ x ∧ x < 12 by omega), e36]
      have hno : elB d lo w r x = false → Q' (sl L 4 (iAdd x 1)) (st M' 117 x (-1)) := by
        intro c
        rw [iAdd_id (by omega) (by omega)]
        rw [c, if_neg (by decide)] at hs
        refine hQ' _ _ rfl ⟨?_, ?_, ?_, o', g', ?_, ?_, fun t b1 b2 => ?_⟩
        · simp only [sl_ap, Nat.reduceEqDiff, if_false]; exact k1
        · simp only [sl_ap, Nat.reduceEqDiff, if_false]; exact k1b
        · simp only [sl_ap, Nat.reduceEqDiff, if_false]; exact k1c
        · rw [hs, st_ne _ _ _ (by decide)]
          exact k3
        · rw [hs, st_ne _ _ _ (by decide)]
          exact k4
        · rw [st_upx, upx_ap]
          by_cases ct : t = x
          · rw [if_pos ct]
          · rw [if_neg ct]
            exact k5 t b1 (by omega)
      refine ⟨hx0, by omega, hx0, by omega, fun c1 => ⟨fun c2 => ?_, fun c2 => hno ?_⟩, fun c1 => hno ?_⟩
      · have ce : elB d lo w r x = true := decide_eq_true ⟨c1, c2⟩
        rw [ce, if_pos rfl] at hs
        refine hIN _ _ x (rkT d lo w r x.toNat).1 _ _ o' g' hL k1c ?_ ?_ ⟨hx0, hx1⟩ (fun i h1 h2 => ?_) ?_
        · rw [st_ne _ _ _ (by decide)]
          exact k3
        · have := hrk.1
          unfold rkT
          omega
        · rw [st_ne _ _ _ (by decide), k4 i h1 h2]
          have := hrk.2 i h1 h2
          unfold rkT
          omega
        · intro L' N b1 b2 b3 b4 o n45 n116
          rw [b4, iAdd_id (by omega) (by omega)]
          refine hQ' _ _ rfl ⟨?_, ?_, ?_, o'.trans o (by decide) (by decide) (by decide) (by decide), g'.go o (by decide) (by decide), ?_, ?_, fun t b1 b2 => ?_⟩
          · simp only [sl_ap, Nat.reduceEqDiff, if_false]; rw [b1]; exact k1
          · simp only [sl_ap, Nat.reduceEqDiff, if_false]; rw [b2]; exact k1b
          · simp only [sl_ap, Nat.reduceEqDiff, if_false]; exact b3
          · rw [hs, n45]
            rfl
          · rw [hs, n116, st_ne _ _ _ (by decide)]
            exact insN_eq k4
          · rw [o.1 117 (by decide) (by decide), st_upx, upx_ap]
            by_cases ct : t = x
            · rw [if_pos ct]
            · rw [if_neg ct]
              exact k5 t b1 (by omega)
      · exact decide_eq_false (fun q => c2 q.2)
      · exact decide_eq_false (fun q => c1 q.1)
    intro L1 M2 _ ⟨k1, k1b, k1c, k2, k2b, k3, k4, k5⟩
    have hLr := L_r hV lo w r
    have k3 : M2 81 45 = (LN d lo w r : Int) := k3
    have k4 : EqTo (LN d lo w r) (M2 116) (LO d lo w r) := k4
    refine while_up 4 0 (LN d lo w r) (fun x L M' => L 3 = rl d 14 r ∧ OnlyR S2 [32, 33, 45] M M' ∧ WeiR d lo w r M' ∧ M' 81 = M2 81 ∧ M' 116 = M2 116 ∧ ∀ t, 0 ≤ t → t < d 81 5 → M' 117 t = plN (LO d lo w r) (shB d lo w r) x.toNat t) (by omega) rfl ⟨by simp only [sl_ap, Nat.reduceEqDiff, if_false]; exact k1c, k2, k2b, rfl, rfl, fun t b1 b2 => k5 t b1 b2⟩ ?_ ?_ ?_
    · intro x L M' P F h1 h2 hL ⟨_, _, _, k2, _⟩ hT hF
      simp only [sSeq, sSet, sInc, sPF, sPA, sPD, sOF, sOA, sX, sIf, sSkip, sRet, sRetB, sRetV, sSw, sSel, eK, eL, eR, eF, eA, eQ, eD, eU, eB, eV, eIf, ePF, eC0, eC1, eC2, eC3, eC4, eC5, eC6, eC7, cB, cZ, cAnd, cOr, cNot, i2l, st_fn, sl_ap, if_true, if_false, ↓reduceIte, reduceIte, Nat.reduceEqDiff, Int.reduceEq, Int.reduceLT, Int.reduceLE, Int.reduceAdd, Int.reduceSub, Int.reduceMul, Int.reduceNeg, and_true, true_and, not_true, not_false_eq_true, true_or, or_true, ne_eq, hL]
      rw [k2, k3]
      exact ⟨hT, hF⟩
    · intro x L M' Q' hx0 hx1 hL ⟨j0, j1, j1b, j2, j3, j4⟩ hQ'
      have a1 := hLr.2 x hx0 hx1
      have e37 : M' 116 x = LO d lo w r x := by rw [j3]; exact k4 x hx0 hx1
      have hs : plN (LO d lo w r) (shB d lo w r) (x + 1).toNat = upx (plN (LO d lo w r) (shB d lo w r) x.toNat) (LO d lo w r x) (if shB d lo w r x = true then plN (LO d lo w r) (shB d lo w r) x.toNat (LO d lo w r (x - 1)) else x + 1) := by
        rw [show (x + 1).toNat = x.toNat + 1 by omega]
        show upx (plN (LO d lo w r) (shB d lo w r) x.toNat) (LO d lo w r ((x.toNat : Nat) : Int)) (if shB d lo w r ((x.toNat : Nat) : Int) = true then plN (LO d lo w r) (shB d lo w r) x.toNat (LO d lo w r (((x.toNat : Nat) : Int) - 1)) else ((x.toNat : Nat) : Int) + 1) = _
        rw [show ((x.toNat : Nat) : Int) = x by omega]
      have hfin : ∀ (v u : Int), v = (if shB d lo w r x = true then plN (LO d lo w r) (shB d lo w r) x.toNat (LO d lo w r (x - 1)) else x + 1) → Q' (sl (sl L 5 u) 4 (iAdd x 1)) (st M' 117 (LO d lo w r x) v) := by
        intro v u hv
        rw [iAdd_id (by omega) (by omega)]
        refine hQ' _ _ rfl ⟨by simp only [sl_ap, Nat.reduceEqDiff, if_false]; exact j0, j1.set (by decide) (by decide) _ _, j1b.go (S := [117]) (F := []) (OnlyR.rf.set (by decide) (by decide) _ _) (by decide) (by decide), j2, j3, fun t b1 b2 => ?_⟩
        rw [st_upx, hs, upx_ap, upx_ap, hv]
        by_cases ct : t = LO d lo w r x
        · rw [if_pos ct, if_pos ct]
        · rw [if_neg ct, if_neg ct]
          exact j4 t b1 b2
      have hsum : lAdd (M' 113 (LO d lo w r x)) (M' 114 (LO d lo w r x)) = SUM d lo w r (LO d lo w r x) := R_sum_val hB j1b a1
      have hx2 : iSub x 1 = x - 1 := iSub_id (by omega) (by omega)
      have hnos : shB d lo w r x = false → Q' (sl (sl L 5 0) 4 (iAdd x 1)) (st M' 117 (LO d lo w r x) (iAdd x 1)) := fun c => hfin _ _ (by rw [c, if_neg (by decide), iAdd_id (by omega) (by omega)])
      have h12 : 0 ≤ LO d lo w r x ∧ LO d lo w r x < 12 := by omega
      simp only [sSeq, sSet, sInc, sPF, sPA, sPD, sOF, sOA, sX, sIf, sSkip, sRet, sRetB, sRetV, sSw, sSel, eK, eL, eR, eF, eA, eQ, eD, eU, eB, eV, eIf, ePF, eC0, eC1, eC2, eC3, eC4, eC5, eC6, eC7, cB, cZ, cAnd, cOr, cNot, i2l, st_fn, sl_ap, if_true, if_false, ↓reduceIte, reduceIte, Nat.reduceEqDiff, Int.reduceEq, Int.reduceLT, Int.reduceLE, Int.reduceAdd, Int.reduceSub, Int.reduceMul, Int.reduceNeg, and_true, true_and, not_true, not_false_eq_true, true_or, or_true, ne_eq, hL, j0, e37, hx2, F_R_sumOf_iff h12, hsum]
      have hno2 : shB d lo w r x = false → 0 ≤ x ∧ x < 12 ∧ 0 ≤ LO d lo w r x ∧ LO d lo w r x < 12 ∧ Q' (sl (sl L 5 0) 4 (iAdd x 1)) (st M' 117 (LO d lo w r x) (iAdd x 1)) := fun c => ⟨hx0, by omega, h12.1, h12.2, hnos c⟩
      refine ⟨fun c1 => ⟨fun c2 => ?_, fun c2 => ?_⟩, fun c1 => ?_⟩
      · have a2 := hLr.2 (x - 1) (by omega) (by omega)
        have e37b : M' 116 (x - 1) = LO d lo w r (x - 1) := by rw [j3]; exact k4 (x - 1) (by omega) (by omega)
        have hsum2 : lAdd (M' 113 (LO d lo w r (x - 1))) (M' 114 (LO d lo w r (x - 1))) = SUM d lo w r (LO d lo w r (x - 1)) := R_sum_val hB j1b a2
        rw [e37b, F_R_sumOf_iff (show 0 ≤ LO d lo w r (x - 1) ∧ LO d lo w r (x - 1) < 12 by omega), hsum2]
        refine ⟨hx0, by omega, by omega, by omega, fun c3 => ?_, fun c3 => ?_⟩
        · have cs : shB d lo w r x = true := decide_eq_true ⟨c2, c1, c3⟩
          have h := j4 _ a2.1 a2.2
          rw [e37, e37b]
          exact ⟨hx0, by omega, fun _ => ⟨by omega, by omega, by omega, by omega, h12.1, h12.2, hfin _ _ (by rw [cs, if_pos rfl, h])⟩, fun q => q.elim⟩
        · rw [e37]
          have z := hno2 (decide_eq_false fun q => c3 q.2.2)
          exact ⟨z.1, z.2.1, fun q => q.elim, fun _ => z.2.2⟩
      · have z := hno2 (decide_eq_false fun q => c2 q.1)
        exact ⟨z.1, z.2.1, fun q => q.elim, fun _ => z.2.2⟩
      · have z := hno2 (decide_eq_false fun q => c1 q.2.1)
        exact ⟨z.1, z.2.1, fun q => q.elim, fun _ => z.2.2⟩
    · intro L2 M3 _ ⟨_, j1, j1b, j2, j3, j4⟩
      exact hQ M3 j1 j1b ⟨by rw [j2]; exact k3, fun i h1 h2 => by rw [j3]; exact k4 i h1 h2, j4⟩
  unfold F_R_findList
  rw [S_R_findList_eq]
  refine key _ _ (fun Q hq => R_findSums_ok hB hC hlo hw hq) (fun M1 L t n Qn Qr o g h4 h3 h45 hn ht hv hq => ?_)
  refine R_ins_ok (A := ahB d lo w r) h45 hn ⟨ht.1, by omega⟩ h4 h3 hv (fun b b1 b2 => ?_) hq
  rw [R_sum_val hB g ht, R_sum_val hB g ⟨b1, by omega⟩, (o.1 86 (by decide) (by decide)).trans (hC.1 86 (by omega) (by omega) (by decide))]
  rfl
