/-! worth -/
theorem F_M_refused_iff {x : Int} {M : XM} {Q : Int → XM → Prop} : F_M_refused x M Q ↔ Q (lSub LMIN x) M := by
  unfold F_M_refused S_M_refused
  simp only [sSeq, sSet, sInc, sPF, sPA, sPD, sOF, sOA, sX, sIf, sSkip, sRet, sRetB, sRetV, sSw, sSel, eK, eL, eR, eF, eA, eQ, eD, eU, eB, eV, eIf, ePF, eC0, eC1, eC2, eC3, eC4, eC5, eC6, eC7, cB, cZ, cAnd, cOr, cNot, i2l, st_fn, sl_ap, if_true, if_false, ↓reduceIte, reduceIte, Nat.reduceEqDiff, Int.reduceEq, Int.reduceLT, Int.reduceLE, Int.reduceAdd, Int.reduceSub, Int.reduceMul, Int.reduceNeg, and_true, true_and, not_true, not_false_eq_true, true_or, or_true, ne_eq]
theorem F_R_no_iff {x : Int} {M : XM} {Q : Int → XM → Prop} : F_R_no x M Q ↔ Q (lSub LMIN x) M := by
  unfold F_R_no S_R_no
  simp only [sSeq, sSet, sInc, sPF, sPA, sPD, sOF, sOA, sX, sIf, sSkip, sRet, sRetB, sRetV, sSw, sSel, eK, eL, eR, eF, eA, eQ, eD, eU, eB, eV, eIf, ePF, eC0, eC1, eC2, eC3, eC4, eC5, eC6, eC7, cB, cZ, cAnd, cOr, cNot, i2l, st_fn, sl_ap, if_true, if_false, ↓reduceIte, reduceIte, Nat.reduceEqDiff, Int.reduceEq, Int.reduceLT, Int.reduceLE, Int.reduceAdd, Int.reduceSub, Int.reduceMul, Int.reduceNeg, and_true, true_and, not_true, not_false_eq_true, true_or, or_true, ne_eq]
def worF (d : XM) (w s T : Int) : Int := if shr d (-1) w w T (d 90 s) (d 91 s) < 0 then 0 else shr d (-1) w w T (d 90 s) (d 91 s)
def WOR (d : XM) (w s : Int) : Int := sumN (worF d w s) (d 81 5).toNat
theorem worF_bd {d : XM} (hB : Base d) (w : Int) {s : Int} (hs : 0 ≤ s ∧ s < d 81 11) (T : Int) : 0 ≤ worF d w s T ∧ worF d w s T ≤ 46080000000000000 := by
  have g2 := hB.2.2.1.2.2.2.2.2 s hs.1 hs.2
  have h := (shr_bd hB (-1) w w T (d 90 s) (size := d 91 s) (by omega)).2
  unfold worF
  split <;> omega
theorem WOR_bdN {d : XM} (hB : Base d) (w : Int) {s : Int} (hs : 0 ≤ s ∧ s < d 81 11) {n : Nat} (hn : (n : Int) ≤ 12) : -552960000000000000 ≤ sumN (worF d w s) n ∧ sumN (worF d w s) n ≤ 552960000000000000 := by
  have h := sumN_bd (f := worF d w s) (B := 46080000000000000) (n := n) fun k _ _ => by have := worF_bd hB w hs k; omega
  omega
theorem WOR_nn {d : XM} (hB : Base d) (w : Int) {s : Int} (hs : 0 ≤ s ∧ s < d 81 11) : ∀ n : Nat, 0 ≤ sumN (worF d w s) n
  | 0 => Int.le_refl 0
  | n + 1 => by
    have ih := WOR_nn hB w hs n
    have := worF_bd hB w hs (n : Int)
    show 0 ≤ sumN (worF d w s) n + worF d w s n
    omega
theorem Tally_worthOf_ok {d M : XM} {w s : Int} {Q : Int → XM → Prop} (hB : Base d) (hC : CF d M) (hs : 0 ≤ s ∧ s < d 81 11) (hW : Wei d (-1) w w M) (hQ : Q (WOR d w s) M) : F_Tally_worthOf s M Q := by
  obtain ⟨h1, h2, h3, h4, h5, h6, h7, h8, h9, h10, h11, h12, h13, h14⟩ := hC.dct hB
  obtain ⟨v1, v2, v3, v4, v5, v6⟩ := hB.2.2.1
  have g2 := v6 s hs.1 hs.2
  unfold F_Tally_worthOf S_Tally_worthOf
  simp only [sSeq, sSet, sInc, sPF, sPA, sPD, sOF, sOA, sX, sIf, sSkip, sRet, sRetB, sRetV, sSw, sSel, eK, eL, eR, eF, eA, eQ, eD, eU, eB, eV, eIf, ePF, eC0, eC1, eC2, eC3, eC4, eC5, eC6, eC7, cB, cZ, cAnd, cOr, cNot, i2l, st_fn, sl_ap, if_true, if_false, ↓reduceIte, reduceIte, Nat.reduceEqDiff, Int.reduceEq, Int.reduceLT, Int.reduceLE, Int.reduceAdd, Int.reduceSub, Int.reduceMul, Int.reduceNeg, and_true, true_and, not_true, not_false_eq_true, true_or, or_true, ne_eq]
  refine while_up 4 0 (d 81 5) (fun x L M' => M' = M ∧ L 1 = s ∧ L 2 = sumN (worF d w s) x.toNat) v1.1 rfl ⟨rfl, rfl, rfl⟩ ?_ ?_ ?_
  · intro x L M' P F a1 a2 hL ⟨k1, _⟩ hT hF
    subst k1
    simp only [sSeq, sSet, sInc, sPF, sPA, sPD, sOF, sOA, sX, sIf, sSkip, sRet, sRetB, sRetV, sSw, sSel, eK, eL, eR, eF, eA, eQ, eD, eU, eB, eV, eIf, ePF, eC0, eC1, eC2, eC3, eC4, eC5, eC6, eC7, cB, cZ, cAnd, cOr, cNot, i2l, st_fn, sl_ap, if_true, if_false, ↓reduceIte, reduceIte, Nat.reduceEqDiff, Int.reduceEq, Int.reduceLT, Int.reduceLE, Int.reduceAdd, Int.reduceSub, Int.reduceMul, Int.reduceNeg, and_true, true_and, not_true, not_false_eq_true, true_or, or_true, ne_eq, hL, h1]
    exact ⟨hT, hF⟩
  · intro x L M' Q' hx0 hx1 hL ⟨k1, k2, k3⟩ hQ'
    subst k1
    have b1 := WOR_bdN hB w hs (n := x.toNat) (by omega)
    have b2 := worF_bd hB w hs x
    simp only [sSeq, sSet, sInc, sPF, sPA, sPD, sOF, sOA, sX, sIf, sSkip, sRet, sRetB, sRetV, sSw, sSel, eK, eL, eR, eF, eA, eQ, eD, eU, eB, eV, eIf, ePF, eC0, eC1, eC2, eC3, eC4, eC5, eC6, eC7, cB, cZ, cAnd, cOr, cNot, i2l, st_fn, sl_ap, if_true, if_false, ↓reduceIte, reduceIte, Nat.reduceEqDiff, Int.reduceEq, Int.reduceLT, Int.reduceLE, Int.reduceAdd, Int.reduceSub, Int.reduceMul, Int.reduceNeg, and_true, true_and, not_true, not_false_eq_true, true_or, or_true, ne_eq, hL, k2, h8, h9, k3]
    refine ⟨hs.1, by omega, hs.1, by omega, ?_⟩
    refine F_Tally_shareOfTold_ok (d := d) (lo := -1) (w := w) (r := w) hB ⟨hx0, by omega⟩ ⟨by omega, by omega⟩ (by omega) (hW.1 _ (by omega) (by omega)).1 (hW.2.1 x _ hx0 (by omega) (by omega) (by omega)) ?_
    have e : mMax 0 (shr d (-1) w w x (d 90 s) (d 91 s)) = worF d w s x := rfl
    rw [e, lAdd_id (by omega) (by omega), iAdd_id (by omega) (by omega)]
    refine hQ' _ _ rfl ⟨rfl, ?_, ?_⟩
    · simp only [sl_ap, Nat.reduceEqDiff, if_false]; exact k2
    · simp only [sl_ap, Nat.reduceEqDiff, if_true, if_false]
      exact (sumN_succ _ hx0).symm
  · intro L M' _ ⟨k1, k2, k3⟩
    subst k1
    rw [k3]
    exact hQ
theorem tdiv_np {a b : Int} (h : a ≤ 0) (hb : 0 < b) : a.tdiv b ≤ 0 := by
  have h1 := Int.tdiv_nonneg (a := -a) (b := b) (by omega) (by omega)
  rw [Int.neg_tdiv] at h1
  omega
theorem R_worthOf_ok {d M : XM} {w s : Int} {Q : Int → XM → Prop} (hB : Base d) (hC : RF d M) (hs : 0 ≤ s ∧ s < d 81 11) (hW : WeiR d (-1) w w M) (hQ : Q (WOR d w s) M) : F_R_worthOf s M Q := by
  obtain ⟨v1, v2, v3, v4, v5, v6⟩ := hB.2.2.1
  have g2 := v6 s hs.1 hs.2
  have e90 : M 90 = d 90 := hC.1 90 (by omega) (by omega) (by decide)
  have e91 : M 91 = d 91 := hC.1 91 (by omega) (by omega) (by decide)
  have e5 : M 81 5 = d 81 5 := hC.2.1 5 (by decide)
  have e110 := (hW.2.1 (d 90 s) (by omega) (by omega)).1
  have z2 := SZ_bd hB (-1) w (d 90 s) 2
  unfold F_R_worthOf S_R_worthOf
  simp only [sSeq, sSet, sInc, sPF, sPA, sPD, sOF, sOA, sX, sIf, sSkip, sRet, sRetB, sRetV, sSw, sSel, eK, eL, eR, eF, eA, eQ, eD, eU, eB, eV, eIf, ePF, eC0, eC1, eC2, eC3, eC4, eC5, eC6, eC7, cB, cZ, cAnd, cOr, cNot, i2l, st_fn, sl_ap, if_true, if_false, ↓reduceIte, reduceIte, Nat.reduceEqDiff, Int.reduceEq, Int.reduceLT, Int.reduceLE, Int.reduceAdd, Int.reduceSub, Int.reduceMul, Int.reduceNeg, and_true, true_and, not_true, not_false_eq_true, true_or, or_true, ne_eq, e90]
  refine ⟨hs.1, by omega, ?_⟩
  have hz : SZ d (-1) w (d 90 s) 2 ≤ 0 → ∀ T, worF d w s T = 0 := by
    intro c T
    unfold worF shr
    rw [if_neg (show ¬ 0 < SZ d (-1) w (d 90 s) 2 by omega)]
    rfl
  refine while_inv (fun L M' => M' = M ∧ ∃ x, 0 ≤ x ∧ x ≤ d 81 5 ∧ L 5 = x ∧ L 1 = s ∧ L 2 = d 90 s ∧ L 3 = sumN (worF d w s) x.toNat) (fun L _ => (d 81 5 - L 5).toNat) ⟨rfl, 0, Int.le_refl 0, v1.1, rfl, rfl, rfl, rfl⟩ ?_
  intro L M' ⟨k1, x, hx0, hx1, hL, k2, k3, k4⟩ Q' hQ'
  subst k1
  have b1 := WOR_bdN hB w hs (n := x.toNat) (by omega)
  have b2 := worF_bd hB w hs x
  simp (disch := omega) only [sSeq, sSet, sInc, sPF, sPA, sPD, sOF, sOA, sX, sIf, sSkip, sRet, sRetB, sRetV, sSw, sSel, eK, eL, eR, eF, eA, eQ, eD, eU, eB, eV, eIf, ePF, eC0, eC1, eC2, eC3, eC4, eC5, eC6, eC7, cB, cZ, cAnd, cOr, cNot, i2l, st_fn, sl_ap, if_true, if_false, ↓reduceIte, reduceIte, Nat.reduceEqDiff, Int.reduceEq, Int.reduceLT, Int.reduceLE, Int.reduceAdd, Int.reduceSub, Int.reduceMul, Int.reduceNeg, and_true, true_and, not_true, not_false_eq_true, true_or, or_true, ne_eq, hL, k2, k3, k4, e5, e91, e110, iMul_id, iAdd_id]
  refine ⟨fun cx => ⟨by omega, by omega, fun c2 => ?_, fun c2 => ?_⟩, fun cx => ?_⟩
  · have e115 := hW.2.2.1 x (d 90 s) hx0 (by omega) (by omega) (by omega)
    have bt := (shr_bd hB (-1) w w x (d 90 s) (size := d 91 s) (by omega))
    have eS : shr d (-1) w w x (d 90 s) (d 91 s) = (TO d (-1) w w x (d 90 s) * d 91 s).tdiv (SZ d (-1) w (d 90 s) 2) := if_pos c2
    simp (disch := omega) only [e115, lMul_id, lDiv_id]
    rw [← eS]
    have hfin : ∀ (v u : Int), v = sumN (worF d w s) x.toNat + worF d w s x → Q' (sl (sl (sl L 6 u) 3 v) 5 (x + 1)) M' := by
      intro v u hv
      refine hQ' _ _ ⟨rfl, x + 1, by omega, by omega, ?_, ?_, ?_, ?_⟩ ?_
      all_goals simp only [sl_ap, st_fn, Nat.reduceEqDiff, ↓reduceIte, reduceIte, Int.reduceEq, if_true, if_false]
      · exact k2
      · exact k3
      · rw [hv]; exact (sumN_succ _ hx0).symm
      · omega
    refine ⟨by omega, by omega, fun c3 => ⟨hs.1, by omega, by omega, by omega, by omega, hfin _ _ ?_⟩, fun c3 => hfin _ _ ?_⟩
    · have nn : 0 ≤ shr d (-1) w w x (d 90 s) (d 91 s) := by
        rw [eS]
        exact Int.tdiv_nonneg (Int.mul_nonneg (by omega) (by omega)) (by omega)
      have : worF d w s x = shr d (-1) w w x (d 90 s) (d 91 s) := if_neg (by omega)
      rw [this]
      rw [this] at b2
      exact lAdd_id (by omega) (by omega)
    · have np : shr d (-1) w w x (d 90 s) (d 91 s) ≤ 0 := by
        rw [eS]
        refine tdiv_np ?_ c2
        have h5 : 0 ≤ (-(TO d (-1) w w x (d 90 s))) * d 91 s := Int.mul_nonneg (by omega) (by omega)
        rw [Int.neg_mul] at h5
        omega
      have : worF d w s x = 0 := by
        unfold worF
        split <;> omega
      rw [this]
      exact lAdd_id (by omega) (by omega)
  · have e0 : sumN (worF d w s) x.toNat = WOR d w s := by
      have h0 : ∀ n : Nat, sumN (worF d w s) n = 0 := by
        intro n
        induction n with
        | zero => rfl
        | succ n ih =>
          show sumN (worF d w s) n + worF d w s n = 0
          rw [ih, hz (by omega)]
          rfl
      unfold WOR
      rw [h0, h0]
    rw [e0]
    exact hQ
  · have : x = d 81 5 := by omega
    rw [this]
    exact hQ
abbrev vWorth (d : XM) (s w : Int) : Int := if (0 ≤ s ∧ s < d 81 11) ∧ 0 ≤ w ∧ w ≤ 51 then (if sta d w s = 1 then WOR d w s else lSub LMIN (-3)) else lSub LMIN (-2)
def WoSpec (d : XM) (F : XF1) : Prop := ∀ (M : XM) (w s : Int) (Q : Int → XM → Prop), CF d M → (0 ≤ s ∧ s < d 81 11) → Wei d (-1) w w M → Q (WOR d w s) M → F s M Q
def WrSpec (d : XM) (F : XF1) : Prop := ∀ (M : XM) (w s : Int) (Q : Int → XM → Prop), RF d M → (0 ≤ s ∧ s < d 81 11) → WeiR d (-1) w w M → Q (WOR d w s) M → F s M Q
theorem wo_spec {d : XM} (hB : Base d) : WoSpec d F_Tally_worthOf := fun _ _ _ _ h1 h2 h3 h4 => Tally_worthOf_ok hB h1 h2 h3 h4
theorem wr_spec {d : XM} (hB : Base d) : WrSpec d F_R_worthOf := fun _ _ _ _ h1 h2 h3 h4 => R_worthOf_ok hB h1 h2 h3 h4
def S_M_worth_ (FG : XF2) (FW FO : XF1) : XS := sSeq (sIf (cOr (cNot (cZ (fun x => x ≠ 0) (eC1 F_Trade_isShop (eU i2l (eL 1))))) (cNot (cZ (fun x => x ≠ 0) (eC1 F_M_isWeek (eU i2l (eL 2)))))) (sRet (eC1 F_M_refused (eK (-2)))) sSkip) (sSeq (sX (eC2 FG (eL 2) (eL 2))) (sSeq (sIf (cB (fun x y => x ≠ y) (eA 32 16 (eL 1)) (eK 1)) (sRet (eC1 F_M_refused (eK (-3)))) sSkip) (sSeq (sX (eC1 FW (eK (-1)))) (sRet (eC1 FO (eL 1))))))
theorem M_worth_gen (FG : XF2) (FW FO : XF1) {d M : XM} {s w : Int} {Q : Int → XM → Prop} (hB : Base d) (hC : CF d M) (hG : GaSpec d FG) (hW : WeSpec d FW) (hO : WoSpec d FO) (hQ : ∀ M', Only SC M M' → Q (vWorth d s w) M') : S_M_worth_ FG FW FO (fun _ _ => False) Q (sl (sl (fun _ => 0) 1 s) 2 w) M := by
  obtain ⟨h1, h2, h3, h4, h5, h6, h7, h8, h9, h10, h11, h12, h13, h14⟩ := hC.dct hB
  obtain ⟨v1, v2, v3, v4, v5, v6⟩ := hB.2.2.1
  unfold S_M_worth_
  simp (disch := omega) only [sSeq, sSet, sInc, sPF, sPA, sPD, sOF, sOA, sX, sIf, sSkip, sRet, sRetB, sRetV, sSw, sSel, eK, eL, eR, eF, eA, eQ, eD, eU, eB, eV, eIf, ePF, eC0, eC1, eC2, eC3, eC4, eC5, eC6, eC7, cB, cZ, cAnd, cOr, cNot, i2l, st_fn, sl_ap, if_true, if_false, ↓reduceIte, reduceIte, Nat.reduceEqDiff, Int.reduceEq, Int.reduceLT, Int.reduceLE, Int.reduceAdd, Int.reduceSub, Int.reduceMul, Int.reduceNeg, and_true, true_and, not_true, not_false_eq_true, true_or, or_true, ne_eq, F_Trade_isShop_iff, F_M_isWeek_iff, b01_ne, h7, F_M_refused_iff]
  unfold vWorth at hQ
  by_cases c : (0 ≤ s ∧ s < d 81 11) ∧ 0 ≤ w ∧ w ≤ 51
  · rw [if_pos c] at hQ
    ((repeat' (first | (with_reducible intro _) | (with_reducible refine And.intro ?_ ?_))) <;> try (exfalso; omega))
    refine hG M w w _ hC c.2 fun M1 o1 g1 => ⟨c.1.1, by omega, ?_⟩
    rw [g1.2.2 s c.1.1 c.1.2]
    refine ⟨fun cs => ?_, fun cs => ?_⟩
    · rw [if_neg cs] at hQ
      exact hQ M1 (o1.wk (by decide))
    · rw [if_pos (Classical.byContradiction fun q => cs q)] at hQ
      refine hW M1 (-1) w w _ (hC.go o1 (by decide)) g1 fun M2 o2 g2 => ?_
      have o12 : Only SL M M2 := o1.trans o2 (by decide) (by decide)
      exact hO M2 w s _ (hC.go o12 SL_SC) c.1 g2 (hQ M2 (o12.wk SL_SC))
  · rw [if_neg c] at hQ
    ((repeat' (first | (with_reducible intro _) | (with_reducible refine And.intro ?_ ?_))) <;> try (exfalso; omega))
    all_goals exact hQ M Only.rf
def S_R_worth_ (FG : XF2) (FO : XF1) : XS := sSeq (sIf (cOr (cNot (cZ (fun x => x ≠ 0) (eC1 F_R_isShop (eU i2l (eL 1))))) (cNot (cZ (fun x => x ≠ 0) (eC1 F_R_isWeek (eU i2l (eL 2)))))) (sRet (eC1 F_R_no (eK (-2)))) sSkip) (sSeq (sX (eC2 FG (eL 2) (eL 2))) (sRet (eIf (cB (fun x y => x = y) (eA 112 16 (eL 1)) (eK 1)) (eC1 FO (eL 1)) (eC1 F_R_no (eK (-3))))))
theorem R_worth_gen (FG : XF2) (FO : XF1) {d M : XM} {s w : Int} {Q : Int → XM → Prop} (hB : Base d) (hC : RF d M) (hlo : M 81 29 = -1) (hG : FsSpec d FG) (hO : WrSpec d FO) (hQ : ∀ M', OnlyR SR SF M M' → M' 81 29 = -1 → Q (vWorth d s w) M') : S_R_worth_ FG FO (fun _ _ => False) Q (sl (sl (fun _ => 0) 1 s) 2 w) M := by
  obtain ⟨v1, v2, v3, v4, v5, v6⟩ := hB.2.2.1
  have e11 := hC.2.1 11 (by decide)
  unfold S_R_worth_
  simp (disch := omega) only [sSeq, sSet, sInc, sPF, sPA, sPD, sOF, sOA, sX, sIf, sSkip, sRet, sRetB, sRetV, sSw, sSel, eK, eL, eR, eF, eA, eQ, eD, eU, eB, eV, eIf, ePF, eC0, eC1, eC2, eC3, eC4, eC5, eC6, eC7, cB, cZ, cAnd, cOr, cNot, i2l, st_fn, sl_ap, if_true, if_false, ↓reduceIte, reduceIte, Nat.reduceEqDiff, Int.reduceEq, Int.reduceLT, Int.reduceLE, Int.reduceAdd, Int.reduceSub, Int.reduceMul, Int.reduceNeg, and_true, true_and, not_true, not_false_eq_true, true_or, or_true, ne_eq, F_R_isShop_iff, F_R_isWeek_iff, b01_ne, e11, F_R_no_iff]
  unfold vWorth at hQ
  by_cases c : (0 ≤ s ∧ s < d 81 11) ∧ 0 ≤ w ∧ w ≤ 51
  · rw [if_pos c] at hQ
    ((repeat' (first | (with_reducible intro _) | (with_reducible refine And.intro ?_ ?_))) <;> try (exfalso; omega))
    refine hG M (-1) w w _ hC hlo c.2 fun M1 o1 g1 => ⟨c.1.1, by omega, ?_⟩
    rw [g1.2.2.2.2 s c.1.1 c.1.2, sta_lo d w s c.1.1]
    have h29 : M1 81 29 = -1 := (o1.2 29 (by decide)).trans hlo
    have hq := hQ M1 (o1.wk (by decide) (by decide)) h29
    refine ⟨fun cs => ?_, fun cs => ?_⟩
    · rw [if_pos cs] at hq
      exact hO M1 w s _ (hC.go o1 (by decide) (by decide)) c.1 g1 hq
    · rw [if_neg cs] at hq
      exact hq
  · rw [if_neg c] at hQ
    ((repeat' (first | (with_reducible intro _) | (with_reducible refine And.intro ?_ ?_))) <;> try (exfalso; omega))
    all_goals exact hQ M OnlyR.rf hlo
theorem ok_worth {Z M : XM} (hZ : ZC Z) (h : Inv Z M) (x1 x2 : Int) : F_M_worth x1 x2 M (fun v M1 => F_R_worth x1 x2 M1 (fun w M2 => v = w ∧ Inv Z M2)) :=
  ok_of (FM := F_M_worth x1 x2) (FR := F_R_worth x1 x2) h (vWorth M x1 x2) (fun _ hQ => M_worth_gen F_Tally_gather F_Tally_weigh F_Tally_worthOf (h.base hZ) CF.rf (ga_spec (h.base hZ)) (we_spec (h.base hZ)) (wo_spec (h.base hZ)) hQ) (fun _ _ hC hlo hQ => R_worth_gen F_R_findSums F_R_worthOf (h.base hZ) hC hlo (fs_spec (h.base hZ)) (wr_spec (h.base hZ)) hQ)
/-! fault, rule, why -/
theorem ok_fault {Z M : XM} (hZ : ZC Z) (h : Inv Z M) : F_M_fault M (fun v M1 => F_R_fault M1 (fun w M2 => v = w ∧ Inv Z M2)) := by
  have hr := (h.base hZ).2.2.2.2.1
  unfold F_M_fault S_M_fault F_R_fault S_R_fault
  simp only [sSeq, sSet, sInc, sPF, sPA, sPD, sOF, sOA, sX, sIf, sSkip, sRet, sRetB, sRetV, sSw, sSel, eK, eL, eR, eF, eA, eQ, eD, eU, eB, eV, eIf, ePF, eC0, eC1, eC2, eC3, eC4, eC5, eC6, eC7, cB, cZ, cAnd, cOr, cNot, i2l, st_fn, sl_ap, if_true, if_false, ↓reduceIte, reduceIte, Nat.reduceEqDiff, Int.reduceEq, Int.reduceLT, Int.reduceLE, Int.reduceAdd, Int.reduceSub, Int.reduceMul, Int.reduceNeg, and_true, true_and, not_true, not_false_eq_true, true_or, or_true, ne_eq]
  refine R_reads_gen hr (RF_of Only.rf) fun M' o g => ⟨rfl, Inv_keep h (Keep_of Only.rf (o.wk (by decide) (by decide)) ?_)⟩
  rw [o.2 29 (by decide)]
  exact h.2.2.2.2.2.2.2.1
theorem F_R_isItem_iff {a : Int} {M : XM} {Q : Int → XM → Prop} : F_R_isItem a M Q ↔ Q (if 0 ≤ a ∧ a ≤ 14 then 1 else 0) M := by
  unfold F_R_isItem S_R_isItem
  simp only [sSeq, sSet, sInc, sPF, sPA, sPD, sOF, sOA, sX, sIf, sSkip, sRet, sRetB, sRetV, sSw, sSel, eK, eL, eR, eF, eA, eQ, eD, eU, eB, eV, eIf, ePF, eC0, eC1, eC2, eC3, eC4, eC5, eC6, eC7, cB, cZ, cAnd, cOr, cNot, i2l, st_fn, sl_ap, if_true, if_false, ↓reduceIte, reduceIte, Nat.reduceEqDiff, Int.reduceEq, Int.reduceLT, Int.reduceLE, Int.reduceAdd, Int.reduceSub, Int.reduceMul, Int.reduceNeg, and_true, true_and, not_true, not_false_eq_true, true_or, or_true, ne_eq, F_R_in_iff, b01_or]
abbrev vRule (d : XM) (i w : Int) : Int := if (0 ≤ i ∧ i ≤ 14) ∧ 0 ≤ w ∧ w ≤ 51 then rl d i w else -2
abbrev vWhy (d : XM) (i w : Int) : Int := if (0 ≤ i ∧ i ≤ 14) ∧ 0 ≤ w ∧ w ≤ 51 then pI d i w else -2
def S_R_rule_ (FS : XF2) : XS := sSeq (sIf (cOr (cNot (cZ (fun x => x ≠ 0) (eC1 F_R_isItem (eL 1)))) (cNot (cZ (fun x => x ≠ 0) (eC1 F_R_isWeek (eU i2l (eL 2)))))) (sRet (eK (-2))) sSkip) (sSeq (sX (eC0 F_R_reads)) (sRet (eC2 FS (eL 1) (eL 2))))
theorem R_rule_gen (FS : XF2) {d M : XM} {i w : Int} {Q : Int → XM → Prop} (hB : Base d) (hC : RF d M) (hlo : M 81 29 = -1) (hFS : ∀ (M' : XM) (Q : Int → XM → Prop), RdP d M' → Q (rl d i w) M' → FS i w M' Q) (hQ : ∀ M', OnlyR SR SF M M' → M' 81 29 = -1 → Q (vRule d i w) M') : S_R_rule_ FS (fun _ _ => False) Q (sl (sl (fun _ => 0) 1 i) 2 w) M := by
  unfold S_R_rule_
  simp only [sSeq, sSet, sInc, sPF, sPA, sPD, sOF, sOA, sX, sIf, sSkip, sRet, sRetB, sRetV, sSw, sSel, eK, eL, eR, eF, eA, eQ, eD, eU, eB, eV, eIf, ePF, eC0, eC1, eC2, eC3, eC4, eC5, eC6, eC7, cB, cZ, cAnd, cOr, cNot, i2l, st_fn, sl_ap, if_true, if_false, ↓reduceIte, reduceIte, Nat.reduceEqDiff, Int.reduceEq, Int.reduceLT, Int.reduceLE, Int.reduceAdd, Int.reduceSub, Int.reduceMul, Int.reduceNeg, and_true, true_and, not_true, not_false_eq_true, true_or, or_true, ne_eq, F_R_isItem_iff, F_R_isWeek_iff, b01_ne]
  unfold vRule at hQ
  by_cases c : (0 ≤ i ∧ i ≤ 14) ∧ 0 ≤ w ∧ w ≤ 51
  · rw [if_pos c] at hQ
    ((repeat' (first | (with_reducible intro _) | (with_reducible refine And.intro ?_ ?_))) <;> try (exfalso; omega))
    refine R_reads_gen hB.2.2.2.2.1 hC fun M' o g => hFS _ _ g ?_
    exact hQ M' (o.wk (by decide) (by decide)) ((o.2 29 (by decide)).trans hlo)
  · rw [if_neg c] at hQ
    ((repeat' (first | (with_reducible intro _) | (with_reducible refine And.intro ?_ ?_))) <;> try (exfalso; omega))
    all_goals exact hQ M OnlyR.rf hlo
theorem ok_rule {Z M : XM} (hZ : ZC Z) (h : Inv Z M) (x1 x2 : Int) : F_M_rule x1 x2 M (fun v M1 => F_R_rule x1 x2 M1 (fun w M2 => v = w ∧ Inv Z M2)) := by
  have hB := h.base hZ
  have hr := hB.2.2.2.2.1
  have hn := DCr_n hr
  refine ok_of (FM := F_M_rule x1 x2) (FR := F_R_rule x1 x2) h (vRule M x1 x2) (fun Q hQ => ?_) (fun M1 Q hC hlo hQ => ?_)
  · unfold F_M_rule S_M_rule
    simp only [sSeq, sSet, sInc, sPF, sPA, sPD, sOF, sOA, sX, sIf, sSkip, sRet, sRetB, sRetV, sSw, sSel, eK, eL, eR, eF, eA, eQ, eD, eU, eB, eV, eIf, ePF, eC0, eC1, eC2, eC3, eC4, eC5, eC6, eC7, cB, cZ, cAnd, cOr, cNot, i2l, st_fn, sl_ap, if_true, if_false, ↓reduceIte, reduceIte, Nat.reduceEqDiff, Int.reduceEq, Int.reduceLT, Int.reduceLE, Int.reduceAdd, Int.reduceSub, Int.reduceMul, Int.reduceNeg, and_true, true_and, not_true, not_false_eq_true, true_or, or_true, ne_eq, F_M_within_iff, F_M_isWeek_iff, b01_ne]
    unfold vRule at hQ
    by_cases c : (0 ≤ x1 ∧ x1 ≤ 14) ∧ 0 ≤ x2 ∧ x2 ≤ 51
    · rw [if_pos c] at hQ
      ((repeat' (first | (with_reducible intro _) | (with_reducible refine And.intro ?_ ?_))) <;> try (exfalso; omega))
      refine Rules_bindTo_gen hB CF.rf fun M1 o1 g1 => ⟨c.1.1, by omega, ?_⟩
      rw [(g1 x1 c.1.1 c.1.2).1]
      exact hQ M1 (o1.wk (by decide))
    · rw [if_neg c] at hQ
      ((repeat' (first | (with_reducible intro _) | (with_reducible refine And.intro ?_ ?_))) <;> try (exfalso; omega))
      all_goals exact hQ M Only.rf
  · exact R_rule_gen F_R_says hB hC hlo (fun M' Q g hq => R_says_ok g hn.1 hn.2.1 hq) hQ
theorem ok_why {Z M : XM} (hZ : ZC Z) (h : Inv Z M) (x1 x2 : Int) : F_M_why x1 x2 M (fun v M1 => F_R_why x1 x2 M1 (fun w M2 => v = w ∧ Inv Z M2)) := by
  have hB := h.base hZ
  have hr := hB.2.2.2.2.1
  have hn := DCr_n hr
  refine ok_of (FM := F_M_why x1 x2) (FR := F_R_why x1 x2) h (vWhy M x1 x2) (fun Q hQ => ?_) (fun M1 Q hC hlo hQ => ?_)
  · unfold F_M_why S_M_why
    simp only [sSeq, sSet, sInc, sPF, sPA, sPD, sOF, sOA, sX, sIf, sSkip, sRet, sRetB, sRetV, sSw, sSel, eK, eL, eR, eF, eA, eQ, eD, eU, eB, eV, eIf, ePF, eC0, eC1, eC2, eC3, eC4, eC5, eC6, eC7, cB, cZ, cAnd, cOr, cNot, i2l, st_fn, sl_ap, if_true, if_false, ↓reduceIte, reduceIte, Nat.reduceEqDiff, Int.reduceEq, Int.reduceLT, Int.reduceLE, Int.reduceAdd, Int.reduceSub, Int.reduceMul, Int.reduceNeg, and_true, true_and, not_true, not_false_eq_true, true_or, or_true, ne_eq, F_M_within_iff, F_M_isWeek_iff, b01_ne]
    unfold vWhy at hQ
    by_cases c : (0 ≤ x1 ∧ x1 ≤ 14) ∧ 0 ≤ x2 ∧ x2 ≤ 51
    · rw [if_pos c] at hQ
      ((repeat' (first | (with_reducible intro _) | (with_reducible refine And.intro ?_ ?_))) <;> try (exfalso; omega))
      refine Rules_bindTo_gen hB CF.rf fun M1 o1 g1 => ⟨c.1.1, by omega, ?_⟩
      rw [(g1 x1 c.1.1 c.1.2).2]
      exact hQ M1 (o1.wk (by decide))
    · rw [if_neg c] at hQ
      ((repeat' (first | (with_reducible intro _) | (with_reducible refine And.intro ?_ ?_))) <;> try (exfalso; omega))
      all_goals exact hQ M Only.rf
  · unfold F_R_why S_R_why
    simp only [sSeq, sSet, sInc, sPF, sPA, sPD, sOF, sOA, sX, sIf, sSkip, sRet, sRetB, sRetV, sSw, sSel, eK, eL, eR, eF, eA, eQ, eD, eU, eB, eV, eIf, ePF, eC0, eC1, eC2, eC3, eC4, eC5, eC6, eC7, cB, cZ, cAnd, cOr, cNot, i2l, st_fn, sl_ap, if_true, if_false, ↓reduceIte, reduceIte, Nat.reduceEqDiff, Int.reduceEq, Int.reduceLT, Int.reduceLE, Int.reduceAdd, Int.reduceSub, Int.reduceMul, Int.reduceNeg, and_true, true_and, not_true, not_false_eq_true, true_or, or_true, ne_eq, F_R_isItem_iff, F_R_isWeek_iff, b01_ne]
    unfold vWhy at hQ
    by_cases c : (0 ≤ x1 ∧ x1 ≤ 14) ∧ 0 ≤ x2 ∧ x2 ≤ 51
    · rw [if_pos c] at hQ
      ((repeat' (first | (with_reducible intro _) | (with_reducible refine And.intro ?_ ?_))) <;> try (exfalso; omega))
      refine R_reads_gen hr hC fun M' o g => R_partIn_ok g hn.1 hn.2.1 ?_
      exact hQ M' (o.wk (by decide) (by decide)) ((o.2 29 (by decide)).trans hlo)
    · rw [if_neg c] at hQ
      ((repeat' (first | (with_reducible intro _) | (with_reducible refine And.intro ?_ ?_))) <;> try (exfalso; omega))
      all_goals exact hQ M1 OnlyR.rf hlo
/-! type, wipe -/
theorem Inv_set {Z M M2 : XM} (h : Inv Z M) (hk : ∀ k, k ∉ [22, 23, 26, 27, 28, 81, 104] → M2 k = M k) (h31 : ∀ j, j ≠ 31 → M2 81 j = M 81 j) (hr : DCr M2) : Inv Z M2 := by
  obtain ⟨⟨h1, h2, h3, h4, h5, h6, h7, h8, h9, h10, h11, h12, h13, h14⟩, ⟨l1, l2, l3, l4, l5, l6, l7, l8, l9, l10, l11⟩, ⟨s1, s2⟩, v, wv, hF, m1, m2, m3⟩ := h
  have e : ∀ k, k ∉ [22, 23, 26, 27, 28, 81, 104] → M2 k = M k := hk
  refine ⟨?_, ?_, ?_, ?_, ?_, ?_, ?_, ?_, hr⟩
  · unfold DCt
    rw [e 2 (by decide), e 3 (by decide), e 4 (by decide), e 5 (by decide), e 6 (by decide), e 7 (by decide), e 8 (by decide), e 9 (by decide), e 10 (by decide), e 11 (by decide), e 12 (by decide), e 86 (by decide), e 87 (by decide), e 88 (by decide), e 89 (by decide), e 90 (by decide), e 91 (by decide), e 92 (by decide), e 93 (by decide), e 94 (by decide), e 95 (by decide), h31 5 (by decide), h31 7 (by decide), h31 11 (by decide)]
    exact ⟨h1, h2, h3, h4, h5, h6, h7, h8, h9, h10, h11, h12, h13, h14⟩
  · unfold DCl
    rw [e 13 (by decide), e 14 (by decide), e 15 (by decide), e 16 (by decide), e 17 (by decide), e 18 (by decide), e 19 (by decide), e 20 (by decide), e 21 (by decide), e 96 (by decide), e 97 (by decide), e 98 (by decide), e 99 (by decide), e 100 (by decide), e 101 (by decide), e 102 (by decide), e 103 (by decide), h31 19 (by decide), h31 18 (by decide), h31 28 (by decide)]
    exact ⟨l1, l2, l3, l4, l5, l6, l7, l8, l9, l10, l11⟩
  · unfold DCs
    rw [e 73 (by decide), h31 4 (by decide), e 75 (by decide), e 76 (by decide), e 77 (by decide), e 78 (by decide), e 79 (by decide), e 80 (by decide), e 82 (by decide), e 83 (by decide), e 84 (by decide)]
    exact ⟨s1, s2⟩
  · unfold Vt
    rw [h31 5 (by decide), h31 7 (by decide), h31 11 (by decide), e 86 (by decide), e 87 (by decide), e 88 (by decide), e 89 (by decide), e 90 (by decide), e 91 (by decide), e 92 (by decide), e 93 (by decide), e 94 (by decide)]
    exact v
  · unfold Vl
    rw [h31 19 (by decide), h31 18 (by decide), h31 11 (by decide), h31 7 (by decide), e 96 (by decide), e 97 (by decide), e 98 (by decide), e 99 (by decide), e 100 (by decide), e 101 (by decide), e 102 (by decide)]
    exact wv
  · intro k hk
    rw [e k (by simp only [List.mem_cons, List.not_mem_nil, or_false]; omega)]
    exact hF k hk
  · rw [h31 28 (by decide)]; exact m1
  · rw [h31 29 (by decide)]; exact m2
theorem ok_type {Z M : XM} (hZ : ZC Z) (h : Inv Z M) (x1 : Int) : F_M_type x1 M (fun v M1 => F_R_type x1 M1 (fun w M2 => v = w ∧ Inv Z M2)) := by
  have hB := h.base hZ
  have hr := hB.2.2.2.2.1
  have hr0 := hr
  unfold DCr Rpt at hr0
  obtain ⟨t1, t2, t3, t4, -⟩ := hr0
  unfold F_M_type S_M_type
  simp only [sSeq, sSet, sInc, sPF, sPA, sPD, sOF, sOA, sX, sIf, sSkip, sRet, sRetB, sRetV, sSw, sSel, eK, eL, eR, eF, eA, eQ, eD, eU, eB, eV, eIf, ePF, eC0, eC1, eC2, eC3, eC4, eC5, eC6, eC7, cB, cZ, cAnd, cOr, cNot, i2l, st_fn, sl_ap, if_true, if_false, ↓reduceIte, reduceIte, Nat.reduceEqDiff, Int.reduceEq, Int.reduceLT, Int.reduceLE, Int.reduceAdd, Int.reduceSub, Int.reduceMul, Int.reduceNeg, and_true, true_and, not_true, not_false_eq_true, true_or, or_true, ne_eq, F_M_within_iff, b01_ne]
  by_cases c : 0 ≤ x1 ∧ x1 ≤ 255
  · refine ⟨fun _ => ?_, fun q => absurd c q⟩
    by_cases cl : M 22 1 < 200
    · refine Rules_append_ok hr hB.2.2.2.2.2.1 c cl fun M1 o hn => ?_
      unfold F_R_type S_R_type
      simp only [sSeq, sSet, sInc, sPF, sPA, sPD, sOF, sOA, sX, sIf, sSkip, sRet, sRetB, sRetV, sSw, sSel, eK, eL, eR, eF, eA, eQ, eD, eU, eB, eV, eIf, ePF, eC0, eC1, eC2, eC3, eC4, eC5, eC6, eC7, cB, cZ, cAnd, cOr, cNot, i2l, st_fn, sl_ap, if_true, if_false, ↓reduceIte, reduceIte, Nat.reduceEqDiff, Int.reduceEq, Int.reduceLT, Int.reduceLE, Int.reduceAdd, Int.reduceSub, Int.reduceMul, Int.reduceNeg, and_true, true_and, not_true, not_false_eq_true, true_or, or_true, ne_eq, F_R_in_iff, b01_ne, o 81 (by decide)]
      refine ⟨fun _ => ⟨fun q => absurd q (by omega), fun _ => ⟨by omega, by omega, ?_⟩⟩, fun q => absurd c q⟩
      rw [iAdd_id (by omega) (by omega)]
      refine ⟨rfl, Inv_set h (fun k hk => ?_) (fun j hj => ?_) ?_⟩
      · simp only [List.mem_cons, List.not_mem_nil, or_false, not_or] at hk
        rw [st_ne _ _ _ (by omega), st_ne _ _ _ (by omega), o k (by simp only [List.mem_cons, List.not_mem_nil, or_false]; omega)]
      · simp only [st_fn, Nat.reduceEqDiff, ↓reduceIte, reduceIte, Int.reduceEq, if_true, if_false, o 81 (by decide), if_neg hj]
      · unfold DCr
        simp only [st_fn, Nat.reduceEqDiff, ↓reduceIte, reduceIte, Int.reduceEq, if_true, if_false, o 81 (by decide), o 104 (by decide)]
        exact hn
    · unfold F_Rules_append S_Rules_append F_R_type S_R_type
      simp only [sSeq, sSet, sInc, sPF, sPA, sPD, sOF, sOA, sX, sIf, sSkip, sRet, sRetB, sRetV, sSw, sSel, eK, eL, eR, eF, eA, eQ, eD, eU, eB, eV, eIf, ePF, eC0, eC1, eC2, eC3, eC4, eC5, eC6, eC7, cB, cZ, cAnd, cOr, cNot, i2l, st_fn, sl_ap, if_true, if_false, ↓reduceIte, reduceIte, Nat.reduceEqDiff, Int.reduceEq, Int.reduceLT, Int.reduceLE, Int.reduceAdd, Int.reduceSub, Int.reduceMul, Int.reduceNeg, and_true, true_and, not_true, not_false_eq_true, true_or, or_true, ne_eq, F_R_in_iff, b01_ne]
      refine ⟨fun _ => ⟨fun _ => ⟨fun _ => h, fun q => absurd (by omega) q⟩, fun q => absurd c q⟩, fun q => absurd (by omega) q⟩
  · refine ⟨fun q => absurd q c, fun _ => ?_⟩
    unfold F_R_type S_R_type
    simp only [sSeq, sSet, sInc, sPF, sPA, sPD, sOF, sOA, sX, sIf, sSkip, sRet, sRetB, sRetV, sSw, sSel, eK, eL, eR, eF, eA, eQ, eD, eU, eB, eV, eIf, ePF, eC0, eC1, eC2, eC3, eC4, eC5, eC6, eC7, cB, cZ, cAnd, cOr, cNot, i2l, st_fn, sl_ap, if_true, if_false, ↓reduceIte, reduceIte, Nat.reduceEqDiff, Int.reduceEq, Int.reduceLT, Int.reduceLE, Int.reduceAdd, Int.reduceSub, Int.reduceMul, Int.reduceNeg, and_true, true_and, not_true, not_false_eq_true, true_or, or_true, ne_eq, F_R_in_iff, b01_ne]
    exact ⟨fun q => absurd q c, fun _ => h⟩
theorem ok_wipe {Z M : XM} (hZ : ZC Z) (h : Inv Z M) : F_M_wipe M (fun v M1 => F_R_wipe M1 (fun w M2 => v = w ∧ Inv Z M2)) := by
  have hB := h.base hZ
  have hr := hB.2.2.2.2.1
  unfold DCr Rpt at hr
  obtain ⟨t1, t2, t3, t4, -⟩ := hr
  unfold F_M_wipe S_M_wipe F_Rules_clear S_Rules_clear F_R_wipe S_R_wipe
  simp only [sSeq, sSet, sInc, sPF, sPA, sPD, sOF, sOA, sX, sIf, sSkip, sRet, sRetB, sRetV, sSw, sSel, eK, eL, eR, eF, eA, eQ, eD, eU, eB, eV, eIf, ePF, eC0, eC1, eC2, eC3, eC4, eC5, eC6, eC7, cB, cZ, cAnd, cOr, cNot, i2l, st_fn, sl_ap, if_true, if_false, ↓reduceIte, reduceIte, Nat.reduceEqDiff, Int.reduceEq, Int.reduceLT, Int.reduceLE, Int.reduceAdd, Int.reduceSub, Int.reduceMul, Int.reduceNeg, and_true, true_and, not_true, not_false_eq_true, true_or, or_true, ne_eq]
  refine ⟨t1, Inv_set h (fun k hk => ?_) (fun j hj => ?_) ?_⟩
  · simp only [List.mem_cons, List.not_mem_nil, or_false, not_or] at hk
    rw [st_ne _ _ _ (by omega), st_ne _ _ _ (by omega), st_ne _ _ _ (by omega), st_ne _ _ _ (by omega), st_ne _ _ _ (by omega)]
  · simp only [st_fn, Nat.reduceEqDiff, ↓reduceIte, reduceIte, Int.reduceEq, if_true, if_false, if_neg hj]
  · unfold DCr Rpt
    simp only [st_fn, Nat.reduceEqDiff, ↓reduceIte, reduceIte, Int.reduceEq, if_true, if_false]
    refine ⟨trivial, by omega, by omega, fun i a1 a2 => absurd a2 (by omega), by omega, by omega, by omega, ⟨fun _ => 0, rfl, rfl, fun k a1 a2 => absurd a2 (by omega)⟩, Or.inr ⟨by omega, Or.inl ?_⟩⟩
    rfl
