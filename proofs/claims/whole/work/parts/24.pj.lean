/-! ===== sums: the reference ===== -/
def WeiR (d : XM) (lo w r : Int) (M : XM) : Prop := RdP d M ∧ (∀ K, 0 ≤ K → K < 4 → M 110 K = SZ d lo w K 2 ∧ M 111 K = SZ d lo w K 1) ∧ (∀ T K, 0 ≤ T → T < 12 → 0 ≤ K → K < 4 → M 115 (4 * T + K) = TO d lo w r T K) ∧ (∀ T, 0 ≤ T → T < d 81 5 → M 113 T = TOL d lo w r T ∧ M 114 T = FOL d lo w r T) ∧ ∀ s, 0 ≤ s → s < d 81 11 → M 112 s = stL d lo w s
def S1 : List Nat := [105, 106, 107, 108, 109, 110, 111, 112, 113, 114, 115]
abbrev XF2 : Type := Int → Int → XM → (Int → XM → Prop) → Prop
abbrev XF1 : Type := Int → XM → (Int → XM → Prop) → Prop
def S_R_findSums_ (FS FA : XF2) : XS := sSeq (sSeq (sX (eC2 FA (eL 1) (eL 2))) (sSeq (sSeq (sSet 3 (eK 0)) (sWhile (cB (fun x y => x < y) (eL 3) (eK 4)) (sSeq (sSeq (sPA 110 4 (eL 3) (eK 0)) (sPA 111 4 (eL 3) (eK 0))) (sInc 3 1)))) (sSeq (sSeq (sSet 3 (eK 0)) (sWhile (cB (fun x y => x < y) (eL 3) (eF 81 11)) (sSeq (sSeq (sPA 112 16 (eL 3) (eC2 FS (eL 3) (eL 1))) (sSeq (sOA 110 4 (eA 90 16 (eL 3)) iAdd (eIf (cB (fun x y => x = y) (eA 112 16 (eL 3)) (eK 2)) (eA 91 16 (eL 3)) (eK 0))) (sOA 111 4 (eA 90 16 (eL 3)) iAdd (eIf (cB (fun x y => x = y) (eA 112 16 (eL 3)) (eK 1)) (eA 91 16 (eL 3)) (eK 0))))) (sInc 3 1)))) (sSeq (sSeq (sSet 3 (eK 0)) (sWhile (cB (fun x y => x < y) (eL 3) (eK 48)) (sSeq (sPA 115 48 (eL 3) (eK 0)) (sInc 3 1)))) (sSeq (sSeq (sSet 3 (eK 0)) (sWhile (cB (fun x y => x < y) (eL 3) (eF 81 7)) (sSeq (sSeq (sSet 4 (eK 0)) (sWhile (cB (fun x y => x < y) (eL 4) (eF 81 11)) (sSeq (sIf (cB (fun x y => x = y) (eA 112 16 (eL 4)) (eK 2)) (sSeq (sSet 5 (eB lMul (eU i2l (eC2 F_R_says (eB iAdd (eK 6) (eA 88 24 (eL 3))) (eL 2))) (eU i2l (eC2 F_R_says (eB iAdd (eK 10) (eA 90 16 (eL 4))) (eL 2))))) (sOA 115 48 (eB iAdd (eB iMul (eK 4) (eA 87 24 (eL 3))) (eA 90 16 (eL 4))) lAdd (eV lDiv (eB lMul (eA 108 384 (eB iAdd (eB iMul (eK 16) (eL 3)) (eL 4))) (eL 5)) (eK 100)))) sSkip) (sInc 4 1)))) (sInc 3 1)))) (sSeq (sSet 3 (eK 0)) (sWhile (cB (fun x y => x < y) (eL 3) (eF 81 5)) (sSeq (sSeq (sPA 113 12 (eL 3) (eK 0)) (sSeq (sPA 114 12 (eL 3) (eK 0)) (sSeq (sSet 4 (eK 0)) (sWhile (cB (fun x y => x < y) (eL 4) (eK 4)) (sSeq (sSeq (sOA 113 12 (eL 3) lAdd (eA 115 48 (eB iAdd (eB iMul (eK 4) (eL 3)) (eL 4)))) (sOA 114 12 (eL 3) lAdd (eIf (cZ (fun x => x = 0) (eA 110 4 (eL 4))) (eK 0) (eV lDiv (eB lMul (eA 115 48 (eB iAdd (eB iMul (eK 4) (eL 3)) (eL 4))) (eU i2l (eA 111 4 (eL 4)))) (eU i2l (eA 110 4 (eL 4))))))) (sInc 4 1)))))) (sInc 3 1))))))))) sRetV
theorem R_findSums_gen (FS FA : XF2) {d M : XM} {lo w r : Int} {Q : Int → XM → Prop} (hB : Base d) (hC : RF d M) (hlo : M 81 29 = lo) (hw : 0 ≤ w ∧ w ≤ 51)
    (hFS : ∀ (M : XM) (s : Int) (Q : Int → XM → Prop), RF d M → 0 ≤ s ∧ s < d 81 11 → Q (stL d (M 81 29) w s) M → FS s w M Q)
    (hFA : ∀ (M : XM) (Q : Int → XM → Prop), RF d M → (∀ M', OnlyR [105, 106, 107, 108, 109] [32, 33] M M' → GatR d w r M' → Q 0 M') → FA w r M Q)
    (hQ : ∀ M', OnlyR S1 [32, 33] M M' → WeiR d lo w r M' → Q 0 M') : S_R_findSums_ FS FA (fun _ _ => False) Q (sl (sl (fun _ => 0) 1 w) 2 r) M := by
  have hVt := hB.2.2.1
  have hVl := hB.2.2.2.1
  have hr := hB.2.2.2.2.1
  have v1 := hVt.1
  have v2 := hVt.2.1
  have v3 := hVt.2.2.1
  have hn := DCr_n hr
  have hlo' : ∀ N, OnlyR S1 [32, 33] M N → N 81 29 = lo := fun N h => (h.2 29 (by decide)).trans hlo
  unfold S_R_findSums_
  simp only [sSeq, sSet, sInc, sPF, sPA, sPD, sOF, sOA, sX, sIf, sSkip, sRet, sRetB, sRetV, sSw, sSel, eK, eL, eR, eF, eA, eQ, eD, eU, eB, eV, eIf, ePF, eC0, eC1, eC2, eC3, eC4, eC5, eC6, eC7, cB, cZ, cAnd, cOr, cNot, i2l, st_fn, sl_ap, if_true, if_false, ↓reduceIte, reduceIte, Nat.reduceEqDiff, Int.reduceEq, Int.reduceLT, Int.reduceLE, Int.reduceAdd, Int.reduceSub, Int.reduceMul, Int.reduceNeg, and_true, true_and, not_true, not_false_eq_true, true_or, or_true, ne_eq]
  refine hFA M _ hC ?_
  intro M1 o1 g1
  have o1 : OnlyR S1 [32, 33] M M1 := o1.wk (by decide) (by decide)
  have goG : ∀ {N N' : XM}, GatR d w r N → (OnlyR [110, 111, 112, 113, 114, 115] [] N N') → GatR d w r N' := by
    intro N N' h o
    refine ⟨h.1.go o (by decide) (by decide), fun s t b1 b2 b3 b4 => ?_⟩
    rw [o.1 108 (by decide) (by decide)]
    exact h.2 s t b1 b2 b3 b4
  refine while_up 3 0 4 (fun x L M' => L 1 = w ∧ L 2 = r ∧ OnlyR S1 [32, 33] M M' ∧ GatR d w r M' ∧ ∀ i, 0 ≤ i → i < x → M' 110 i = 0 ∧ M' 111 i = 0) (by omega) rfl ⟨rfl, rfl, o1, g1, fun i h1 h2 => absurd h2 (by omega)⟩ ?_ ?_ ?_
  · intro x L M' P F h1 h2 hL _ hT hF
    simp only [sSeq, sSet, sInc, sPF, sPA, sPD, sOF, sOA, sX, sIf, sSkip, sRet, sRetB, sRetV, sSw, sSel, eK, eL, eR, eF, eA, eQ, eD, eU, eB, eV, eIf, ePF, eC0, eC1, eC2, eC3, eC4, eC5, eC6, eC7, cB, cZ, cAnd, cOr, cNot, i2l, st_fn, sl_ap, if_true, if_false, ↓reduceIte, reduceIte, Nat.reduceEqDiff, Int.reduceEq, Int.reduceLT, Int.reduceLE, Int.reduceAdd, Int.reduceSub, Int.reduceMul, Int.reduceNeg, and_true, true_and, not_true, not_false_eq_true, true_or, or_true, ne_eq, hL]
    exact ⟨hT, hF⟩
  · intro x L M' Q' hx0 hx1 hL ⟨j1, j2, j3, j4, j5⟩ hQ'
    simp (disch := omega) only [sSeq, sSet, sInc, sPF, sPA, sPD, sOF, sOA, sX, sIf, sSkip, sRet, sRetB, sRetV, sSw, sSel, eK, eL, eR, eF, eA, eQ, eD, eU, eB, eV, eIf, ePF, eC0, eC1, eC2, eC3, eC4, eC5, eC6, eC7, cB, cZ, cAnd, cOr, cNot, i2l, st_fn, sl_ap, if_true, if_false, ↓reduceIte, reduceIte, Nat.reduceEqDiff, Int.reduceEq, Int.reduceLT, Int.reduceLE, Int.reduceAdd, Int.reduceSub, Int.reduceMul, Int.reduceNeg, and_true, true_and, not_true, not_false_eq_true, true_or, or_true, ne_eq, hL, iAdd_id]
    refine ⟨hx0, hx1, hx0, hx1, hQ' _ _ rfl ⟨?_, ?_, (j3.set (by decide) (by decide) _ _).set (by decide) (by decide) _ _, goG j4 ((OnlyR.rf.set (by decide) (by decide) _ _).set (by decide) (by decide) _ _), fun i h1 h2 => ?_⟩⟩
    · simp only [sl_ap, Nat.reduceEqDiff, if_false]; exact j1
    · simp only [sl_ap, Nat.reduceEqDiff, if_false]; exact j2
    · simp only [st_fn, Nat.reduceEqDiff, if_true, if_false]
      by_cases c : i = x
      · rw [if_pos c, if_pos c]
        exact ⟨rfl, rfl⟩
      · rw [if_neg c, if_neg c]
        exact j5 i h1 (by omega)
  intro L1 M2 _ ⟨j1, j2, j3, j4, j5⟩
  -- the shops
  refine while_up 3 0 (d 81 11) (fun x L M' => L 1 = w ∧ L 2 = r ∧ OnlyR S1 [32, 33] M M' ∧ GatR d w r M' ∧ (∀ K, 0 ≤ K → K < 4 → M' 110 K = sumN (szF d lo w K 2) x.toNat ∧ M' 111 K = sumN (szF d lo w K 1) x.toNat) ∧ ∀ s, 0 ≤ s → s < x → M' 112 s = stL d lo w s) v3.1 rfl ⟨by simp only [sl_ap, Nat.reduceEqDiff, if_false]; exact j1, by simp only [sl_ap, Nat.reduceEqDiff, if_false]; exact j2, j3, j4, fun K b1 b2 => j5 K b1 b2, fun s h1 h2 => absurd h2 (by omega)⟩ ?_ ?_ ?_
  · intro x L M' P F h1 h2 hL ⟨_, _, k2, _⟩ hT hF
    simp only [sSeq, sSet, sInc, sPF, sPA, sPD, sOF, sOA, sX, sIf, sSkip, sRet, sRetB, sRetV, sSw, sSel, eK, eL, eR, eF, eA, eQ, eD, eU, eB, eV, eIf, ePF, eC0, eC1, eC2, eC3, eC4, eC5, eC6, eC7, cB, cZ, cAnd, cOr, cNot, i2l, st_fn, sl_ap, if_true, if_false, ↓reduceIte, reduceIte, Nat.reduceEqDiff, Int.reduceEq, Int.reduceLT, Int.reduceLE, Int.reduceAdd, Int.reduceSub, Int.reduceMul, Int.reduceNeg, and_true, true_and, not_true, not_false_eq_true, true_or, or_true, ne_eq, hL]
    rw [(hC.go k2 (by decide) (by decide)).2.1 11 (by decide)]
    exact ⟨hT, hF⟩
  · intro x L M' Q' hx0 hx1 hL ⟨p1, p2, p3, p4, p5, p6⟩ hQ'
    have hC' := hC.go p3 (by decide) (by decide)
    have e90 : M' 90 = d 90 := hC'.1 90 (by omega) (by omega) (by decide)
    have e91 : M' 91 = d 91 := hC'.1 91 (by omega) (by omega) (by decide)
    have g2 := hVt.2.2.2.2.2 x hx0 hx1
    have q1 := p5 (d 90 x) (by omega) (by omega)
    have b1 := SZ_bdN hB lo w (d 90 x) 2 (n := x.toNat) (by omega)
    have b2 := SZ_bdN hB lo w (d 90 x) 1 (n := x.toNat) (by omega)
    have hz : ∀ K v : Int, sumN (szF d lo w K v) (x + 1).toNat = sumN (szF d lo w K v) x.toNat + szF d lo w K v x := fun K v => sumN_succ _ hx0
    have hst2 := stL_r (d := d) (lo := lo) (w := w) (s := x)
    simp only [sSeq, sSet, sInc, sPF, sPA, sPD, sOF, sOA, sX, sIf, sSkip, sRet, sRetB, sRetV, sSw, sSel, eK, eL, eR, eF, eA, eQ, eD, eU, eB, eV, eIf, ePF, eC0, eC1, eC2, eC3, eC4, eC5, eC6, eC7, cB, cZ, cAnd, cOr, cNot, i2l, st_fn, sl_ap, if_true, if_false, ↓reduceIte, reduceIte, Nat.reduceEqDiff, Int.reduceEq, Int.reduceLT, Int.reduceLE, Int.reduceAdd, Int.reduceSub, Int.reduceMul, Int.reduceNeg, and_true, true_and, not_true, not_false_eq_true, true_or, or_true, ne_eq, hL, p1, e90, e91]
    refine hFS M' x _ hC' ⟨hx0, hx1⟩ ?_
    rw [hlo' M' p3]
    simp (disch := omega) only [sSeq, sSet, sInc, sPF, sPA, sPD, sOF, sOA, sX, sIf, sSkip, sRet, sRetB, sRetV, sSw, sSel, eK, eL, eR, eF, eA, eQ, eD, eU, eB, eV, eIf, ePF, eC0, eC1, eC2, eC3, eC4, eC5, eC6, eC7, cB, cZ, cAnd, cOr, cNot, i2l, st_fn, sl_ap, if_true, if_false, ↓reduceIte, reduceIte, Nat.reduceEqDiff, Int.reduceEq, Int.reduceLT, Int.reduceLE, Int.reduceAdd, Int.reduceSub, Int.reduceMul, Int.reduceNeg, and_true, true_and, not_true, not_false_eq_true, true_or, or_true, ne_eq, e90, e91, q1.1, q1.2, iAdd_id]
    have hfin : ∀ a b : Int, a = sumN (szF d lo w (d 90 x) 2) (x + 1).toNat → b = sumN (szF d lo w (d 90 x) 1) (x + 1).toNat → Q' (sl L 3 (x + 1)) (st (st (st M' 112 x (stL d lo w x)) 110 (d 90 x) a) 111 (d 90 x) b) := by
      intro a b ea eb
      refine hQ' _ _ rfl ⟨?_, ?_, ((p3.set (by decide) (by decide) _ _).set (by decide) (by decide) _ _).set (by decide) (by decide) _ _, goG p4 (((OnlyR.rf.set (by decide) (by decide) _ _).set (by decide) (by decide) _ _).set (by decide) (by decide) _ _), fun K b1 b2 => ?_, fun s b1 b2 => ?_⟩
      · simp only [sl_ap, Nat.reduceEqDiff, if_false]; exact p1
      · simp only [sl_ap, Nat.reduceEqDiff, if_false]; exact p2
      · simp only [st_fn, Nat.reduceEqDiff, if_true, if_false]
        by_cases ck : K = d 90 x
        · rw [if_pos ck, if_pos ck, ck, ea, eb]
          exact ⟨rfl, rfl⟩
        · rw [if_neg ck, if_neg ck, hz, hz, (p5 K b1 b2).1, (p5 K b1 b2).2]
          unfold szF
          rw [if_neg (fun q => ck q.1.symm), if_neg (fun q => ck q.1.symm)]
          omega
      · simp only [st_fn, Nat.reduceEqDiff, if_true, if_false]
        by_cases cs : s = x
        · rw [if_pos cs, cs]
        · rw [if_neg cs]
          exact p6 s b1 (by omega)
    rw [hz, hz] at hfin
    unfold szF at hfin
    have e2 : (sumN (fun s => if d 90 s = d 90 x ∧ stL d lo w s = 2 then d 91 s else 0) x.toNat) = sumN (szF d lo w (d 90 x) 2) x.toNat := rfl
    have e1 : (sumN (fun s => if d 90 s = d 90 x ∧ stL d lo w s = 1 then d 91 s else 0) x.toNat) = sumN (szF d lo w (d 90 x) 1) x.toNat := rfl
    rw [e2, e1] at hfin
    rcases hst2.2.1 with c | c | c
    all_goals (rw [c] at hfin ⊢)
    all_goals repeat' (first | (with_reducible intro _) | (with_reducible refine And.intro ?_ ?_))
    all_goals first
      | omega
      | (exfalso; omega)
      | exact hfin _ _ (by simp) (by simp)
  intro L2 M3 _ ⟨p1, p2, p3, p4, p5, p6⟩
  refine while_up 3 0 48 (fun x L M' => L 1 = w ∧ L 2 = r ∧ OnlyR S1 [32, 33] M M' ∧ GatR d w r M' ∧ M' 110 = M3 110 ∧ M' 111 = M3 111 ∧ M' 112 = M3 112 ∧ ∀ i, 0 ≤ i → i < x → M' 115 i = 0) (by omega) rfl ⟨by simp only [sl_ap, Nat.reduceEqDiff, if_false]; exact p1, by simp only [sl_ap, Nat.reduceEqDiff, if_false]; exact p2, p3, p4, rfl, rfl, rfl, fun i h1 h2 => absurd h2 (by omega)⟩ ?_ ?_ ?_
  · intro x L M' P F h1 h2 hL _ hT hF
    simp only [sSeq, sSet, sInc, sPF, sPA, sPD, sOF, sOA, sX, sIf, sSkip, sRet, sRetB, sRetV, sSw, sSel, eK, eL, eR, eF, eA, eQ, eD, eU, eB, eV, eIf, ePF, eC0, eC1, eC2, eC3, eC4, eC5, eC6, eC7, cB, cZ, cAnd, cOr, cNot, i2l, st_fn, sl_ap, if_true, if_false, ↓reduceIte, reduceIte, Nat.reduceEqDiff, Int.reduceEq, Int.reduceLT, Int.reduceLE, Int.reduceAdd, Int.reduceSub, Int.reduceMul, Int.reduceNeg, and_true, true_and, not_true, not_false_eq_true, true_or, or_true, ne_eq, hL]
    exact ⟨hT, hF⟩
  · intro x L M' Q' hx0 hx1 hL ⟨j1, j2, j3, j4, j5, j6, j7, j8⟩ hQ'
    simp (disch := omega) only [sSeq, sSet, sInc, sPF, sPA, sPD, sOF, sOA, sX, sIf, sSkip, sRet, sRetB, sRetV, sSw, sSel, eK, eL, eR, eF, eA, eQ, eD, eU, eB, eV, eIf, ePF, eC0, eC1, eC2, eC3, eC4, eC5, eC6, eC7, cB, cZ, cAnd, cOr, cNot, i2l, st_fn, sl_ap, if_true, if_false, ↓reduceIte, reduceIte, Nat.reduceEqDiff, Int.reduceEq, Int.reduceLT, Int.reduceLE, Int.reduceAdd, Int.reduceSub, Int.reduceMul, Int.reduceNeg, and_true, true_and, not_true, not_false_eq_true, true_or, or_true, ne_eq, hL, iAdd_id]
    refine ⟨hx0, hx1, hQ' _ _ rfl ⟨?_, ?_, j3.set (by decide) (by decide) _ _, goG j4 (OnlyR.rf.set (by decide) (by decide) _ _), j5, j6, j7, fun i h1 h2 => ?_⟩⟩
    · simp only [sl_ap, Nat.reduceEqDiff, if_false]; exact j1
    · simp only [sl_ap, Nat.reduceEqDiff, if_false]; exact j2
    · simp only [st_fn, if_true]
      by_cases c : i = x
      · rw [if_pos c]
      · rw [if_neg c]
        exact j8 i h1 (by omega)
  intro L3 M4 _ ⟨j1, j2, j3, j4, j5, j6, j7, j8⟩
  -- what is told, thing by thing
  refine while_up 3 0 (d 81 7) (fun x L M' => L 1 = w ∧ L 2 = r ∧ OnlyR S1 [32, 33] M M' ∧ GatR d w r M' ∧ M' 110 = M3 110 ∧ M' 111 = M3 111 ∧ M' 112 = M3 112 ∧ ∀ T K, 0 ≤ T → T < 12 → 0 ≤ K → K < 4 → M' 115 (4 * T + K) = sumN (fun t => sumN (fun s => toF d lo w r T K s t) (d 81 11).toNat) x.toNat) v2.1 rfl ⟨by simp only [sl_ap, Nat.reduceEqDiff, if_false]; exact j1, by simp only [sl_ap, Nat.reduceEqDiff, if_false]; exact j2, j3, j4, j5, j6, j7, fun T K b1 b2 b3 b4 => j8 _ (by omega) (by omega)⟩ ?_ ?_ ?_
  · intro x L M' P F h1 h2 hL ⟨_, _, k2, _⟩ hT hF
    simp only [sSeq, sSet, sInc, sPF, sPA, sPD, sOF, sOA, sX, sIf, sSkip, sRet, sRetB, sRetV, sSw, sSel, eK, eL, eR, eF, eA, eQ, eD, eU, eB, eV, eIf, ePF, eC0, eC1, eC2, eC3, eC4, eC5, eC6, eC7, cB, cZ, cAnd, cOr, cNot, i2l, st_fn, sl_ap, if_true, if_false, ↓reduceIte, reduceIte, Nat.reduceEqDiff, Int.reduceEq, Int.reduceLT, Int.reduceLE, Int.reduceAdd, Int.reduceSub, Int.reduceMul, Int.reduceNeg, and_true, true_and, not_true, not_false_eq_true, true_or, or_true, ne_eq, hL]
    rw [(hC.go k2 (by decide) (by decide)).2.1 7 (by decide)]
    exact ⟨hT, hF⟩
  · intro x L M' Q' hx0 hx1 hL ⟨k1, k2, k3, k4, k5, k6, k7, k8⟩ hQ'
    have g1 := hVt.2.2.2.2.1 x hx0 hx1
    simp only [sSeq, sSet, sInc, sPF, sPA, sPD, sOF, sOA, sX, sIf, sSkip, sRet, sRetB, sRetV, sSw, sSel, eK, eL, eR, eF, eA, eQ, eD, eU, eB, eV, eIf, ePF, eC0, eC1, eC2, eC3, eC4, eC5, eC6, eC7, cB, cZ, cAnd, cOr, cNot, i2l, st_fn, sl_ap, if_true, if_false, ↓reduceIte, reduceIte, Nat.reduceEqDiff, Int.reduceEq, Int.reduceLT, Int.reduceLE, Int.reduceAdd, Int.reduceSub, Int.reduceMul, Int.reduceNeg, and_true, true_and, not_true, not_false_eq_true, true_or, or_true, ne_eq, hL]
    have hbs : ∀ (T K : Int) (n : Nat), (n : Int) ≤ d 81 11 → -1200000000000 ≤ sumN (fun s => toF d lo w r T K s x) n ∧ sumN (fun s => toF d lo w r T K s x) n ≤ 1200000000000 := by
      intro T K n hn
      have h := sumN_bd (f := fun s => toF d lo w r T K s x) (B := 75000000000) (n := n) fun s h1 h2 => toF_bd hB lo w r T K ⟨h1, by omega⟩ ⟨hx0, hx1⟩
      omega
    have hbt : ∀ (T K : Int), -28800000000000 ≤ sumN (fun t => sumN (fun s => toF d lo w r T K s t) (d 81 11).toNat) x.toNat ∧ sumN (fun t => sumN (fun s => toF d lo w r T K s t) (d 81 11).toNat) x.toNat ≤ 28800000000000 := by
      intro T K
      have h := sumN_bd (f := fun t => sumN (fun s => toF d lo w r T K s t) (d 81 11).toNat) (B := 1200000000000) (n := x.toNat) fun t h1 h2 => by
        have h := sumN_bd (f := fun s => toF d lo w r T K s t) (B := 75000000000) (n := (d 81 11).toNat) fun s h3 h4 => toF_bd hB lo w r T K ⟨h3, by omega⟩ ⟨h1, by omega⟩
        omega
      omega
    refine while_up 4 0 (d 81 11) (fun y L2 N => L2 1 = w ∧ L2 2 = r ∧ L2 3 = x ∧ OnlyR S1 [32, 33] M N ∧ GatR d w r N ∧ N 110 = M3 110 ∧ N 111 = M3 111 ∧ N 112 = M3 112 ∧ ∀ T K, 0 ≤ T → T < 12 → 0 ≤ K → K < 4 → N 115 (4 * T + K) = sumN (fun t => sumN (fun s => toF d lo w r T K s t) (d 81 11).toNat) x.toNat + sumN (fun s => toF d lo w r T K s x) y.toNat) v3.1 rfl ⟨by simp only [sl_ap, Nat.reduceEqDiff, if_false]; exact k1, by simp only [sl_ap, Nat.reduceEqDiff, if_false]; exact k2, by simp only [sl_ap, Nat.reduceEqDiff, if_false]; exact hL, k3, k4, k5, k6, k7, fun T K b1 b2 b3 b4 => by rw [k8 T K b1 b2 b3 b4]; exact (Int.add_zero _).symm⟩ ?_ ?_ ?_
    · intro y L2 N P F h1 h2 hL2 ⟨_, _, _, a3, _⟩ hT hF
      simp only [sSeq, sSet, sInc, sPF, sPA, sPD, sOF, sOA, sX, sIf, sSkip, sRet, sRetB, sRetV, sSw, sSel, eK, eL, eR, eF, eA, eQ, eD, eU, eB, eV, eIf, ePF, eC0, eC1, eC2, eC3, eC4, eC5, eC6, eC7, cB, cZ, cAnd, cOr, cNot, i2l, st_fn, sl_ap, if_true, if_false, ↓reduceIte, reduceIte, Nat.reduceEqDiff, Int.reduceEq, Int.reduceLT, Int.reduceLE, Int.reduceAdd, Int.reduceSub, Int.reduceMul, Int.reduceNeg, and_true, true_and, not_true, not_false_eq_true, true_or, or_true, ne_eq, hL2]
      rw [(hC.go a3 (by decide) (by decide)).2.1 11 (by decide)]
      exact ⟨hT, hF⟩
    · intro y L2 N Q2 hy0 hy1 hL2 ⟨a1, a2, a3, a4, a5, a6, a7, a8, a9⟩ hQ2
      have hC' := hC.go a4 (by decide) (by decide)
      have e88 : N 88 = d 88 := hC'.1 88 (by omega) (by omega) (by decide)
      have e90 : N 90 = d 90 := hC'.1 90 (by omega) (by omega) (by decide)
      have e87 : N 87 = d 87 := hC'.1 87 (by omega) (by omega) (by decide)
      have e112 : N 112 y = stL d lo w y := by rw [a8]; exact p6 y hy0 hy1
      have g2 := hVt.2.2.2.2.2 y hy0 hy1
      have e108 : N 108 (16 * x + y) = amt d w r y x := a5.2 y x hy0 (by omega) hx0 (by omega)
      have hsuc : ∀ T K : Int, sumN (fun s => toF d lo w r T K s x) (y + 1).toNat = sumN (fun s => toF d lo w r T K s x) y.toNat + toF d lo w r T K y x := fun T K => sumN_succ _ hy0
      simp (disch := omega) only [sSeq, sSet, sInc, sPF, sPA, sPD, sOF, sOA, sX, sIf, sSkip, sRet, sRetB, sRetV, sSw, sSel, eK, eL, eR, eF, eA, eQ, eD, eU, eB, eV, eIf, ePF, eC0, eC1, eC2, eC3, eC4, eC5, eC6, eC7, cB, cZ, cAnd, cOr, cNot, i2l, st_fn, sl_ap, if_true, if_false, ↓reduceIte, reduceIte, Nat.reduceEqDiff, Int.reduceEq, Int.reduceLT, Int.reduceLE, Int.reduceAdd, Int.reduceSub, Int.reduceMul, Int.reduceNeg, and_true, true_and, not_true, not_false_eq_true, true_or, or_true, ne_eq, hL2, a1, a2, a3, e88, e90, e87, e112, iAdd_id, iMul_id]
      refine ⟨hy0, by omega, fun c => ?_, fun c => ?_⟩
      · refine ⟨hx0, by omega, R_says_ok a5.1 hn.1 hn.2.1 ⟨hy0, by omega, ?_⟩⟩
        rw [e90, iAdd_id (by omega) (by omega)]
        refine R_says_ok a5.1 hn.1 hn.2.1 ?_
        have f1 := rl_fk hr r (i := 6 + d 88 x) (by omega) (by omega)
        have f2 := rl_fk hr r (i := 10 + d 90 y) (by omega) (by omega)
        have f3 := mul_bd (a := rl d (6 + d 88 x) r) (A := 500) (by omega) f2 (by omega)
        have hh := hun_bd hB w r ⟨hy0, hy1⟩ ⟨hx0, hx1⟩
        rw [lMul_id (x := rl d (6 + d 88 x) r) (by omega) (by omega)]
        simp (disch := omega) only [sSeq, sSet, sInc, sPF, sPA, sPD, sOF, sOA, sX, sIf, sSkip, sRet, sRetB, sRetV, sSw, sSel, eK, eL, eR, eF, eA, eQ, eD, eU, eB, eV, eIf, ePF, eC0, eC1, eC2, eC3, eC4, eC5, eC6, eC7, cB, cZ, cAnd, cOr, cNot, i2l, st_fn, sl_ap, if_true, if_false, ↓reduceIte, reduceIte, Nat.reduceEqDiff, Int.reduceEq, Int.reduceLT, Int.reduceLE, Int.reduceAdd, Int.reduceSub, Int.reduceMul, Int.reduceNeg, and_true, true_and, not_true, not_false_eq_true, true_or, or_true, ne_eq, hL2, a1, a2, a3, e88, e90, e87, e112, iAdd_id, iMul_id, e108]
        rw [lMul_id (by rw [← Int.mul_assoc]; omega) (by rw [← Int.mul_assoc]; omega), ← Int.mul_assoc, lDiv_id (by omega) (by omega)]
        have h9 := a9 (d 87 x) (d 90 y) (by omega) (by omega) (by omega) (by omega)
        have hb1 := hbt (d 87 x) (d 90 y)
        have hb2 := hbs (d 87 x) (d 90 y) y.toNat (by omega)
        have hu : (amt d w r y x * rl d (6 + d 88 x) r * rl d (10 + d 90 y) r).tdiv 100 = hun d w r y x := rfl
        rw [hu, h9, lAdd_id (by omega) (by omega)]
        repeat' (first | (with_reducible refine And.intro ?_ ?_))
        all_goals first
          | omega
          | skip
        refine hQ2 _ _ rfl ⟨?_, ?_, ?_, a4.set (by decide) (by decide) _ _, goG a5 (OnlyR.rf.set (by decide) (by decide) _ _), a6, a7, a8, fun T K b1 b2 b3 b4 => ?_⟩
        · simp only [sl_ap, Nat.reduceEqDiff, if_false]; exact a1
        · simp only [sl_ap, Nat.reduceEqDiff, if_false]; exact a2
        · simp only [sl_ap, Nat.reduceEqDiff, if_false]; exact a3
        · rw [hsuc]
          simp only [st_fn, if_true]
          unfold toF
          by_cases ck : d 87 x = T ∧ d 90 y = K
          · rw [if_pos (show 4 * T + K = 4 * d 87 x + d 90 y by omega), if_pos ⟨c, ck⟩, ck.1, ck.2, Int.add_assoc]
          · rw [if_neg (show ¬ 4 * T + K = 4 * d 87 x + d 90 y by omega), if_neg (fun q => ck q.2), a9 T K b1 b2 b3 b4, Int.add_zero]
            rfl
      · refine hQ2 _ _ rfl ⟨?_, ?_, ?_, a4, a5, a6, a7, a8, fun T K b1 b2 b3 b4 => ?_⟩
        · simp only [sl_ap, Nat.reduceEqDiff, if_false]; exact a1
        · simp only [sl_ap, Nat.reduceEqDiff, if_false]; exact a2
        · simp only [sl_ap, Nat.reduceEqDiff, if_false]; exact a3
        · rw [hsuc, a9 T K b1 b2 b3 b4]
          have : toF d lo w r T K y x = 0 := if_neg (fun q => c q.1)
          rw [this, Int.add_zero]
    · intro L2 N _ ⟨a1, a2, a3, a4, a5, a6, a7, a8, a9⟩
      rw [a3, iAdd_id (by omega) (by omega)]
      refine hQ' _ _ rfl ⟨?_, ?_, a4, a5, a6, a7, a8, fun T K b1 b2 b3 b4 => ?_⟩
      · simp only [sl_ap, Nat.reduceEqDiff, if_false]; exact a1
      · simp only [sl_ap, Nat.reduceEqDiff, if_false]; exact a2
      · rw [sumN_succ _ hx0, a9 T K b1 b2 b3 b4]
  intro L4 M5 _ ⟨k1, k2, k3, k4, k5, k6, k7, k8⟩
  have k9 : ∀ T K, 0 ≤ T → T < 12 → 0 ≤ K → K < 4 → M5 115 (4 * T + K) = TO d lo w r T K := by
    intro T K b1 b2 b3 b4
    rw [k8 T K b1 b2 b3 b4, TO_comm]
  -- the titles
  refine while_up 3 0 (d 81 5) (fun x L M' => OnlyR S1 [32, 33] M M' ∧ RdP d M' ∧ M' 110 = M3 110 ∧ M' 111 = M3 111 ∧ M' 112 = M3 112 ∧ M' 115 = M5 115 ∧ ∀ T, 0 ≤ T → T < x → M' 113 T = TOL d lo w r T ∧ M' 114 T = FOL d lo w r T) v1.1 rfl ⟨k3, k4.1, k5, k6, k7, rfl, fun i h1 h2 => absurd h2 (by omega)⟩ ?_ ?_ ?_
  · intro x L M' P F h1 h2 hL ⟨k2, _⟩ hT hF
    simp only [sSeq, sSet, sInc, sPF, sPA, sPD, sOF, sOA, sX, sIf, sSkip, sRet, sRetB, sRetV, sSw, sSel, eK, eL, eR, eF, eA, eQ, eD, eU, eB, eV, eIf, ePF, eC0, eC1, eC2, eC3, eC4, eC5, eC6, eC7, cB, cZ, cAnd, cOr, cNot, i2l, st_fn, sl_ap, if_true, if_false, ↓reduceIte, reduceIte, Nat.reduceEqDiff, Int.reduceEq, Int.reduceLT, Int.reduceLE, Int.reduceAdd, Int.reduceSub, Int.reduceMul, Int.reduceNeg, and_true, true_and, not_true, not_false_eq_true, true_or, or_true, ne_eq, hL]
    rw [(hC.go k2 (by decide) (by decide)).2.1 5 (by decide)]
    exact ⟨hT, hF⟩
  · intro x L M' Q' hx0 hx1 hL ⟨q1, q2, q3, q4, q5, q6, q7⟩ hQ'
    simp only [sSeq, sSet, sInc, sPF, sPA, sPD, sOF, sOA, sX, sIf, sSkip, sRet, sRetB, sRetV, sSw, sSel, eK, eL, eR, eF, eA, eQ, eD, eU, eB, eV, eIf, ePF, eC0, eC1, eC2, eC3, eC4, eC5, eC6, eC7, cB, cZ, cAnd, cOr, cNot, i2l, st_fn, sl_ap, if_true, if_false, ↓reduceIte, reduceIte, Nat.reduceEqDiff, Int.reduceEq, Int.reduceLT, Int.reduceLE, Int.reduceAdd, Int.reduceSub, Int.reduceMul, Int.reduceNeg, and_true, true_and, not_true, not_false_eq_true, true_or, or_true, ne_eq, hL]
    refine ⟨hx0, by omega, hx0, by omega, ?_⟩
    refine while_up 4 0 4 (fun y L2 N => L2 3 = x ∧ OnlyR S1 [32, 33] M N ∧ RdP d N ∧ N 110 = M3 110 ∧ N 111 = M3 111 ∧ N 112 = M3 112 ∧ N 115 = M5 115 ∧ (∀ T, 0 ≤ T → T < x → N 113 T = TOL d lo w r T ∧ N 114 T = FOL d lo w r T) ∧ N 113 x = sumN (fun K => TO d lo w r x K) y.toNat ∧ N 114 x = sumN (fun K => shr d lo w r x K (SZ d lo w K 1)) y.toNat) (by omega) rfl ⟨by simp only [sl_ap, Nat.reduceEqDiff, if_false]; exact hL, (q1.set (by decide) (by decide) _ _).set (by decide) (by decide) _ _, q2.go (S := [113, 114]) (F := []) ((OnlyR.rf.set (by decide) (by decide) _ _).set (by decide) (by decide) _ _) (by decide) (by decide), q3, q4, q5, q6, fun T b1 b2 => ?_, ?_, ?_⟩ ?_ ?_ ?_
    · simp only [st_fn, Nat.reduceEqDiff, if_true, if_false]
      rw [if_neg (by omega), if_neg (by omega)]
      exact q7 T b1 b2
    · simp only [st_fn, Nat.reduceEqDiff, if_true, if_false]
      rfl
    · simp only [st_fn, Nat.reduceEqDiff, if_true, if_false]
      rfl
    · intro y L2 N P F h1 h2 hL2 _ hT hF
      simp only [sSeq, sSet, sInc, sPF, sPA, sPD, sOF, sOA, sX, sIf, sSkip, sRet, sRetB, sRetV, sSw, sSel, eK, eL, eR, eF, eA, eQ, eD, eU, eB, eV, eIf, ePF, eC0, eC1, eC2, eC3, eC4, eC5, eC6, eC7, cB, cZ, cAnd, cOr, cNot, i2l, st_fn, sl_ap, if_true, if_false, ↓reduceIte, reduceIte, Nat.reduceEqDiff, Int.reduceEq, Int.reduceLT, Int.reduceLE, Int.reduceAdd, Int.reduceSub, Int.reduceMul, Int.reduceNeg, and_true, true_and, not_true, not_false_eq_true, true_or, or_true, ne_eq, hL2]
      exact ⟨hT, hF⟩
    · intro y L2 N Q2 hy0 hy1 hL2 ⟨a1, a2, a3, a4, a5, a6, a7, a8, a9, a10⟩ hQ2
      have z1 := SZ_bd hB lo w y 1
      have z2 := SZ_bd hB lo w y 2
      have b5 := TOL_bdN hB lo w r x (n := y.toNat) (by omega)
      have b6 := FOL_bdN hB lo w r x (n := y.toNat) (by omega)
      have b7 := shr_bd hB lo w r x y z1
      have b8 := TO_bd hB lo w r x y
      have e115 : N 115 (4 * x + y) = TO d lo w r x y := by rw [a7]; exact k9 x y hx0 (by omega) hy0 hy1
      have e110 : N 110 y = SZ d lo w y 2 := by rw [a4]; exact (p5 y hy0 hy1).1
      have e111 : N 111 y = SZ d lo w y 1 := by rw [a5]; exact (p5 y hy0 hy1).2
      simp (disch := omega) only [sSeq, sSet, sInc, sPF, sPA, sPD, sOF, sOA, sX, sIf, sSkip, sRet, sRetB, sRetV, sSw, sSel, eK, eL, eR, eF, eA, eQ, eD, eU, eB, eV, eIf, ePF, eC0, eC1, eC2, eC3, eC4, eC5, eC6, eC7, cB, cZ, cAnd, cOr, cNot, i2l, st_fn, sl_ap, if_true, if_false, ↓reduceIte, reduceIte, Nat.reduceEqDiff, Int.reduceEq, Int.reduceLT, Int.reduceLE, Int.reduceAdd, Int.reduceSub, Int.reduceMul, Int.reduceNeg, and_true, true_and, not_true, not_false_eq_true, true_or, or_true, ne_eq, hL2, a1, iAdd_id, iMul_id, e115, e110, e111, lMul_id, lDiv_id, a9, a10]
      rw [lAdd_id (x := sumN (fun K => TO d lo w r x K) y.toNat) (by omega) (by omega)]
      have hfin : ∀ v, v = sumN (fun K => shr d lo w r x K (SZ d lo w K 1)) (y + 1).toNat → Q2 (sl L2 4 (y + 1)) (st (st N 113 x (sumN (fun K => TO d lo w r x K) y.toNat + TO d lo w r x y)) 114 x v) := by
        intro v hv
        refine hQ2 _ _ rfl ⟨by simp only [sl_ap, Nat.reduceEqDiff, if_false]; exact a1, (a2.set (by decide) (by decide) _ _).set (by decide) (by decide) _ _, a3.go (S := [113, 114]) (F := []) ((OnlyR.rf.set (by decide) (by decide) _ _).set (by decide) (by decide) _ _) (by decide) (by decide), a4, a5, a6, a7, fun T b1 b2 => ?_, ?_, ?_⟩
        · simp only [st_fn, Nat.reduceEqDiff, if_true, if_false]
          rw [if_neg (by omega), if_neg (by omega)]
          exact a8 T b1 b2
        · simp only [st_fn, Nat.reduceEqDiff, if_true, if_false]
          exact (sumN_succ _ hy0).symm
        · simp only [st_fn, Nat.reduceEqDiff, if_true, if_false]
          exact hv
      rw [sumN_succ _ hy0] at hfin
      repeat' (first | (with_reducible intro _) | (with_reducible refine And.intro ?_ ?_))
      all_goals first
        | omega
        | skip
      · rename_i c
        refine hfin _ ?_
        rw [lAdd_id (by omega) (by omega)]
        have : shr d lo w r x y (SZ d lo w y 1) = 0 := if_neg (by omega)
        rw [this]
      · rename_i c
        have e : shr d lo w r x y (SZ d lo w y 1) = (TO d lo w r x y * SZ d lo w y 1).tdiv (SZ d lo w y 2) := if_pos (by omega)
        refine hfin _ ?_
        rw [← e, lAdd_id (by omega) (by omega)]
    · intro L2 N _ ⟨a1, a2, a3, a4, a5, a6, a7, a8, a9, a10⟩
      rw [a1, iAdd_id (by omega) (by omega)]
      refine hQ' _ _ rfl ⟨a2, a3, a4, a5, a6, a7, fun T b1 b2 => ?_⟩
      by_cases c : T = x
      · rw [c, a9, a10]
        exact ⟨rfl, rfl⟩
      · exact a8 T b1 (by omega)
  intro L5 M6 _ ⟨q1, q2, q3, q4, q5, q6, q7⟩
  refine hQ M6 q1 ⟨q2, fun K b1 b2 => ?_, ?_, q7, ?_⟩
  · rw [q3, q4]
    exact p5 K b1 b2
  · rw [q6]
    exact k9
  · rw [q5]
    exact p6
theorem S_R_findSums_eq : S_R_findSums = S_R_findSums_ F_R_statusOf F_R_findAmounts := rfl
theorem R_findSums_ok {d M : XM} {lo w r : Int} {Q : Int → XM → Prop} (hB : Base d) (hC : RF d M) (hlo : M 81 29 = lo) (hw : 0 ≤ w ∧ w ≤ 51) (hQ : ∀ M', OnlyR S1 [32, 33] M M' → WeiR d lo w r M' → Q 0 M') : F_R_findSums w r M Q := by
  unfold F_R_findSums
  rw [S_R_findSums_eq]
  exact R_findSums_gen F_R_statusOf F_R_findAmounts hB hC hlo hw (fun M s Q h1 h2 h3 => R_statusOf_ok ⟨hB.2.2.1, hB.2.2.2.1⟩ h1 hw h2 h3) (fun M Q h1 h2 => R_findAmounts_ok hB h1 hw h2) hQ
