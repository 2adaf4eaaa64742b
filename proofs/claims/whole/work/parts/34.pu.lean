/-! write -/
def wVal (d : XM) (m w i : Int) : Int := lowB m (if i % 2 = 0 then LO d (-1) w w (i / 2) else SUM d (-1) w w (LO d (-1) w w (i / 2)))
def wNum (d : XM) (s w : Int) : Int := if 2 * (LN d (-1) w w : Int) < d 83 s then 2 * (LN d (-1) w w : Int) else d 83 s
theorem iDiv2 {x : Int} (h0 : 0 ≤ x) (h1 : x < 1000) : iDiv x 2 = x / 2 ∧ iRem x 2 = x - x / 2 * 2 := by
  have e : x.tdiv 2 = x / 2 := Int.tdiv_eq_ediv_of_nonneg h0
  unfold iDiv iRem
  rw [e]
  exact ⟨x32_id ⟨by omega, by omega⟩, x32_id ⟨by omega, by omega⟩⟩
def S_M_write_ (FG : XF2) : XS := sSeq (sIf (cOr (cNot (cZ (fun x => x ≠ 0) (eC1 F_Sheets_isNumber (eL 1)))) (cNot (cZ (fun x => x ≠ 0) (eC1 F_M_isWeek (eU i2l (eL 2)))))) (sRet (eK (-2))) sSkip) (sSeq (sIf (cZ (fun x => x ≠ 0) (eC1 F_Sheets_isLost (eL 1))) (sRet (eC1 F_Sheets_found (eK 1))) sSkip) (sSeq (sX (eC2 FG (eL 2) (eL 2))) (sSeq (sSet 3 (eB mMin (eB iMul (eK 2) (eF 29 11)) (eA 79 4 (eL 1)))) (sSeq (sSeq (sSet 4 (eK 0)) (sWhile (cB (fun x y => x < y) (eL 4) (eL 3)) (sSeq (sSeq (sSet 5 (eA 37 12 (eV iDiv (eL 4) (eK 2)))) (sX (eC3 F_Sheets_store (eL 1) (eL 4) (eIf (cZ (fun x => x = 0) (eV iRem (eL 4) (eK 2))) (eU i2l (eL 5)) (eA 36 12 (eL 5)))))) (sInc 4 1)))) (sRet (eL 3))))))
theorem M_write_gen (FG : XF2) {d M : XM} {s w : Int} {Q : Int → XM → Prop} (hB : Base d) (hC : CF d M) (hG : MlSpec d FG) (hsz : 0 ≤ s ∧ s ≤ 3 → -1 ≤ d 79 s ∧ d 79 s ≤ 120 ∧ (¬ d 79 s = -1 → d 79 s = d 83 s ∧ 0 ≤ d 83 s))
    (q0 : ¬ ((0 ≤ s ∧ s ≤ 3) ∧ 0 ≤ w ∧ w ≤ 51) → Q (-2) M) (q1 : ((0 ≤ s ∧ s ≤ 3) ∧ 0 ≤ w ∧ w ≤ 51) → d 79 s = -1 → Q (-11) (st M 73 3 1))
    (q2 : ((0 ≤ s ∧ s ≤ 3) ∧ 0 ≤ w ∧ w ≤ 51) → ¬ d 79 s = -1 → ∀ M', (∀ k, k ∉ SL → k ≠ 75 + s.toNat → M' k = M k) → (∀ i, M' (75 + s.toNat) i = if 0 ≤ i ∧ i < wNum d s w then wVal d (d 80 s) w i else M (75 + s.toNat) i) → Q (wNum d s w) M') : S_M_write_ FG (fun _ _ => False) Q (sl (sl (fun _ => 0) 1 s) 2 w) M := by
  have e79 : M 79 = d 79 := hC 79 (by decide) (by omega)
  have v1 := hB.2.2.1.1
  unfold S_M_write_
  simp only [sSeq, sSet, sInc, sPF, sPA, sPD, sOF, sOA, sX, sIf, sSkip, sRet, sRetB, sRetV, sSw, sSel, eK, eL, eR, eF, eA, eQ, eD, eU, eB, eV, eIf, ePF, eC0, eC1, eC2, eC3, eC4, eC5, eC6, eC7, cB, cZ, cAnd, cOr, cNot, i2l, st_fn, sl_ap, if_true, if_false, ↓reduceIte, reduceIte, Nat.reduceEqDiff, Int.reduceEq, Int.reduceLT, Int.reduceLE, Int.reduceAdd, Int.reduceSub, Int.reduceMul, Int.reduceNeg, and_true, true_and, not_true, not_false_eq_true, true_or, or_true, ne_eq, F_Sheets_isNumber_iff, F_M_isWeek_iff, b01_ne, F_Sheets_found_iff]
  by_cases c : (0 ≤ s ∧ s ≤ 3) ∧ 0 ≤ w ∧ w ≤ 51
  · refine ⟨fun _ => ⟨fun _ => ?_, fun q => absurd c.2 q⟩, fun q => absurd c.1 q⟩
    have hz := hsz c.1
    rw [F_Sheets_isLost_iff c.1.1 (by omega), e79]
    refine ⟨fun c1 => q1 c ((b01_ne _).mp c1), fun c1 => ?_⟩
    have c1 : ¬ d 79 s = -1 := fun q => c1 ((b01_ne _).mpr q)
    have hz2 := hz.2.2 c1
    refine hG M w w _ hC c.2 fun M1 o g1 g2 g3 => ?_
    have hLr := L_r hB.2.2.1 (-1) w w
    have hC1 := hC.go o SL_SC
    have e79' : M1 79 = d 79 := hC1 79 (by decide) (by omega)
    have e80' : M1 80 = d 80 := hC1 80 (by decide) (by omega)
    have en : mMin (2 * (LN d (-1) w w : Int)) (d 79 s) = wNum d s w := by
      unfold mMin wNum
      (repeat' split) <;> omega
    have hn : 0 ≤ wNum d s w ∧ wNum d s w ≤ 2 * (LN d (-1) w w : Int) ∧ wNum d s w ≤ d 79 s := by
      unfold wNum
      split <;> omega
    rw [g3.1, e79', iMul_id (by omega) (by omega), en]
    refine ⟨c.1.1, by omega, ?_⟩
    refine while_up 4 0 (wNum d s w) (fun x L M' => L 1 = s ∧ L 3 = wNum d s w ∧ (∀ k, k ≠ 75 + s.toNat → M' k = M1 k) ∧ ∀ i, M' (75 + s.toNat) i = if 0 ≤ i ∧ i < x then wVal d (d 80 s) w i else M (75 + s.toNat) i) hn.1 rfl ⟨rfl, rfl, fun _ _ => rfl, fun i => ?_⟩ ?_ ?_ ?_
    · rw [if_neg (by omega), o _ (by unfold SL; simp only [List.mem_cons, List.not_mem_nil, or_false]; omega)]
    · intro x L M' T F a1 a2 hL ⟨_, k2, _⟩ hT hF
      simp only [sSeq, sSet, sInc, sPF, sPA, sPD, sOF, sOA, sX, sIf, sSkip, sRet, sRetB, sRetV, sSw, sSel, eK, eL, eR, eF, eA, eQ, eD, eU, eB, eV, eIf, ePF, eC0, eC1, eC2, eC3, eC4, eC5, eC6, eC7, cB, cZ, cAnd, cOr, cNot, i2l, st_fn, sl_ap, if_true, if_false, ↓reduceIte, reduceIte, Nat.reduceEqDiff, Int.reduceEq, Int.reduceLT, Int.reduceLE, Int.reduceAdd, Int.reduceSub, Int.reduceMul, Int.reduceNeg, and_true, true_and, not_true, not_false_eq_true, true_or, or_true, ne_eq, hL, k2]
      exact ⟨hT, hF⟩
    · intro x L M' Q' hx0 hx1 hL ⟨k1, k2, k3, k4⟩ hQ'
      have hd2 := iDiv2 hx0 (by omega)
      have a1 := hLr.2 (x / 2) (by omega) (by omega)
      have f37 : M' 37 = M1 37 := k3 37 (by omega)
      have f36 : M' 36 = M1 36 := k3 36 (by omega)
      have f80 : M' 80 = d 80 := (k3 80 (by omega)).trans e80'
      simp only [sSeq, sSet, sInc, sPF, sPA, sPD, sOF, sOA, sX, sIf, sSkip, sRet, sRetB, sRetV, sSw, sSel, eK, eL, eR, eF, eA, eQ, eD, eU, eB, eV, eIf, ePF, eC0, eC1, eC2, eC3, eC4, eC5, eC6, eC7, cB, cZ, cAnd, cOr, cNot, i2l, st_fn, sl_ap, if_true, if_false, ↓reduceIte, reduceIte, Nat.reduceEqDiff, Int.reduceEq, Int.reduceLT, Int.reduceLE, Int.reduceAdd, Int.reduceSub, Int.reduceMul, Int.reduceNeg, and_true, true_and, not_true, not_false_eq_true, true_or, or_true, ne_eq, hL, k1, hd2.1, hd2.2, f37, f36, g3.2.1 _ (show 0 ≤ x / 2 by omega) (show x / 2 < (LN d (-1) w w : Int) by omega), g2.2.2 _ a1.1 a1.2]
      rw [F_Sheets_store_iff ⟨c.1.1, by omega⟩ ⟨hx0, by omega⟩, F_Sheets_store_iff ⟨c.1.1, by omega⟩ ⟨hx0, by omega⟩, f80, iAdd_id (by omega) (by omega)]
      have hfin : ∀ v, v = wVal d (d 80 s) w x → Q' (sl (sl L 5 (LO d (-1) w w (x / 2))) 4 (x + 1)) (st M' (75 + s.toNat) x v) := by
        intro v hv
        refine hQ' _ _ rfl ⟨?_, ?_, fun k hk => by rw [st_ne _ _ _ hk]; exact k3 k hk, fun i => ?_⟩
        · simp only [sl_ap, st_fn, Nat.reduceEqDiff, ↓reduceIte, reduceIte, Int.reduceEq, if_true, if_false]; exact k1
        · simp only [sl_ap, st_fn, Nat.reduceEqDiff, ↓reduceIte, reduceIte, Int.reduceEq, if_true, if_false]; exact k2
        · rw [st_upx, upx_ap, k4 i]
          by_cases ci : i = x
          · rw [if_pos ci, if_pos (by omega), ci, hv]
          · rw [if_neg ci]
            exact ite_eq_of (by omega)
      unfold wVal at hfin
      ((repeat' (first | (with_reducible intro _) | (with_reducible refine And.intro ?_ ?_))) <;> try (exfalso; omega))
      all_goals first | omega | exact hfin _ (by rw [if_pos (by omega)]) | exact hfin _ (by rw [if_neg (by omega)])
    · intro L M' _ ⟨k1, k2, k3, k4⟩
      rw [k2]
      exact q2 c c1 M' (fun k a b => by rw [k3 k b, o k a]) k4
  · have q0 := q0 c
    ((repeat' (first | (with_reducible intro _) | (with_reducible refine And.intro ?_ ?_))) <;> try (exfalso; omega))
    all_goals exact q0
def S_wr : XS := sSeq (sSeq (sSet 4 (eK 0)) (sWhile (cB (fun x y => x < y) (eL 4) (eL 3)) (sSeq (sPA 84 480 (eB iAdd (eB iMul (eK 120) (eL 1)) (eL 4)) (eC2 F_R_cut (eA 82 4 (eL 1)) (eIf (cZ (fun x => x = 0) (eV iRem (eL 4) (eK 2))) (eU i2l (eA 116 12 (eV iDiv (eL 4) (eK 2)))) (eC1 F_R_sumOf (eA 116 12 (eV iDiv (eL 4) (eK 2))))))) (sInc 4 1)))) (sRet (eL 3))
def S_R_write_ (FG : XF2) : XS := sSeq (sIf (cOr (cNot (cZ (fun x => x ≠ 0) (eC1 F_R_isSheet (eL 1)))) (cNot (cZ (fun x => x ≠ 0) (eC1 F_R_isWeek (eU i2l (eL 2)))))) (sRet (eK (-2))) sSkip) (sSeq (sIf (cZ (fun x => x < 0) (eA 82 4 (eL 1))) (sRet (eC1 F_R_met (eK 1))) sSkip) (sSeq (sX (eC2 FG (eL 2) (eL 2))) (sSeq (sSet 3 (eIf (cB (fun x y => x < y) (eB iMul (eK 2) (eF 81 45)) (eA 83 4 (eL 1))) (eB iMul (eK 2) (eF 81 45)) (eA 83 4 (eL 1)))) S_wr)))
theorem R_write_gen (FG : XF2) {d M : XM} {s w : Int} {Q : Int → XM → Prop} (hB : Base d) (hC : RF d M) (hlo : M 81 29 = -1) (hG : FlSpec d FG) (hsz : 0 ≤ s ∧ s ≤ 3 → d 83 s ≤ 120 ∧ 0 ≤ d 83 s)
    (q0 : ¬ ((0 ≤ s ∧ s ≤ 3) ∧ 0 ≤ w ∧ w ≤ 51) → Q (-2) M) (q1 : ((0 ≤ s ∧ s ≤ 3) ∧ 0 ≤ w ∧ w ≤ 51) → d 82 s < 0 → Q (-11) (st M 81 4 1))
    (q2 : ((0 ≤ s ∧ s ≤ 3) ∧ 0 ≤ w ∧ w ≤ 51) → ¬ d 82 s < 0 → ∀ M', OnlyR [84, 105, 106, 107, 108, 109, 110, 111, 112, 113, 114, 115, 116, 117] [32, 33, 45] M M' → (∀ j, M' 84 j = if 120 * s ≤ j ∧ j < 120 * s + wNum d s w then wVal d (d 82 s) w (j - 120 * s) else M 84 j) → Q (wNum d s w) M') : S_R_write_ FG (fun _ _ => False) Q (sl (sl (fun _ => 0) 1 s) 2 w) M := by
  have e82 : M 82 = d 82 := hC.1 82 (by omega) (by omega) (by decide)
  have v1 := hB.2.2.1.1
  unfold S_R_write_
  simp only [sSeq, sSet, sInc, sPF, sPA, sPD, sOF, sOA, sX, sIf, sSkip, sRet, sRetB, sRetV, sSw, sSel, eK, eL, eR, eF, eA, eQ, eD, eU, eB, eV, eIf, ePF, eC0, eC1, eC2, eC3, eC4, eC5, eC6, eC7, cB, cZ, cAnd, cOr, cNot, i2l, st_fn, sl_ap, if_true, if_false, ↓reduceIte, reduceIte, Nat.reduceEqDiff, Int.reduceEq, Int.reduceLT, Int.reduceLE, Int.reduceAdd, Int.reduceSub, Int.reduceMul, Int.reduceNeg, and_true, true_and, not_true, not_false_eq_true, true_or, or_true, ne_eq, F_R_isSheet_iff, F_R_isWeek_iff, b01_ne, F_R_met_iff, e82]
  by_cases c : (0 ≤ s ∧ s ≤ 3) ∧ 0 ≤ w ∧ w ≤ 51
  · refine ⟨fun _ => ⟨fun _ => ?_, fun q => absurd c.2 q⟩, fun q => absurd c.1 q⟩
    have hz := hsz c.1
    refine ⟨c.1.1, by omega, fun c1 => q1 c c1, fun c1 => ?_⟩
    refine hG M (-1) w w _ hC hlo c.2 fun M1 o g1 g3 => ?_
    have hLr := L_r hB.2.2.1 (-1) w w
    have hC1 := hC.go o (by decide) (by decide)
    have e83' : M1 83 = d 83 := hC1.1 83 (by omega) (by omega) (by decide)
    have e82' : M1 82 = d 82 := hC1.1 82 (by omega) (by omega) (by decide)
    have hn : 0 ≤ wNum d s w ∧ wNum d s w ≤ 2 * (LN d (-1) w w : Int) ∧ wNum d s w ≤ d 83 s := by
      unfold wNum
      split <;> omega
    rw [g3.1, e83', iMul_id (by omega) (by omega)]
    have hmain : ∀ v, v = wNum d s w → S_wr (fun _ _ => False) Q (sl (sl (sl (fun _ => 0) 1 s) 2 w) 3 v) M1 := by
      intro v hv
      subst hv
      unfold S_wr
      simp only [sSeq, sSet, sInc, sPF, sPA, sPD, sOF, sOA, sX, sIf, sSkip, sRet, sRetB, sRetV, sSw, sSel, eK, eL, eR, eF, eA, eQ, eD, eU, eB, eV, eIf, ePF, eC0, eC1, eC2, eC3, eC4, eC5, eC6, eC7, cB, cZ, cAnd, cOr, cNot, i2l, st_fn, sl_ap, if_true, if_false, ↓reduceIte, reduceIte, Nat.reduceEqDiff, Int.reduceEq, Int.reduceLT, Int.reduceLE, Int.reduceAdd, Int.reduceSub, Int.reduceMul, Int.reduceNeg, and_true, true_and, not_true, not_false_eq_true, true_or, or_true, ne_eq]
      refine while_up 4 0 (wNum d s w) (fun x L M' => L 1 = s ∧ L 3 = wNum d s w ∧ (∀ k, k ≠ 84 → M' k = M1 k) ∧ ∀ j, M' 84 j = if 120 * s ≤ j ∧ j < 120 * s + x then wVal d (d 82 s) w (j - 120 * s) else M 84 j) hn.1 rfl ⟨rfl, rfl, fun _ _ => rfl, fun j => ?_⟩ ?_ ?_ ?_
      · rw [if_neg (by omega), o.1 84 (by decide) (by decide)]
      · intro x L M' T F a1 a2 hL ⟨_, k2, _⟩ hT hF
        simp only [sSeq, sSet, sInc, sPF, sPA, sPD, sOF, sOA, sX, sIf, sSkip, sRet, sRetB, sRetV, sSw, sSel, eK, eL, eR, eF, eA, eQ, eD, eU, eB, eV, eIf, ePF, eC0, eC1, eC2, eC3, eC4, eC5, eC6, eC7, cB, cZ, cAnd, cOr, cNot, i2l, st_fn, sl_ap, if_true, if_false, ↓reduceIte, reduceIte, Nat.reduceEqDiff, Int.reduceEq, Int.reduceLT, Int.reduceLE, Int.reduceAdd, Int.reduceSub, Int.reduceMul, Int.reduceNeg, and_true, true_and, not_true, not_false_eq_true, true_or, or_true, ne_eq, hL, k2]
        exact ⟨hT, hF⟩
      · intro x L M' Q' hx0 hx1 hL ⟨k1, k2, k3, k4⟩ hQ'
        have hd2 := iDiv2 hx0 (by omega)
        have a1 := hLr.2 (x / 2) (by omega) (by omega)
        have a12 : 0 ≤ LO d (-1) w w (x / 2) ∧ LO d (-1) w w (x / 2) < 12 := by omega
        have f116 : M' 116 = M1 116 := k3 116 (by omega)
        have f113 : M' 113 = M1 113 := k3 113 (by omega)
        have f114 : M' 114 = M1 114 := k3 114 (by omega)
        have f82 : M' 82 = d 82 := (k3 82 (by omega)).trans e82'
        simp (disch := omega) only [sSeq, sSet, sInc, sPF, sPA, sPD, sOF, sOA, sX, sIf, sSkip, sRet, sRetB, sRetV, sSw, sSel, eK, eL, eR, eF, eA, eQ, eD, eU, eB, eV, eIf, ePF, eC0, eC1, eC2, eC3, eC4, eC5, eC6, eC7, cB, cZ, cAnd, cOr, cNot, i2l, st_fn, sl_ap, if_true, if_false, ↓reduceIte, reduceIte, Nat.reduceEqDiff, Int.reduceEq, Int.reduceLT, Int.reduceLE, Int.reduceAdd, Int.reduceSub, Int.reduceMul, Int.reduceNeg, and_true, true_and, not_true, not_false_eq_true, true_or, or_true, ne_eq, hL, k1, hd2.1, hd2.2, f116, f82, g3.2.1 _ (show 0 ≤ x / 2 by omega) (show x / 2 < (LN d (-1) w w : Int) by omega), F_R_cut_iff, F_R_sumOf_iff a12, f113, f114, R_sum_val hB g1 a1, iMul_id, iAdd_id]
        have hfin : ∀ v, v = wVal d (d 82 s) w x → Q' (sl L 4 (x + 1)) (st M' 84 (120 * s + x) v) := by
          intro v hv
          refine hQ' _ _ rfl ⟨?_, ?_, fun k hk => by rw [st_ne _ _ _ hk]; exact k3 k hk, fun j => ?_⟩
          · simp only [sl_ap, st_fn, Nat.reduceEqDiff, ↓reduceIte, reduceIte, Int.reduceEq, if_true, if_false]; exact k1
          · simp only [sl_ap, st_fn, Nat.reduceEqDiff, ↓reduceIte, reduceIte, Int.reduceEq, if_true, if_false]; exact k2
          · rw [st_upx, upx_ap, k4 j]
            by_cases cj : j = 120 * s + x
            · rw [if_pos cj, if_pos (by omega), hv, show j - 120 * s = x by omega]
            · rw [if_neg cj]
              exact ite_eq_of (by omega)
        unfold wVal at hfin
        ((repeat' (first | (with_reducible intro _) | (with_reducible refine And.intro ?_ ?_))) <;> try (exfalso; omega))
        all_goals first | omega | exact hfin _ (by rw [if_pos (by omega)]) | exact hfin _ (by rw [if_neg (by omega)])
      · intro L M' _ ⟨k1, k2, k3, k4⟩
        rw [k2]
        refine q2 c c1 M' ⟨fun k a b => ?_, fun j hj => ?_⟩ k4
        · have b84 : k ≠ 84 := fun e => b (by rw [e]; decide)
          rw [k3 k b84]
          refine o.1 k a (fun q => b ?_)
          unfold S2 at q
          exact List.mem_cons_of_mem _ q
        · rw [k3 81 (by decide)]
          exact o.2 j hj
    refine ⟨c.1.1, by omega, fun c2 => ?_, fun c2 => ⟨c.1.1, by omega, ?_⟩⟩
    · exact hmain _ (by unfold wNum; rw [if_pos c2])
    · exact hmain _ (by unfold wNum; rw [if_neg c2])
  · have q0 := q0 c
    ((repeat' (first | (with_reducible intro _) | (with_reducible refine And.intro ?_ ?_))) <;> try (exfalso; omega))
    all_goals exact q0
theorem ok_write {Z M : XM} (hZ : ZC Z) (h : Inv Z M) (s w : Int) : F_M_write s w M (fun v M1 => F_R_write s w M1 (fun x M2 => v = x ∧ Inv Z M2)) := by
  have hB := h.base hZ
  have hz := (DCs_iff M).mp h.2.2.1
  have hs : 0 ≤ s ∧ s ≤ 3 → _ := fun c => sh_at h c.1 c.2
  have hlo : M 81 29 = -1 := h.2.2.2.2.2.2.2.1
  have b1 : 0 ≤ s ∧ s ≤ 3 → M 83 s ≤ 120 ∧ 0 ≤ M 83 s := fun c => by have := hs c; omega
  have rf0 : RF M M := RF_of Only.rf
  have rf1 : ∀ f, RF M (st M 73 3 f) := fun f => ⟨fun k a b _ => st_ne _ _ _ (by omega), fun j _ => by rw [st_ne _ _ _ (by decide)], fun k hk => st_ne _ _ _ (fun e => by rw [e] at hk; exact absurd hk (by decide))⟩
  refine M_write_gen F_Tally_makeList hB CF.rf (ml_spec hB) (fun c => by have := hs c; omega) (fun c => ?_) (fun c c1 => ?_) (fun c c1 N oe on => ?_)
  · exact R_write_gen F_R_findList hB rf0 hlo (fl_spec hB) b1 (fun _ => ⟨rfl, h⟩) (fun q => absurd q c) (fun q => absurd q c)
  · have z1 := hs c.1
    exact R_write_gen F_R_findList hB (rf1 1) (by rw [st_ne _ _ _ (by decide)]; exact hlo) (fl_spec hB) b1 (fun q => absurd c q) (fun _ _ => ⟨rfl, Inv_late h 1⟩) (fun _ q => absurd (by omega) q)
  · have z1 := hs c.1
    have rfN : RF M N := ⟨fun k a b _ => oe k (by unfold SL; simp only [List.mem_cons, List.not_mem_nil, or_false]; omega) (by omega), fun j _ => by rw [oe 81 (by decide) (by omega)], fun k hk => by
      simp only [List.mem_cons, List.not_mem_nil, or_false] at hk
      exact oe k (by unfold SL; simp only [List.mem_cons, List.not_mem_nil, or_false]; omega) (by omega)⟩
    refine R_write_gen F_R_findList hB rfN (by rw [oe 81 (by decide) (by omega)]; exact hlo) (fl_spec hB) b1 (fun q => absurd c q) (fun _ q => absurd q (by omega)) (fun _ _ M2 o p84 => ?_)
    have e : ∀ k, k ∉ SL → k ∉ SR → k ≠ 81 → k ≠ 84 → k ≠ 75 + s.toNat → M2 k = M k := by
      intro k a b d f g
      refine (o.1 k d (fun q => ?_)).trans (oe k a g)
      rcases List.mem_cons.mp q with q | q
      · exact f q
      · refine b ?_
        unfold SR
        simp only [List.mem_cons, List.not_mem_nil, or_false] at q ⊢
        omega
    refine ⟨rfl, Inv_sh h (fun k b1 b2 b3 b4 => e k (fun q => b2 (SL_SC k q)) b3 b4 (fun q => b1 (by rw [q]; decide)) (fun q => b1 ?_)) (fun j b1 b2 => ?_) ?_ ⟨?_, ?_⟩⟩
    · rw [q]
      unfold ShC
      simp only [List.mem_cons, List.not_mem_nil, or_false]
      omega
    · rw [o.2 j (fun q => b2 (by
        unfold SF
        simp only [List.mem_cons, List.not_mem_nil, or_false] at q ⊢
        omega)), oe 81 (by decide) (by omega)]
    · rw [o.2 29 (by decide), oe 81 (by decide) (by omega)]
      exact hlo
    · rw [e 73 (by decide) (by decide) (by decide) (by decide) (by omega), o.2 4 (by decide), oe 81 (by decide) (by omega)]
      exact hz.1
    · have nS : ∀ q : Int, 0 ≤ q → q ≤ 3 → 75 + q.toNat ∉ SL ∧ 75 + q.toNat ∉ SR := by
        intro q a b
        unfold SL SR
        simp only [List.mem_cons, List.not_mem_nil, or_false]
        omega
      refine SR2_upd hz.2 c.1 (e 79 (by decide) (by decide) (by decide) (by decide) (by omega)) (e 80 (by decide) (by decide) (by decide) (by decide) (by omega)) (e 82 (by decide) (by decide) (by decide) (by decide) (by omega)) (e 83 (by decide) (by decide) (by decide) (by decide) (by omega)) (fun q b0 b1 b2 => e _ (nS q b0 b1).1 (nS q b0 b1).2 (by omega) (by omega) (by omega)) (fun y hy => ?_) (fun y y0 y1 _ => ?_)
      · rcases z1 with z1 | z1
        · omega
        · have hn : wNum M s w ≤ M 83 s := by unfold wNum; split <;> omega
          rw [p84, if_neg (by omega), oe 84 (by decide) (by omega)]
      · rcases z1 with z1 | ⟨z0, z2, z3, z4, z5, z6, z7⟩
        · omega
        rw [p84, oe 84 (by decide) (by omega), o.1 (75 + s.toNat) (by omega) (by simp only [List.mem_cons, List.not_mem_nil, or_false]; omega), on]
        by_cases cy : 0 ≤ y ∧ y < wNum M s w
        · rw [if_pos cy, if_pos (by omega), show 120 * s + y - 120 * s = y by omega, z6]
        · rw [if_neg cy, if_neg (by omega)]
          exact z7 y y0 y1
