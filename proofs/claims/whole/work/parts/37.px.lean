/-! ===== habits ===== -/
def hbC (d : XM) (w s k : Int) : Prop := d 96 k = s ∧ d 98 k = w ∧ d 101 k = 0 ∧ ct d w k
def hbB (d : XM) (w s k : Int) : Bool := decide (d 96 k = s ∧ d 98 k = w ∧ d 101 k = 0 ∧ ct d w k)
def HBn (d : XM) (w s : Int) : Nat → Nat
  | 0 => 0
  | n + 1 => if hbB d w s (n : Int) = true then HBn d w s n ||| 2 ^ (d 99 (n : Int) % 24).toNat else HBn d w s n
def HB (d : XM) (w s : Int) : Nat := HBn d w s (d 81 19).toNat
theorem HBn_succ (d : XM) (w s : Int) {x : Int} (h : 0 ≤ x) : HBn d w s (x + 1).toNat = if hbB d w s x = true then HBn d w s x.toNat ||| 2 ^ (d 99 x % 24).toNat else HBn d w s x.toNat := by
  have e1 : ((x.toNat : Nat) : Int) = x := by omega
  rw [show (x + 1).toNat = x.toNat + 1 by omega]
  show (if hbB d w s ((x.toNat : Nat) : Int) = true then HBn d w s x.toNat ||| 2 ^ (d 99 ((x.toNat : Nat) : Int) % 24).toNat else HBn d w s x.toNat) = _
  rw [e1]
theorem HBn_lt (d : XM) (w s : Int) : ∀ n : Nat, HBn d w s n < 2 ^ 24
  | 0 => by
    show 0 < 2 ^ 24
    decide
  | n + 1 => by
    have ih := HBn_lt d w s n
    have e : HBn d w s (n + 1) = if hbB d w s (n : Int) = true then HBn d w s n ||| 2 ^ (d 99 (n : Int) % 24).toNat else HBn d w s n := rfl
    rw [e]
    split
    · exact Nat.or_lt_two_pow ih (Nat.pow_lt_pow_right (by omega) (by omega))
    · exact ih
theorem HB_lt (d : XM) (w s : Int) : HB d w s < 16777216 := HBn_lt d w s _
theorem iRem24 {x : Int} (h0 : 0 ≤ x) (h1 : x < 1000) : iRem x 24 = x % 24 := by
  have e : x.tdiv 24 = x / 24 := Int.tdiv_eq_ediv_of_nonneg h0
  unfold iRem
  rw [e, x32_id ⟨by omega, by omega⟩]
  omega
theorem hourBit {x : Int} (h0 : 0 ≤ x) (h1 : x < 1000) : iShl 1 (iRem x 24) = ((2 ^ (x % 24).toNat : Nat) : Int) := by
  rw [iRem24 h0 h1, show x % 24 = (((x % 24).toNat : Nat) : Int) by omega, iShl_n (by omega)]
  rw [show ((((x % 24).toNat : Nat) : Int)).toNat = (x % 24).toNat by omega]
theorem Habits_gather_ok {d M : XM} {w : Int} {Q : Int → XM → Prop} (hB : Base d) (hC : CF d M) (hQ : ∀ M', Only [24, 25, 40] M M' → (∀ s, 0 ≤ s → s < d 81 11 → M' 40 s = ((HB d w s : Nat) : Int)) → Q 0 M') : F_Habits_gather w M Q := by
  have v3 := hB.2.2.1.2.2.1
  have hs := hB.2.2.2.1.1
  unfold F_Habits_gather S_Habits_gather
  simp only [sSeq, sSet, sInc, sPF, sPA, sPD, sOF, sOA, sX, sIf, sSkip, sRet, sRetB, sRetV, sSw, sSel, eK, eL, eR, eF, eA, eQ, eD, eU, eB, eV, eIf, ePF, eC0, eC1, eC2, eC3, eC4, eC5, eC6, eC7, cB, cZ, cAnd, cOr, cNot, i2l, st_fn, sl_ap, if_true, if_false, ↓reduceIte, reduceIte, Nat.reduceEqDiff, Int.reduceEq, Int.reduceLT, Int.reduceLE, Int.reduceAdd, Int.reduceSub, Int.reduceMul, Int.reduceNeg, and_true, true_and, not_true, not_false_eq_true, true_or, or_true, ne_eq]
  refine Rules_bindTo_gen hB hC fun M1 o1 g1 => ?_
  refine while_up 2 0 16 (fun x L M' => L 1 = w ∧ Only [24, 25, 40] M M' ∧ M' 24 = M1 24 ∧ ∀ s, 0 ≤ s → s < x → M' 40 s = 0) (by omega) rfl ⟨rfl, o1.wk (by decide), rfl, fun s a b => absurd b (by omega)⟩ ?_ ?_ ?_
  · intro x L M' P F a1 a2 hL _ hT hF
    simp only [sSeq, sSet, sInc, sPF, sPA, sPD, sOF, sOA, sX, sIf, sSkip, sRet, sRetB, sRetV, sSw, sSel, eK, eL, eR, eF, eA, eQ, eD, eU, eB, eV, eIf, ePF, eC0, eC1, eC2, eC3, eC4, eC5, eC6, eC7, cB, cZ, cAnd, cOr, cNot, i2l, st_fn, sl_ap, if_true, if_false, ↓reduceIte, reduceIte, Nat.reduceEqDiff, Int.reduceEq, Int.reduceLT, Int.reduceLE, Int.reduceAdd, Int.reduceSub, Int.reduceMul, Int.reduceNeg, and_true, true_and, not_true, not_false_eq_true, true_or, or_true, ne_eq, hL]
    exact ⟨hT, hF⟩
  · intro x L M' Q' hx0 hx1 hL ⟨k1, k2, k3, k4⟩ hQ'
    simp only [sSeq, sSet, sInc, sPF, sPA, sPD, sOF, sOA, sX, sIf, sSkip, sRet, sRetB, sRetV, sSw, sSel, eK, eL, eR, eF, eA, eQ, eD, eU, eB, eV, eIf, ePF, eC0, eC1, eC2, eC3, eC4, eC5, eC6, eC7, cB, cZ, cAnd, cOr, cNot, i2l, st_fn, sl_ap, if_true, if_false, ↓reduceIte, reduceIte, Nat.reduceEqDiff, Int.reduceEq, Int.reduceLT, Int.reduceLE, Int.reduceAdd, Int.reduceSub, Int.reduceMul, Int.reduceNeg, and_true, true_and, not_true, not_false_eq_true, true_or, or_true, ne_eq, hL]
    rw [iAdd_id (by omega) (by omega)]
    refine ⟨hx0, hx1, hQ' _ _ rfl ⟨?_, k2.set (by decide) _ _, k3, fun s a b => ?_⟩⟩
    · simp only [sl_ap, st_fn, Nat.reduceEqDiff, ↓reduceIte, reduceIte, Int.reduceEq, if_true, if_false]; exact k1
    · rw [st_upx, upx_ap]
      by_cases c : s = x
      · rw [if_pos c]
      · rw [if_neg c]
        exact k4 s a (by omega)
  intro L1 M2 _ ⟨k1, k2, k3, k4⟩
  refine while_up 2 0 (d 81 19) (fun x L M' => L 1 = w ∧ Only [24, 25, 40] M M' ∧ M' 24 = M1 24 ∧ ∀ s, 0 ≤ s → s < d 81 11 → M' 40 s = ((HBn d w s x.toNat : Nat) : Int)) hs.1 rfl ⟨by simp only [sl_ap, st_fn, Nat.reduceEqDiff, ↓reduceIte, reduceIte, Int.reduceEq, if_true, if_false]; exact k1, k2, k3, fun s a b => k4 s a (by omega)⟩ ?_ ?_ ?_
  · intro x L M' P F a1 a2 hL ⟨_, k2, _⟩ hT hF
    simp only [sSeq, sSet, sInc, sPF, sPA, sPD, sOF, sOA, sX, sIf, sSkip, sRet, sRetB, sRetV, sSw, sSel, eK, eL, eR, eF, eA, eQ, eD, eU, eB, eV, eIf, ePF, eC0, eC1, eC2, eC3, eC4, eC5, eC6, eC7, cB, cZ, cAnd, cOr, cNot, i2l, st_fn, sl_ap, if_true, if_false, ↓reduceIte, reduceIte, Nat.reduceEqDiff, Int.reduceEq, Int.reduceLT, Int.reduceLE, Int.reduceAdd, Int.reduceSub, Int.reduceMul, Int.reduceNeg, and_true, true_and, not_true, not_false_eq_true, true_or, or_true, ne_eq, hL]
    rw [((hC.go k2 (by decide)).dcl hB).1]
    exact ⟨hT, hF⟩
  · intro x L M' Q' hx0 hx1 hL ⟨p1, p2, p3, p4⟩ hQ'
    have hd := (hC.go p2 (by decide)).dcl hB
    obtain ⟨l1, l2, l3, l4, l5, l6, l7, l8, l9, l10, l11⟩ := id hd
    have g := hB.2.2.2.1.2.2 x hx0 hx1
    have hsu : ∀ s, HBn d w s (x + 1).toNat = if hbB d w s x = true then HBn d w s x.toNat ||| 2 ^ (d 99 x % 24).toNat else HBn d w s x.toNat := fun s => HBn_succ d w s hx0
    have e3 : M' 24 3 = rl d 3 w := by rw [p3]; exact (g1 3 (by omega) (by omega)).1
    have e4 : M' 24 4 = rl d 4 w := by rw [p3]; exact (g1 4 (by omega) (by omega)).1
    have e5 : M' 24 5 = rl d 5 w := by rw [p3]; exact (g1 5 (by omega) (by omega)).1
    have hct : ((¬ x = M' 13 2 ∧ M' 20 x ≤ M' 13 1 ∧ (M' 21 x = -1 ∨ M' 13 1 < M' 21 x)) ∧ M' 20 x - M' 16 x ≤ M' 24 3 ∧ M' 24 4 ≤ M' 17 x ∧ M' 17 x ≤ M' 24 5) ↔ ct d w x := by
      rw [e3, e4, e5, l3, l10, l2, l11, l6, l7]
    simp only [sSeq, sSet, sInc, sPF, sPA, sPD, sOF, sOA, sX, sIf, sSkip, sRet, sRetB, sRetV, sSw, sSel, eK, eL, eR, eF, eA, eQ, eD, eU, eB, eV, eIf, ePF, eC0, eC1, eC2, eC3, eC4, eC5, eC6, eC7, cB, cZ, cAnd, cOr, cNot, i2l, st_fn, sl_ap, if_true, if_false, ↓reduceIte, reduceIte, Nat.reduceEqDiff, Int.reduceEq, Int.reduceLT, Int.reduceLE, Int.reduceAdd, Int.reduceSub, Int.reduceMul, Int.reduceNeg, and_true, true_and, not_true, not_false_eq_true, true_or, or_true, ne_eq, hL, p1]
    rw [iAdd_id (by omega) (by omega)]
    have hno : ∀ v : Int, ¬ (d 98 x = w ∧ d 101 x = 0 ∧ ct d w x) → Q' (sl (sl L 3 v) 2 (x + 1)) M' := by
      intro v c
      refine hQ' _ _ rfl ⟨?_, p2, p3, fun s a b => ?_⟩
      · simp only [sl_ap, st_fn, Nat.reduceEqDiff, ↓reduceIte, reduceIte, Int.reduceEq, if_true, if_false]; exact p1
      · rw [hsu s, show hbB d w s x = false from decide_eq_false (fun q => c q.2), if_neg (by decide)]
        exact p4 s a b
    rw [l6, l9]
    refine ⟨hx0, by omega, fun c1 => ⟨hx0, by omega, fun c2 => ⟨fun _ => ?_, fun q => absurd q (by simp)⟩, fun c2 => ⟨fun q => absurd q (by simp), fun _ => hno _ (fun q => c2 q.2.1)⟩⟩, fun c1 => ⟨fun q => absurd q (by simp), fun _ => hno _ (fun q => c1 q.1)⟩⟩
    rw [F_Ledger_doesCount_iff hx0 (by omega) (by rw [l6, l10]; omega), ite_eq_of hct]
    refine ⟨fun c3 => ?_, fun c3 => ?_⟩
    · have c3 := (b01_ne _).mp c3
      rw [l4, l7, hourBit (by omega) (by omega), p4 _ g.1 g.2.1]
      have hlt := HBn_lt d w (d 96 x) x.toNat
      have hp : 2 ^ (d 99 x % 24).toNat < 2 ^ 24 := Nat.pow_lt_pow_right (by omega) (by omega)
      rw [iOr_n (by omega) (by omega)]
      refine ⟨by omega, by omega, by omega, by omega, by omega, by omega, ?_⟩
      ((repeat' (first | (with_reducible intro _) | (with_reducible refine And.intro ?_ ?_))) <;> try (exfalso; omega))
      refine hQ' _ _ rfl ⟨?_, p2.set (by decide) _ _, p3, fun s a b => ?_⟩
      · simp only [sl_ap, st_fn, Nat.reduceEqDiff, ↓reduceIte, reduceIte, Int.reduceEq, if_true, if_false]; exact p1
      · rw [st_upx, upx_ap, hsu s]
        by_cases cs : s = d 96 x
        · rw [if_pos cs, show hbB d w s x = true from decide_eq_true ⟨cs.symm, c1, c2, c3⟩, if_pos rfl, cs]
        · rw [if_neg cs, show hbB d w s x = false from decide_eq_false (fun q => cs q.1.symm), if_neg (by decide)]
          exact p4 s a b
    · exact hno _ (fun q => c3 ((b01_ne _).mpr q.2.2))
  · intro L M' _ ⟨p1, p2, p3, p4⟩
    exact hQ M' p2 p4
def S_R_hoursOf_ (FC : XF2) : XS := sSeq (sSet 3 (eK 0)) (sSeq (sSeq (sSet 4 (eK 0)) (sWhile (cB (fun x y => x < y) (eL 4) (eF 81 19)) (sSeq (sSet 3 (eB iOr (eL 3) (eIf (cAnd (cAnd (cAnd (cB (fun x y => x = y) (eA 96 150 (eL 4)) (eL 1)) (cB (fun x y => x = y) (eA 98 150 (eL 4)) (eL 2))) (cZ (fun x => x = 0) (eA 101 150 (eL 4)))) (cZ (fun x => x ≠ 0) (eC2 FC (eL 4) (eL 2)))) (eB iShl (eK 1) (eV iRem (eA 99 150 (eL 4)) (eK 24))) (eK 0)))) (sInc 4 1)))) (sRet (eL 3)))
theorem S_R_hoursOf_eq : S_R_hoursOf = S_R_hoursOf_ F_R_counts := rfl
theorem R_hoursOf_ok {d M : XM} {w s : Int} {Q : Int → XM → Prop} (hB : Base d) (hC : RF d M) (hR : RdP d M) (hs : 0 ≤ s ∧ s < d 81 11) (hQ : Q ((HB d w s : Nat) : Int) M) : F_R_hoursOf s w M Q := by
  have hsa := hB.2.2.2.1.1
  unfold F_R_hoursOf
  rw [S_R_hoursOf_eq]
  have key : ∀ FC : XF2, (∀ (k : Int) (Q : Int → XM → Prop), (0 ≤ k ∧ k < d 81 19) → Q (if ct d w k then 1 else 0) M → FC k w M Q) → S_R_hoursOf_ FC (fun _ _ => False) Q (sl (sl (fun _ => 0) 1 s) 2 w) M := by
    intro FC hFC
    unfold S_R_hoursOf_
    simp only [sSeq, sSet, sInc, sPF, sPA, sPD, sOF, sOA, sX, sIf, sSkip, sRet, sRetB, sRetV, sSw, sSel, eK, eL, eR, eF, eA, eQ, eD, eU, eB, eV, eIf, ePF, eC0, eC1, eC2, eC3, eC4, eC5, eC6, eC7, cB, cZ, cAnd, cOr, cNot, i2l, st_fn, sl_ap, if_true, if_false, ↓reduceIte, reduceIte, Nat.reduceEqDiff, Int.reduceEq, Int.reduceLT, Int.reduceLE, Int.reduceAdd, Int.reduceSub, Int.reduceMul, Int.reduceNeg, and_true, true_and, not_true, not_false_eq_true, true_or, or_true, ne_eq]
    refine while_up 4 0 (d 81 19) (fun x L M' => M' = M ∧ L 1 = s ∧ L 2 = w ∧ L 3 = ((HBn d w s x.toNat : Nat) : Int)) hsa.1 rfl ⟨rfl, rfl, rfl, rfl⟩ ?_ ?_ ?_
    · intro x L M' P F a1 a2 hL ⟨k1, _⟩ hT hF
      subst k1
      simp only [sSeq, sSet, sInc, sPF, sPA, sPD, sOF, sOA, sX, sIf, sSkip, sRet, sRetB, sRetV, sSw, sSel, eK, eL, eR, eF, eA, eQ, eD, eU, eB, eV, eIf, ePF, eC0, eC1, eC2, eC3, eC4, eC5, eC6, eC7, cB, cZ, cAnd, cOr, cNot, i2l, st_fn, sl_ap, if_true, if_false, ↓reduceIte, reduceIte, Nat.reduceEqDiff, Int.reduceEq, Int.reduceLT, Int.reduceLE, Int.reduceAdd, Int.reduceSub, Int.reduceMul, Int.reduceNeg, and_true, true_and, not_true, not_false_eq_true, true_or, or_true, ne_eq, hL, hC.2.1 19 (by decide)]
      exact ⟨hT, hF⟩
    · intro x L M' Q' hx0 hx1 hL ⟨k1, k2, k3, k4⟩ hQ'
      subst k1
      have e96 : M' 96 = d 96 := hC.1 96 (by omega) (by omega) (by decide)
      have e98 : M' 98 = d 98 := hC.1 98 (by omega) (by omega) (by decide)
      have e99 : M' 99 = d 99 := hC.1 99 (by omega) (by omega) (by decide)
      have e101 : M' 101 = d 101 := hC.1 101 (by omega) (by omega) (by decide)
      have g := hB.2.2.2.1.2.2 x hx0 hx1
      have hsu := HBn_succ d w s hx0
      have hlt := HBn_lt d w s x.toNat
      simp only [sSeq, sSet, sInc, sPF, sPA, sPD, sOF, sOA, sX, sIf, sSkip, sRet, sRetB, sRetV, sSw, sSel, eK, eL, eR, eF, eA, eQ, eD, eU, eB, eV, eIf, ePF, eC0, eC1, eC2, eC3, eC4, eC5, eC6, eC7, cB, cZ, cAnd, cOr, cNot, i2l, st_fn, sl_ap, if_true, if_false, ↓reduceIte, reduceIte, Nat.reduceEqDiff, Int.reduceEq, Int.reduceLT, Int.reduceLE, Int.reduceAdd, Int.reduceSub, Int.reduceMul, Int.reduceNeg, and_true, true_and, not_true, not_false_eq_true, true_or, or_true, ne_eq, hL, k2, k3, k4, e96, e98, e101]
      have hfin : ∀ v, v = ((HBn d w s (x + 1).toNat : Nat) : Int) → Q' (sl (sl L 3 v) 4 (iAdd x 1)) M' := by
        intro v hv
        rw [iAdd_id (by omega) (by omega)]
        refine hQ' _ _ rfl ⟨rfl, ?_, ?_, ?_⟩
        · simp only [sl_ap, st_fn, Nat.reduceEqDiff, ↓reduceIte, reduceIte, Int.reduceEq, if_true, if_false]; exact k2
        · simp only [sl_ap, st_fn, Nat.reduceEqDiff, ↓reduceIte, reduceIte, Int.reduceEq, if_true, if_false]; exact k3
        · simp only [sl_ap, st_fn, Nat.reduceEqDiff, ↓reduceIte, reduceIte, Int.reduceEq, if_true, if_false]; exact hv
      have hno : ¬ (d 96 x = s ∧ d 98 x = w ∧ d 101 x = 0 ∧ ct d w x) → Q' (sl (sl L 3 (iOr ((HBn d w s x.toNat : Nat) : Int) 0)) 4 (iAdd x 1)) M' := by
        intro c
        refine hfin _ ?_
        rw [hsu, show hbB d w s x = false from decide_eq_false c, if_neg (by decide), show (0 : Int) = ((0 : Nat) : Int) from rfl, iOr_n (by omega) (by omega), Nat.or_zero]
      refine ⟨hx0, by omega, fun c1 => ⟨hx0, by omega, fun c2 => ⟨hx0, by omega, fun c3 => ?_, fun c3 => hno (fun q => c3 q.2.2.1)⟩, fun c2 => hno (fun q => c2 q.2.1)⟩, fun c1 => hno (fun q => c1 q.1)⟩
      refine hFC x _ ⟨hx0, hx1⟩ ?_
      by_cases c4 : ct d w x
      · rw [if_pos c4]
        refine ⟨fun _ => ?_, fun q => absurd q (by simp)⟩
        have hp : 2 ^ (d 99 x % 24).toNat < 2 ^ 24 := Nat.pow_lt_pow_right (by omega) (by omega)
        rw [e99, hourBit (by omega) (by omega)]
        ((repeat' (first | (with_reducible intro _) | (with_reducible refine And.intro ?_ ?_))) <;> try (exfalso; omega))
        all_goals first
          | omega
          | (refine hfin _ ?_
             rw [hsu, show hbB d w s x = true from decide_eq_true ⟨c1, c2, c3, c4⟩, if_pos rfl, iOr_n (by omega) (by omega)])
      · rw [if_neg c4]
        exact ⟨fun q => absurd q (by simp), fun _ => hno (fun q => c4 q.2.2.2)⟩
    · intro L M' _ ⟨k1, k2, k3, k4⟩
      subst k1
      rw [k4]
      exact hQ
  exact key F_R_counts fun k Q hk hq => R_counts_ok hB.2.2.2.1 hB.2.2.2.2.1 hC hR hk hq
/-! the chance -/
theorem chz_abs : ∀ n i : Nat, (i + 1) * chz n (i + 1) + i * chz n i = n * chz n i
  | 0, 0 => rfl
  | 0, i + 1 => by
    show (i + 2) * 0 + (i + 1) * 0 = 0 * 0
    simp
  | n + 1, 0 => by
    have h := chz_abs n 0
    have e0 : ∀ m, chz m 0 = 1 := fun m => by cases m <;> rfl
    have e1 : chz (n + 1) (0 + 1) = chz n 0 + chz n (0 + 1) := rfl
    rw [e1, e0, e0]
    rw [e0] at h
    omega
  | n + 1, j + 1 => by
    have h1 := chz_abs n (j + 1)
    have h2 := chz_abs n j
    have e1 : chz (n + 1) (j + 1 + 1) = chz n (j + 1) + chz n (j + 1 + 1) := rfl
    have e2 : chz (n + 1) (j + 1) = chz n j + chz n (j + 1) := rfl
    rw [e1, e2]
    generalize chz n (j + 1 + 1) = W at *
    generalize chz n (j + 1) = X at *
    generalize chz n j = Y at *
    simp only [Nat.add_mul, Nat.mul_add, Nat.one_mul] at h1 h2 ⊢
    omega
theorem chz_pos : ∀ n m : Nat, m ≤ n → 0 < chz n m
  | n, 0, _ => by cases n <;> exact Nat.one_pos
  | 0, m + 1, h => absurd h (by omega)
  | n + 1, m + 1, h => by
    have := chz_pos n m (by omega)
    show 0 < chz n m + chz n (m + 1)
    omega
theorem chz_24 {n : Nat} (h : n ≤ 24) (m : Nat) : chz n m ≤ 16777216 := by
  have h1 := chz_le n m
  have h2 : 2 ^ n ≤ 2 ^ 24 := Nat.pow_le_pow_right (by omega) h
  have h3 : (2 : Nat) ^ 24 = 16777216 := rfl
  omega
theorem R_ways_ok {n k : Nat} {M : XM} {Q : Int → XM → Prop} (hn : n ≤ 24) (hk : k ≤ 24) (hQ : Q ((chz n k : Nat) : Int) M) : F_R_ways (n : Int) (k : Int) M Q := by
  unfold F_R_ways S_R_ways
  simp only [sSeq, sSet, sInc, sPF, sPA, sPD, sOF, sOA, sX, sIf, sSkip, sRet, sRetB, sRetV, sSw, sSel, eK, eL, eR, eF, eA, eQ, eD, eU, eB, eV, eIf, ePF, eC0, eC1, eC2, eC3, eC4, eC5, eC6, eC7, cB, cZ, cAnd, cOr, cNot, i2l, st_fn, sl_ap, if_true, if_false, ↓reduceIte, reduceIte, Nat.reduceEqDiff, Int.reduceEq, Int.reduceLT, Int.reduceLE, Int.reduceAdd, Int.reduceSub, Int.reduceMul, Int.reduceNeg, and_true, true_and, not_true, not_false_eq_true, true_or, or_true, ne_eq]
  refine ⟨fun q => absurd q (by omega), fun _ => ⟨fun c => ?_, fun c => ?_⟩⟩
  · rw [chz_out n k (by omega)] at hQ
    exact hQ
  · refine while_up 4 0 (k : Int) (fun x L M' => M' = M ∧ L 0 = (n : Int) ∧ L 1 = (k : Int) ∧ L 2 = ((chz n x.toNat : Nat) : Int)) (by omega) rfl ⟨rfl, rfl, rfl, by simp only [sl_ap, st_fn, Nat.reduceEqDiff, ↓reduceIte, reduceIte, Int.reduceEq, if_true, if_false]; cases n <;> rfl⟩ ?_ ?_ ?_
    · intro x L M' P F a1 a2 hL ⟨_, _, k2, _⟩ hT hF
      simp only [sSeq, sSet, sInc, sPF, sPA, sPD, sOF, sOA, sX, sIf, sSkip, sRet, sRetB, sRetV, sSw, sSel, eK, eL, eR, eF, eA, eQ, eD, eU, eB, eV, eIf, ePF, eC0, eC1, eC2, eC3, eC4, eC5, eC6, eC7, cB, cZ, cAnd, cOr, cNot, i2l, st_fn, sl_ap, if_true, if_false, ↓reduceIte, reduceIte, Nat.reduceEqDiff, Int.reduceEq, Int.reduceLT, Int.reduceLE, Int.reduceAdd, Int.reduceSub, Int.reduceMul, Int.reduceNeg, and_true, true_and, not_true, not_false_eq_true, true_or, or_true, ne_eq, hL, k2]
      exact ⟨hT, hF⟩
    · intro x L M' Q' hx0 hx1 hL ⟨k1, k2, k3, k4⟩ hQ'
      subst k1
      obtain ⟨i, rfl⟩ : ∃ i : Nat, x = (i : Int) := ⟨x.toNat, by omega⟩
      simp only [sSeq, sSet, sInc, sPF, sPA, sPD, sOF, sOA, sX, sIf, sSkip, sRet, sRetB, sRetV, sSw, sSel, eK, eL, eR, eF, eA, eQ, eD, eU, eB, eV, eIf, ePF, eC0, eC1, eC2, eC3, eC4, eC5, eC6, eC7, cB, cZ, cAnd, cOr, cNot, i2l, st_fn, sl_ap, if_true, if_false, ↓reduceIte, reduceIte, Nat.reduceEqDiff, Int.reduceEq, Int.reduceLT, Int.reduceLE, Int.reduceAdd, Int.reduceSub, Int.reduceMul, Int.reduceNeg, and_true, true_and, not_true, not_false_eq_true, true_or, or_true, ne_eq, hL, k2, k4]
      have hb := chz_24 hn i
      have hb2 := chz_24 hn (i + 1)
      have ha := chz_abs n i
      have e : chz n i * (n - i) = (i + 1) * chz n (i + 1) := by
        rw [Nat.mul_sub, Nat.mul_comm _ n, Nat.mul_comm _ i]
        omega
      have hm : (i + 1) * chz n (i + 1) ≤ 25 * 16777216 := Nat.mul_le_mul (by omega) hb2
      rw [show ((i : Int)).toNat = i by omega, iSub_id (by omega) (by omega), iAdd_id (by omega) (by omega), show (n : Int) - (i : Int) = ((n - i : Nat) : Int) by omega]
      have e2 : ((chz n i : Nat) : Int) * ((n - i : Nat) : Int) = (((i + 1) * chz n (i + 1) : Nat) : Int) := by rw [← e]; exact (Int.natCast_mul _ _).symm
      rw [show lMul ((chz n i : Nat) : Int) ((n - i : Nat) : Int) = (((i + 1) * chz n (i + 1) : Nat) : Int) by rw [lMul_id (by rw [e2]; omega) (by rw [e2]; omega), e2]]
      rw [lDiv_id (by omega) (by omega), show (i : Int) + 1 = ((i + 1 : Nat) : Int) by omega, Int.natCast_mul, Int.mul_tdiv_cancel_left _ (show ((i + 1 : Nat) : Int) ≠ 0 by omega)]
      refine ⟨by omega, hQ' _ _ (by simp only [sl_ap, st_fn, Nat.reduceEqDiff, ↓reduceIte, reduceIte, Int.reduceEq, if_true, if_false]; omega) ⟨rfl, ?_, ?_, ?_⟩⟩
      · simp only [sl_ap, st_fn, Nat.reduceEqDiff, ↓reduceIte, reduceIte, Int.reduceEq, if_true, if_false]; exact k2
      · simp only [sl_ap, st_fn, Nat.reduceEqDiff, ↓reduceIte, reduceIte, Int.reduceEq, if_true, if_false]; exact k3
      · simp only [sl_ap, st_fn, Nat.reduceEqDiff, ↓reduceIte, reduceIte, Int.reduceEq, if_true, if_false]
        rw [show ((i : Int) + 1).toNat = i + 1 by omega]
    · intro L M' hL ⟨k1, k2, k3, k4⟩
      subst k1
      rw [k4]
      exact hQ
def cTm (n m k j : Int) : Int := if k ≤ j then lMul ((chz n.toNat j.toNat : Nat) : Int) ((chz (24 - n).toNat (m - j).toNat : Nat) : Int) else 0
def cSm (n m k : Int) : Nat → Int
  | 0 => 0
  | x + 1 => lAdd (cSm n m k x) (cTm n m k (x : Int))
theorem cSm_r (n m k : Int) : ∀ x : Nat, r64 (cSm n m k x)
  | 0 => xz64
  | x + 1 => x64_r _
theorem lAdd_0 {x : Int} (h : r64 x) : lAdd x 0 = x := by
  unfold lAdd
  rw [Int.add_zero, x64_id h]
theorem cSm_succ (n m k : Int) {x : Int} (h : 0 ≤ x) : cSm n m k (x + 1).toNat = lAdd (cSm n m k x.toNat) (cTm n m k x) := by
  have e1 : ((x.toNat : Nat) : Int) = x := by omega
  rw [show (x + 1).toNat = x.toNat + 1 by omega]
  show lAdd (cSm n m k x.toNat) (cTm n m k ((x.toNat : Nat) : Int)) = _
  rw [e1]
theorem cSm_low (n m k : Int) : ∀ x : Nat, (x : Int) ≤ k → cSm n m k x = 0
  | 0, _ => rfl
  | x + 1, h => by
    show lAdd (cSm n m k x) (cTm n m k (x : Int)) = 0
    rw [cSm_low n m k x (by omega)]
    have : cTm n m k (x : Int) = 0 := if_neg (by omega)
    rw [this]
    exact lAdd_0 xz64
theorem cSm_high {n m k : Int} (hn : 0 ≤ n) : ∀ (i x : Nat), n < (x : Int) → cSm n m k (x + i) = cSm n m k x
  | 0, _, _ => rfl
  | i + 1, x, h => by
    show lAdd (cSm n m k (x + i)) (cTm n m k ((x + i : Nat) : Int)) = _
    have : cTm n m k ((x + i : Nat) : Int) = 0 := by
      unfold cTm
      rw [chz_out n.toNat _ (by omega)]
      split
      · unfold lMul
        rw [show (((0 : Nat) : Int)) = 0 from rfl, Int.zero_mul]
        decide
      · rfl
    rw [this, lAdd_0 (cSm_r n m k _), cSm_high hn i x h]
def chS (n m k : Int) : Int := l2i (lDiv (lMul 1000000 (cSm n m k (m + 1).toNat)) ((chz 24 m.toNat : Nat) : Int))
def cWays (M : XM) : Prop := ∀ n m : Nat, n ≤ 24 → m ≤ 24 → M (42 + n) (m : Int) = ((chz n m : Nat) : Int)
theorem Habits_chance_ok {M : XM} {a b : Int} {x y : Nat} {Q : Int → XM → Prop} (hW : cWays M) (ha : 0 ≤ a ∧ a < 16) (hb : 0 ≤ b ∧ b < 16) (hx : x < 16777216) (hy : y < 16777216) (h1 : M 40 a = (x : Int)) (h2 : M 40 b = (y : Int)) (hQ : Q (chS (PC x : Nat) (PC y : Nat) (PC (x &&& y) : Nat)) M) : F_Habits_chance a b M Q := by
  have hxy : x &&& y < 16777216 := Nat.lt_of_le_of_lt Nat.and_le_left hx
  have p1 := PC_le hx
  have p2 := PC_le hy
  have p3 := PC_le hxy
  unfold F_Habits_chance S_Habits_chance
  simp only [sSeq, sSet, sInc, sPF, sPA, sPD, sOF, sOA, sX, sIf, sSkip, sRet, sRetB, sRetV, sSw, sSel, eK, eL, eR, eF, eA, eQ, eD, eU, eB, eV, eIf, ePF, eC0, eC1, eC2, eC3, eC4, eC5, eC6, eC7, cB, cZ, cAnd, cOr, cNot, i2l, st_fn, sl_ap, if_true, if_false, ↓reduceIte, reduceIte, Nat.reduceEqDiff, Int.reduceEq, Int.reduceLT, Int.reduceLE, Int.reduceAdd, Int.reduceSub, Int.reduceMul, Int.reduceNeg, and_true, true_and, not_true, not_false_eq_true, true_or, or_true, ne_eq, ha.1, ha.2, hb.1, hb.2, h1, h2, JI_bitCount_iff hx, JI_bitCount_iff hy, iAnd_n (show x < 2147483648 by omega), JI_bitCount_iff hxy]
  generalize PC x = n at *
  generalize PC y = m at *
  generalize PC (x &&& y) = k at *
  refine while_inv (fun L M' => M' = M ∧ ∃ j : Int, (k : Int) ≤ j ∧ L 8 = j ∧ L 3 = (n : Int) ∧ L 4 = (m : Int) ∧ L 6 = cSm n m k j.toNat ∧ j ≤ 25 ∧ (j = (k : Int) ∨ j ≤ (m : Int) + 1)) (fun L _ => (25 - L 8).toNat) ⟨rfl, k, Int.le_refl _, rfl, rfl, rfl, (cSm_low n m k _ (by omega)).symm, by omega, Or.inl rfl⟩ ?_
  intro L M' ⟨k1, j, k2, k3, k4, k5, k6, k7, k8⟩ Q' hQ'
  subst k1
  have hend : cSm (n : Int) m k j.toNat = cSm n m k ((m : Int) + 1).toNat → 0 ≤ (24 : Int) ∧ (24 : Int) < 25 ∧ 0 ≤ (m : Int) ∧ (m : Int) < 25 ∧ ((0 < M' (((42 : Nat) : Int) + 24).toNat (m : Int) → M' (((42 : Nat) : Int) + 24).toNat (m : Int) ≠ 0 ∧ Q (l2i (lDiv (lMul 1000000 (L 6)) (M' (((42 : Nat) : Int) + 24).toNat (m : Int)))) M') ∧ (¬ 0 < M' (((42 : Nat) : Int) + 24).toNat (m : Int) → Q 0 M')) := by
    intro e
    have e24 : M' (((42 : Nat) : Int) + 24).toNat (m : Int) = ((chz 24 m : Nat) : Int) := hW 24 m (by omega) p2
    have hp := chz_pos 24 m p2
    rw [e24, k6, e]
    refine ⟨by omega, by omega, by omega, by omega, fun _ => ⟨by omega, hQ⟩, fun q => absurd q (by omega)⟩
  simp only [sSeq, sSet, sInc, sPF, sPA, sPD, sOF, sOA, sX, sIf, sSkip, sRet, sRetB, sRetV, sSw, sSel, eK, eL, eR, eF, eA, eQ, eD, eU, eB, eV, eIf, ePF, eC0, eC1, eC2, eC3, eC4, eC5, eC6, eC7, cB, cZ, cAnd, cOr, cNot, i2l, st_fn, sl_ap, if_true, if_false, ↓reduceIte, reduceIte, Nat.reduceEqDiff, Int.reduceEq, Int.reduceLT, Int.reduceLE, Int.reduceAdd, Int.reduceSub, Int.reduceMul, Int.reduceNeg, and_true, true_and, not_true, not_false_eq_true, true_or, or_true, ne_eq, k3, k4, k5]
  have hfinal : ¬ (j ≤ (n : Int) ∧ j ≤ (m : Int)) → cSm (n : Int) m k j.toNat = cSm n m k ((m : Int) + 1).toNat := by
    intro c
    by_cases c1 : j ≤ (m : Int)
    · have c2 : (n : Int) < j := by omega
      have := cSm_high (n := (n : Int)) (m := m) (k := k) (by omega) (m + 1 - j.toNat) j.toNat (by omega)
      rw [← this]
      congr 1
      omega
    · by_cases c3 : j = (m : Int) + 1
      · rw [c3]
      · rw [cSm_low n m k j.toNat (by omega), cSm_low n m k _ (by omega)]
  refine ⟨fun c1 => ⟨fun c2 => ?_, fun c2 => (hend (hfinal (fun q => c2 q.2))).2.2⟩, fun c1 => (hend (hfinal (fun q => c1 q.1))).2.2⟩
  have e1 : M' (((42 : Nat) : Int) + (n : Int)).toNat j = ((chz n j.toNat : Nat) : Int) := by
    have := hW n j.toNat p1 (by omega)
    rw [show ((j.toNat : Nat) : Int) = j by omega] at this
    rw [show (((42 : Nat) : Int) + (n : Int)).toNat = 42 + n by omega]
    exact this
  have e2 : M' (((42 : Nat) : Int) + (24 - (n : Int))).toNat ((m : Int) - j) = ((chz (24 - n) (m - j.toNat) : Nat) : Int) := by
    have := hW (24 - n) (m - j.toNat) (by omega) (by omega)
    rw [show ((m - j.toNat : Nat) : Int) = (m : Int) - j by omega] at this
    rw [show (((42 : Nat) : Int) + (24 - (n : Int))).toNat = 42 + (24 - n) by omega]
    exact this
  rw [iSub_id (x := 24) (by omega) (by omega), iSub_id (x := (m : Int)) (by omega) (by omega), iAdd_id (by omega) (by omega), e1, e2, k6]
  refine ⟨by omega, by omega, by omega, by omega, by omega, by omega, by omega, by omega, hQ' _ _ ⟨rfl, j + 1, by omega, ?_, ?_, ?_, ?_, by omega, Or.inr (by omega)⟩ ?_⟩
  · simp only [sl_ap, st_fn, Nat.reduceEqDiff, ↓reduceIte, reduceIte, Int.reduceEq, if_true, if_false]
  · simp only [sl_ap, st_fn, Nat.reduceEqDiff, ↓reduceIte, reduceIte, Int.reduceEq, if_true, if_false]; exact k4
  · simp only [sl_ap, st_fn, Nat.reduceEqDiff, ↓reduceIte, reduceIte, Int.reduceEq, if_true, if_false]; exact k5
  · simp only [sl_ap, st_fn, Nat.reduceEqDiff, ↓reduceIte, reduceIte, Int.reduceEq, if_true, if_false]
    rw [cSm_succ _ _ _ (by omega)]
    have : cTm n m k j = lMul ((chz n j.toNat : Nat) : Int) ((chz (24 - n) (m - j.toNat) : Nat) : Int) := by
      unfold cTm
      rw [if_pos k2, show ((n : Int)).toNat = n by omega, show (24 - (n : Int)).toNat = 24 - n by omega, show ((m : Int) - j).toNat = m - j.toNat by omega]
    rw [this]
  · simp only [sl_ap, st_fn, Nat.reduceEqDiff, ↓reduceIte, reduceIte, Int.reduceEq, if_true, if_false, k3]
    omega
def S_R_chanceOf_ (FW : XF2) : XS := sSeq (sSet 3 (eK 0)) (sSeq (sSeq (sSet 5 (eL 2)) (sWhile (cB (fun x y => x ≤ y) (eL 5) (eL 1)) (sSeq (sSet 3 (eB lAdd (eL 3) (eB lMul (eC2 FW (eL 0) (eL 5)) (eC2 FW (eB iSub (eK 24) (eL 0)) (eB iSub (eL 1) (eL 5)))))) (sInc 5 1)))) (sRet (eU l2i (eV lDiv (eB lMul (eK 1000000) (eL 3)) (eC2 FW (eK 24) (eL 1))))))
theorem R_chanceOf_ok {n m k : Nat} {M : XM} {Q : Int → XM → Prop} (hn : n ≤ 24) (hm : m ≤ 24) (hk : k ≤ 24) (hQ : Q (chS n m k) M) : F_R_chanceOf (n : Int) (m : Int) (k : Int) M Q := by
  have key : ∀ FW : XF2, (∀ (n k : Nat) (M : XM) (Q : Int → XM → Prop), n ≤ 24 → k ≤ 24 → Q ((chz n k : Nat) : Int) M → FW (n : Int) (k : Int) M Q) → S_R_chanceOf_ FW (fun _ _ => False) Q (sl (sl (sl (fun _ => 0) 0 (n : Int)) 1 (m : Int)) 2 (k : Int)) M := by
    intro FW hFW
    unfold S_R_chanceOf_
    simp only [sSeq, sSet, sInc, sPF, sPA, sPD, sOF, sOA, sX, sIf, sSkip, sRet, sRetB, sRetV, sSw, sSel, eK, eL, eR, eF, eA, eQ, eD, eU, eB, eV, eIf, ePF, eC0, eC1, eC2, eC3, eC4, eC5, eC6, eC7, cB, cZ, cAnd, cOr, cNot, i2l, st_fn, sl_ap, if_true, if_false, ↓reduceIte, reduceIte, Nat.reduceEqDiff, Int.reduceEq, Int.reduceLT, Int.reduceLE, Int.reduceAdd, Int.reduceSub, Int.reduceMul, Int.reduceNeg, and_true, true_and, not_true, not_false_eq_true, true_or, or_true, ne_eq]
    refine while_inv (fun L M' => M' = M ∧ ∃ j : Int, (k : Int) ≤ j ∧ L 5 = j ∧ L 0 = (n : Int) ∧ L 1 = (m : Int) ∧ L 3 = cSm n m k j.toNat ∧ j ≤ 25 ∧ (j = (k : Int) ∨ j ≤ (m : Int) + 1)) (fun L _ => (25 - L 5).toNat) ⟨rfl, k, Int.le_refl _, rfl, rfl, rfl, (cSm_low n m k _ (by omega)).symm, by omega, Or.inl rfl⟩ ?_
    intro L M' ⟨k1, j, k2, k3, k4, k5, k6, k7, k8⟩ Q' hQ'
    subst k1
    simp only [sSeq, sSet, sInc, sPF, sPA, sPD, sOF, sOA, sX, sIf, sSkip, sRet, sRetB, sRetV, sSw, sSel, eK, eL, eR, eF, eA, eQ, eD, eU, eB, eV, eIf, ePF, eC0, eC1, eC2, eC3, eC4, eC5, eC6, eC7, cB, cZ, cAnd, cOr, cNot, i2l, st_fn, sl_ap, if_true, if_false, ↓reduceIte, reduceIte, Nat.reduceEqDiff, Int.reduceEq, Int.reduceLT, Int.reduceLE, Int.reduceAdd, Int.reduceSub, Int.reduceMul, Int.reduceNeg, and_true, true_and, not_true, not_false_eq_true, true_or, or_true, ne_eq, k3, k4, k5]
    refine ⟨fun c1 => ?_, fun c1 => ?_⟩
    · rw [show j = ((j.toNat : Nat) : Int) by omega]
      refine hFW n j.toNat M' _ hn (by omega) ?_
      rw [iSub_id (x := 24) (by omega) (by omega), iSub_id (x := (m : Int)) (by omega) (by omega), show (24 : Int) - (n : Int) = ((24 - n : Nat) : Int) by omega, show (m : Int) - ((j.toNat : Nat) : Int) = ((m - j.toNat : Nat) : Int) by omega]
      refine hFW (24 - n) (m - j.toNat) M' _ (by omega) (by omega) ?_
      rw [k6, iAdd_id (by omega) (by omega)]
      refine hQ' _ _ ⟨rfl, j + 1, by omega, ?_, ?_, ?_, ?_, by omega, Or.inr (by omega)⟩ ?_
      · simp only [sl_ap, st_fn, Nat.reduceEqDiff, ↓reduceIte, reduceIte, Int.reduceEq, if_true, if_false]
        omega
      · simp only [sl_ap, st_fn, Nat.reduceEqDiff, ↓reduceIte, reduceIte, Int.reduceEq, if_true, if_false]; exact k4
      · simp only [sl_ap, st_fn, Nat.reduceEqDiff, ↓reduceIte, reduceIte, Int.reduceEq, if_true, if_false]; exact k5
      · simp only [sl_ap, st_fn, Nat.reduceEqDiff, ↓reduceIte, reduceIte, Int.reduceEq, if_true, if_false]
        rw [cSm_succ _ _ _ (by omega)]
        have : cTm n m k j = lMul ((chz n j.toNat : Nat) : Int) ((chz (24 - n) (m - j.toNat) : Nat) : Int) := by
          unfold cTm
          rw [if_pos k2, show ((n : Int)).toNat = n by omega, show (24 - (n : Int)).toNat = 24 - n by omega, show ((m : Int) - j).toNat = m - j.toNat by omega]
        rw [this]
      · simp only [sl_ap, st_fn, Nat.reduceEqDiff, ↓reduceIte, reduceIte, Int.reduceEq, if_true, if_false, k3]
        omega
    · have e : cSm (n : Int) m k j.toNat = cSm n m k ((m : Int) + 1).toNat := by
        by_cases c3 : j = (m : Int) + 1
        · rw [c3]
        · rw [cSm_low n m k j.toNat (by omega), cSm_low n m k _ (by omega)]
      have hp := chz_pos 24 m hm
      refine hFW 24 m M' _ (by omega) hm ?_
      rw [k6, e]
      exact ⟨by omega, hQ⟩
  exact key F_R_ways fun n k M Q h1 h2 h3 => R_ways_ok h1 h2 h3
/-! alike, odd -/
def chP (d : XM) (w a b : Int) : Int := chS (PC (HB d w a) : Nat) (PC (HB d w b) : Nat) (PC (HB d w a &&& HB d w b) : Nat)
abbrev vAlike (d : XM) (a b w u : Int) : Int := if (0 ≤ a ∧ a < d 81 11) ∧ (0 ≤ b ∧ b < d 81 11) ∧ ¬ a = b ∧ (0 ≤ w ∧ w ≤ 51) ∧ 0 ≤ u ∧ u ≤ 3 then (if u = 0 then ((PC (HB d w a) : Nat) : Int) else if u = 1 then ((PC (HB d w b) : Nat) : Int) else if u = 2 then ((PC (HB d w a &&& HB d w b) : Nat) : Int) else chP d w a b) else -2
def HgSpec (d : XM) (F : XF1) : Prop := ∀ (M : XM) (w : Int) (Q : Int → XM → Prop), CF d M → (∀ M', Only [24, 25, 40] M M' → (∀ s, 0 ≤ s → s < d 81 11 → M' 40 s = ((HB d w s : Nat) : Int)) → Q 0 M') → F w M Q
def HcSpec (F : XF2) : Prop := ∀ (M : XM) (a b : Int) (x y : Nat) (Q : Int → XM → Prop), cWays M → 0 ≤ a ∧ a < 16 → 0 ≤ b ∧ b < 16 → x < 16777216 → y < 16777216 → M 40 a = (x : Int) → M 40 b = (y : Int) → Q (chS (PC x : Nat) (PC y : Nat) (PC (x &&& y) : Nat)) M → F a b M Q
theorem hg_spec {d : XM} (hB : Base d) : HgSpec d F_Habits_gather := fun _ _ _ h1 h2 => Habits_gather_ok hB h1 h2
theorem hc_spec : HcSpec F_Habits_chance := fun _ _ _ _ _ _ h1 h2 h3 h4 h5 h6 h7 h8 => Habits_chance_ok h1 h2 h3 h4 h5 h6 h7 h8
theorem cWays_go {d M : XM} (hC : CF d M) (hW : cWays d) : cWays M := fun n m h1 h2 => by
  rw [hC (42 + n) (by unfold SC; simp only [List.mem_cons, List.not_mem_nil, or_false]; omega) (by omega)]
  exact hW n m h1 h2
def S_M_alike_ (FH FB : XF1) (FC : XF2) : XS := sSeq (sIf (cOr (cOr (cOr (cNot (cZ (fun x => x ≠ 0) (eC1 F_Trade_isShop (eU i2l (eL 1))))) (cNot (cZ (fun x => x ≠ 0) (eC1 F_Trade_isShop (eU i2l (eL 2)))))) (cB (fun x y => x = y) (eL 1) (eL 2))) (cNot (cZ (fun x => x ≠ 0) (eC1 F_M_isWeek (eU i2l (eL 3)))))) (sRet (eK (-2))) sSkip) (sSeq (sX (eC1 FH (eL 3))) (sSw (eL 4) [(0, sRet (eC1 FB (eA 40 16 (eL 1)))), (1, sRet (eC1 FB (eA 40 16 (eL 2)))), (2, sRet (eC1 FB (eB iAnd (eA 40 16 (eL 1)) (eA 40 16 (eL 2))))), (3, sRet (eC2 FC (eL 1) (eL 2)))] (sRet (eK (-2)))))
theorem M_alike_gen (FH FB : XF1) (FC : XF2) {d M : XM} {a b w u : Int} {Q : Int → XM → Prop} (hB : Base d) (hC : CF d M) (hW : cWays d) (hH : HgSpec d FH) (hb : ∀ (n : Nat) (M : XM) (Q : Int → XM → Prop), n < 16777216 → Q ((PC n : Nat) : Int) M → FB (n : Int) M Q) (hc : HcSpec FC) (hQ : ∀ M', Only SC M M' → Q (vAlike d a b w u) M') : S_M_alike_ FH FB FC (fun _ _ => False) Q (sl (sl (sl (sl (fun _ => 0) 1 a) 2 b) 3 w) 4 u) M := by
  obtain ⟨h1, h2, h3, h4, h5, h6, h7, h8, h9, h10, h11, h12, h13, h14⟩ := hC.dct hB
  obtain ⟨v1, v2, v3, v4, v5, v6⟩ := hB.2.2.1
  unfold S_M_alike_
  simp (disch := omega) only [sSeq, sSet, sInc, sPF, sPA, sPD, sOF, sOA, sX, sIf, sSkip, sRet, sRetB, sRetV, sSw, sSel, eK, eL, eR, eF, eA, eQ, eD, eU, eB, eV, eIf, ePF, eC0, eC1, eC2, eC3, eC4, eC5, eC6, eC7, cB, cZ, cAnd, cOr, cNot, i2l, st_fn, sl_ap, if_true, if_false, ↓reduceIte, reduceIte, Nat.reduceEqDiff, Int.reduceEq, Int.reduceLT, Int.reduceLE, Int.reduceAdd, Int.reduceSub, Int.reduceMul, Int.reduceNeg, and_true, true_and, not_true, not_false_eq_true, true_or, or_true, ne_eq, F_Trade_isShop_iff, F_M_isWeek_iff, b01_ne, h7]
  unfold vAlike at hQ
  by_cases c : (0 ≤ a ∧ a < d 81 11) ∧ (0 ≤ b ∧ b < d 81 11) ∧ ¬ a = b ∧ (0 ≤ w ∧ w ≤ 51)
  · ((repeat' (first | (with_reducible intro _) | (with_reducible refine And.intro ?_ ?_))) <;> try (exfalso; omega))
    refine hH M w _ hC fun M1 o1 g1 => ?_
    have hQ1 := hQ M1 (o1.wk (by decide))
    have hW1 := cWays_go (hC.go o1 (by decide)) hW
    have la := HB_lt d w a
    have lb := HB_lt d w b
    have lab : HB d w a &&& HB d w b < 16777216 := Nat.lt_of_le_of_lt Nat.and_le_left la
    have ga := g1 a c.1.1 c.1.2
    have gb := g1 b c.2.1.1 c.2.1.2
    rw [ga, gb, iAnd_n (by omega)]
    refine ⟨fun cu => ?_, fun cu => ⟨fun cu1 => ?_, fun cu1 => ⟨fun cu2 => ?_, fun cu2 => ⟨fun cu3 => ?_, fun cu3 => ?_⟩⟩⟩⟩
    · rw [if_pos ⟨c.1, c.2.1, c.2.2.1, c.2.2.2, by omega⟩, if_pos cu] at hQ1
      exact ⟨c.1.1, by omega, hb _ _ _ la hQ1⟩
    · rw [if_pos ⟨c.1, c.2.1, c.2.2.1, c.2.2.2, by omega⟩, if_neg cu, if_pos cu1] at hQ1
      exact ⟨c.2.1.1, by omega, hb _ _ _ lb hQ1⟩
    · rw [if_pos ⟨c.1, c.2.1, c.2.2.1, c.2.2.2, by omega⟩, if_neg cu, if_neg cu1, if_pos cu2] at hQ1
      exact ⟨c.1.1, by omega, c.2.1.1, by omega, hb _ _ _ lab hQ1⟩
    · rw [if_pos ⟨c.1, c.2.1, c.2.2.1, c.2.2.2, by omega⟩, if_neg cu, if_neg cu1, if_neg cu2] at hQ1
      exact hc M1 a b _ _ _ hW1 ⟨c.1.1, by omega⟩ ⟨c.2.1.1, by omega⟩ la lb ga gb hQ1
    · rw [if_neg (by omega)] at hQ1
      exact hQ1
  · rw [if_neg (by omega)] at hQ
    ((repeat' (first | (with_reducible intro _) | (with_reducible refine And.intro ?_ ?_))) <;> try (exfalso; omega))
    all_goals exact hQ M Only.rf
def S_R_alike_ (FO : XF1) (FH : XF2) (FC : XF3) : XS := sSeq (sIf (cOr (cOr (cOr (cOr (cNot (cZ (fun x => x ≠ 0) (eC1 F_R_isShop (eU i2l (eL 1))))) (cNot (cZ (fun x => x ≠ 0) (eC1 F_R_isShop (eU i2l (eL 2)))))) (cB (fun x y => x = y) (eL 1) (eL 2))) (cNot (cZ (fun x => x ≠ 0) (eC1 F_R_isWeek (eU i2l (eL 3)))))) (cNot (cZ (fun x => x ≠ 0) (eC3 F_R_in (eU i2l (eL 4)) (eK 0) (eK 3))))) (sRet (eK (-2))) sSkip) (sSeq (sX (eC0 F_R_reads)) (sSeq (sSet 5 (eC1 FO (eC2 FH (eL 1) (eL 3)))) (sSeq (sSet 6 (eC1 FO (eC2 FH (eL 2) (eL 3)))) (sSeq (sSet 7 (eC1 FO (eB iAnd (eC2 FH (eL 1) (eL 3)) (eC2 FH (eL 2) (eL 3))))) (sRet (eIf (cZ (fun x => x = 0) (eL 4)) (eL 5) (eIf (cB (fun x y => x = y) (eL 4) (eK 1)) (eL 6) (eIf (cB (fun x y => x = y) (eL 4) (eK 2)) (eL 7) (eC3 FC (eL 5) (eL 6) (eL 7))))))))))
theorem R_alike_gen (FO : XF1) (FH : XF2) (FC : XF3) {d M : XM} {a b w u : Int} {Q : Int → XM → Prop} (hB : Base d) (hC : RF d M) (hlo : M 81 29 = -1) (hO : ∀ (n : Nat) (M : XM) (Q : Int → XM → Prop), n < 16777216 → Q ((PC n : Nat) : Int) M → FO (n : Int) M Q) (hH : ∀ (M : XM) (s : Int) (Q : Int → XM → Prop), RF d M → RdP d M → 0 ≤ s ∧ s < d 81 11 → Q ((HB d w s : Nat) : Int) M → FH s w M Q) (hc : ∀ (n m k : Nat) (M : XM) (Q : Int → XM → Prop), n ≤ 24 → m ≤ 24 → k ≤ 24 → Q (chS n m k) M → FC (n : Int) (m : Int) (k : Int) M Q) (hQ : ∀ M', OnlyR SR SF M M' → M' 81 29 = -1 → Q (vAlike d a b w u) M') : S_R_alike_ FO FH FC (fun _ _ => False) Q (sl (sl (sl (sl (fun _ => 0) 1 a) 2 b) 3 w) 4 u) M := by
  obtain ⟨v1, v2, v3, v4, v5, v6⟩ := hB.2.2.1
  have e11 := hC.2.1 11 (by decide)
  unfold S_R_alike_
  simp (disch := omega) only [sSeq, sSet, sInc, sPF, sPA, sPD, sOF, sOA, sX, sIf, sSkip, sRet, sRetB, sRetV, sSw, sSel, eK, eL, eR, eF, eA, eQ, eD, eU, eB, eV, eIf, ePF, eC0, eC1, eC2, eC3, eC4, eC5, eC6, eC7, cB, cZ, cAnd, cOr, cNot, i2l, st_fn, sl_ap, if_true, if_false, ↓reduceIte, reduceIte, Nat.reduceEqDiff, Int.reduceEq, Int.reduceLT, Int.reduceLE, Int.reduceAdd, Int.reduceSub, Int.reduceMul, Int.reduceNeg, and_true, true_and, not_true, not_false_eq_true, true_or, or_true, ne_eq, F_R_isShop_iff, F_R_isWeek_iff, F_R_in_iff, b01_ne, e11]
  unfold vAlike at hQ
  by_cases c : (0 ≤ a ∧ a < d 81 11) ∧ (0 ≤ b ∧ b < d 81 11) ∧ ¬ a = b ∧ (0 ≤ w ∧ w ≤ 51) ∧ 0 ≤ u ∧ u ≤ 3
  · rw [if_pos c] at hQ
    ((repeat' (first | (with_reducible intro _) | (with_reducible refine And.intro ?_ ?_))) <;> try (exfalso; omega))
    refine R_reads_gen hB.2.2.2.2.1 hC fun M1 o1 g1 => ?_
    have hC1 := hC.go o1 (by decide) (by decide)
    have hQ1 := hQ M1 (o1.wk (by decide) (by decide)) ((o1.2 29 (by decide)).trans hlo)
    have la := HB_lt d w a
    have lb := HB_lt d w b
    have lab : HB d w a &&& HB d w b < 16777216 := Nat.lt_of_le_of_lt Nat.and_le_left la
    refine hH M1 a _ hC1 g1 c.1 (hO _ _ _ la ?_)
    refine hH M1 b _ hC1 g1 c.2.1 (hO _ _ _ lb ?_)
    refine hH M1 a _ hC1 g1 c.1 (hH M1 b _ hC1 g1 c.2.1 ?_)
    rw [iAnd_n (by omega)]
    refine hO _ _ _ lab ?_
    refine ⟨fun cu => ?_, fun cu => ⟨fun cu1 => ?_, fun cu1 => ⟨fun cu2 => ?_, fun cu2 => ?_⟩⟩⟩
    · rw [if_pos cu] at hQ1; exact hQ1
    · rw [if_neg cu, if_pos cu1] at hQ1; exact hQ1
    · rw [if_neg cu, if_neg cu1, if_pos cu2] at hQ1; exact hQ1
    · rw [if_neg cu, if_neg cu1, if_neg cu2] at hQ1
      exact hc _ _ _ _ _ (PC_le la) (PC_le lb) (PC_le lab) hQ1
  · rw [if_neg c] at hQ
    ((repeat' (first | (with_reducible intro _) | (with_reducible refine And.intro ?_ ?_))) <;> try (exfalso; omega))
    all_goals exact hQ M OnlyR.rf hlo
theorem ways_of {Z M : XM} (hZ : ZC Z) (h : Inv Z M) : cWays M := fun n m h1 h2 => by
  rw [h.2.2.2.2.2.1 (42 + n) (by omega)]
  exact hZ.2 n m h1 h2
theorem ok_alike {Z M : XM} (hZ : ZC Z) (h : Inv Z M) (x1 x2 x3 x4 : Int) : F_M_alike x1 x2 x3 x4 M (fun v M1 => F_R_alike x1 x2 x3 x4 M1 (fun w M2 => v = w ∧ Inv Z M2)) :=
  have hB := h.base hZ
  ok_of (FM := F_M_alike x1 x2 x3 x4) (FR := F_R_alike x1 x2 x3 x4) h (vAlike M x1 x2 x3 x4) (fun _ hQ => M_alike_gen F_Habits_gather F_JI_bitCount F_Habits_chance hB CF.rf (ways_of hZ h) (hg_spec hB) (fun _ _ _ h1 h2 => (JI_bitCount_iff h1).mpr h2) hc_spec hQ) (fun _ _ hC hlo hQ => R_alike_gen F_R_ones F_R_hoursOf F_R_chanceOf hB hC hlo (fun _ _ _ h1 h2 => R_ones_ok h1 h2) (fun _ _ _ h1 h2 h3 h4 => R_hoursOf_ok hB h1 h2 h3 h4) (fun _ _ _ _ _ h1 h2 h3 h4 => R_chanceOf_ok h1 h2 h3 h4) hQ)
