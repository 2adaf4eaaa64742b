/-! ===== what is so by rules in a week ===== -/
def piN (it fr : Int → Int) (i w : Int) : Nat → Int
  | 0 => -1
  | n + 1 => if it (n : Int) = i ∧ fr (n : Int) ≤ w then (n : Int) else piN it fr i w n
def pI (d : XM) (i w : Int) : Int := piN (d 26) (d 28) i w (npI d).toNat
def usual (i : Int) : Int := if i = 0 then 100 else if i = 1 then 1 else if i = 3 then 51 else if i = 5 then 167 else if 6 ≤ i ∧ i ≤ 13 then 100 else 0
def rlN (it nu fr : Int → Int) (i w : Int) (n : Nat) : Int := if piN it fr i w n = -1 then usual i else nu (piN it fr i w n)
def rl (d : XM) (i w : Int) : Int := rlN (d 26) (d 27) (d 28) i w (npI d).toNat
theorem piN_r (it fr : Int → Int) (i w : Int) : ∀ n : Nat, piN it fr i w n = -1 ∨ (0 ≤ piN it fr i w n ∧ piN it fr i w n < n ∧ it (piN it fr i w n) = i)
  | 0 => Or.inl rfl
  | n + 1 => by
    have h := piN_r it fr i w n
    show (if it (n : Int) = i ∧ fr (n : Int) ≤ w then (n : Int) else piN it fr i w n) = -1 ∨ _
    have e : piN it fr i w (n + 1) = if it (n : Int) = i ∧ fr (n : Int) ≤ w then (n : Int) else piN it fr i w n := rfl
    rw [e]
    by_cases c : it (n : Int) = i ∧ fr (n : Int) ≤ w
    · rw [if_pos c]
      exact Or.inr ⟨by omega, by omega, c.1⟩
    · rw [if_neg c]
      rcases h with h | ⟨h1, h2, h3⟩
      · exact Or.inl h
      · exact Or.inr ⟨h1, by omega, h3⟩
theorem DCr_n {M : XM} (hr : DCr M) : 0 ≤ npI M ∧ npI M ≤ 50 ∧ (M 22 2 = -1 → M 22 8 < 50) := by
  unfold DCr Rpt at hr
  obtain ⟨t1, t2, t3, t4, t5, t6, t7, -, tl⟩ := hr
  unfold npI
  rcases tl with ⟨l1, l2⟩ | ⟨l1, -⟩
  · have ho := pp_ok (T := M 104) (n := M 81 31) (a := M 22 9) (by omega) (by rw [l2])
    rw [l2] at ho
    dsimp only at ho
    rw [if_pos l1]
    omega
  · rw [if_neg (by omega)]
    omega
theorem DCr_good {M : XM} (hr : DCr M) : ∀ k, 0 ≤ k → k < npI M → goodI (M 26 k) (M 27 k) (M 28 k) := by
  unfold DCr Rpt at hr
  obtain ⟨t1, t2, t3, t4, t5, t6, t7, ⟨pos, q1, q2, q3⟩, tl⟩ := hr
  intro k h1 h2
  unfold npI at h2
  by_cases c : k < M 22 8
  · obtain ⟨a1, a2, a3, a4⟩ := q3 k h1 c
    have ho := pp_ok (T := M 104) (n := M 81 31) a1 (by rw [a3])
    rw [a3] at ho
    exact ho.1
  · rcases tl with ⟨l1, l2⟩ | ⟨l1, -⟩
    · rw [if_pos l1] at h2
      have ho := pp_ok (T := M 104) (n := M 81 31) (a := M 22 9) (by omega) (by rw [l2])
      rw [l2] at ho
      rw [show k = M 22 8 by omega]
      exact ho.1
    · rw [if_neg (by omega)] at h2
      omega
theorem rl_r {M : XM} (hr : DCr M) {i : Int} (h0 : 0 ≤ i) (h1 : i ≤ 14) (w : Int) : loOf i ≤ rl M i w ∧ rl M i w ≤ hiOf i := by
  unfold rl rlN
  rcases piN_r (M 26) (M 28) i w (npI M).toNat with h | ⟨h2, h3, h4⟩
  · rw [if_pos h]
    unfold usual loOf hiOf
    (repeat' split) <;> omega
  · rw [if_neg (by omega)]
    have hn := DCr_n hr
    have g := DCr_good hr _ h2 (by omega)
    unfold goodI at g
    rw [h4] at g
    exact ⟨g.2.2.1, g.2.2.2.1⟩
theorem R_partIn_ok {d M : XM} {i w : Int} {Q : Int → XM → Prop} (h : RdP d M) (hn : 0 ≤ npI d) (hn2 : npI d ≤ 50) (hQ : Q (pI d i w) M) : F_R_partIn i w M Q := by
  unfold F_R_partIn S_R_partIn
  simp only [sSeq, sSet, sInc, sPF, sPA, sPD, sOF, sOA, sX, sIf, sSkip, sRet, sRetB, sRetV, sSw, sSel, eK, eL, eR, eF, eA, eQ, eD, eU, eB, eV, eIf, ePF, eC0, eC1, eC2, eC3, eC4, eC5, eC6, eC7, cB, cZ, cAnd, cOr, cNot, i2l, st_fn, sl_ap, if_true, if_false, ↓reduceIte, reduceIte, Nat.reduceEqDiff, Int.reduceEq, Int.reduceLT, Int.reduceLE, Int.reduceAdd, Int.reduceSub, Int.reduceMul, Int.reduceNeg, and_true, true_and, not_true, not_false_eq_true, true_or, or_true, ne_eq]
  refine while_up 4 0 (npI d) (fun x L M' => M' = M ∧ L 1 = i ∧ L 2 = w ∧ L 3 = piN (d 26) (d 28) i w x.toNat) hn rfl ⟨rfl, rfl, rfl, rfl⟩ ?_ ?_ ?_
  · intro x L M' T F h1 h2 hL ⟨j1, j2, j3, j4⟩ hT hF
    subst j1
    simp only [sSeq, sSet, sInc, sPF, sPA, sPD, sOF, sOA, sX, sIf, sSkip, sRet, sRetB, sRetV, sSw, sSel, eK, eL, eR, eF, eA, eQ, eD, eU, eB, eV, eIf, ePF, eC0, eC1, eC2, eC3, eC4, eC5, eC6, eC7, cB, cZ, cAnd, cOr, cNot, i2l, st_fn, sl_ap, if_true, if_false, ↓reduceIte, reduceIte, Nat.reduceEqDiff, Int.reduceEq, Int.reduceLT, Int.reduceLE, Int.reduceAdd, Int.reduceSub, Int.reduceMul, Int.reduceNeg, and_true, true_and, not_true, not_false_eq_true, true_or, or_true, ne_eq, hL]
    rw [h.1]
    exact ⟨hT, hF⟩
  · intro x L M' Q' hx0 hx1 hL ⟨j1, j2, j3, j4⟩ hQ'
    subst j1
    obtain ⟨r1, r2, r3⟩ := h.2 x hx0 hx1
    simp only [sSeq, sSet, sInc, sPF, sPA, sPD, sOF, sOA, sX, sIf, sSkip, sRet, sRetB, sRetV, sSw, sSel, eK, eL, eR, eF, eA, eQ, eD, eU, eB, eV, eIf, ePF, eC0, eC1, eC2, eC3, eC4, eC5, eC6, eC7, cB, cZ, cAnd, cOr, cNot, i2l, st_fn, sl_ap, if_true, if_false, ↓reduceIte, reduceIte, Nat.reduceEqDiff, Int.reduceEq, Int.reduceLT, Int.reduceLE, Int.reduceAdd, Int.reduceSub, Int.reduceMul, Int.reduceNeg, and_true, true_and, not_true, not_false_eq_true, true_or, or_true, ne_eq, hL, j2, j3, r1, r3]
    rw [iAdd_id (by omega) (by omega)]
    have hs : piN (d 26) (d 28) i w (x + 1).toNat = if d 26 x = i ∧ d 28 x ≤ w then x else piN (d 26) (d 28) i w x.toNat := by
      rw [show (x + 1).toNat = x.toNat + 1 by omega]
      show (if d 26 ((x.toNat : Nat) : Int) = i ∧ d 28 ((x.toNat : Nat) : Int) ≤ w then ((x.toNat : Nat) : Int) else _) = _
      rw [show ((x.toNat : Nat) : Int) = x by omega]
    have hfin : ∀ v, v = piN (d 26) (d 28) i w (x + 1).toNat → Q' (sl (sl L 3 v) 4 (x + 1)) M' := by
      intro v hv
      refine hQ' _ _ rfl ⟨rfl, ?_, ?_, ?_⟩
      · simp only [sl_ap, Nat.reduceEqDiff, if_false]; exact j2
      · simp only [sl_ap, Nat.reduceEqDiff, if_false]; exact j3
      · simp only [sl_ap, Nat.reduceEqDiff, if_true, if_false]; exact hv
    refine ⟨hx0, by omega, fun c => ⟨hx0, by omega, fun c2 => hfin _ ?_, fun c2 => hfin _ ?_⟩, fun c => hfin _ ?_⟩
    · rw [hs, if_pos ⟨c, c2⟩]
    · rw [hs, if_neg (fun q => c2 q.2)]; exact j4
    · rw [hs, if_neg (fun q => c q.1)]; exact j4
  · intro L M' hL ⟨j1, j2, j3, j4⟩
    subst j1
    rw [j4]
    exact hQ
theorem R_says_ok {d M : XM} {i w : Int} {Q : Int → XM → Prop} (h : RdP d M) (hn : 0 ≤ npI d) (hn2 : npI d ≤ 50) (hQ : Q (rl d i w) M) : F_R_says i w M Q := by
  unfold F_R_says S_R_says
  simp only [sSeq, sSet, sInc, sPF, sPA, sPD, sOF, sOA, sX, sIf, sSkip, sRet, sRetB, sRetV, sSw, sSel, eK, eL, eR, eF, eA, eQ, eD, eU, eB, eV, eIf, ePF, eC0, eC1, eC2, eC3, eC4, eC5, eC6, eC7, cB, cZ, cAnd, cOr, cNot, i2l, st_fn, sl_ap, if_true, if_false, ↓reduceIte, reduceIte, Nat.reduceEqDiff, Int.reduceEq, Int.reduceLT, Int.reduceLE, Int.reduceAdd, Int.reduceSub, Int.reduceMul, Int.reduceNeg, and_true, true_and, not_true, not_false_eq_true, true_or, or_true, ne_eq]
  refine R_partIn_ok h hn hn2 ?_
  have hr := piN_r (d 26) (d 28) i w (npI d).toNat
  unfold rl rlN at hQ
  unfold pI
  generalize piN (d 26) (d 28) i w (npI d).toNat = p at *
  simp only [F_R_in_iff, b01_ne, wp_ite]
  by_cases c : p = -1
  · rw [if_neg (fun q => q c)]
    rw [if_pos c] at hQ
    unfold usual at hQ
    rw [Q_ite Q, Q_ite Q, Q_ite Q, Q_ite Q, Q_ite Q] at hQ
    exact hQ
  · rw [if_pos c]
    rw [if_neg c] at hQ
    have := h.2 p (by omega) (by omega)
    rw [this.2.1]
    exact ⟨by omega, by omega, hQ⟩
theorem Rules_bindTo_ok {d M : XM} {w : Int} {Q : Int → XM → Prop} (hr : DCr d) (c22 : M 22 = d 22) (c26 : M 26 = d 26) (c27 : M 27 = d 27) (c28 : M 28 = d 28) (hu : ∀ i, 0 ≤ i → i ≤ 14 → M 1003 i = usual i) (hQ : ∀ M', Only [24, 25] M M' → (∀ i, 0 ≤ i → i ≤ 14 → M' 24 i = rl d i w ∧ M' 25 i = pI d i w) → Q 0 M') : F_Rules_bindTo w M Q := by
  have hn := DCr_n hr
  have hg := DCr_good hr
  have h8 : 0 ≤ d 22 8 := by unfold DCr Rpt at hr; exact hr.2.2.2.2.1
  unfold F_Rules_bindTo S_Rules_bindTo
  simp only [sSeq, sSet, sInc, sPF, sPA, sPD, sOF, sOA, sX, sIf, sSkip, sRet, sRetB, sRetV, sSw, sSel, eK, eL, eR, eF, eA, eQ, eD, eU, eB, eV, eIf, ePF, eC0, eC1, eC2, eC3, eC4, eC5, eC6, eC7, cB, cZ, cAnd, cOr, cNot, i2l, st_fn, sl_ap, if_true, if_false, ↓reduceIte, reduceIte, Nat.reduceEqDiff, Int.reduceEq, Int.reduceLT, Int.reduceLE, Int.reduceAdd, Int.reduceSub, Int.reduceMul, Int.reduceNeg, and_true, true_and, not_true, not_false_eq_true, true_or, or_true, ne_eq]
  refine while_up 2 0 15 (fun x L M' => L 1 = w ∧ Only [24, 25] M M' ∧ ∀ i, 0 ≤ i → i < x → M' 24 i = usual i ∧ M' 25 i = -1) (by omega) rfl ⟨rfl, Only.rf, fun i h1 h2 => absurd h2 (by omega)⟩ ?_ ?_ ?_
  · intro x L M' T F h1 h2 hL _ hT hF
    simp only [sSeq, sSet, sInc, sPF, sPA, sPD, sOF, sOA, sX, sIf, sSkip, sRet, sRetB, sRetV, sSw, sSel, eK, eL, eR, eF, eA, eQ, eD, eU, eB, eV, eIf, ePF, eC0, eC1, eC2, eC3, eC4, eC5, eC6, eC7, cB, cZ, cAnd, cOr, cNot, i2l, st_fn, sl_ap, if_true, if_false, ↓reduceIte, reduceIte, Nat.reduceEqDiff, Int.reduceEq, Int.reduceLT, Int.reduceLE, Int.reduceAdd, Int.reduceSub, Int.reduceMul, Int.reduceNeg, and_true, true_and, not_true, not_false_eq_true, true_or, or_true, ne_eq, hL]
    exact ⟨hT, hF⟩
  · intro x L M' Q' hx0 hx1 hL ⟨j1, j2, j3⟩ hQ'
    simp only [sSeq, sSet, sInc, sPF, sPA, sPD, sOF, sOA, sX, sIf, sSkip, sRet, sRetB, sRetV, sSw, sSel, eK, eL, eR, eF, eA, eQ, eD, eU, eB, eV, eIf, ePF, eC0, eC1, eC2, eC3, eC4, eC5, eC6, eC7, cB, cZ, cAnd, cOr, cNot, i2l, st_fn, sl_ap, if_true, if_false, ↓reduceIte, reduceIte, Nat.reduceEqDiff, Int.reduceEq, Int.reduceLT, Int.reduceLE, Int.reduceAdd, Int.reduceSub, Int.reduceMul, Int.reduceNeg, and_true, true_and, not_true, not_false_eq_true, true_or, or_true, ne_eq, hL]
    rw [iAdd_id (by omega) (by omega), j2 1003 (by decide), hu x hx0 (by omega)]
    refine ⟨hx0, hx1, hx0, hx1, hx0, hx1, hQ' _ _ rfl ⟨?_, (j2.set (by decide) _ _).set (by decide) _ _, fun i h1 h2 => ?_⟩⟩
    · simp only [sl_ap, Nat.reduceEqDiff, if_false]; exact j1
    · simp only [st_fn, Nat.reduceEqDiff, if_true, if_false]
      by_cases c : i = x
      · rw [if_pos c, if_pos c, c]
        exact ⟨rfl, rfl⟩
      · rw [if_neg c, if_neg c]
        exact j3 i h1 (by omega)
  · intro L M' hL ⟨j1, j2, j3⟩
    have e22 : M' 22 = d 22 := (j2 22 (by decide)).trans c22
    simp only [e22]
    refine ⟨fun c => ?_, fun c => ?_⟩
    · refine hQ M' j2 fun i h1 h2 => ?_
      have e0 : npI d = 0 := if_neg c
      unfold rl pI rlN
      rw [e0]
      exact j3 i h1 (by omega)
    · have c : d 22 2 = -1 := by omega
      have en : npI d = d 22 8 + 1 := if_pos c
      have h50 := hn.2.2 c
      refine while_up 2 0 (d 22 8 + 1) (fun x L M'' => L 1 = w ∧ Only [24, 25] M M'' ∧ ∀ i, 0 ≤ i → i ≤ 14 → M'' 24 i = rlN (d 26) (d 27) (d 28) i w x.toNat ∧ M'' 25 i = piN (d 26) (d 28) i w x.toNat) (by omega) rfl ⟨j1, j2, fun i h1 h2 => j3 i h1 (by omega)⟩ ?_ ?_ ?_
      · intro x L M'' T F h1 h2 hL ⟨k1, k2, k3⟩ hT hF
        simp only [sSeq, sSet, sInc, sPF, sPA, sPD, sOF, sOA, sX, sIf, sSkip, sRet, sRetB, sRetV, sSw, sSel, eK, eL, eR, eF, eA, eQ, eD, eU, eB, eV, eIf, ePF, eC0, eC1, eC2, eC3, eC4, eC5, eC6, eC7, cB, cZ, cAnd, cOr, cNot, i2l, st_fn, sl_ap, if_true, if_false, ↓reduceIte, reduceIte, Nat.reduceEqDiff, Int.reduceEq, Int.reduceLT, Int.reduceLE, Int.reduceAdd, Int.reduceSub, Int.reduceMul, Int.reduceNeg, and_true, true_and, not_true, not_false_eq_true, true_or, or_true, ne_eq, hL]
        rw [k2 22 (by decide), c22]
        exact ⟨fun q => ⟨fun q2 => hT (by omega), fun q2 => absurd (by omega) q2⟩, fun q => hF (by omega)⟩
      · intro x L M'' Q' hx0 hx1 hL ⟨k1, k2, k3⟩ hQ'
        simp only [sSeq, sSet, sInc, sPF, sPA, sPD, sOF, sOA, sX, sIf, sSkip, sRet, sRetB, sRetV, sSw, sSel, eK, eL, eR, eF, eA, eQ, eD, eU, eB, eV, eIf, ePF, eC0, eC1, eC2, eC3, eC4, eC5, eC6, eC7, cB, cZ, cAnd, cOr, cNot, i2l, st_fn, sl_ap, if_true, if_false, ↓reduceIte, reduceIte, Nat.reduceEqDiff, Int.reduceEq, Int.reduceLT, Int.reduceLE, Int.reduceAdd, Int.reduceSub, Int.reduceMul, Int.reduceNeg, and_true, true_and, not_true, not_false_eq_true, true_or, or_true, ne_eq, hL, k1]
        rw [k2 26 (by decide), k2 27 (by decide), k2 28 (by decide), c26, c27, c28, iAdd_id (by omega) (by omega)]
        have g := hg x hx0 (by omega)
        unfold goodI at g
        have hs : ∀ i, piN (d 26) (d 28) i w (x + 1).toNat = if d 26 x = i ∧ d 28 x ≤ w then x else piN (d 26) (d 28) i w x.toNat := by
          intro i
          rw [show (x + 1).toNat = x.toNat + 1 by omega]
          show (if d 26 ((x.toNat : Nat) : Int) = i ∧ d 28 ((x.toNat : Nat) : Int) ≤ w then ((x.toNat : Nat) : Int) else _) = _
          rw [show ((x.toNat : Nat) : Int) = x by omega]
        refine ⟨hx0, by omega, fun c1 => ⟨hx0, by omega, hx0, by omega, g.1, by omega, ?_⟩, fun c1 => ?_⟩
        · refine ⟨hx0, by omega, g.1, by omega, hQ' _ _ rfl ⟨?_, (k2.set (by decide) _ _).set (by decide) _ _, fun i h1 h2 => ?_⟩⟩
          · simp only [sl_ap, Nat.reduceEqDiff, if_false]; exact k1
          · have hs1 := hs i
            unfold rlN
            simp only [st_fn, Nat.reduceEqDiff, if_true, if_false]
            by_cases c2 : i = d 26 x
            · rw [if_pos ⟨c2.symm, c1⟩] at hs1
              rw [hs1, if_pos c2, if_pos c2, if_neg (by omega)]
              exact ⟨rfl, rfl⟩
            · rw [if_neg (fun q => c2 q.1.symm)] at hs1
              rw [hs1, if_neg c2, if_neg c2]
              exact k3 i h1 h2
        · refine hQ' _ _ rfl ⟨?_, k2, fun i h1 h2 => ?_⟩
          · simp only [sl_ap, Nat.reduceEqDiff, if_false]; exact k1
          · have hs1 := hs i
            rw [if_neg (fun q => c1 q.2)] at hs1
            unfold rlN
            rw [hs1]
            exact k3 i h1 h2
      · intro L M'' hL ⟨k1, k2, k3⟩
        refine hQ M'' k2 fun i h1 h2 => ?_
        unfold rl pI
        rw [en]
        exact k3 i h1 h2
/-! ===== what is told: spec by the reference's numbers ===== -/
abbrev kn (d : XM) (k : Int) : Prop := ¬ k = d 81 28 ∧ d 102 k ≤ d 81 18 ∧ (d 103 k = -1 ∨ d 81 18 < d 103 k)
abbrev ct (d : XM) (r k : Int) : Prop := kn d k ∧ d 102 k - d 98 k ≤ rl d 3 r ∧ rl d 4 r ≤ d 99 k ∧ d 99 k ≤ rl d 5 r
def tkC (d : XM) (w r k : Int) : Int := if d 101 k = 3 then (if d 98 k = w + rl d 2 r then -(d 100 k) else 0) else if d 98 k = w ∧ (d 101 k = 0 ∨ (d 101 k = 2 ∧ rl d 1 r = 1)) then d 100 k else 0
def hdC (d : XM) (w k : Int) : Int := if d 98 k = w ∧ d 101 k = 1 then d 100 k else 0
def sumN (f : Int → Int) : Nat → Int
  | 0 => 0
  | n + 1 => sumN f n + f (n : Int)
def tkF (d : XM) (w r s t k : Int) : Int := if ct d r k ∧ d 96 k = s ∧ d 97 k = t then tkC d w r k else 0
def hdF (d : XM) (w r s t k : Int) : Int := if ct d r k ∧ d 96 k = s ∧ d 97 k = t then hdC d w k else 0
def TK (d : XM) (w r s t : Int) : Int := sumN (tkF d w r s t) (d 81 19).toNat
def HD (d : XM) (w r s t : Int) : Int := sumN (hdF d w r s t) (d 81 19).toNat
def amt (d : XM) (w r s t : Int) : Int := TK d w r s t + (HD d w r s t).tdiv (rl d 0 r)
abbrev said (d : XM) (w s : Int) : Prop := ¬ d 95 (52 * s + w) = -1 ∧ d 95 (52 * s + w) ≤ d 81 18
def spN (d : XM) (w s : Int) : Nat → Bool
  | 0 => decide (said d w s)
  | n + 1 => spN d w s n || decide (d 96 (n : Int) = s ∧ d 98 (n : Int) = w ∧ kn d (n : Int))
abbrev opn (d : XM) (w s : Int) : Prop := d 92 s ≤ w ∧ w ≤ d 93 s
def sta (d : XM) (w s : Int) : Int := if opn d w s then (if spN d w s (d 81 19).toNat = true then 2 else 1) else 0
theorem sumN_succ (f : Int → Int) {x : Int} (h : 0 ≤ x) : sumN f (x + 1).toNat = sumN f x.toNat + f x := by
  rw [show (x + 1).toNat = x.toNat + 1 by omega]
  show sumN f x.toNat + f ((x.toNat : Nat) : Int) = _
  rw [show ((x.toNat : Nat) : Int) = x by omega]
theorem spN_succ (d : XM) (w s : Int) {x : Int} (h : 0 ≤ x) : spN d w s (x + 1).toNat = (spN d w s x.toNat || decide (d 96 x = s ∧ d 98 x = w ∧ kn d x)) := by
  rw [show (x + 1).toNat = x.toNat + 1 by omega]
  show (spN d w s x.toNat || decide (d 96 ((x.toNat : Nat) : Int) = s ∧ d 98 ((x.toNat : Nat) : Int) = w ∧ kn d ((x.toNat : Nat) : Int))) = _
  rw [show ((x.toNat : Nat) : Int) = x by omega]
theorem sumN_bd {f : Int → Int} {B : Int} : ∀ {n : Nat}, (∀ k, 0 ≤ k → k < (n : Int) → -B ≤ f k ∧ f k ≤ B) → -(B * n) ≤ sumN f n ∧ sumN f n ≤ B * n
  | 0, _ => by show -(B * 0) ≤ 0 ∧ 0 ≤ B * 0; omega
  | n + 1, h => by
    have ih := sumN_bd (f := f) (B := B) (n := n) fun k h1 h2 => h k h1 (by omega)
    have hn := h (n : Int) (by omega) (by omega)
    show -(B * ((n + 1 : Nat) : Int)) ≤ sumN f n + f n ∧ sumN f n + f n ≤ B * ((n + 1 : Nat) : Int)
    rw [show B * ((n + 1 : Nat) : Int) = B * n + B by rw [Int.natCast_add, Int.mul_add]; simp]
    omega
theorem sumN_congr {f g : Int → Int} : ∀ {n : Nat}, (∀ k, 0 ≤ k → k < (n : Int) → f k = g k) → sumN f n = sumN g n
  | 0, _ => rfl
  | n + 1, h => by
    show sumN f n + f n = sumN g n + g n
    rw [sumN_congr (fun k h1 h2 => h k h1 (by omega)), h n (by omega) (by omega)]
/-! the data that stand fast while a call only looks -/
def CZ3 (d : XM) : Prop := CZ d ∧ ∀ i, 0 ≤ i → i ≤ 14 → d 1003 i = usual i
def Base (d : XM) : Prop := DCt d d ∧ DCl d d ∧ Vt d ∧ Vl d ∧ DCr d ∧ CZ3 d
def SC : List Nat := [1, 24, 25, 29, 30, 31, 32, 33, 34, 35, 36, 37, 38, 40, 67, 68, 69, 70, 71, 72]
def CF (d M : XM) : Prop := ∀ k, k ∉ SC → k < 81 ∨ 1000 ≤ k → M k = d k
theorem CF.go {d M M' : XM} {S : List Nat} (h : CF d M) (hS : Only S M M') (hs : ∀ k ∈ S, k ∈ SC) : CF d M' := fun k h1 h2 => (hS k (fun q => h1 (hs k q))).trans (h k h1 h2)
theorem rl_cg {d M : XM} (h22 : M 22 = d 22) (h26 : M 26 = d 26) (h27 : M 27 = d 27) (h28 : M 28 = d 28) (i w : Int) : rl M i w = rl d i w ∧ pI M i w = pI d i w ∧ npI M = npI d := by
  unfold rl pI npI
  rw [h22, h26, h27, h28]
  exact ⟨rfl, rfl, rfl⟩
/-! the class looks -/
theorem F_Ledger_doesCount_iff {k z : Int} {M : XM} {Q : Int → XM → Prop} (h1 : 0 ≤ k) (h2 : k < 150) (h3 : 0 ≤ M 16 k ∧ M 16 k ≤ 51 ∧ 0 ≤ M 20 k ∧ M 20 k ≤ 51) : F_Ledger_doesCount k z M Q ↔ Q (if (¬ k = M 13 2 ∧ M 20 k ≤ M 13 1 ∧ (M 21 k = -1 ∨ M 13 1 < M 21 k)) ∧ M 20 k - M 16 k ≤ M 24 3 ∧ M 24 4 ≤ M 17 k ∧ M 17 k ≤ M 24 5 then 1 else 0) M := by
  unfold F_Ledger_doesCount S_Ledger_doesCount
  simp (disch := omega) only [sSeq, sSet, sInc, sPF, sPA, sPD, sOF, sOA, sX, sIf, sSkip, sRet, sRetB, sRetV, sSw, sSel, eK, eL, eR, eF, eA, eQ, eD, eU, eB, eV, eIf, ePF, eC0, eC1, eC2, eC3, eC4, eC5, eC6, eC7, cB, cZ, cAnd, cOr, cNot, i2l, st_fn, sl_ap, if_true, if_false, ↓reduceIte, reduceIte, Nat.reduceEqDiff, Int.reduceEq, Int.reduceLT, Int.reduceLE, Int.reduceAdd, Int.reduceSub, Int.reduceMul, Int.reduceNeg, and_true, true_and, not_true, not_false_eq_true, true_or, or_true, ne_eq, F_Ledger_isKnown_iff, F_M_within_iff, b01_ne, iSub_id, h1, h2, b01_or]
  by_cases c1 : ¬ k = M 13 2 ∧ M 20 k ≤ M 13 1 ∧ (M 21 k = -1 ∨ M 13 1 < M 21 k)
  · by_cases c2 : M 20 k - M 16 k ≤ M 24 3
    · by_cases c3 : M 24 4 ≤ M 17 k ∧ M 17 k ≤ M 24 5
      · rw [if_pos ⟨c1, c2, c3⟩]
        exact ⟨fun q => ((q.1 c1).1 c2).1 c3, fun q => ⟨fun _ => ⟨fun _ => ⟨fun _ => q, fun n => absurd c3 n⟩, fun n => absurd c2 n⟩, fun n => absurd c1 n⟩⟩
      · rw [if_neg (fun q => c3 q.2.2)]
        exact ⟨fun q => ((q.1 c1).1 c2).2 c3, fun q => ⟨fun _ => ⟨fun _ => ⟨fun n => absurd n c3, fun _ => q⟩, fun n => absurd c2 n⟩, fun n => absurd c1 n⟩⟩
    · rw [if_neg (fun q => c2 q.2.1)]
      exact ⟨fun q => (q.1 c1).2 c2, fun q => ⟨fun _ => ⟨fun n => absurd n c2, fun _ => q⟩, fun n => absurd c1 n⟩⟩
  · rw [if_neg (fun q => c1 q.1)]
    exact ⟨fun q => q.2 c1, fun q => ⟨fun n => absurd n c1, fun _ => q⟩⟩
theorem F_Trade_saidEmpty_iff {s w a : Int} {M : XM} {Q : Int → XM → Prop} (h1 : 0 ≤ s) (h2 : s < 16) (h3 : 0 ≤ w) (h4 : w ≤ 51) : F_Trade_saidEmpty s w a M Q ↔ Q (if ¬ M 12 (52 * s + w) = -1 ∧ M 12 (52 * s + w) ≤ a then 1 else 0) M := by
  unfold F_Trade_saidEmpty S_Trade_saidEmpty
  simp (disch := omega) only [sSeq, sSet, sInc, sPF, sPA, sPD, sOF, sOA, sX, sIf, sSkip, sRet, sRetB, sRetV, sSw, sSel, eK, eL, eR, eF, eA, eQ, eD, eU, eB, eV, eIf, ePF, eC0, eC1, eC2, eC3, eC4, eC5, eC6, eC7, cB, cZ, cAnd, cOr, cNot, i2l, st_fn, sl_ap, if_true, if_false, ↓reduceIte, reduceIte, Nat.reduceEqDiff, Int.reduceEq, Int.reduceLT, Int.reduceLE, Int.reduceAdd, Int.reduceSub, Int.reduceMul, Int.reduceNeg, and_true, true_and, not_true, not_false_eq_true, true_or, or_true, ne_eq, iMul_id, iAdd_id, Int.mul_comm s 52]
  have e1 : 0 ≤ 52 * s + w ∧ 52 * s + w < 832 := by omega
  by_cases c1 : M 12 (52 * s + w) = -1 <;> by_cases c2 : M 12 (52 * s + w) ≤ a <;> simp [c1, c2, e1]
theorem F_Trade_isOpen_iff {s w : Int} {M : XM} {Q : Int → XM → Prop} (h1 : 0 ≤ s) (h2 : s < 16) : F_Trade_isOpen s w M Q ↔ Q (if M 9 s ≤ w ∧ w ≤ M 10 s then 1 else 0) M := by
  unfold F_Trade_isOpen S_Trade_isOpen
  simp only [sSeq, sSet, sInc, sPF, sPA, sPD, sOF, sOA, sX, sIf, sSkip, sRet, sRetB, sRetV, sSw, sSel, eK, eL, eR, eF, eA, eQ, eD, eU, eB, eV, eIf, ePF, eC0, eC1, eC2, eC3, eC4, eC5, eC6, eC7, cB, cZ, cAnd, cOr, cNot, i2l, st_fn, sl_ap, if_true, if_false, ↓reduceIte, reduceIte, Nat.reduceEqDiff, Int.reduceEq, Int.reduceLT, Int.reduceLE, Int.reduceAdd, Int.reduceSub, Int.reduceMul, Int.reduceNeg, and_true, true_and, not_true, not_false_eq_true, true_or, or_true, ne_eq, h1, h2]
  by_cases c1 : M 9 s ≤ w <;> by_cases c2 : w ≤ M 10 s <;> simp [c1, c2]
theorem Rules_bindTo_gen {d M : XM} {w : Int} {Q : Int → XM → Prop} (hB : Base d) (hC : CF d M) (hQ : ∀ M', Only [24, 25] M M' → (∀ i, 0 ≤ i → i ≤ 14 → M' 24 i = rl d i w ∧ M' 25 i = pI d i w) → Q 0 M') : F_Rules_bindTo w M Q := by
  have hr := hB.2.2.2.2.1
  have hz := hB.2.2.2.2.2
  refine Rules_bindTo_ok (d := d) hr (hC 22 (by decide) (by omega)) (hC 26 (by decide) (by omega)) (hC 27 (by decide) (by omega)) (hC 28 (by decide) (by omega)) (fun i h1 h2 => by rw [hC 1003 (by decide) (by omega)]; exact hz.2 i h1 h2) hQ
theorem Tally_takeIn_ok {d M : XM} {w r k : Int} {Q : Int → XM → Prop} (hV : Vt d ∧ Vl d) (hr : DCr d) (hl : DCl M d) (hw : 0 ≤ w ∧ w ≤ 51) (hk : 0 ≤ k ∧ k < d 81 19) (h24 : M 24 2 = rl d 2 r ∧ M 24 1 = rl d 1 r)
    (hb : -1000000000 ≤ M 30 (24 * d 96 k + d 97 k) ∧ M 30 (24 * d 96 k + d 97 k) ≤ 1000000000 ∧ -1000000000 ≤ M 31 (24 * d 96 k + d 97 k) ∧ M 31 (24 * d 96 k + d 97 k) ≤ 1000000000)
    (hQ : Q 0 (st (st M 30 (24 * d 96 k + d 97 k) (M 30 (24 * d 96 k + d 97 k) + tkC d w r k)) 31 (24 * d 96 k + d 97 k) (M 31 (24 * d 96 k + d 97 k) + hdC d w k))) : F_Tally_takeIn k w M Q := by
  obtain ⟨⟨v1, v2, v3, v4, v5, v6⟩, ⟨w1, w2, w3⟩⟩ := hV
  obtain ⟨l1, l2, l3, l4, l5, l6, l7, l8, l9, l10, l11⟩ := hl
  have g := w3 k hk.1 hk.2
  have hrl := rl_r hr (i := 2) (by omega) (by omega) r
  have hrl : 0 ≤ rl d 2 r ∧ rl d 2 r ≤ 51 := hrl
  unfold F_Tally_takeIn S_Tally_takeIn
  simp (disch := omega) only [sSeq, sSet, sInc, sPF, sPA, sPD, sOF, sOA, sX, sIf, sSkip, sRet, sRetB, sRetV, sSw, sSel, eK, eL, eR, eF, eA, eQ, eD, eU, eB, eV, eIf, ePF, eC0, eC1, eC2, eC3, eC4, eC5, eC6, eC7, cB, cZ, cAnd, cOr, cNot, i2l, st_fn, sl_ap, if_true, if_false, ↓reduceIte, reduceIte, Nat.reduceEqDiff, Int.reduceEq, Int.reduceLT, Int.reduceLE, Int.reduceAdd, Int.reduceSub, Int.reduceMul, Int.reduceNeg, and_true, true_and, not_true, not_false_eq_true, true_or, or_true, ne_eq, l4, l5, l6, l8, l9, h24.1, h24.2, iMul_id, iAdd_id, Int.mul_comm _ 24, wp_or]
  have hc : 0 ≤ 24 * d 96 k + d 97 k ∧ 24 * d 96 k + d 97 k < 384 := by omega
  generalize 24 * d 96 k + d 97 k = c at *
  have hN : tkC d w r k = 0 → hdC d w k = 0 → Q 0 M := by
    intro e1 e2
    rw [e1, e2, Int.add_zero, Int.add_zero, st_id] at hQ
    rw [st_id] at hQ
    exact hQ
  have hA : ∀ v, v = M 30 c + tkC d w r k → hdC d w k = 0 → Q 0 (st M 30 c v) := by
    intro v e1 e2
    rw [e2, Int.add_zero, ← e1] at hQ
    rw [show M 31 c = (st M 30 c v) 31 c from rfl, st_id] at hQ
    exact hQ
  have hBB : ∀ v, v = M 31 c + hdC d w k → tkC d w r k = 0 → Q 0 (st M 31 c v) := by
    intro v e1 e2
    rw [e2, Int.add_zero, ← e1, st_id] at hQ
    exact hQ
  refine ⟨by omega, by omega, by omega, by omega, by omega, by omega, by omega, by omega, by omega, by omega, ?_⟩
  refine ⟨fun c1 => ⟨fun c2 => ⟨hc.1, hc.2, ?_⟩, fun c2 => ?_⟩, fun c1 => ⟨fun c2 => ⟨fun c3 => ⟨hc.1, hc.2, ?_⟩, fun c3 => ⟨fun c4 => ⟨hc.1, hc.2, ?_⟩, fun c4 => ?_⟩⟩, fun c2 => ?_⟩⟩
  · refine hA _ ?_ ?_
    · rw [iSub_id (by omega) (by omega)]
      unfold tkC
      rw [if_pos c1, if_pos c2]
      omega
    · unfold hdC
      rw [if_neg (by omega)]
  · refine hN ?_ ?_
    · unfold tkC
      rw [if_pos c1, if_neg c2]
    · unfold hdC
      rw [if_neg (by omega)]
  · refine hBB _ ?_ ?_
    · unfold hdC
      rw [if_pos ⟨c2, c3⟩]
    · unfold tkC
      rw [if_neg c1, if_neg (by omega)]
  · refine hA _ ?_ ?_
    · unfold tkC
      rw [if_neg c1, if_pos ⟨c2, by omega⟩]
    · unfold hdC
      rw [if_neg (by omega)]
  · refine hN ?_ ?_
    · unfold tkC
      rw [if_neg c1, if_neg (by omega)]
    · unfold hdC
      rw [if_neg (by omega)]
  · refine hN ?_ ?_
    · unfold tkC
      rw [if_neg c1, if_neg (by omega)]
    · unfold hdC
      rw [if_neg (by omega)]
theorem tkF_bd {d : XM} (hV : Vl d) (w r s t : Int) : ∀ k, 0 ≤ k → k < d 81 19 → (-100000 ≤ tkF d w r s t k ∧ tkF d w r s t k ≤ 100000) ∧ (0 ≤ hdF d w r s t k ∧ hdF d w r s t k ≤ 100000) := by
  intro k h1 h2
  have g := hV.2.2 k h1 h2
  unfold tkF hdF tkC hdC
  constructor <;> (repeat' split) <;> omega
theorem TK_bd {d : XM} (hV : Vl d) (w r s t : Int) {n : Nat} (hn : (n : Int) ≤ d 81 19) : -15000000 ≤ sumN (tkF d w r s t) n ∧ sumN (tkF d w r s t) n ≤ 15000000 := by
  have h := sumN_bd (f := tkF d w r s t) (B := 100000) (n := n) fun k h1 h2 => (tkF_bd hV w r s t k h1 (by omega)).1
  have := hV.1
  omega
theorem HD_bd {d : XM} (hV : Vl d) (w r s t : Int) : ∀ {n : Nat}, (n : Int) ≤ d 81 19 → 0 ≤ sumN (hdF d w r s t) n ∧ sumN (hdF d w r s t) n ≤ 100000 * n
  | 0, _ => by show (0 : Int) ≤ 0 ∧ (0 : Int) ≤ 100000 * 0; omega
  | n + 1, hn => by
    have ih := HD_bd hV w r s t (n := n) (by omega)
    have g := (tkF_bd hV w r s t (n : Int) (by omega) (by omega)).2
    show 0 ≤ sumN (hdF d w r s t) n + hdF d w r s t n ∧ sumN (hdF d w r s t) n + hdF d w r s t n ≤ 100000 * ((n + 1 : Nat) : Int)
    omega
def Gat (d : XM) (w r : Int) (M : XM) : Prop := (∀ i, 0 ≤ i → i ≤ 14 → M 24 i = rl d i r ∧ M 25 i = pI d i r) ∧ (∀ s t, 0 ≤ s → s < 16 → 0 ≤ t → t < 24 → M 30 (24 * s + t) = TK d w r s t ∧ M 31 (24 * s + t) = HD d w r s t) ∧ (∀ s, 0 ≤ s → s < d 81 11 → M 32 s = sta d w s)
theorem ite_eq_of {P R : Prop} [Decidable P] [Decidable R] (h : P ↔ R) {a b : Int} : (if P then a else b) = if R then a else b := by
  by_cases c : P
  · rw [if_pos c, if_pos (h.mp c)]
  · rw [if_neg c, if_neg (fun q => c (h.mpr q))]
theorem Tally_gather_ok {d M : XM} {w r : Int} {Q : Int → XM → Prop} (hB : Base d) (hC : CF d M) (hw : 0 ≤ w ∧ w ≤ 51) (hQ : ∀ M', Only [24, 25, 30, 31, 32] M M' → Gat d w r M' → Q 0 M') : F_Tally_gather w r M Q := by
  obtain ⟨⟨h1, h2, h3, h4, h5, h6, h7, h8, h9, h10, h11, h12, h13, h14⟩, hDl, hVt, hVl, hr, hz⟩ := id hB
  obtain ⟨l1, l2, l3, l4, l5, l6, l7, l8, l9, l10, l11⟩ := id hDl
  obtain ⟨v1, v2, v3, v4, v5, v6⟩ := id hVt
  obtain ⟨w1, w2, w3⟩ := id hVl
  have c22 : M 22 = d 22 := hC 22 (by decide) (by omega)
  have c26 : M 26 = d 26 := hC 26 (by decide) (by omega)
  have c27 : M 27 = d 27 := hC 27 (by decide) (by omega)
  have c28 : M 28 = d 28 := hC 28 (by decide) (by omega)
  have hrM : ∀ i w, rl M i w = rl d i w ∧ pI M i w = pI d i w ∧ npI M = npI d := rl_cg c22 c26 c27 c28
  unfold F_Tally_gather S_Tally_gather
  simp only [sSeq, sSet, sInc, sPF, sPA, sPD, sOF, sOA, sX, sIf, sSkip, sRet, sRetB, sRetV, sSw, sSel, eK, eL, eR, eF, eA, eQ, eD, eU, eB, eV, eIf, ePF, eC0, eC1, eC2, eC3, eC4, eC5, eC6, eC7, cB, cZ, cAnd, cOr, cNot, i2l, st_fn, sl_ap, if_true, if_false, ↓reduceIte, reduceIte, Nat.reduceEqDiff, Int.reduceEq, Int.reduceLT, Int.reduceLE, Int.reduceAdd, Int.reduceSub, Int.reduceMul, Int.reduceNeg, and_true, true_and, not_true, not_false_eq_true, true_or, or_true, ne_eq]
  refine Rules_bindTo_gen hB hC ?_
  intro M1 o1 g1
  -- all to nought
  refine while_up 3 0 384 (fun x L M' => L 1 = w ∧ Only [24, 25, 30, 31, 32] M M' ∧ M' 24 = M1 24 ∧ M' 25 = M1 25 ∧ ∀ i, 0 ≤ i → i < x → M' 30 i = 0 ∧ M' 31 i = 0) (by omega) rfl ⟨rfl, o1.wk (by decide), rfl, rfl, fun i h1 h2 => absurd h2 (by omega)⟩ ?_ ?_ ?_
  · intro x L M' T F h1 h2 hL _ hT hF
    simp only [sSeq, sSet, sInc, sPF, sPA, sPD, sOF, sOA, sX, sIf, sSkip, sRet, sRetB, sRetV, sSw, sSel, eK, eL, eR, eF, eA, eQ, eD, eU, eB, eV, eIf, ePF, eC0, eC1, eC2, eC3, eC4, eC5, eC6, eC7, cB, cZ, cAnd, cOr, cNot, i2l, st_fn, sl_ap, if_true, if_false, ↓reduceIte, reduceIte, Nat.reduceEqDiff, Int.reduceEq, Int.reduceLT, Int.reduceLE, Int.reduceAdd, Int.reduceSub, Int.reduceMul, Int.reduceNeg, and_true, true_and, not_true, not_false_eq_true, true_or, or_true, ne_eq, hL]
    exact ⟨hT, hF⟩
  · intro x L M' Q' hx0 hx1 hL ⟨j1, j2, j3, j4, j5⟩ hQ'
    simp only [sSeq, sSet, sInc, sPF, sPA, sPD, sOF, sOA, sX, sIf, sSkip, sRet, sRetB, sRetV, sSw, sSel, eK, eL, eR, eF, eA, eQ, eD, eU, eB, eV, eIf, ePF, eC0, eC1, eC2, eC3, eC4, eC5, eC6, eC7, cB, cZ, cAnd, cOr, cNot, i2l, st_fn, sl_ap, if_true, if_false, ↓reduceIte, reduceIte, Nat.reduceEqDiff, Int.reduceEq, Int.reduceLT, Int.reduceLE, Int.reduceAdd, Int.reduceSub, Int.reduceMul, Int.reduceNeg, and_true, true_and, not_true, not_false_eq_true, true_or, or_true, ne_eq, hL]
    rw [iAdd_id (by omega) (by omega)]
    refine ⟨hx0, hx1, hx0, hx1, hQ' _ _ rfl ⟨?_, (j2.set (by decide) _ _).set (by decide) _ _, j3, j4, fun i h1 h2 => ?_⟩⟩
    · simp only [sl_ap, Nat.reduceEqDiff, if_false]; exact j1
    · simp only [st_fn, Nat.reduceEqDiff, if_true, if_false]
      by_cases c : i = x
      · rw [if_pos c, if_pos c]
        exact ⟨rfl, rfl⟩
      · rw [if_neg c, if_neg c]
        exact j5 i h1 (by omega)
  intro L1 M2 _ ⟨j1, j2, j3, j4, j5⟩
  have f2 : ∀ k, k ∉ SC → k < 81 ∨ 1000 ≤ k → M2 k = d k := hC.go j2 (by decide)
  -- who said that it is empty
  refine while_up 3 0 (d 81 11) (fun x L M' => L 1 = w ∧ Only [24, 25, 30, 31, 32] M M' ∧ M' 24 = M1 24 ∧ M' 25 = M1 25 ∧ M' 30 = M2 30 ∧ M' 31 = M2 31 ∧ ∀ s, 0 ≤ s → s < x → M' 32 s = if spN d w s 0 = true then 2 else 1) v3.1 rfl ⟨by simp only [sl_ap, Nat.reduceEqDiff, if_false]; exact j1, j2, j3, j4, rfl, rfl, fun i h1 h2 => absurd h2 (by omega)⟩ ?_ ?_ ?_
  · intro x L M' T F h1 h2 hL ⟨_, k2, _⟩ hT hF
    simp only [sSeq, sSet, sInc, sPF, sPA, sPD, sOF, sOA, sX, sIf, sSkip, sRet, sRetB, sRetV, sSw, sSel, eK, eL, eR, eF, eA, eQ, eD, eU, eB, eV, eIf, ePF, eC0, eC1, eC2, eC3, eC4, eC5, eC6, eC7, cB, cZ, cAnd, cOr, cNot, i2l, st_fn, sl_ap, if_true, if_false, ↓reduceIte, reduceIte, Nat.reduceEqDiff, Int.reduceEq, Int.reduceLT, Int.reduceLE, Int.reduceAdd, Int.reduceSub, Int.reduceMul, Int.reduceNeg, and_true, true_and, not_true, not_false_eq_true, true_or, or_true, ne_eq, hL]
    rw [(hC.go k2 (by decide)) 2 (by decide) (by omega), h7]
    exact ⟨hT, hF⟩
  · intro x L M' Q' hx0 hx1 hL ⟨k1, k2, k3, k4, k5, k6, k7⟩ hQ'
    have f3 : ∀ k, k ∉ SC → k < 81 ∨ 1000 ≤ k → M' k = d k := hC.go k2 (by decide)
    have g12 : M' 12 = d 95 := (f3 12 (by decide) (by omega)).trans h13
    have g13 : M' 13 1 = d 81 18 := by rw [f3 13 (by decide) (by omega)]; exact l2
    simp (disch := omega) only [sSeq, sSet, sInc, sPF, sPA, sPD, sOF, sOA, sX, sIf, sSkip, sRet, sRetB, sRetV, sSw, sSel, eK, eL, eR, eF, eA, eQ, eD, eU, eB, eV, eIf, ePF, eC0, eC1, eC2, eC3, eC4, eC5, eC6, eC7, cB, cZ, cAnd, cOr, cNot, i2l, st_fn, sl_ap, if_true, if_false, ↓reduceIte, reduceIte, Nat.reduceEqDiff, Int.reduceEq, Int.reduceLT, Int.reduceLE, Int.reduceAdd, Int.reduceSub, Int.reduceMul, Int.reduceNeg, and_true, true_and, not_true, not_false_eq_true, true_or, or_true, ne_eq, hL, k1, F_Trade_saidEmpty_iff, b01_ne, iAdd_id, g12, g13]
    have hfin : ∀ v, v = (if spN d w x 0 = true then 2 else 1) → Q' (sl L 3 (x + 1)) (st M' 32 x v) := by
      intro v hv
      refine hQ' _ _ rfl ⟨?_, k2.set (by decide) _ _, k3, k4, k5, k6, fun s h1 h2 => ?_⟩
      · simp only [sl_ap, Nat.reduceEqDiff, if_false]; exact k1
      · simp only [st_fn, if_true]
        by_cases c : s = x
        · rw [if_pos c, c, hv]
        · rw [if_neg c]
          exact k7 s h1 (by omega)
    refine ⟨fun c => ⟨hx0, by omega, hfin _ ?_⟩, fun c => ⟨hx0, by omega, hfin _ ?_⟩⟩
    · rw [if_pos (show spN d w x 0 = true from decide_eq_true c)]
    · rw [if_neg (show ¬ spN d w x 0 = true from fun q => c (of_decide_eq_true q))]
  intro L2 M3 _ ⟨k1, k2, k3, k4, k5, k6, k7⟩
  -- the sales
  refine while_up 3 0 (d 81 19) (fun x L M' => L 1 = w ∧ Only [24, 25, 30, 31, 32] M M' ∧ M' 24 = M1 24 ∧ M' 25 = M1 25 ∧ (∀ s t, 0 ≤ s → s < 16 → 0 ≤ t → t < 24 → M' 30 (24 * s + t) = sumN (tkF d w r s t) x.toNat ∧ M' 31 (24 * s + t) = sumN (hdF d w r s t) x.toNat) ∧ ∀ s, 0 ≤ s → s < d 81 11 → M' 32 s = if spN d w s x.toNat = true then 2 else 1) w1.1 rfl ⟨by simp only [sl_ap, Nat.reduceEqDiff, if_false]; exact k1, k2, k3, k4, fun s t a1 a2 a3 a4 => ?_, k7⟩ ?_ ?_ ?_
  · rw [k5, k6]
    exact j5 _ (by omega) (by omega)
  · intro x L M' T F h1 h2 hL ⟨_, k2, _⟩ hT hF
    simp only [sSeq, sSet, sInc, sPF, sPA, sPD, sOF, sOA, sX, sIf, sSkip, sRet, sRetB, sRetV, sSw, sSel, eK, eL, eR, eF, eA, eQ, eD, eU, eB, eV, eIf, ePF, eC0, eC1, eC2, eC3, eC4, eC5, eC6, eC7, cB, cZ, cAnd, cOr, cNot, i2l, st_fn, sl_ap, if_true, if_false, ↓reduceIte, reduceIte, Nat.reduceEqDiff, Int.reduceEq, Int.reduceLT, Int.reduceLE, Int.reduceAdd, Int.reduceSub, Int.reduceMul, Int.reduceNeg, and_true, true_and, not_true, not_false_eq_true, true_or, or_true, ne_eq, hL]
    rw [(hC.go k2 (by decide)) 13 (by decide) (by omega), l1]
    exact ⟨hT, hF⟩
  · intro x L M' Q' hx0 hx1 hL ⟨p1, p2, p3, p4, p5, p6⟩ hQ'
    have f3 : ∀ k, k ∉ SC → k < 81 ∨ 1000 ≤ k → M' k = d k := hC.go p2 (by decide)
    have hD : ∀ N : XM, (∀ k, k ∉ SC → k < 81 ∨ 1000 ≤ k → N k = d k) → DCl N d := by
      intro N f
      refine ⟨?_, ?_, ?_, ?_, ?_, ?_, ?_, ?_, ?_, ?_, ?_⟩
      · rw [f 13 (by decide) (by omega)]; exact l1
      · rw [f 13 (by decide) (by omega)]; exact l2
      · rw [f 13 (by decide) (by omega)]; exact l3
      · rw [f 14 (by decide) (by omega)]; exact l4
      · rw [f 15 (by decide) (by omega)]; exact l5
      · rw [f 16 (by decide) (by omega)]; exact l6
      · rw [f 17 (by decide) (by omega)]; exact l7
      · rw [f 18 (by decide) (by omega)]; exact l8
      · rw [f 19 (by decide) (by omega)]; exact l9
      · rw [f 20 (by decide) (by omega)]; exact l10
      · rw [f 21 (by decide) (by omega)]; exact l11
    have g := w3 x hx0 hx1
    -- behind the shop's state
    have key : ∀ N : XM, Only [24, 25, 30, 31, 32] M N → N 24 = M1 24 → N 25 = M1 25 → N 30 = M' 30 → N 31 = M' 31 → (∀ s, 0 ≤ s → s < d 81 11 → N 32 s = if spN d w s (x + 1).toNat = true then 2 else 1) → F_Ledger_doesCount x 0 N (fun v N2 => (¬ v = 0 → F_Tally_takeIn x w N2 (fun _ N3 => Q' (sl L 3 (x + 1)) N3)) ∧ (¬ ¬ v = 0 → Q' (sl L 3 (x + 1)) N2)) := by
      intro N o a24 a25 a30 a31 a32
      have hd := hD N (hC.go o (by decide))
      obtain ⟨m1, m2, m3, m4, m5, m6, m7, m8, m9, m10, m11⟩ := id hd
      have e3 : N 24 3 = rl d 3 r := by rw [a24]; exact (g1 3 (by omega) (by omega)).1
      have e4 : N 24 4 = rl d 4 r := by rw [a24]; exact (g1 4 (by omega) (by omega)).1
      have e5 : N 24 5 = rl d 5 r := by rw [a24]; exact (g1 5 (by omega) (by omega)).1
      have e1 : N 24 1 = rl d 1 r := by rw [a24]; exact (g1 1 (by omega) (by omega)).1
      have e2 : N 24 2 = rl d 2 r := by rw [a24]; exact (g1 2 (by omega) (by omega)).1
      rw [F_Ledger_doesCount_iff hx0 (by omega) (by rw [m6, m10]; omega)]
      simp only [m2, m3, m6, m7, m10, m11, e3, e4, e5]
      have hT := TK_bd hVl w r (d 96 x) (d 97 x) (n := x.toNat) (by omega)
      have hH := HD_bd hVl w r (d 96 x) (d 97 x) (n := x.toNat) (by omega)
      have hp := p5 (d 96 x) (d 97 x) (by omega) (by omega) (by omega) (by omega)
      have hs : ∀ s t, sumN (tkF d w r s t) (x + 1).toNat = sumN (tkF d w r s t) x.toNat + tkF d w r s t x ∧ sumN (hdF d w r s t) (x + 1).toNat = sumN (hdF d w r s t) x.toNat + hdF d w r s t x := fun s t => ⟨sumN_succ _ hx0, sumN_succ _ hx0⟩
      by_cases c : ct d r x
      · rw [if_pos c]
        refine ⟨fun _ => ?_, fun q => absurd q (by simp)⟩
        refine Tally_takeIn_ok (r := r) ⟨hVt, hVl⟩ hr hd hw ⟨hx0, hx1⟩ ⟨e2, e1⟩ ?_ ?_
        · rw [a30, a31, hp.1, hp.2]
          omega
        · refine hQ' _ _ rfl ⟨?_, (o.set (by decide) _ _).set (by decide) _ _, a24, a25, fun s t b1 b2 b3 b4 => ?_, a32⟩
          · simp only [sl_ap, Nat.reduceEqDiff, if_false]; exact p1
          · have hp2 := p5 s t b1 b2 b3 b4
            have hs2 := hs s t
            simp only [st_fn, Nat.reduceEqDiff, if_true, if_false, a30, a31]
            rw [hs2.1, hs2.2]
            by_cases c2 : d 96 x = s ∧ d 97 x = t
            · have e : 24 * s + t = 24 * d 96 x + d 97 x := by omega
              rw [if_pos e, if_pos e, ← e, hp2.1, hp2.2]
              unfold tkF hdF
              rw [if_pos ⟨c, c2⟩, if_pos ⟨c, c2⟩]
              exact ⟨rfl, rfl⟩
            · have e : ¬ 24 * s + t = 24 * d 96 x + d 97 x := by omega
              rw [if_neg e, if_neg e, hp2.1, hp2.2]
              unfold tkF hdF
              rw [if_neg (fun q => c2 q.2), if_neg (fun q => c2 q.2)]
              omega
      · rw [if_neg c]
        refine ⟨fun q => absurd q (by simp), fun _ => hQ' _ _ rfl ⟨?_, o, a24, a25, fun s t b1 b2 b3 b4 => ?_, a32⟩⟩
        · simp only [sl_ap, Nat.reduceEqDiff, if_false]; exact p1
        · have hp2 := p5 s t b1 b2 b3 b4
          have hs2 := hs s t
          rw [hs2.1, hs2.2, a30, a31, hp2.1, hp2.2]
          unfold tkF hdF
          rw [if_neg (fun q => c q.1), if_neg (fun q => c q.1)]
          omega
    have hd := hD M' f3
    obtain ⟨m1, m2, m3, m4, m5, m6, m7, m8, m9, m10, m11⟩ := id hd
    simp (disch := omega) only [sSeq, sSet, sInc, sPF, sPA, sPD, sOF, sOA, sX, sIf, sSkip, sRet, sRetB, sRetV, sSw, sSel, eK, eL, eR, eF, eA, eQ, eD, eU, eB, eV, eIf, ePF, eC0, eC1, eC2, eC3, eC4, eC5, eC6, eC7, cB, cZ, cAnd, cOr, cNot, i2l, st_fn, sl_ap, if_true, if_false, ↓reduceIte, reduceIte, Nat.reduceEqDiff, Int.reduceEq, Int.reduceLT, Int.reduceLE, Int.reduceAdd, Int.reduceSub, Int.reduceMul, Int.reduceNeg, and_true, true_and, not_true, not_false_eq_true, true_or, or_true, ne_eq, hL, p1, m4, m6, F_Ledger_isKnown_iff, b01_ne, m2, m3, m10, m11, iAdd_id]
    have hsp : ∀ s, spN d w s (x + 1).toNat = (spN d w s x.toNat || decide (d 96 x = s ∧ d 98 x = w ∧ kn d x)) := fun s => spN_succ d w s hx0
    have hno : ¬ (d 98 x = w ∧ kn d x) → ∀ s, 0 ≤ s → s < d 81 11 → M' 32 s = if spN d w s (x + 1).toNat = true then 2 else 1 := by
      intro c s b1 b2
      rw [hsp s, decide_eq_false (fun q => c q.2), Bool.or_false]
      exact p6 s b1 b2
    refine ⟨hx0, by omega, fun c1 => ⟨fun c2 => ⟨by omega, by omega, by omega, by omega, ?_⟩, fun c2 => ?_⟩, fun c1 => ?_⟩
    · refine key _ (p2.set (by decide) _ _) p3 p4 rfl rfl fun s b1 b2 => ?_
      simp only [st_fn, if_true]
      rw [hsp s]
      by_cases c : s = d 96 x
      · rw [if_pos c, decide_eq_true ⟨c.symm, c1, c2⟩, Bool.or_true]
        rfl
      · rw [if_neg c, decide_eq_false (fun q => c q.1.symm), Bool.or_false]
        exact p6 s b1 b2
    · exact key _ p2 p3 p4 rfl rfl (hno (fun q => c2 q.2))
    · exact key _ p2 p3 p4 rfl rfl (hno (fun q => c1 q.1))
  intro L3 M4 _ ⟨p1, p2, p3, p4, p5, p6⟩
  -- who is not open
  refine while_up 3 0 (d 81 11) (fun x L M' => L 1 = w ∧ Only [24, 25, 30, 31, 32] M M' ∧ M' 24 = M1 24 ∧ M' 25 = M1 25 ∧ M' 30 = M4 30 ∧ M' 31 = M4 31 ∧ ∀ s, 0 ≤ s → s < d 81 11 → M' 32 s = if s < x then sta d w s else if spN d w s (d 81 19).toNat = true then 2 else 1) v3.1 rfl ⟨by simp only [sl_ap, Nat.reduceEqDiff, if_false]; exact p1, p2, p3, p4, rfl, rfl, fun s b1 b2 => by rw [if_neg (by omega)]; exact p6 s b1 b2⟩ ?_ ?_ ?_
  · intro x L M' T F h1 h2 hL ⟨_, k2, _⟩ hT hF
    simp only [sSeq, sSet, sInc, sPF, sPA, sPD, sOF, sOA, sX, sIf, sSkip, sRet, sRetB, sRetV, sSw, sSel, eK, eL, eR, eF, eA, eQ, eD, eU, eB, eV, eIf, ePF, eC0, eC1, eC2, eC3, eC4, eC5, eC6, eC7, cB, cZ, cAnd, cOr, cNot, i2l, st_fn, sl_ap, if_true, if_false, ↓reduceIte, reduceIte, Nat.reduceEqDiff, Int.reduceEq, Int.reduceLT, Int.reduceLE, Int.reduceAdd, Int.reduceSub, Int.reduceMul, Int.reduceNeg, and_true, true_and, not_true, not_false_eq_true, true_or, or_true, ne_eq, hL]
    rw [(hC.go k2 (by decide)) 2 (by decide) (by omega), h7]
    exact ⟨hT, hF⟩
  · intro x L M' Q' hx0 hx1 hL ⟨q1, q2, q3, q4, q5, q6, q7⟩ hQ'
    have f3 : ∀ k, k ∉ SC → k < 81 ∨ 1000 ≤ k → M' k = d k := hC.go q2 (by decide)
    have g9 : M' 9 = d 92 := (f3 9 (by decide) (by omega)).trans h10
    have g10 : M' 10 = d 93 := (f3 10 (by decide) (by omega)).trans h11
    simp (disch := omega) only [sSeq, sSet, sInc, sPF, sPA, sPD, sOF, sOA, sX, sIf, sSkip, sRet, sRetB, sRetV, sSw, sSel, eK, eL, eR, eF, eA, eQ, eD, eU, eB, eV, eIf, ePF, eC0, eC1, eC2, eC3, eC4, eC5, eC6, eC7, cB, cZ, cAnd, cOr, cNot, i2l, st_fn, sl_ap, if_true, if_false, ↓reduceIte, reduceIte, Nat.reduceEqDiff, Int.reduceEq, Int.reduceLT, Int.reduceLE, Int.reduceAdd, Int.reduceSub, Int.reduceMul, Int.reduceNeg, and_true, true_and, not_true, not_false_eq_true, true_or, or_true, ne_eq, hL, q1, F_Trade_isOpen_iff, b01_ne, iAdd_id, g9, g10]
    refine ⟨fun c => ?_, fun c => ?_⟩
    · refine hQ' _ _ rfl ⟨?_, q2, q3, q4, q5, q6, fun s b1 b2 => ?_⟩
      · simp only [sl_ap, Nat.reduceEqDiff, if_false]; exact q1
      · rw [q7 s b1 b2]
        by_cases cs : s = x
        · rw [if_neg (show ¬ s < x by omega), if_pos (show s < x + 1 by omega), cs]
          unfold sta
          rw [if_pos c]
        · by_cases cx : s < x
          · rw [if_pos cx, if_pos (show s < x + 1 by omega)]
          · rw [if_neg cx, if_neg (show ¬ s < x + 1 by omega)]
    · refine ⟨hx0, by omega, hQ' _ _ rfl ⟨?_, q2.set (by decide) _ _, q3, q4, q5, q6, fun s b1 b2 => ?_⟩⟩
      · simp only [sl_ap, Nat.reduceEqDiff, if_false]; exact q1
      · simp only [st_fn, if_true]
        by_cases cs : s = x
        · rw [if_pos cs, if_pos (show s < x + 1 by omega), cs]
          unfold sta
          rw [if_neg c]
        · rw [if_neg cs, q7 s b1 b2]
          by_cases cx : s < x
          · rw [if_pos cx, if_pos (show s < x + 1 by omega)]
          · rw [if_neg cx, if_neg (show ¬ s < x + 1 by omega)]
  intro L4 M5 _ ⟨q1, q2, q3, q4, q5, q6, q7⟩
  refine hQ M5 q2 ⟨fun i b1 b2 => ?_, fun s t b1 b2 b3 b4 => ?_, fun s b1 b2 => ?_⟩
  · rw [q3, q4]
    exact g1 i b1 b2
  · rw [q5, q6]
    exact p5 s t b1 b2 b3 b4
  · rw [q7 s b1 b2, if_pos b2]
/-! ===== the reference looks: who tells, amounts ===== -/
def SR : List Nat := [85, 105, 106, 107, 108, 109, 110, 111, 112, 113, 114, 115, 116, 117, 118, 119]
def SF : List Int := [29, 32, 33, 45, 48, 50, 51]
def RF (d M : XM) : Prop := (∀ k, 82 ≤ k → k < 120 → k ∉ SR → M k = d k) ∧ (∀ j, j ∉ SF → M 81 j = d 81 j) ∧ (∀ k, k ∈ [22, 23, 26, 27, 28] → M k = d k)
def OnlyR (S : List Nat) (F : List Int) (M M' : XM) : Prop := (∀ k, k ≠ 81 → k ∉ S → M' k = M k) ∧ (∀ j, j ∉ F → M' 81 j = M 81 j)
theorem OnlyR.rf {S : List Nat} {F : List Int} {M : XM} : OnlyR S F M M := ⟨fun _ _ _ => rfl, fun _ _ => rfl⟩
theorem OnlyR.trans {S T U : List Nat} {F G K : List Int} {M M1 M2 : XM} (h1 : OnlyR S F M M1) (h2 : OnlyR T G M1 M2) (hS : ∀ k ∈ S, k ∈ U) (hT : ∀ k ∈ T, k ∈ U) (hF : ∀ k ∈ F, k ∈ K) (hG : ∀ k ∈ G, k ∈ K) : OnlyR U K M M2 :=
  ⟨fun k h hk => (h2.1 k h (fun q => hk (hT k q))).trans (h1.1 k h (fun q => hk (hS k q))), fun j hj => (h2.2 j (fun q => hj (hG j q))).trans (h1.2 j (fun q => hj (hF j q)))⟩
theorem OnlyR.wk {S T : List Nat} {F G : List Int} {M M1 : XM} (h : OnlyR S F M M1) (hS : ∀ k ∈ S, k ∈ T) (hF : ∀ k ∈ F, k ∈ G) : OnlyR T G M M1 := ⟨fun k h1 hk => h.1 k h1 (fun q => hk (hS k q)), fun j hj => h.2 j (fun q => hj (hF j q))⟩
theorem OnlyR.set {S : List Nat} {F : List Int} {M M1 : XM} (h : OnlyR S F M M1) {k : Nat} (hk : k ∈ S) (h81 : k ≠ 81) (j v : Int) : OnlyR S F M (st M1 k j v) := ⟨fun a h1 ha => by
  rw [st_ne M1 j v (fun e => ha (by rw [e]; exact hk))]
  exact h.1 a h1 ha, fun a ha => by
  rw [st_ne M1 j v (Ne.symm h81)]
  exact h.2 a ha⟩
theorem OnlyR.setF {S : List Nat} {F : List Int} {M M1 : XM} (h : OnlyR S F M M1) {j : Int} (hj : j ∈ F) (v : Int) : OnlyR S F M (st M1 81 j v) := ⟨fun a h1 ha => by
  rw [st_ne M1 j v h1]
  exact h.1 a h1 ha, fun a ha => by
  rw [st_fn, if_pos rfl]
  have e : ¬ a = j := fun e => ha (by rw [e]; exact hj)
  simp only [if_neg e]
  exact h.2 a ha⟩
theorem RdF.toR {M M' : XM} (h : RdF M M') : OnlyR [105, 106, 107] [32, 33] M M' := ⟨fun k h1 hk => h.1 k (fun q => by
  simp only [List.mem_cons, List.not_mem_nil, or_false] at q hk
  rcases q with q | q
  · exact h1 q
  · exact hk q), fun j hj => h.2 j (fun q => hj (by rw [q]; decide)) (fun q => hj (by rw [q]; decide))⟩
theorem RF.go {d M M' : XM} {S : List Nat} {F : List Int} (h : RF d M) (ho : OnlyR S F M M') (hS : ∀ k ∈ S, k ∈ SR) (hF : ∀ j ∈ F, j ∈ SF) : RF d M' := by
  refine ⟨fun k h1 h2 hk => (ho.1 k (by omega) (fun q => hk (hS k q))).trans (h.1 k h1 h2 hk), fun j hj => (ho.2 j (fun q => hj (hF j q))).trans (h.2.1 j hj), fun k hk => ?_⟩
  have : k < 81 := by
    simp only [List.mem_cons, List.not_mem_nil, or_false] at hk
    omega
  refine (ho.1 k (by omega) (fun q => ?_)).trans (h.2.2 k hk)
  have := hS k q
  unfold SR at this
  simp only [List.mem_cons, List.not_mem_nil, or_false] at this
  omega
theorem RF.dcr {d M : XM} (h : RF d M) (hr : DCr d) : DCr M := by
  unfold DCr at *
  rw [h.2.2 22 (by decide), h.2.2 23 (by decide), h.2.2 26 (by decide), h.2.2 27 (by decide), h.2.2 28 (by decide), h.1 104 (by omega) (by omega) (by decide), h.2.1 31 (by decide)]
  exact hr
theorem R_reads_gen {d M : XM} {Q : Int → XM → Prop} (hr : DCr d) (hC : RF d M) (hQ : ∀ M', OnlyR [105, 106, 107] [32, 33] M M' → RdP d M' → Q (d 22 2) M') : F_R_reads M Q := by
  refine R_reads_ok (hC.dcr hr) fun M' h1 h2 => ?_
  rw [hC.2.2 22 (by decide)]
  refine hQ M' h1.toR ?_
  unfold RdP npI at *
  rw [hC.2.2 22 (by decide), hC.2.2 26 (by decide), hC.2.2 27 (by decide), hC.2.2 28 (by decide)] at h2
  exact h2
theorem RdP.go {d M M' : XM} {S : List Nat} {F : List Int} (h : RdP d M) (ho : OnlyR S F M M') (hS : 105 ∉ S ∧ 106 ∉ S ∧ 107 ∉ S) (hF : (33 : Int) ∉ F) : RdP d M' := by
  unfold RdP
  rw [ho.1 105 (by decide) hS.1, ho.1 106 (by decide) hS.2.1, ho.1 107 (by decide) hS.2.2, ho.2 33 hF]
  exact h
theorem F_R_isOpen_iff {s w : Int} {M : XM} {Q : Int → XM → Prop} (h1 : 0 ≤ s) (h2 : s < 16) : F_R_isOpen s w M Q ↔ Q (if M 92 s ≤ w ∧ w ≤ M 93 s then 1 else 0) M := by
  unfold F_R_isOpen S_R_isOpen
  simp only [sSeq, sSet, sInc, sPF, sPA, sPD, sOF, sOA, sX, sIf, sSkip, sRet, sRetB, sRetV, sSw, sSel, eK, eL, eR, eF, eA, eQ, eD, eU, eB, eV, eIf, ePF, eC0, eC1, eC2, eC3, eC4, eC5, eC6, eC7, cB, cZ, cAnd, cOr, cNot, i2l, st_fn, sl_ap, if_true, if_false, ↓reduceIte, reduceIte, Nat.reduceEqDiff, Int.reduceEq, Int.reduceLT, Int.reduceLE, Int.reduceAdd, Int.reduceSub, Int.reduceMul, Int.reduceNeg, and_true, true_and, not_true, not_false_eq_true, true_or, or_true, ne_eq, F_R_in_iff, h1, h2, b01_or]
theorem spN_mono {d : XM} {w s : Int} : ∀ {n m : Nat}, n ≤ m → spN d w s n = true → spN d w s m = true
  | n, 0, h, h1 => by rw [show n = 0 by omega] at h1; exact h1
  | n, m + 1, h, h1 => by
    by_cases c : n = m + 1
    · rw [← c]; exact h1
    · show (spN d w s m || _) = true
      rw [spN_mono (show n ≤ m by omega) h1, Bool.true_or]
def stL (d : XM) (lo w s : Int) : Int := if sta d w s = 2 ∧ s = lo then 1 else sta d w s
theorem R_kn {d M : XM} (hC : RF d M) (k : Int) : (¬ k = M 81 28 ∧ M 102 k ≤ M 81 18 ∧ (M 103 k = -1 ∨ M 81 18 < M 103 k)) ↔ kn d k := by
  rw [hC.2.1 28 (by decide), hC.2.1 18 (by decide), hC.1 102 (by omega) (by omega) (by decide), hC.1 103 (by omega) (by omega) (by decide)]
def S_sp : XS := sSeq (sSeq (sSet 5 (eK 0)) (sWhile (cAnd (cB (fun x y => x < y) (eL 5) (eF 81 19)) (cNot (cZ (fun x => x ≠ 0) (eL 4)))) (sSeq (sSet 4 (eIf (cAnd (cAnd (cB (fun x y => x = y) (eA 96 150 (eL 5)) (eL 1)) (cB (fun x y => x = y) (eA 98 150 (eL 5)) (eL 2))) (cZ (fun x => x ≠ 0) (eC1 F_R_isKnown (eL 5)))) (eK 1) (eK 0))) (sInc 5 1)))) (sRetB (eIf (cAnd (cZ (fun x => x ≠ 0) (eL 4)) (cB (fun x y => x ≠ y) (eL 1) (eF 81 29))) (eK 1) (eK 0)))
theorem S_R_speaks_eq : S_R_speaks = sSeq (sSet 3 (eA 95 832 (eB iAdd (eB iMul (eK 52) (eL 1)) (eL 2)))) (sSeq (sSet 4 (eIf (cAnd (cB (fun x y => x ≠ y) (eL 3) (eK (-1))) (cB (fun x y => x ≤ y) (eL 3) (eF 81 18))) (eK 1) (eK 0))) S_sp) := rfl
theorem R_speaks_ok {d M : XM} {s w : Int} {Q : Int → XM → Prop} (hV : Vt d ∧ Vl d) (hC : RF d M) (hw : 0 ≤ w ∧ w ≤ 51) (hs : 0 ≤ s ∧ s < d 81 11) (hQ : Q (if spN d w s (d 81 19).toNat = true ∧ ¬ s = M 81 29 then 1 else 0) M) : F_R_speaks s w M Q := by
  obtain ⟨⟨v1, v2, v3, v4, v5, v6⟩, ⟨w1, w2, w3⟩⟩ := hV
  unfold F_R_speaks
  rw [S_R_speaks_eq]
  have e95 : M 95 = d 95 := hC.1 95 (by omega) (by omega) (by decide)
  have e96 : M 96 = d 96 := hC.1 96 (by omega) (by omega) (by decide)
  have e98 : M 98 = d 98 := hC.1 98 (by omega) (by omega) (by decide)
  have e18 : M 81 18 = d 81 18 := hC.2.1 18 (by decide)
  have e19 : M 81 19 = d 81 19 := hC.2.1 19 (by decide)
  simp (disch := omega) only [sSeq, sSet, sInc, sPF, sPA, sPD, sOF, sOA, sX, sIf, sSkip, sRet, sRetB, sRetV, sSw, sSel, eK, eL, eR, eF, eA, eQ, eD, eU, eB, eV, eIf, ePF, eC0, eC1, eC2, eC3, eC4, eC5, eC6, eC7, cB, cZ, cAnd, cOr, cNot, i2l, st_fn, sl_ap, if_true, if_false, ↓reduceIte, reduceIte, Nat.reduceEqDiff, Int.reduceEq, Int.reduceLT, Int.reduceLE, Int.reduceAdd, Int.reduceSub, Int.reduceMul, Int.reduceNeg, and_true, true_and, not_true, not_false_eq_true, true_or, or_true, ne_eq, iMul_id, iAdd_id, e95, e18, b01_or]
  have hloop : ∀ (v : Int) (L0 : XL), L0 1 = s → L0 2 = w → L0 4 = v → v = (if spN d w s 0 = true then 1 else 0) → S_sp (fun _ _ => False) Q L0 M := by
    intro v L0 a1 a2 a4 hv
    unfold S_sp
    simp only [sSeq, sSet, sInc, sPF, sPA, sPD, sOF, sOA, sX, sIf, sSkip, sRet, sRetB, sRetV, sSw, sSel, eK, eL, eR, eF, eA, eQ, eD, eU, eB, eV, eIf, ePF, eC0, eC1, eC2, eC3, eC4, eC5, eC6, eC7, cB, cZ, cAnd, cOr, cNot, i2l, st_fn, sl_ap, if_true, if_false, ↓reduceIte, reduceIte, Nat.reduceEqDiff, Int.reduceEq, Int.reduceLT, Int.reduceLE, Int.reduceAdd, Int.reduceSub, Int.reduceMul, Int.reduceNeg, and_true, true_and, not_true, not_false_eq_true, true_or, or_true, ne_eq, b01_or]
    refine while_inv (fun L M' => M' = M ∧ L 1 = s ∧ L 2 = w ∧ ∃ x, 0 ≤ x ∧ x ≤ d 81 19 ∧ L 5 = x ∧ L 4 = if spN d w s x.toNat = true then 1 else 0) (fun L _ => (d 81 19 - L 5).toNat) ⟨rfl, by simp only [sl_ap, Nat.reduceEqDiff, if_false]; exact a1, by simp only [sl_ap, Nat.reduceEqDiff, if_false]; exact a2, 0, Int.le_refl 0, w1.1, by simp only [sl_ap, if_true], by simp only [sl_ap, Nat.reduceEqDiff, if_false]; rw [a4, hv]; rfl⟩ ?_
    intro L M' ⟨j1, j2, j3, x, hx0, hx1, hL, j4⟩ Q' hQ'
    subst j1
    have hend : (x < d 81 19 → spN d w s x.toNat = true) → ((¬ L 4 = 0 → (¬ s = M' 81 29 → Q 1 M') ∧ (¬ ¬ s = M' 81 29 → Q 0 M')) ∧ (¬ ¬ L 4 = 0 → Q 0 M')) := by
      intro c
      have e : spN d w s x.toNat = spN d w s (d 81 19).toNat := by
        by_cases cx : x < d 81 19
        · rw [c cx, spN_mono (by omega) (c cx)]
        · rw [show x = d 81 19 by omega]
      rw [e] at j4
      rw [j4]
      by_cases c1 : spN d w s (d 81 19).toNat = true
      · rw [if_pos c1]
        by_cases c2 : s = M' 81 29
        · rw [if_neg (fun q => q.2 c2)] at hQ
          exact ⟨fun _ => ⟨fun q => absurd c2 q, fun _ => hQ⟩, fun q => absurd q (by simp)⟩
        · rw [if_pos ⟨c1, c2⟩] at hQ
          exact ⟨fun _ => ⟨fun _ => hQ, fun q => absurd c2 q⟩, fun q => absurd q (by simp)⟩
      · rw [if_neg c1]
        rw [if_neg (fun q => c1 q.1)] at hQ
        exact ⟨fun q => absurd q (by simp), fun _ => hQ⟩
    simp only [sSeq, sSet, sInc, sPF, sPA, sPD, sOF, sOA, sX, sIf, sSkip, sRet, sRetB, sRetV, sSw, sSel, eK, eL, eR, eF, eA, eQ, eD, eU, eB, eV, eIf, ePF, eC0, eC1, eC2, eC3, eC4, eC5, eC6, eC7, cB, cZ, cAnd, cOr, cNot, i2l, st_fn, sl_ap, if_true, if_false, ↓reduceIte, reduceIte, Nat.reduceEqDiff, Int.reduceEq, Int.reduceLT, Int.reduceLE, Int.reduceAdd, Int.reduceSub, Int.reduceMul, Int.reduceNeg, and_true, true_and, not_true, not_false_eq_true, true_or, or_true, ne_eq, hL, j2, j3, e19, e96, e98]
    have hs : spN d w s (x + 1).toNat = (spN d w s x.toNat || decide (d 96 x = s ∧ d 98 x = w ∧ kn d x)) := spN_succ d w s hx0
    refine ⟨fun c => ⟨fun c4 => hend (fun _ => ?_), fun c4 => ?_⟩, fun c => hend (fun q => absurd q c)⟩
    · apply Classical.byContradiction
      intro q
      rw [if_neg q] at j4
      exact c4 j4
    · have cf : ¬ spN d w s x.toNat = true := fun q => by
        rw [if_pos q] at j4
        exact c4 (by omega)
      have cf : spN d w s x.toNat = false := by simpa using cf
      rw [cf, Bool.false_or] at hs
      have hfin : ∀ v, v = (if spN d w s (x + 1).toNat = true then 1 else 0) → Q' (sl (sl L 4 v) 5 (iAdd x 1)) M' := by
        intro v hv
        rw [iAdd_id (by omega) (by omega)]
        refine hQ' _ _ ⟨rfl, ?_, ?_, x + 1, by omega, by omega, ?_, ?_⟩ ?_
        · simp only [sl_ap, Nat.reduceEqDiff, if_false]; exact j2
        · simp only [sl_ap, Nat.reduceEqDiff, if_false]; exact j3
        · simp only [sl_ap, if_true]
        · simp only [sl_ap, Nat.reduceEqDiff, if_true, if_false]; exact hv
        · simp only [sl_ap, if_true, hL]
          omega
      refine ⟨hx0, by omega, fun c1 => ⟨hx0, by omega, fun c2 => ?_, fun c2 => hfin _ ?_⟩, fun c1 => hfin _ ?_⟩
      · rw [F_R_isKnown_iff hx0 (by omega)]
        rw [ite_eq_of (R_kn hC x)]
        refine ⟨fun c3 => hfin _ ?_, fun c3 => hfin _ ?_⟩
        · have c3 : kn d x := (b01_ne _).mp c3
          rw [hs, decide_eq_true ⟨c1, c2, c3⟩, if_pos rfl]
        · have c3 : ¬ kn d x := fun q => c3 ((b01_ne _).mpr q)
          rw [hs, decide_eq_false (fun q => c3 q.2.2)]
          rfl
      · rw [hs, decide_eq_false (fun q => c2 q.2.1)]
        rfl
      · rw [hs, decide_eq_false (fun q => c1 q.1)]
        rfl
  have hc : 0 ≤ 52 * s + w ∧ 52 * s + w < 832 := by omega
  refine ⟨hc.1, hc.2, fun c1 => ⟨fun c2 => ?_, fun c2 => ?_⟩, fun c1 => ?_⟩
  · exact hloop 1 _ rfl rfl rfl (by rw [if_pos (show spN d w s 0 = true from decide_eq_true ⟨c1, c2⟩)])
  · exact hloop 0 _ rfl rfl rfl (by rw [if_neg (show ¬ spN d w s 0 = true from fun q => c2 (of_decide_eq_true q).2)])
  · exact hloop 0 _ rfl rfl rfl (by rw [if_neg (show ¬ spN d w s 0 = true from fun q => c1 (of_decide_eq_true q).1)])
theorem R_statusOf_ok {d M : XM} {s w : Int} {Q : Int → XM → Prop} (hV : Vt d ∧ Vl d) (hC : RF d M) (hw : 0 ≤ w ∧ w ≤ 51) (hs : 0 ≤ s ∧ s < d 81 11) (hQ : Q (stL d (M 81 29) w s) M) : F_R_statusOf s w M Q := by
  have hsh := hV.1.2.2.1
  unfold F_R_statusOf S_R_statusOf
  simp (disch := omega) only [sSeq, sSet, sInc, sPF, sPA, sPD, sOF, sOA, sX, sIf, sSkip, sRet, sRetB, sRetV, sSw, sSel, eK, eL, eR, eF, eA, eQ, eD, eU, eB, eV, eIf, ePF, eC0, eC1, eC2, eC3, eC4, eC5, eC6, eC7, cB, cZ, cAnd, cOr, cNot, i2l, st_fn, sl_ap, if_true, if_false, ↓reduceIte, reduceIte, Nat.reduceEqDiff, Int.reduceEq, Int.reduceLT, Int.reduceLE, Int.reduceAdd, Int.reduceSub, Int.reduceMul, Int.reduceNeg, and_true, true_and, not_true, not_false_eq_true, true_or, or_true, ne_eq, F_R_isOpen_iff, b01_ne]
  rw [hC.1 92 (by omega) (by omega) (by decide), hC.1 93 (by omega) (by omega) (by decide)]
  unfold stL sta at hQ
  refine ⟨fun c => ?_, fun c => ?_⟩
  · rw [if_pos c] at hQ
    refine R_speaks_ok hV hC hw hs ?_
    by_cases c1 : spN d w s (d 81 19).toNat = true
    · rw [if_pos c1] at hQ
      by_cases c2 : s = M 81 29
      · rw [if_pos ⟨rfl, c2⟩] at hQ
        rw [if_neg (fun q => q.2 c2)]
        exact ⟨fun q => absurd q (by simp), fun _ => hQ⟩
      · rw [if_neg (fun q => c2 q.2)] at hQ
        rw [if_pos ⟨c1, c2⟩]
        exact ⟨fun _ => hQ, fun q => absurd q (by simp)⟩
    · rw [if_neg c1, if_neg (by omega)] at hQ
      rw [if_neg (fun q => c1 q.1)]
      exact ⟨fun q => absurd q (by simp), fun _ => hQ⟩
  · rw [if_neg c, if_neg (by omega)] at hQ
    exact hQ
theorem R_counts_ok {d M : XM} {k r : Int} {Q : Int → XM → Prop} (hV : Vl d) (hr : DCr d) (hC : RF d M) (hR : RdP d M) (hk : 0 ≤ k ∧ k < d 81 19) (hQ : Q (if ct d r k then 1 else 0) M) : F_R_counts k r M Q := by
  have hn := DCr_n hr
  have g := hV.2.2 k hk.1 hk.2
  have hs := hV.1
  unfold F_R_counts S_R_counts
  have e102 : M 102 = d 102 := hC.1 102 (by omega) (by omega) (by decide)
  have e98 : M 98 = d 98 := hC.1 98 (by omega) (by omega) (by decide)
  have e99 : M 99 = d 99 := hC.1 99 (by omega) (by omega) (by decide)
  have hkn := ite_eq_of (R_kn hC k) (a := 1) (b := 0)
  rw [e102] at hkn
  simp (disch := omega) only [sSeq, sSet, sInc, sPF, sPA, sPD, sOF, sOA, sX, sIf, sSkip, sRet, sRetB, sRetV, sSw, sSel, eK, eL, eR, eF, eA, eQ, eD, eU, eB, eV, eIf, ePF, eC0, eC1, eC2, eC3, eC4, eC5, eC6, eC7, cB, cZ, cAnd, cOr, cNot, i2l, st_fn, sl_ap, if_true, if_false, ↓reduceIte, reduceIte, Nat.reduceEqDiff, Int.reduceEq, Int.reduceLT, Int.reduceLE, Int.reduceAdd, Int.reduceSub, Int.reduceMul, Int.reduceNeg, and_true, true_and, not_true, not_false_eq_true, true_or, or_true, ne_eq, F_R_isKnown_iff, b01_or, e102, e98, e99, iSub_id]
  rw [hkn]
  refine ⟨fun c => ⟨hk.1, by omega, hk.1, by omega, R_says_ok hR hn.1 hn.2.1 ⟨fun c2 => ⟨hk.1, by omega, R_says_ok hR hn.1 hn.2.1 (R_says_ok hR hn.1 hn.2.1 ?_)⟩, fun c2 => ?_⟩⟩, fun c => ?_⟩
  · have c : kn d k := (b01_ne _).mp c
    rw [F_R_in_iff, e99]
    refine ⟨fun c3 => ?_, fun c3 => ?_⟩
    · have c3 := (b01_ne _).mp c3
      rw [if_pos ⟨c, c2, c3⟩] at hQ
      exact hQ
    · rw [if_neg (fun q => c3 ((b01_ne _).mpr q.2.2))] at hQ
      exact hQ
  · rw [if_neg (fun q => c2 q.2.1)] at hQ
    exact hQ
  · rw [if_neg (fun q => c ((b01_ne _).mpr q.1))] at hQ
    exact hQ
def GatR (d : XM) (w r : Int) (M : XM) : Prop := RdP d M ∧ ∀ s t, 0 ≤ s → s < 16 → 0 ≤ t → t < 24 → M 108 (16 * t + s) = amt d w r s t
theorem tdiv_bd {a b B : Int} (h : -B ≤ a ∧ a ≤ B) : -B ≤ a.tdiv b ∧ a.tdiv b ≤ B := by
  have h1 : (a.tdiv b).natAbs = a.natAbs / b.natAbs := Int.natAbs_tdiv a b
  have h2 : a.natAbs / b.natAbs ≤ a.natAbs := Nat.div_le_self _ _
  omega
theorem tdiv_nn {a b : Int} (h : 0 ≤ a) (hb : 0 ≤ b) : 0 ≤ a.tdiv b ∧ a.tdiv b ≤ a := by
  have := Int.tdiv_nonneg h hb
  have := tdiv_bd (a := a) (b := b) (B := a) (by omega)
  omega
theorem lDiv_id {a b : Int} (h1 : -9223372036854775807 ≤ a) (h2 : a ≤ 9223372036854775807) : lDiv a b = a.tdiv b := by
  have := tdiv_bd (a := a) (b := b) (B := 9223372036854775807) ⟨h1, h2⟩
  exact x64_id ⟨by omega, by omega⟩
theorem iDiv_id {a b : Int} (h1 : -2147483647 ≤ a) (h2 : a ≤ 2147483647) : iDiv a b = a.tdiv b := by
  have := tdiv_bd (a := a) (b := b) (B := 2147483647) ⟨h1, h2⟩
  exact x32_id ⟨by omega, by omega⟩
def S_fa5 : XS := sSeq (sSeq (sSet 5 (eK 0)) (sWhile (cB (fun x y => x < y) (eL 5) (eF 81 19)) (sSeq (sIf (cZ (fun x => x ≠ 0) (eC2 F_R_counts (eL 5) (eL 2))) (sSeq (sSet 6 (eB iAdd (eB iMul (eK 16) (eA 97 150 (eL 5))) (eA 96 150 (eL 5)))) (sSeq (sSet 7 (eA 101 150 (eL 5))) (sIf (cB (fun x y => x = y) (eL 7) (eK 3)) (sOA 108 384 (eL 6) lSub (eIf (cB (fun x y => x = y) (eA 98 150 (eL 5)) (eL 3)) (eU i2l (eA 100 150 (eL 5))) (eK 0))) (sIf (cB (fun x y => x = y) (eA 98 150 (eL 5)) (eL 1)) (sSeq (sOA 109 384 (eL 6) lAdd (eIf (cB (fun x y => x = y) (eL 7) (eK 1)) (eU i2l (eA 100 150 (eL 5))) (eK 0))) (sOA 108 384 (eL 6) lAdd (eIf (cOr (cZ (fun x => x = 0) (eL 7)) (cAnd (cB (fun x y => x = y) (eL 7) (eK 2)) (cZ (fun x => x ≠ 0) (eL 4)))) (eU i2l (eA 100 150 (eL 5))) (eK 0)))) sSkip)))) sSkip) (sInc 5 1)))) (sSeq (sSet 5 (eC2 F_R_says (eK 0) (eL 2))) (sSeq (sSet 6 (eK 0)) (sWhile (cB (fun x y => x < y) (eL 6) (eK 384)) (sSeq (sOA 108 384 (eL 6) lAdd (eV lDiv (eA 109 384 (eL 6)) (eU i2l (eL 5)))) (sInc 6 1)))))
theorem S_R_findAmounts_eq : S_R_findAmounts = sSeq (sSeq (sX (eC0 F_R_reads)) (sSeq (sSeq (sSet 3 (eK 0)) (sWhile (cB (fun x y => x < y) (eL 3) (eK 384)) (sSeq (sSeq (sPA 108 384 (eL 3) (eK 0)) (sPA 109 384 (eL 3) (eK 0))) (sInc 3 1)))) (sSeq (sSet 3 (eB iAdd (eL 1) (eC2 F_R_says (eK 2) (eL 2)))) (sSeq (sSet 4 (eIf (cB (fun x y => x = y) (eC2 F_R_says (eK 1) (eL 2)) (eK 1)) (eK 1) (eK 0))) S_fa5)))) sRetV := rfl
theorem R_findAmounts_ok {d M : XM} {w r : Int} {Q : Int → XM → Prop} (hB : Base d) (hC : RF d M) (hw : 0 ≤ w ∧ w ≤ 51) (hQ : ∀ M', OnlyR [105, 106, 107, 108, 109] [32, 33] M M' → GatR d w r M' → Q 0 M') : F_R_findAmounts w r M Q := by
  obtain ⟨hDt, hDl, hVt, hVl, hr, hz⟩ := id hB
  obtain ⟨v1, v2, v3, v4, v5, v6⟩ := id hVt
  obtain ⟨w1, w2, w3⟩ := id hVl
  have hn := DCr_n hr
  have r2 : 0 ≤ rl d 2 r ∧ rl d 2 r ≤ 51 := rl_r hr (i := 2) (by omega) (by omega) r
  have r0 : 1 ≤ rl d 0 r ∧ rl d 0 r ≤ 9999 := rl_r hr (i := 0) (by omega) (by omega) r
  unfold F_R_findAmounts
  rw [S_R_findAmounts_eq]
  simp only [sSeq, sSet, sInc, sPF, sPA, sPD, sOF, sOA, sX, sIf, sSkip, sRet, sRetB, sRetV, sSw, sSel, eK, eL, eR, eF, eA, eQ, eD, eU, eB, eV, eIf, ePF, eC0, eC1, eC2, eC3, eC4, eC5, eC6, eC7, cB, cZ, cAnd, cOr, cNot, i2l, st_fn, sl_ap, if_true, if_false, ↓reduceIte, reduceIte, Nat.reduceEqDiff, Int.reduceEq, Int.reduceLT, Int.reduceLE, Int.reduceAdd, Int.reduceSub, Int.reduceMul, Int.reduceNeg, and_true, true_and, not_true, not_false_eq_true, true_or, or_true, ne_eq]
  refine R_reads_gen hr hC ?_
  intro M1 o1 g1
  refine while_up 3 0 384 (fun x L M' => L 1 = w ∧ L 2 = r ∧ OnlyR [105, 106, 107, 108, 109] [32, 33] M M' ∧ RdP d M' ∧ ∀ i, 0 ≤ i → i < x → M' 108 i = 0 ∧ M' 109 i = 0) (by omega) rfl ⟨rfl, rfl, o1.wk (by decide) (by decide), g1, fun i h1 h2 => absurd h2 (by omega)⟩ ?_ ?_ ?_
  · intro x L M' T F h1 h2 hL _ hT hF
    simp only [sSeq, sSet, sInc, sPF, sPA, sPD, sOF, sOA, sX, sIf, sSkip, sRet, sRetB, sRetV, sSw, sSel, eK, eL, eR, eF, eA, eQ, eD, eU, eB, eV, eIf, ePF, eC0, eC1, eC2, eC3, eC4, eC5, eC6, eC7, cB, cZ, cAnd, cOr, cNot, i2l, st_fn, sl_ap, if_true, if_false, ↓reduceIte, reduceIte, Nat.reduceEqDiff, Int.reduceEq, Int.reduceLT, Int.reduceLE, Int.reduceAdd, Int.reduceSub, Int.reduceMul, Int.reduceNeg, and_true, true_and, not_true, not_false_eq_true, true_or, or_true, ne_eq, hL]
    exact ⟨hT, hF⟩
  · intro x L M' Q' hx0 hx1 hL ⟨j1, j2, j3, j4, j5⟩ hQ'
    simp only [sSeq, sSet, sInc, sPF, sPA, sPD, sOF, sOA, sX, sIf, sSkip, sRet, sRetB, sRetV, sSw, sSel, eK, eL, eR, eF, eA, eQ, eD, eU, eB, eV, eIf, ePF, eC0, eC1, eC2, eC3, eC4, eC5, eC6, eC7, cB, cZ, cAnd, cOr, cNot, i2l, st_fn, sl_ap, if_true, if_false, ↓reduceIte, reduceIte, Nat.reduceEqDiff, Int.reduceEq, Int.reduceLT, Int.reduceLE, Int.reduceAdd, Int.reduceSub, Int.reduceMul, Int.reduceNeg, and_true, true_and, not_true, not_false_eq_true, true_or, or_true, ne_eq, hL]
    rw [iAdd_id (by omega) (by omega)]
    refine ⟨hx0, hx1, hx0, hx1, hQ' _ _ rfl ⟨?_, ?_, (j3.set (by decide) (by decide) _ _).set (by decide) (by decide) _ _, ?_, fun i h1 h2 => ?_⟩⟩
    · simp only [sl_ap, Nat.reduceEqDiff, if_false]; exact j1
    · simp only [sl_ap, Nat.reduceEqDiff, if_false]; exact j2
    · exact j4.go (S := [108, 109]) (F := []) ((OnlyR.rf.set (by decide) (by decide) _ _).set (by decide) (by decide) _ _) (by decide) (by decide)
    · simp only [st_fn, Nat.reduceEqDiff, if_true, if_false]
      by_cases c : i = x
      · rw [if_pos c, if_pos c]
        exact ⟨rfl, rfl⟩
      · rw [if_neg c, if_neg c]
        exact j5 i h1 (by omega)
  intro L1 M2 _ ⟨j1, j2, j3, j4, j5⟩
  rw [j1, j2]
  refine R_says_ok j4 hn.1 hn.2.1 ?_
  rw [iAdd_id (by omega) (by omega)]
  refine R_says_ok j4 hn.1 hn.2.1 ?_
  have hmain : ∀ (b : Int) (L0 : XL), L0 1 = w → L0 2 = r → L0 3 = w + rl d 2 r → L0 4 = b → b = (if rl d 1 r = 1 then 1 else 0) → S_fa5 (fun _ M' => Q 0 M') Q L0 M2 := by
    intro b L0 a1 a2 a3 a4 hb
    unfold S_fa5
    simp only [sSeq, sSet, sInc, sPF, sPA, sPD, sOF, sOA, sX, sIf, sSkip, sRet, sRetB, sRetV, sSw, sSel, eK, eL, eR, eF, eA, eQ, eD, eU, eB, eV, eIf, ePF, eC0, eC1, eC2, eC3, eC4, eC5, eC6, eC7, cB, cZ, cAnd, cOr, cNot, i2l, st_fn, sl_ap, if_true, if_false, ↓reduceIte, reduceIte, Nat.reduceEqDiff, Int.reduceEq, Int.reduceLT, Int.reduceLE, Int.reduceAdd, Int.reduceSub, Int.reduceMul, Int.reduceNeg, and_true, true_and, not_true, not_false_eq_true, true_or, or_true, ne_eq]
    refine while_up 5 0 (d 81 19) (fun x L M' => L 1 = w ∧ L 2 = r ∧ L 3 = w + rl d 2 r ∧ L 4 = b ∧ OnlyR [105, 106, 107, 108, 109] [32, 33] M M' ∧ RdP d M' ∧ ∀ s t, 0 ≤ s → s < 16 → 0 ≤ t → t < 24 → M' 108 (16 * t + s) = sumN (tkF d w r s t) x.toNat ∧ M' 109 (16 * t + s) = sumN (hdF d w r s t) x.toNat) w1.1 rfl ⟨by simp only [sl_ap, Nat.reduceEqDiff, if_false]; exact a1, by simp only [sl_ap, Nat.reduceEqDiff, if_false]; exact a2, by simp only [sl_ap, Nat.reduceEqDiff, if_false]; exact a3, by simp only [sl_ap, Nat.reduceEqDiff, if_false]; exact a4, j3, j4, fun s t b1 b2 b3 b4 => j5 _ (by omega) (by omega)⟩ ?_ ?_ ?_
    · intro x L M' T F h1 h2 hL ⟨_, _, _, _, k2, _⟩ hT hF
      simp only [sSeq, sSet, sInc, sPF, sPA, sPD, sOF, sOA, sX, sIf, sSkip, sRet, sRetB, sRetV, sSw, sSel, eK, eL, eR, eF, eA, eQ, eD, eU, eB, eV, eIf, ePF, eC0, eC1, eC2, eC3, eC4, eC5, eC6, eC7, cB, cZ, cAnd, cOr, cNot, i2l, st_fn, sl_ap, if_true, if_false, ↓reduceIte, reduceIte, Nat.reduceEqDiff, Int.reduceEq, Int.reduceLT, Int.reduceLE, Int.reduceAdd, Int.reduceSub, Int.reduceMul, Int.reduceNeg, and_true, true_and, not_true, not_false_eq_true, true_or, or_true, ne_eq, hL]
      rw [(hC.go k2 (by decide) (by decide)).2.1 19 (by decide)]
      exact ⟨hT, hF⟩
    · intro x L M' Q' hx0 hx1 hL ⟨p1, p2, p3, p4, p5, p6, p7⟩ hQ'
      have hC' := hC.go p5 (by decide) (by decide)
      have e96 : M' 96 = d 96 := hC'.1 96 (by omega) (by omega) (by decide)
      have e97 : M' 97 = d 97 := hC'.1 97 (by omega) (by omega) (by decide)
      have e98 : M' 98 = d 98 := hC'.1 98 (by omega) (by omega) (by decide)
      have e100 : M' 100 = d 100 := hC'.1 100 (by omega) (by omega) (by decide)
      have e101 : M' 101 = d 101 := hC'.1 101 (by omega) (by omega) (by decide)
      have g := w3 x hx0 hx1
      simp only [sSeq, sSet, sInc, sPF, sPA, sPD, sOF, sOA, sX, sIf, sSkip, sRet, sRetB, sRetV, sSw, sSel, eK, eL, eR, eF, eA, eQ, eD, eU, eB, eV, eIf, ePF, eC0, eC1, eC2, eC3, eC4, eC5, eC6, eC7, cB, cZ, cAnd, cOr, cNot, i2l, st_fn, sl_ap, if_true, if_false, ↓reduceIte, reduceIte, Nat.reduceEqDiff, Int.reduceEq, Int.reduceLT, Int.reduceLE, Int.reduceAdd, Int.reduceSub, Int.reduceMul, Int.reduceNeg, and_true, true_and, not_true, not_false_eq_true, true_or, or_true, ne_eq, hL, p1, p2, p3, p4]
      refine R_counts_ok hVl hr hC' p6 ⟨hx0, hx1⟩ ?_
      have hT := TK_bd hVl w r (d 96 x) (d 97 x) (n := x.toNat) (by omega)
      have hH := HD_bd hVl w r (d 96 x) (d 97 x) (n := x.toNat) (by omega)
      have hp := p7 (d 96 x) (d 97 x) (by omega) (by omega) (by omega) (by omega)
      have hs : ∀ s t, sumN (tkF d w r s t) (x + 1).toNat = sumN (tkF d w r s t) x.toNat + tkF d w r s t x ∧ sumN (hdF d w r s t) (x + 1).toNat = sumN (hdF d w r s t) x.toNat + hdF d w r s t x := fun s t => ⟨sumN_succ _ hx0, sumN_succ _ hx0⟩
      by_cases c : ct d r x
      · rw [if_pos c]
        refine ⟨fun _ => ?_, fun q => absurd q (by simp)⟩
        simp (disch := omega) only [sSeq, sSet, sInc, sPF, sPA, sPD, sOF, sOA, sX, sIf, sSkip, sRet, sRetB, sRetV, sSw, sSel, eK, eL, eR, eF, eA, eQ, eD, eU, eB, eV, eIf, ePF, eC0, eC1, eC2, eC3, eC4, eC5, eC6, eC7, cB, cZ, cAnd, cOr, cNot, i2l, st_fn, sl_ap, if_true, if_false, ↓reduceIte, reduceIte, Nat.reduceEqDiff, Int.reduceEq, Int.reduceLT, Int.reduceLE, Int.reduceAdd, Int.reduceSub, Int.reduceMul, Int.reduceNeg, and_true, true_and, not_true, not_false_eq_true, true_or, or_true, ne_eq, hL, p1, p2, p3, p4, e96, e97, e98, e100, e101, iMul_id, iAdd_id]
        have hc : 0 ≤ 16 * d 97 x + d 96 x ∧ 16 * d 97 x + d 96 x < 384 := by omega
        have hN : ∀ (N : XM) (L2 : XL), OnlyR [108, 109] [] M' N → (∀ i, N 108 i = if i = 16 * d 97 x + d 96 x then M' 108 i + tkC d w r x else M' 108 i) → (∀ i, N 109 i = if i = 16 * d 97 x + d 96 x then M' 109 i + hdC d w x else M' 109 i) → L2 1 = w → L2 2 = r → L2 3 = w + rl d 2 r → L2 4 = b → L2 5 = x + 1 → Q' L2 N := by
          intro N L2 oN n1 n2 b1 b2 b3 b4 b5
          refine hQ' _ _ b5 ⟨b1, b2, b3, b4, p5.trans oN (by decide) (by decide) (by decide) (by decide), p6.go oN (by decide) (by decide), fun s t a1 a2 a3 a4 => ?_⟩
          have hp2 := p7 s t a1 a2 a3 a4
          have hs2 := hs s t
          rw [n1, n2, hs2.1, hs2.2]
          by_cases c2 : d 96 x = s ∧ d 97 x = t
          · have e : 16 * t + s = 16 * d 97 x + d 96 x := by omega
            rw [if_pos e, if_pos e, hp2.1, hp2.2]
            unfold tkF hdF
            rw [if_pos ⟨c, c2⟩, if_pos ⟨c, c2⟩]
            exact ⟨rfl, rfl⟩
          · have e : ¬ 16 * t + s = 16 * d 97 x + d 96 x := by omega
            rw [if_neg e, if_neg e, hp2.1, hp2.2]
            unfold tkF hdF
            rw [if_neg (fun q => c2 q.2), if_neg (fun q => c2 q.2)]
            omega
        generalize 16 * d 97 x + d 96 x = cc at *
        have hN2 : ∀ (N : XM) (L2 : XL) (a b' : Int), N = st (st M' 109 cc b') 108 cc a → a = M' 108 cc + tkC d w r x → b' = M' 109 cc + hdC d w x → L2 1 = w → L2 2 = r → L2 3 = w + rl d 2 r → L2 4 = b → L2 5 = x + 1 → Q' L2 N := by
          intro N L2 a b' eN ea eb
          subst eN
          refine hN _ _ ((OnlyR.rf.set (by decide) (by decide) _ _).set (by decide) (by decide) _ _) (fun i => ?_) (fun i => ?_)
          · simp only [st_fn, Nat.reduceEqDiff, if_true, if_false]
            by_cases ci : i = cc
            · rw [if_pos ci, if_pos ci, ci, ea]
            · rw [if_neg ci, if_neg ci]
          · simp only [st_fn, Nat.reduceEqDiff, if_true, if_false]
            by_cases ci : i = cc
            · rw [if_pos ci, if_pos ci, ci, eb]
            · rw [if_neg ci, if_neg ci]
        have hsl : ∀ (u v : Int), (sl (sl (sl L 6 u) 7 v) 5 (x + 1)) 1 = w ∧ (sl (sl (sl L 6 u) 7 v) 5 (x + 1)) 2 = r ∧ (sl (sl (sl L 6 u) 7 v) 5 (x + 1)) 3 = w + rl d 2 r ∧ (sl (sl (sl L 6 u) 7 v) 5 (x + 1)) 4 = b ∧ (sl (sl (sl L 6 u) 7 v) 5 (x + 1)) 5 = x + 1 := by
          intro u v
          simp only [sl_ap, Nat.reduceEqDiff, if_true, if_false, p1, p2, p3, p4, and_self]
        have e108 : M' 108 cc = M' 108 cc := rfl
        have b108 : -15000000 ≤ M' 108 cc ∧ M' 108 cc ≤ 15000000 ∧ 0 ≤ M' 109 cc ∧ M' 109 cc ≤ 15000000 := by omega
        refine ⟨hx0, by omega, hx0, by omega, hx0, by omega, fun c1 => ?_, fun c1 => ?_⟩
        · refine ⟨hc.1, hc.2, hx0, by omega, fun c2 => ⟨hx0, by omega, ?_⟩, fun c2 => ?_⟩
          · obtain ⟨t1, t2, t3, t4, t5⟩ := hsl cc (d 101 x)
            refine hN2 _ _ (lSub (M' 108 cc) (d 100 x)) (M' 109 cc) (by rw [st_id]) ?_ ?_ t1 t2 t3 t4 t5
            · rw [lSub_id (by omega) (by omega)]
              unfold tkC
              rw [if_pos c1, if_pos c2]
              omega
            · unfold hdC
              rw [if_neg (by omega)]
              omega
          · obtain ⟨t1, t2, t3, t4, t5⟩ := hsl cc (d 101 x)
            refine hN2 _ _ (lSub (M' 108 cc) 0) (M' 109 cc) (by rw [st_id]) ?_ ?_ t1 t2 t3 t4 t5
            · rw [lSub_id (by omega) (by omega)]
              unfold tkC
              rw [if_pos c1, if_neg c2]
              omega
            · unfold hdC
              rw [if_neg (by omega)]
              omega
        · refine ⟨hx0, by omega, fun c2 => ?_, fun c2 => ?_⟩
          · have hlast : ∀ b', b' = M' 109 cc + hdC d w x → 0 ≤ cc ∧ cc < 384 ∧ ((d 101 x = 0 → 0 ≤ x ∧ x < 150 ∧ Q' (sl (sl (sl L 6 cc) 7 (d 101 x)) 5 (x + 1)) (st (st M' 109 cc b') 108 cc (lAdd (M' 108 cc) (d 100 x)))) ∧ (¬ d 101 x = 0 → (d 101 x = 2 → (¬ b = 0 → 0 ≤ x ∧ x < 150 ∧ Q' (sl (sl (sl L 6 cc) 7 (d 101 x)) 5 (x + 1)) (st (st M' 109 cc b') 108 cc (lAdd (M' 108 cc) (d 100 x)))) ∧ (¬ ¬ b = 0 → Q' (sl (sl (sl L 6 cc) 7 (d 101 x)) 5 (x + 1)) (st (st M' 109 cc b') 108 cc (lAdd (M' 108 cc) 0)))) ∧ (¬ d 101 x = 2 → Q' (sl (sl (sl L 6 cc) 7 (d 101 x)) 5 (x + 1)) (st (st M' 109 cc b') 108 cc (lAdd (M' 108 cc) 0))))) := by
              intro b' eb
              obtain ⟨t1, t2, t3, t4, t5⟩ := hsl cc (d 101 x)
              have hyes : (d 101 x = 0 ∨ (d 101 x = 2 ∧ rl d 1 r = 1)) → Q' (sl (sl (sl L 6 cc) 7 (d 101 x)) 5 (x + 1)) (st (st M' 109 cc b') 108 cc (lAdd (M' 108 cc) (d 100 x))) := by
                intro q
                refine hN2 _ _ _ b' rfl ?_ eb t1 t2 t3 t4 t5
                rw [lAdd_id (by omega) (by omega)]
                unfold tkC
                rw [if_neg c1, if_pos ⟨c2, q⟩]
              have hno : ¬ (d 101 x = 0 ∨ (d 101 x = 2 ∧ rl d 1 r = 1)) → Q' (sl (sl (sl L 6 cc) 7 (d 101 x)) 5 (x + 1)) (st (st M' 109 cc b') 108 cc (lAdd (M' 108 cc) 0)) := by
                intro q
                refine hN2 _ _ _ b' rfl ?_ eb t1 t2 t3 t4 t5
                rw [lAdd_id (by omega) (by omega)]
                unfold tkC
                rw [if_neg c1, if_neg (fun z => q z.2)]
              refine ⟨hc.1, hc.2, fun c3 => ⟨hx0, by omega, hyes (Or.inl c3)⟩, fun c3 => ⟨fun c4 => ⟨fun c5 => ⟨hx0, by omega, hyes (Or.inr ⟨c4, ?_⟩)⟩, fun c5 => hno ?_⟩, fun c4 => hno ?_⟩⟩
              · apply Classical.byContradiction
                intro q
                rw [if_neg q] at hb
                exact c5 hb
              · intro q
                rcases q with q | q
                · exact c3 q
                · rw [if_pos q.2] at hb
                  omega
              · intro q
                rcases q with q | q
                · exact c3 q
                · exact c4 q.1
            refine ⟨hc.1, hc.2, fun c3 => ⟨hx0, by omega, ?_⟩, fun c3 => ?_⟩
            · refine hlast _ ?_
              rw [lAdd_id (by omega) (by omega)]
              unfold hdC
              rw [if_pos ⟨c2, c3⟩]
            · refine hlast _ ?_
              rw [lAdd_id (by omega) (by omega)]
              unfold hdC
              rw [if_neg (fun q => c3 q.2)]
          · obtain ⟨t1, t2, t3, t4, t5⟩ := hsl cc (d 101 x)
            refine hN2 _ _ (M' 108 cc) (M' 109 cc) (by rw [st_id, st_id]) ?_ ?_ t1 t2 t3 t4 t5
            · unfold tkC
              rw [if_neg c1, if_neg (fun q => c2 q.1)]
              omega
            · unfold hdC
              rw [if_neg (fun q => c2 q.1)]
              omega
      · rw [if_neg c]
        refine ⟨fun q => absurd q (by simp), fun _ => ?_⟩
        rw [iAdd_id (by omega) (by omega)]
        refine hQ' _ _ rfl ⟨?_, ?_, ?_, ?_, p5, p6, fun s t b1 b2 b3 b4 => ?_⟩
        · simp only [sl_ap, Nat.reduceEqDiff, if_false]; exact p1
        · simp only [sl_ap, Nat.reduceEqDiff, if_false]; exact p2
        · simp only [sl_ap, Nat.reduceEqDiff, if_false]; exact p3
        · simp only [sl_ap, Nat.reduceEqDiff, if_false]; exact p4
        · have hp2 := p7 s t b1 b2 b3 b4
          have hs2 := hs s t
          rw [hs2.1, hs2.2, hp2.1, hp2.2]
          unfold tkF hdF
          rw [if_neg (fun q => c q.1), if_neg (fun q => c q.1)]
          omega
    intro L3 M3 _ ⟨p1, p2, p3, p4, p5, p6, p7⟩
    rw [p2]
    refine R_says_ok p6 hn.1 hn.2.1 ?_
    have hcell : ∀ i, 0 ≤ i → i < 384 → -15000000 ≤ M3 108 i ∧ M3 108 i ≤ 15000000 ∧ 0 ≤ M3 109 i ∧ M3 109 i ≤ 15000000 := by
      intro i h1 h2
      have hp := p7 (i % 16) (i / 16) (by omega) (by omega) (by omega) (by omega)
      rw [show 16 * (i / 16) + i % 16 = i by omega] at hp
      have hT := TK_bd hVl w r (i % 16) (i / 16) (n := (d 81 19).toNat) (by omega)
      have hH := HD_bd hVl w r (i % 16) (i / 16) (n := (d 81 19).toNat) (by omega)
      omega
    refine while_up 6 0 384 (fun x L M' => L 5 = rl d 0 r ∧ OnlyR [105, 106, 107, 108, 109] [32, 33] M M' ∧ RdP d M' ∧ M' 109 = M3 109 ∧ ∀ i, 0 ≤ i → i < 384 → M' 108 i = if i < x then M3 108 i + (M3 109 i).tdiv (rl d 0 r) else M3 108 i) (by omega) rfl ⟨by simp only [sl_ap, Nat.reduceEqDiff, if_true, if_false], p5, p6, rfl, fun i h1 h2 => by rw [if_neg (by omega)]⟩ ?_ ?_ ?_
    · intro x L M' T F h1 h2 hL _ hT hF
      simp only [sSeq, sSet, sInc, sPF, sPA, sPD, sOF, sOA, sX, sIf, sSkip, sRet, sRetB, sRetV, sSw, sSel, eK, eL, eR, eF, eA, eQ, eD, eU, eB, eV, eIf, ePF, eC0, eC1, eC2, eC3, eC4, eC5, eC6, eC7, cB, cZ, cAnd, cOr, cNot, i2l, st_fn, sl_ap, if_true, if_false, ↓reduceIte, reduceIte, Nat.reduceEqDiff, Int.reduceEq, Int.reduceLT, Int.reduceLE, Int.reduceAdd, Int.reduceSub, Int.reduceMul, Int.reduceNeg, and_true, true_and, not_true, not_false_eq_true, true_or, or_true, ne_eq, hL]
      exact ⟨hT, hF⟩
    · intro x L M' Q' hx0 hx1 hL ⟨k1, k2, k3, k4, k5⟩ hQ'
      simp only [sSeq, sSet, sInc, sPF, sPA, sPD, sOF, sOA, sX, sIf, sSkip, sRet, sRetB, sRetV, sSw, sSel, eK, eL, eR, eF, eA, eQ, eD, eU, eB, eV, eIf, ePF, eC0, eC1, eC2, eC3, eC4, eC5, eC6, eC7, cB, cZ, cAnd, cOr, cNot, i2l, st_fn, sl_ap, if_true, if_false, ↓reduceIte, reduceIte, Nat.reduceEqDiff, Int.reduceEq, Int.reduceLT, Int.reduceLE, Int.reduceAdd, Int.reduceSub, Int.reduceMul, Int.reduceNeg, and_true, true_and, not_true, not_false_eq_true, true_or, or_true, ne_eq, hL, k1, k4]
      have h5 := k5 x hx0 hx1
      rw [if_neg (by omega)] at h5
      have hc := hcell x hx0 hx1
      have hdv := tdiv_nn (a := M3 109 x) (b := rl d 0 r) hc.2.2.1 (by omega)
      rw [h5, lDiv_id (by omega) (by omega), lAdd_id (by omega) (by omega), iAdd_id (by omega) (by omega)]
      refine ⟨hx0, hx1, hx0, hx1, by omega, hQ' _ _ rfl ⟨?_, k2.set (by decide) (by decide) _ _, ?_, k4, fun i h1 h2 => ?_⟩⟩
      · simp only [sl_ap, Nat.reduceEqDiff, if_false]; exact k1
      · exact k3.go (S := [108]) (F := []) (OnlyR.rf.set (by decide) (by decide) _ _) (by decide) (by decide)
      · simp only [st_fn, if_true]
        by_cases c : i = x
        · rw [if_pos c, if_pos (by omega), c]
        · rw [if_neg c, k5 i h1 h2]
          by_cases c2 : i < x
          · rw [if_pos c2, if_pos (by omega)]
          · rw [if_neg c2, if_neg (by omega)]
    · intro L4 M4 _ ⟨k1, k2, k3, k4, k5⟩
      refine hQ M4 k2 ⟨k3, fun s t b1 b2 b3 b4 => ?_⟩
      have hp := p7 s t b1 b2 b3 b4
      rw [k5 _ (by omega) (by omega), if_pos (by omega), hp.1, hp.2]
      rfl
  refine ⟨fun c => hmain 1 _ ?_ ?_ ?_ ?_ (by rw [if_pos c]), fun c => hmain 0 _ ?_ ?_ ?_ ?_ (by rw [if_neg c])⟩
  all_goals simp only [sl_ap, Nat.reduceEqDiff, if_true, if_false, j1, j2]
