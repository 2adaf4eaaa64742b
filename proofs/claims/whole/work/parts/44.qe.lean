/-! doubted -/
theorem S_Doubts_isDoubted_eq : S_Doubts_isDoubted = S_Doubts_isDoubted_ F_Doubts_isClaim F_Doubts_isUntimely := rfl
def S_M_doubted_ (FE FI : XF1) : XS := sSeq (sIf (cNot (cZ (fun x => x ≠ 0) (eC1 F_Ledger_isSale (eL 1)))) (sRet (eK (-2))) sSkip) (sSeq (sIf (cNot (cZ (fun x => x ≠ 0) (eC1 FE (eA 15 150 (eL 1))))) (sRet (eK (-4))) sSkip) (sRet (eIf (cZ (fun x => x ≠ 0) (eC1 FI (eL 1))) (eK 1) (eK 0))))
theorem M_doubted_gen (FE FI : XF1) {d M : XM} {k : Int} {Q : Int → XM → Prop} (hB : Base d) (hC : CF d M) (hE : ExSpec d FE) (hI : ∀ (M0 M : XM) (Q : Int → XM → Prop), CF d M → 0 ≤ k ∧ k < d 81 19 → OCt d (d 97 k) ≤ 12 → Lst3 d M0 (d 97 k) M → Q (if gvB d (d 97 k) k = true ∧ nvB d k = true then 1 else dbt d (d 97 k) k) M → FI k M Q) (hQ : ∀ M', Only SC M M' → Q (vDoubted d k) M') : S_M_doubted_ FE FI (fun _ _ => False) Q (sl (fun _ => 0) 1 k) M := by
  obtain ⟨l1, l2, l3, l4, l5, l6, l7, l8, l9, l10, l11⟩ := hC.dcl hB
  have hs := hB.2.2.2.1.1
  unfold S_M_doubted_
  simp (disch := omega) only [sSeq, sSet, sInc, sPF, sPA, sPD, sOF, sOA, sX, sIf, sSkip, sRet, sRetB, sRetV, sSw, sSel, eK, eL, eR, eF, eA, eQ, eD, eU, eB, eV, eIf, ePF, eC0, eC1, eC2, eC3, eC4, eC5, eC6, eC7, cB, cZ, cAnd, cOr, cNot, i2l, st_fn, sl_ap, if_true, if_false, ↓reduceIte, reduceIte, Nat.reduceEqDiff, Int.reduceEq, Int.reduceLT, Int.reduceLE, Int.reduceAdd, Int.reduceSub, Int.reduceMul, Int.reduceNeg, and_true, true_and, not_true, not_false_eq_true, true_or, or_true, ne_eq, F_Ledger_isSale_iff, b01_ne, l1, l5]
  unfold vDoubted at hQ
  by_cases c : 0 ≤ k ∧ k < d 81 19
  · have g := hB.2.2.2.1.2.2 k c.1 c.2
    rw [if_pos c] at hQ
    refine ⟨fun _ => ⟨c.1, by omega, ?_⟩, fun q => absurd c q⟩
    refine hE M (d 97 k) _ hC ⟨by omega, by omega⟩ (fun a M' o => ?_) (fun a M' o l => ?_)
    · rw [if_neg (by omega)] at hQ
      exact ⟨fun q => absurd q (by simp), fun _ => hQ M' (o.wk (by decide))⟩
    · rw [if_pos a] at hQ
      refine ⟨fun _ => ?_, fun q => absurd q (by simp)⟩
      have hq := hQ M' (o.wk (by decide))
      refine hI M M' _ (hC.go o (by decide)) c a l ?_
      have h01 : (if gvB d (d 97 k) k = true ∧ nvB d k = true then (1 : Int) else dbt d (d 97 k) k) = 0 ∨ (if gvB d (d 97 k) k = true ∧ nvB d k = true then (1 : Int) else dbt d (d 97 k) k) = 1 := by
        split
        · exact Or.inr rfl
        · unfold dbt
          split
          · rename_i i _
            have := bi_lt (bst d (d 97 k)) i
            omega
          · exact Or.inl rfl
      generalize (if gvB d (d 97 k) k = true ∧ nvB d k = true then (1 : Int) else dbt d (d 97 k) k) = v at *
      rcases h01 with rfl | rfl
      · exact ⟨fun q => absurd q (by simp), fun _ => hq⟩
      · exact ⟨fun _ => hq, fun q => absurd q (by simp)⟩
  · rw [if_neg c] at hQ
    exact ⟨fun q => absurd q c, fun _ => hQ M Only.rf⟩
def S_dl : XS := sSeq (sSeq (sSet 3 (eK 0)) (sWhile (cB (fun x y => x < y) (eL 3) (eF 81 48)) (sSeq (sIf (cB (fun x y => x = y) (eA 118 150 (eL 3)) (eL 1)) (sRet (eB iAnd (eB iShr (eF 81 51) (eL 3)) (eK 1))) sSkip) (sInc 3 1)))) (sRet (eK 0))
def S_R_doubted_ (FD : XF1) (FG : XF2) (FN : XF1) : XS := sSeq (sIf (cNot (cZ (fun x => x ≠ 0) (eC1 F_R_hasSale (eL 1)))) (sRet (eK (-2))) sSkip) (sSeq (sSet 2 (eA 97 150 (eL 1))) (sSeq (sIf (cNot (cZ (fun x => x ≠ 0) (eC1 FD (eL 2)))) (sRet (eK (-4))) sSkip) (sSeq (sIf (cAnd (cZ (fun x => x ≠ 0) (eC2 FG (eL 1) (eL 2))) (cZ (fun x => x ≠ 0) (eC1 FN (eL 1)))) (sRet (eK 1)) sSkip) S_dl)))
theorem S_R_doubted_eq : S_R_doubted = S_R_doubted_ F_R_findDoubts F_R_isGiven F_R_isNever := rfl
theorem R_doubted_gen (FD : XF1) (FG : XF2) (FN : XF1) {d M : XM} {k : Int} {Q : Int → XM → Prop} (hB : Base d) (hC : RF d M) (hlo : M 81 29 = -1) (hD : FdSpec d FD)
    (hG : ∀ (M : XM) (k th : Int) (Q : Int → XM → Prop), RF d M → 0 ≤ k ∧ k < d 81 19 → Q (if gvB d th k = true then 1 else 0) M → FG k th M Q)
    (hN : ∀ (M : XM) (k : Int) (Q : Int → XM → Prop), RF d M → 0 ≤ k ∧ k < d 81 19 → Q (if nvB d k = true then 1 else 0) M → FN k M Q)
    (hQ : ∀ M', OnlyR SR SF M M' → M' 81 29 = -1 → Q (vDoubted d k) M') : S_R_doubted_ FD FG FN (fun _ _ => False) Q (sl (fun _ => 0) 1 k) M := by
  have hs := hB.2.2.2.1.1
  have e19 := hC.2.1 19 (by decide)
  have e97 : M 97 = d 97 := hC.1 97 (by omega) (by omega) (by decide)
  unfold S_R_doubted_
  simp (disch := omega) only [sSeq, sSet, sInc, sPF, sPA, sPD, sOF, sOA, sX, sIf, sSkip, sRet, sRetB, sRetV, sSw, sSel, eK, eL, eR, eF, eA, eQ, eD, eU, eB, eV, eIf, ePF, eC0, eC1, eC2, eC3, eC4, eC5, eC6, eC7, cB, cZ, cAnd, cOr, cNot, i2l, st_fn, sl_ap, if_true, if_false, ↓reduceIte, reduceIte, Nat.reduceEqDiff, Int.reduceEq, Int.reduceLT, Int.reduceLE, Int.reduceAdd, Int.reduceSub, Int.reduceMul, Int.reduceNeg, and_true, true_and, not_true, not_false_eq_true, true_or, or_true, ne_eq, F_R_hasSale_iff, b01_ne, e19, e97]
  unfold vDoubted at hQ
  by_cases c : 0 ≤ k ∧ k < d 81 19
  · have g := hB.2.2.2.1.2.2 k c.1 c.2
    rw [if_pos c] at hQ
    refine ⟨fun _ => ⟨c.1, by omega, ?_⟩, fun q => absurd c q⟩
    refine hD M (d 97 k) _ hC ⟨by omega, by omega⟩ (fun a M' o => ?_) (fun a M' o l => ?_)
    · rw [if_neg (by omega)] at hQ
      exact ⟨fun q => absurd q (by simp), fun _ => hQ M' (o.wk (by decide) (by decide)) ((o.2 29 (by decide)).trans hlo)⟩
    · rw [if_pos a] at hQ
      refine ⟨fun _ => ?_, fun q => absurd q (by simp)⟩
      have hq := hQ M' (o.wk (by decide) (by decide)) ((o.2 29 (by decide)).trans hlo)
      have hC' := hC.go o (by decide) (by decide)
      have hb := bst_lt hB (th := d 97 k) ⟨by omega, by omega⟩ a
      have hloop : (gvB d (d 97 k) k = true ∧ nvB d k = true → False) → ∀ L : XL, L 1 = k → S_dl (fun _ _ => False) Q L M' := by
        intro hno L hLk
        rw [if_neg hno] at hq
        unfold S_dl
        simp only [sSeq, sSet, sInc, sPF, sPA, sPD, sOF, sOA, sX, sIf, sSkip, sRet, sRetB, sRetV, sSw, sSel, eK, eL, eR, eF, eA, eQ, eD, eU, eB, eV, eIf, ePF, eC0, eC1, eC2, eC3, eC4, eC5, eC6, eC7, cB, cZ, cAnd, cOr, cNot, i2l, st_fn, sl_ap, if_true, if_false, ↓reduceIte, reduceIte, Nat.reduceEqDiff, Int.reduceEq, Int.reduceLT, Int.reduceLE, Int.reduceAdd, Int.reduceSub, Int.reduceMul, Int.reduceNeg, and_true, true_and, not_true, not_false_eq_true, true_or, or_true, ne_eq]
        refine while_up 3 0 ((OCt d (d 97 k) : Nat) : Int) (fun x L N => N = M' ∧ L 1 = k ∧ fndN d (d 97 k) k x.toNat = none) (by omega) rfl ⟨rfl, by simp only [sl_ap, st_fn, Nat.reduceEqDiff, ↓reduceIte, reduceIte, Int.reduceEq, if_true, if_false]; exact hLk, rfl⟩ ?_ ?_ ?_
        · intro x L N P F a1 a2 hLx ⟨b0, _⟩ hT hF
          subst b0
          simp only [sSeq, sSet, sInc, sPF, sPA, sPD, sOF, sOA, sX, sIf, sSkip, sRet, sRetB, sRetV, sSw, sSel, eK, eL, eR, eF, eA, eQ, eD, eU, eB, eV, eIf, ePF, eC0, eC1, eC2, eC3, eC4, eC5, eC6, eC7, cB, cZ, cAnd, cOr, cNot, i2l, st_fn, sl_ap, if_true, if_false, ↓reduceIte, reduceIte, Nat.reduceEqDiff, Int.reduceEq, Int.reduceLT, Int.reduceLE, Int.reduceAdd, Int.reduceSub, Int.reduceMul, Int.reduceNeg, and_true, true_and, not_true, not_false_eq_true, true_or, or_true, ne_eq, hLx, l.1]
          exact ⟨hT, hF⟩
        · intro x L N Q' hx0 hx1 hLx ⟨b0, b1, b2⟩ hQ'
          subst b0
          have hsu := fnd_succ d (d 97 k) k hx0 b2
          simp only [sSeq, sSet, sInc, sPF, sPA, sPD, sOF, sOA, sX, sIf, sSkip, sRet, sRetB, sRetV, sSw, sSel, eK, eL, eR, eF, eA, eQ, eD, eU, eB, eV, eIf, ePF, eC0, eC1, eC2, eC3, eC4, eC5, eC6, eC7, cB, cZ, cAnd, cOr, cNot, i2l, st_fn, sl_ap, if_true, if_false, ↓reduceIte, reduceIte, Nat.reduceEqDiff, Int.reduceEq, Int.reduceLT, Int.reduceLE, Int.reduceAdd, Int.reduceSub, Int.reduceMul, Int.reduceNeg, and_true, true_and, not_true, not_false_eq_true, true_or, or_true, ne_eq, hLx, b1, l.2.2.2 x hx0 hx1, l.2.2.1]
          refine ⟨hx0, by omega, fun c3 => ?_, fun c3 => ?_⟩
          · rw [if_pos c3] at hsu
            rw [dbt_some (show (x + 1).toNat ≤ OCt d (d 97 k) by omega) hsu] at hq
            rw [show x = ((x.toNat : Nat) : Int) by omega, bit_n (by omega) (by omega)]
            exact hq
          · rw [if_neg c3] at hsu
            rw [iAdd_id (by omega) (by omega)]
            refine hQ' _ _ rfl ⟨rfl, ?_, hsu⟩
            simp only [sl_ap, st_fn, Nat.reduceEqDiff, ↓reduceIte, reduceIte, Int.reduceEq, if_true, if_false]; exact b1
        · intro L N _ ⟨b0, b1, b2⟩
          subst b0
          rw [Int.toNat_natCast] at b2
          rw [dbt_none b2] at hq
          exact hq
      refine hG M' k (d 97 k) _ hC' c ?_
      by_cases cg : gvB d (d 97 k) k = true
      · rw [if_pos cg]
        refine ⟨fun _ => hN M' k _ hC' c ?_, fun q => absurd q (by simp)⟩
        by_cases cv : nvB d k = true
        · rw [if_pos cv]
          rw [if_pos ⟨cg, cv⟩] at hq
          exact ⟨fun _ => hq, fun q => absurd q (by simp)⟩
        · rw [if_neg cv]
          exact ⟨fun q => absurd q (by simp), fun _ => hloop (fun q => cv q.2) _ (by simp only [sl_ap, st_fn, Nat.reduceEqDiff, ↓reduceIte, reduceIte, Int.reduceEq, if_true, if_false])⟩
      · rw [if_neg cg]
        exact ⟨fun q => absurd q (by simp), fun _ => hloop (fun q => cg q.1) _ (by simp only [sl_ap, st_fn, Nat.reduceEqDiff, ↓reduceIte, reduceIte, Int.reduceEq, if_true, if_false])⟩
  · rw [if_neg c] at hQ
    exact ⟨fun q => absurd q c, fun _ => hQ M OnlyR.rf hlo⟩
theorem ok_doubted {Z M : XM} (hZ : ZC Z) (h : Inv Z M) (x1 : Int) : F_M_doubted x1 M (fun v M1 => F_R_doubted x1 M1 (fun w M2 => v = w ∧ Inv Z M2)) := by
  have hB := h.base hZ
  have hs := hB.2.2.2.1.1
  refine ok_of (FM := F_M_doubted x1) (FR := F_R_doubted x1) h (vDoubted M x1) (fun _ hQ => M_doubted_gen F_Doubts_examine F_Doubts_isDoubted hB CF.rf (ex_spec hB) (fun M0 M' Q h1 h2 h3 h4 h5 => ?_) hQ) (fun _ _ hC hlo hQ => ?_)
  · unfold F_Doubts_isDoubted
    rw [S_Doubts_isDoubted_eq]
    exact isDoubted_gen F_Doubts_isClaim F_Doubts_isUntimely hB h1 h2 h3 h4 (fun Q q => Doubts_isClaim_ok (h1.dcl hB) ⟨h2.1, by omega⟩ q) (fun Q q => Doubts_isUntimely_ok hB h1 h2 q) h5
  · unfold F_R_doubted
    rw [S_R_doubted_eq]
    exact R_doubted_gen F_R_findDoubts F_R_isGiven F_R_isNever hB hC hlo (fd_spec hB) (fun M k th Q h1 h2 h3 => R_isGiven_ok h1 ⟨h2.1, by omega⟩ h3) (fun M k Q h1 h2 h3 => R_isNever_ok hB h1 h2 h3) hQ
