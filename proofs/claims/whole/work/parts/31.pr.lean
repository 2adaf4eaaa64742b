/-! ===== sheets ===== -/
def SR2 (M : XM) : Prop := ∀ q, 0 ≤ q → q ≤ 3 → (M 82 q = -1 ∧ M 79 q = -1 ∧ 0 ≤ M 83 q ∧ M 83 q ≤ 120) ∨ (0 ≤ M 82 q ∧ M 82 q ≤ 3 ∧ 0 ≤ M 83 q ∧ M 83 q ≤ 120 ∧ M 79 q = M 83 q ∧ M 80 q = M 82 q ∧ ∀ i, 0 ≤ i → i < M 83 q → M (75 + q.toNat) i = M 84 (120 * q + i))
theorem row_if (M : XM) {q : Int} (h0 : 0 ≤ q) (h1 : q ≤ 3) : (if q = 0 then M 75 else if q = 1 then M 76 else if q = 2 then M 77 else M 78) = M (75 + q.toNat) := by
  rcases (show q = 0 ∨ q = 1 ∨ q = 2 ∨ q = 3 by omega) with rfl | rfl | rfl | rfl <;> rfl
theorem DCs_iff (M : XM) : DCs M M ↔ M 73 3 = M 81 4 ∧ SR2 M := by
  unfold DCs SheetsRel SR2
  refine and_congr_right fun _ => ⟨fun h q h0 h1 => ?_, fun h q h0 h1 => ?_⟩
  · have := h q h0 h1
    rw [row_if M h0 h1] at this
    exact this
  · have := h q h0 h1
    rw [row_if M h0 h1]
    exact this
def ShC : List Nat := [73, 75, 76, 77, 78, 79, 80, 82, 83, 84]
theorem Inv_sh {Z M M2 : XM} (h : Inv Z M) (hk : ∀ k, k ∉ ShC → k ∉ SC → k ∉ SR → k ≠ 81 → M2 k = M k) (hj : ∀ j, j ≠ 4 → j ∉ SF → M2 81 j = M 81 j) (h29 : M2 81 29 = -1) (hs : M2 73 3 = M2 81 4 ∧ SR2 M2) : Inv Z M2 := by
  obtain ⟨⟨h1, h2, h3, h4, h5, h6, h7, h8, h9, h10, h11, h12, h13, h14⟩, ⟨l1, l2, l3, l4, l5, l6, l7, l8, l9, l10, l11⟩, ⟨s1, s2⟩, v, wv, hF, m1, m2, m3⟩ := h
  have e : ∀ k, (k ∉ ShC ∧ k ∉ SC ∧ k ∉ SR ∧ k ≠ 81) → M2 k = M k := fun k q => hk k q.1 q.2.1 q.2.2.1 q.2.2.2
  have f : ∀ j, (j ≠ 4 ∧ j ∉ SF) → M2 81 j = M 81 j := fun j q => hj j q.1 q.2
  refine ⟨?_, ?_, (DCs_iff M2).mpr hs, ?_, ?_, ?_, ?_, h29, ?_⟩
  · unfold DCt
    rw [e 2 (by decide), e 3 (by decide), e 4 (by decide), e 5 (by decide), e 6 (by decide), e 7 (by decide), e 8 (by decide), e 9 (by decide), e 10 (by decide), e 11 (by decide), e 12 (by decide), e 86 (by decide), e 87 (by decide), e 88 (by decide), e 89 (by decide), e 90 (by decide), e 91 (by decide), e 92 (by decide), e 93 (by decide), e 94 (by decide), e 95 (by decide), f 5 (by decide), f 7 (by decide), f 11 (by decide)]
    exact ⟨h1, h2, h3, h4, h5, h6, h7, h8, h9, h10, h11, h12, h13, h14⟩
  · unfold DCl
    rw [e 13 (by decide), e 14 (by decide), e 15 (by decide), e 16 (by decide), e 17 (by decide), e 18 (by decide), e 19 (by decide), e 20 (by decide), e 21 (by decide), e 96 (by decide), e 97 (by decide), e 98 (by decide), e 99 (by decide), e 100 (by decide), e 101 (by decide), e 102 (by decide), e 103 (by decide), f 19 (by decide), f 18 (by decide), f 28 (by decide)]
    exact ⟨l1, l2, l3, l4, l5, l6, l7, l8, l9, l10, l11⟩
  · unfold Vt
    rw [f 5 (by decide), f 7 (by decide), f 11 (by decide), e 86 (by decide), e 87 (by decide), e 88 (by decide), e 89 (by decide), e 90 (by decide), e 91 (by decide), e 92 (by decide), e 93 (by decide), e 94 (by decide)]
    exact v
  · unfold Vl
    rw [f 19 (by decide), f 18 (by decide), f 11 (by decide), f 7 (by decide), e 96 (by decide), e 97 (by decide), e 98 (by decide), e 99 (by decide), e 100 (by decide), e 101 (by decide), e 102 (by decide)]
    exact wv
  · intro k hk
    rw [e k (by unfold SC SR ShC; simp only [List.mem_cons, List.not_mem_nil, or_false]; omega)]
    exact hF k hk
  · rw [f 28 (by decide)]; exact m1
  · unfold DCr at m3 ⊢
    rw [e 22 (by decide), e 23 (by decide), e 26 (by decide), e 27 (by decide), e 28 (by decide), e 104 (by decide), f 31 (by decide)]
    exact m3
theorem F_Sheets_found_iff {f : Int} {M : XM} {Q : Int → XM → Prop} : F_Sheets_found f M Q ↔ Q (iSub (-10) f) (st M 73 3 f) := by
  unfold F_Sheets_found S_Sheets_found
  simp only [sSeq, sSet, sInc, sPF, sPA, sPD, sOF, sOA, sX, sIf, sSkip, sRet, sRetB, sRetV, sSw, sSel, eK, eL, eR, eF, eA, eQ, eD, eU, eB, eV, eIf, ePF, eC0, eC1, eC2, eC3, eC4, eC5, eC6, eC7, cB, cZ, cAnd, cOr, cNot, i2l, st_fn, sl_ap, if_true, if_false, ↓reduceIte, reduceIte, Nat.reduceEqDiff, Int.reduceEq, Int.reduceLT, Int.reduceLE, Int.reduceAdd, Int.reduceSub, Int.reduceMul, Int.reduceNeg, and_true, true_and, not_true, not_false_eq_true, true_or, or_true, ne_eq]
theorem F_R_met_iff {f : Int} {M : XM} {Q : Int → XM → Prop} : F_R_met f M Q ↔ Q (iSub (-10) f) (st M 81 4 f) := by
  unfold F_R_met S_R_met
  simp only [sSeq, sSet, sInc, sPF, sPA, sPD, sOF, sOA, sX, sIf, sSkip, sRet, sRetB, sRetV, sSw, sSel, eK, eL, eR, eF, eA, eQ, eD, eU, eB, eV, eIf, ePF, eC0, eC1, eC2, eC3, eC4, eC5, eC6, eC7, cB, cZ, cAnd, cOr, cNot, i2l, st_fn, sl_ap, if_true, if_false, ↓reduceIte, reduceIte, Nat.reduceEqDiff, Int.reduceEq, Int.reduceLT, Int.reduceLE, Int.reduceAdd, Int.reduceSub, Int.reduceMul, Int.reduceNeg, and_true, true_and, not_true, not_false_eq_true, true_or, or_true, ne_eq]
theorem F_Sheets_check_iff {a b c : Int} {M : XM} {Q : Int → XM → Prop} (h1 : 0 ≤ a) (h2 : a < 4) (h3 : -1 ≤ M 79 a ∧ M 79 a ≤ 120) : F_Sheets_check a b c M Q ↔ Q (if M 79 a = -1 then 1 else if M 80 a = b then (if 0 ≤ c ∧ c < M 79 a then 0 else 2) else 3) M := by
  unfold F_Sheets_check S_Sheets_check
  simp (disch := omega) only [sSeq, sSet, sInc, sPF, sPA, sPD, sOF, sOA, sX, sIf, sSkip, sRet, sRetB, sRetV, sSw, sSel, eK, eL, eR, eF, eA, eQ, eD, eU, eB, eV, eIf, ePF, eC0, eC1, eC2, eC3, eC4, eC5, eC6, eC7, cB, cZ, cAnd, cOr, cNot, i2l, st_fn, sl_ap, if_true, if_false, ↓reduceIte, reduceIte, Nat.reduceEqDiff, Int.reduceEq, Int.reduceLT, Int.reduceLE, Int.reduceAdd, Int.reduceSub, Int.reduceMul, Int.reduceNeg, and_true, true_and, not_true, not_false_eq_true, true_or, or_true, ne_eq, h1, h2, F_Sheets_isLost_iff, F_M_within_iff, b01_ne, iSub_id, Int.le_sub_one_iff]
  by_cases c1 : M 79 a = -1 <;> by_cases c2 : M 80 a = b <;> by_cases c3 : 0 ≤ c ∧ c < M 79 a <;> simp [c1, c2, c3]
theorem F_R_lacks_iff {a b c : Int} {M : XM} {Q : Int → XM → Prop} (h1 : 0 ≤ a) (h2 : a < 4) (h3 : -1 ≤ M 83 a ∧ M 83 a ≤ 120) : F_R_lacks a b c M Q ↔ (if M 82 a < 0 then Q (-11) (st M 81 4 1) else if M 82 a = b then (if 0 ≤ c ∧ c < M 83 a then Q 0 M else Q (-12) (st M 81 4 2)) else Q (-13) (st M 81 4 3)) := by
  unfold F_R_lacks S_R_lacks
  have e1 : iSub (-10) 1 = -11 := by decide
  have e2 : iSub (-10) 2 = -12 := by decide
  have e3 : iSub (-10) 3 = -13 := by decide
  simp (disch := omega) only [sSeq, sSet, sInc, sPF, sPA, sPD, sOF, sOA, sX, sIf, sSkip, sRet, sRetB, sRetV, sSw, sSel, eK, eL, eR, eF, eA, eQ, eD, eU, eB, eV, eIf, ePF, eC0, eC1, eC2, eC3, eC4, eC5, eC6, eC7, cB, cZ, cAnd, cOr, cNot, i2l, st_fn, sl_ap, if_true, if_false, ↓reduceIte, reduceIte, Nat.reduceEqDiff, Int.reduceEq, Int.reduceLT, Int.reduceLE, Int.reduceAdd, Int.reduceSub, Int.reduceMul, Int.reduceNeg, and_true, true_and, not_true, not_false_eq_true, true_or, or_true, ne_eq, h1, h2, F_R_met_iff, F_R_in_iff, b01_ne, iSub_id, Int.le_sub_one_iff, e1, e2, e3, wp_ite]
  by_cases c2 : M 82 a = b
  · rw [if_neg (show ¬ ¬ M 82 a = b from fun q => q c2), if_pos c2]
  · rw [if_pos (show ¬ M 82 a = b from c2), if_neg c2]
def lowB (m v : Int) : Int := if m = 0 then i2b (l2i v) else if m = 1 then i2s (l2i v) else if m = 2 then l2i v else v
theorem F_Sheets_lowestBits_iff {m v : Int} {M : XM} {Q : Int → XM → Prop} : F_Sheets_lowestBits m v M Q ↔ Q (lowB m v) M := by
  unfold F_Sheets_lowestBits S_Sheets_lowestBits lowB
  simp only [sSeq, sSet, sInc, sPF, sPA, sPD, sOF, sOA, sX, sIf, sSkip, sRet, sRetB, sRetV, sSw, sSel, eK, eL, eR, eF, eA, eQ, eD, eU, eB, eV, eIf, ePF, eC0, eC1, eC2, eC3, eC4, eC5, eC6, eC7, cB, cZ, cAnd, cOr, cNot, i2l, st_fn, sl_ap, if_true, if_false, ↓reduceIte, reduceIte, Nat.reduceEqDiff, Int.reduceEq, Int.reduceLT, Int.reduceLE, Int.reduceAdd, Int.reduceSub, Int.reduceMul, Int.reduceNeg, and_true, true_and, not_true, not_false_eq_true, true_or, or_true, ne_eq]
  by_cases c1 : m = 0 <;> by_cases c2 : m = 1 <;> by_cases c3 : m = 2 <;> simp [c1, c2, c3]
theorem F_R_cut_iff {m v : Int} {M : XM} {Q : Int → XM → Prop} : F_R_cut m v M Q ↔ Q (lowB m v) M := by
  unfold F_R_cut S_R_cut lowB
  simp only [sSeq, sSet, sInc, sPF, sPA, sPD, sOF, sOA, sX, sIf, sSkip, sRet, sRetB, sRetV, sSw, sSel, eK, eL, eR, eF, eA, eQ, eD, eU, eB, eV, eIf, ePF, eC0, eC1, eC2, eC3, eC4, eC5, eC6, eC7, cB, cZ, cAnd, cOr, cNot, i2l, st_fn, sl_ap, if_true, if_false, ↓reduceIte, reduceIte, Nat.reduceEqDiff, Int.reduceEq, Int.reduceLT, Int.reduceLE, Int.reduceAdd, Int.reduceSub, Int.reduceMul, Int.reduceNeg, and_true, true_and, not_true, not_false_eq_true, true_or, or_true, ne_eq]
  by_cases c1 : m = 0 <;> by_cases c2 : m = 1 <;> by_cases c3 : m = 2 <;> simp [c1, c2, c3]
theorem rowN {s : Int} (h : 0 ≤ s) : (((75 : Nat) : Int) + s).toNat = 75 + s.toNat := by omega
theorem F_Sheets_store_iff {s i v : Int} {M : XM} {Q : Int → XM → Prop} (hs : 0 ≤ s ∧ s < 4) (hi : 0 ≤ i ∧ i < 120) : F_Sheets_store s i v M Q ↔ Q 0 (st M (75 + s.toNat) i (lowB (M 80 s) v)) := by
  unfold F_Sheets_store S_Sheets_store
  simp only [sSeq, sSet, sInc, sPF, sPA, sPD, sOF, sOA, sX, sIf, sSkip, sRet, sRetB, sRetV, sSw, sSel, eK, eL, eR, eF, eA, eQ, eD, eU, eB, eV, eIf, ePF, eC0, eC1, eC2, eC3, eC4, eC5, eC6, eC7, cB, cZ, cAnd, cOr, cNot, i2l, st_fn, sl_ap, if_true, if_false, ↓reduceIte, reduceIte, Nat.reduceEqDiff, Int.reduceEq, Int.reduceLT, Int.reduceLE, Int.reduceAdd, Int.reduceSub, Int.reduceMul, Int.reduceNeg, and_true, true_and, not_true, not_false_eq_true, true_or, or_true, ne_eq, F_Sheets_lowestBits_iff, hs.1, hs.2, hi.1, hi.2, rowN hs.1]
theorem SR2_upd {M M2 : XM} {s : Int} (h : SR2 M) (hs : 0 ≤ s ∧ s ≤ 3) (e79 : M2 79 = M 79) (e80 : M2 80 = M 80) (e82 : M2 82 = M 82) (e83 : M2 83 = M 83) (hrow : ∀ q, 0 ≤ q → q ≤ 3 → q ≠ s → M2 (75 + q.toNat) = M (75 + q.toNat)) (hit : ∀ j, ¬ (120 * s ≤ j ∧ j < 120 * s + 120) → M2 84 j = M 84 j) (hnew : ∀ i, 0 ≤ i → i < M 83 s → M 79 s = M 83 s → M2 (75 + s.toNat) i = M2 84 (120 * s + i)) : SR2 M2 := by
  intro q h0 h1
  rw [e79, e80, e82, e83]
  rcases h q h0 h1 with a | ⟨a1, a2, a3, a4, a5, a6, a7⟩
  · exact Or.inl a
  · refine Or.inr ⟨a1, a2, a3, a4, a5, a6, fun i i0 i1 => ?_⟩
    by_cases c : q = s
    · subst c
      exact hnew i i0 i1 a5
    · rw [hrow q h0 h1 c, hit _ (by omega)]
      exact a7 i i0 i1
theorem Inv_late {Z M : XM} (h : Inv Z M) (f : Int) : Inv Z (st (st M 73 3 f) 81 4 f) := by
  have hs := (DCs_iff M).mp h.2.2.1
  refine Inv_sh h (fun k a1 a2 a3 a4 => ?_) (fun j b1 b2 => ?_) ?_ ⟨?_, ?_⟩
  · rw [st_ne _ _ _ a4, st_ne _ _ _ (fun e => a1 (by rw [e]; decide))]
  · simp only [st_fn, Nat.reduceEqDiff, ↓reduceIte, reduceIte, Int.reduceEq, if_true, if_false, if_neg b1]
  · simp only [st_fn, Nat.reduceEqDiff, ↓reduceIte, reduceIte, Int.reduceEq, if_true, if_false]
    exact h.2.2.2.2.2.2.2.1
  · simp only [st_fn, Nat.reduceEqDiff, ↓reduceIte, reduceIte, Int.reduceEq, if_true, if_false]
  · intro q h0 h1
    have e : ∀ k, k ≠ 81 → k ≠ 73 → (st (st M 73 3 f) 81 4 f) k = M k := fun k a b => by rw [st_ne _ _ _ a, st_ne _ _ _ b]
    rw [e 82 (by decide) (by decide), e 79 (by decide) (by decide), e 83 (by decide) (by decide), e 80 (by decide) (by decide), e 84 (by decide) (by decide), e (75 + q.toNat) (by omega) (by omega)]
    exact hs.2 q h0 h1
theorem sh_at {Z M : XM} (h : Inv Z M) {s : Int} (h0 : 0 ≤ s) (h1 : s ≤ 3) : (M 82 s = -1 ∧ M 79 s = -1 ∧ 0 ≤ M 83 s ∧ M 83 s ≤ 120) ∨ (0 ≤ M 82 s ∧ M 82 s ≤ 3 ∧ 0 ≤ M 83 s ∧ M 83 s ≤ 120 ∧ M 79 s = M 83 s ∧ M 80 s = M 82 s ∧ ∀ i, 0 ≤ i → i < M 83 s → M (75 + s.toNat) i = M 84 (120 * s + i)) := ((DCs_iff M).mp h.2.2.1).2 s h0 h1
theorem iS1 : iSub (-10) 1 = -11 := by decide
theorem iS2 : iSub (-10) 2 = -12 := by decide
theorem iS3 : iSub (-10) 3 = -13 := by decide
theorem iS4 : iSub (-10) 4 = -14 := by decide
theorem iS5 : iSub (-10) 5 = -15 := by decide
theorem ok_get {Z M : XM} (h : Inv Z M) (x1 x2 x3 : Int) : F_M_get x1 x2 x3 M (fun v M1 => F_R_get x1 x2 x3 M1 (fun w M2 => v = w ∧ Inv Z M2)) := by
  unfold F_M_get S_M_get F_R_get S_R_get
  simp only [sSeq, sSet, sInc, sPF, sPA, sPD, sOF, sOA, sX, sIf, sSkip, sRet, sRetB, sRetV, sSw, sSel, eK, eL, eR, eF, eA, eQ, eD, eU, eB, eV, eIf, ePF, eC0, eC1, eC2, eC3, eC4, eC5, eC6, eC7, cB, cZ, cAnd, cOr, cNot, i2l, st_fn, sl_ap, if_true, if_false, ↓reduceIte, reduceIte, Nat.reduceEqDiff, Int.reduceEq, Int.reduceLT, Int.reduceLE, Int.reduceAdd, Int.reduceSub, Int.reduceMul, Int.reduceNeg, and_true, true_and, not_true, not_false_eq_true, true_or, or_true, ne_eq, F_Sheets_isNumber_iff, F_Sheets_isMould_iff, F_R_isSheet_iff, F_R_in_iff, b01_ne]
  by_cases c : (0 ≤ x1 ∧ x1 ≤ 3) ∧ 0 ≤ x2 ∧ x2 ≤ 3
  · refine ⟨fun _ => ⟨fun _ => ?_, fun q => absurd c.2 q⟩, fun q => absurd c.1 q⟩
    have hs := sh_at h c.1.1 c.1.2
    have g82 : ∀ f, (st M 73 3 f) 82 = M 82 := fun f => st_ne _ _ _ (by decide)
    have g83 : ∀ f, (st M 73 3 f) 83 = M 83 := fun f => st_ne _ _ _ (by decide)
    rw [F_Sheets_check_iff c.1.1 (by omega) (by omega)]
    rcases hs with ⟨a1, a2, a3, a4⟩ | ⟨a1, a2, a3, a4, a5, a6, a7⟩
    · rw [if_pos a2]
      refine ⟨fun _ => ?_, fun q => absurd q (by simp)⟩
      rw [F_Sheets_found_iff]
      refine ⟨fun _ => ⟨fun _ => ?_, fun q => absurd c.2 q⟩, fun q => absurd c.1 q⟩
      rw [F_R_lacks_iff c.1.1 (by omega) (by rw [g83]; omega)]
      simp only [g82, g83]
      rw [if_pos (show M 82 x1 < 0 by omega)]
      exact ⟨fun _ => Inv_late h 1, fun q => absurd q (by simp)⟩
    · rw [if_neg (by omega)]
      by_cases c2 : M 80 x1 = x2
      · rw [if_pos c2]
        by_cases c3 : 0 ≤ x3 ∧ x3 < M 79 x1
        · rw [if_pos c3]
          refine ⟨fun q => absurd q (by simp), fun _ => ⟨c.1.1, by omega, c3.1, by omega, ?_⟩⟩
          refine ⟨fun _ => ⟨fun _ => ?_, fun q => absurd c.2 q⟩, fun q => absurd c.1 q⟩
          rw [F_R_lacks_iff c.1.1 (by omega) (by omega), if_neg (by omega), if_pos (by omega), if_pos (by omega)]
          refine ⟨fun q => absurd q (by simp), fun _ => ?_⟩
          rw [iMul_id (by omega) (by omega), iAdd_id (by omega) (by omega), rowN c.1.1]
          exact ⟨by omega, by omega, a7 x3 c3.1 (by omega), h⟩
        · rw [if_neg c3]
          refine ⟨fun _ => ?_, fun q => absurd q (by simp)⟩
          rw [F_Sheets_found_iff]
          refine ⟨fun _ => ⟨fun _ => ?_, fun q => absurd c.2 q⟩, fun q => absurd c.1 q⟩
          rw [F_R_lacks_iff c.1.1 (by omega) (by rw [g83]; omega)]
          simp only [g82, g83]
          rw [if_neg (show ¬ M 82 x1 < 0 by omega), if_pos (show M 82 x1 = x2 by omega), if_neg (show ¬ (0 ≤ x3 ∧ x3 < M 83 x1) by omega)]
          exact ⟨fun _ => Inv_late h 2, fun q => absurd q (by simp)⟩
      · rw [if_neg c2]
        refine ⟨fun _ => ?_, fun q => absurd q (by simp)⟩
        rw [F_Sheets_found_iff]
        refine ⟨fun _ => ⟨fun _ => ?_, fun q => absurd c.2 q⟩, fun q => absurd c.1 q⟩
        rw [F_R_lacks_iff c.1.1 (by omega) (by rw [g83]; omega)]
        simp only [g82, g83]
        rw [if_neg (show ¬ M 82 x1 < 0 by omega), if_neg (show ¬ M 82 x1 = x2 by omega)]
        exact ⟨fun _ => Inv_late h 3, fun q => absurd q (by simp)⟩
  · ((repeat' (first | (with_reducible intro _) | (with_reducible refine And.intro ?_ ?_))) <;> try (exfalso; omega))
    all_goals first | exact h | exact ⟨rfl, h⟩
theorem ok_put {Z M : XM} (h : Inv Z M) (x1 x2 x3 x4 : Int) : F_M_put x1 x2 x3 x4 M (fun v M1 => F_R_put x1 x2 x3 x4 M1 (fun w M2 => v = w ∧ Inv Z M2)) := by
  unfold F_M_put S_M_put F_R_put S_R_put
  simp only [sSeq, sSet, sInc, sPF, sPA, sPD, sOF, sOA, sX, sIf, sSkip, sRet, sRetB, sRetV, sSw, sSel, eK, eL, eR, eF, eA, eQ, eD, eU, eB, eV, eIf, ePF, eC0, eC1, eC2, eC3, eC4, eC5, eC6, eC7, cB, cZ, cAnd, cOr, cNot, i2l, st_fn, sl_ap, if_true, if_false, ↓reduceIte, reduceIte, Nat.reduceEqDiff, Int.reduceEq, Int.reduceLT, Int.reduceLE, Int.reduceAdd, Int.reduceSub, Int.reduceMul, Int.reduceNeg, and_true, true_and, not_true, not_false_eq_true, true_or, or_true, ne_eq, F_Sheets_isNumber_iff, F_Sheets_isMould_iff, F_R_isSheet_iff, F_R_in_iff, b01_ne, F_R_cut_iff]
  by_cases c : (0 ≤ x1 ∧ x1 ≤ 3) ∧ 0 ≤ x2 ∧ x2 ≤ 3
  · refine ⟨fun _ => ⟨fun _ => ?_, fun q => absurd c.2 q⟩, fun q => absurd c.1 q⟩
    have hs := sh_at h c.1.1 c.1.2
    have g82 : ∀ f, (st M 73 3 f) 82 = M 82 := fun f => st_ne _ _ _ (by decide)
    have g83 : ∀ f, (st M 73 3 f) 83 = M 83 := fun f => st_ne _ _ _ (by decide)
    rw [F_Sheets_check_iff c.1.1 (by omega) (by omega)]
    rcases hs with ⟨a1, a2, a3, a4⟩ | ⟨a1, a2, a3, a4, a5, a6, a7⟩
    · rw [if_pos a2]
      refine ⟨fun _ => ?_, fun q => absurd q (by simp)⟩
      rw [F_Sheets_found_iff]
      refine ⟨fun _ => ⟨fun _ => ?_, fun q => absurd c.2 q⟩, fun q => absurd c.1 q⟩
      rw [F_R_lacks_iff c.1.1 (by omega) (by rw [g83]; omega)]
      simp only [g82, g83]
      rw [if_pos (show M 82 x1 < 0 by omega)]
      exact ⟨fun _ => ⟨iS1, Inv_late h 1⟩, fun q => absurd q (by simp)⟩
    · rw [if_neg (by omega)]
      by_cases c2 : M 80 x1 = x2
      · rw [if_pos c2]
        by_cases c3 : 0 ≤ x3 ∧ x3 < M 79 x1
        · rw [if_pos c3]
          refine ⟨fun q => absurd q (by simp), fun _ => ?_⟩
          rw [F_Sheets_store_iff ⟨c.1.1, by omega⟩ ⟨c3.1, by omega⟩]
          refine ⟨fun _ => ⟨fun _ => ?_, fun q => absurd c.2 q⟩, fun q => absurd c.1 q⟩
          have e82 : ∀ v, (st M (75 + x1.toNat) x3 v) 82 = M 82 := fun v => st_ne _ _ _ (by omega)
          have e83 : ∀ v, (st M (75 + x1.toNat) x3 v) 83 = M 83 := fun v => st_ne _ _ _ (by omega)
          rw [F_R_lacks_iff c.1.1 (by omega) (by rw [e83]; omega), e82, e83, if_neg (by omega), if_pos (by omega), if_pos (by omega)]
          refine ⟨fun q => absurd q (by simp), fun _ => ?_⟩
          rw [iMul_id (by omega) (by omega), iAdd_id (by omega) (by omega), c2]
          refine ⟨by omega, by omega, ?_⟩
          have hz := (DCs_iff M).mp h.2.2.1
          generalize lowB x2 x4 = v
          have e : ∀ k, k ≠ 84 → k ≠ 75 + x1.toNat → (st (st M (75 + x1.toNat) x3 v) 84 (120 * x1 + x3) v) k = M k := fun k a b => by rw [st_ne _ _ _ a, st_ne _ _ _ b]
          refine Inv_sh h (fun k b1 b2 b3 b4 => e k (fun q => b1 (by rw [q]; decide)) (fun q => b1 ?_)) (fun j b1 b2 => by rw [e 81 (by decide) (by omega)]) (by rw [e 81 (by decide) (by omega)]; exact h.2.2.2.2.2.2.2.1) ⟨by rw [e 73 (by decide) (by omega), e 81 (by decide) (by omega)]; exact hz.1, ?_⟩
          · rw [q]
            unfold ShC
            simp only [List.mem_cons, List.not_mem_nil, or_false]
            omega
          · refine SR2_upd hz.2 c.1 (e 79 (by decide) (by omega)) (e 80 (by decide) (by omega)) (e 82 (by decide) (by omega)) (e 83 (by decide) (by omega)) (fun q b0 b1 b2 => e _ (by omega) (by omega)) (fun j hj => ?_) (fun i i0 i1 _ => ?_)
            · rw [st_upx, upx_ap, if_neg (by omega), st_ne _ _ _ (by omega)]
            · rw [st_upx, upx_ap, st_ne _ _ _ (show 75 + x1.toNat ≠ 84 by omega), st_upx, upx_ap]
              by_cases ci : i = x3
              · rw [if_pos ci, if_pos (by omega)]
              · rw [if_neg ci, if_neg (by omega), st_ne _ _ _ (by omega)]
                exact a7 i i0 i1
        · rw [if_neg c3]
          refine ⟨fun _ => ?_, fun q => absurd q (by simp)⟩
          rw [F_Sheets_found_iff]
          refine ⟨fun _ => ⟨fun _ => ?_, fun q => absurd c.2 q⟩, fun q => absurd c.1 q⟩
          rw [F_R_lacks_iff c.1.1 (by omega) (by rw [g83]; omega)]
          simp only [g82, g83]
          rw [if_neg (show ¬ M 82 x1 < 0 by omega), if_pos (show M 82 x1 = x2 by omega), if_neg (show ¬ (0 ≤ x3 ∧ x3 < M 83 x1) by omega)]
          exact ⟨fun _ => ⟨iS2, Inv_late h 2⟩, fun q => absurd q (by simp)⟩
      · rw [if_neg c2]
        refine ⟨fun _ => ?_, fun q => absurd q (by simp)⟩
        rw [F_Sheets_found_iff]
        refine ⟨fun _ => ⟨fun _ => ?_, fun q => absurd c.2 q⟩, fun q => absurd c.1 q⟩
        rw [F_R_lacks_iff c.1.1 (by omega) (by rw [g83]; omega)]
        simp only [g82, g83]
        rw [if_neg (show ¬ M 82 x1 < 0 by omega), if_neg (show ¬ M 82 x1 = x2 by omega)]
        exact ⟨fun _ => ⟨iS3, Inv_late h 3⟩, fun q => absurd q (by simp)⟩
  · ((repeat' (first | (with_reducible intro _) | (with_reducible refine And.intro ?_ ?_))) <;> try (exfalso; omega))
    all_goals first | exact h | exact ⟨rfl, h⟩
