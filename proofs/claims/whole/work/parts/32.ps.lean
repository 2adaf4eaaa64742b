/-! sheet -/
theorem Sheets_renew_ok {M : XM} {s m n : Int} {Q : Int → XM → Prop} (hs : 0 ≤ s ∧ s < 4) (hn : 0 ≤ n ∧ n ≤ 120) (hQ : ∀ M', (∀ k, k ≠ 79 → k ≠ 80 → k ≠ 75 + s.toNat → M' k = M k) → M' 79 = upx (M 79) s n → M' 80 = upx (M 80) s m → (∀ i, 0 ≤ i → i < n → M' (75 + s.toNat) i = 0) → Q 0 M') : F_Sheets_renew s m n M Q := by
  unfold F_Sheets_renew S_Sheets_renew
  simp only [sSeq, sSet, sInc, sPF, sPA, sPD, sOF, sOA, sX, sIf, sSkip, sRet, sRetB, sRetV, sSw, sSel, eK, eL, eR, eF, eA, eQ, eD, eU, eB, eV, eIf, ePF, eC0, eC1, eC2, eC3, eC4, eC5, eC6, eC7, cB, cZ, cAnd, cOr, cNot, i2l, st_fn, sl_ap, if_true, if_false, ↓reduceIte, reduceIte, Nat.reduceEqDiff, Int.reduceEq, Int.reduceLT, Int.reduceLE, Int.reduceAdd, Int.reduceSub, Int.reduceMul, Int.reduceNeg, and_true, true_and, not_true, not_false_eq_true, true_or, or_true, ne_eq]
  refine ⟨hs.1, hs.2, hs.1, hs.2, ?_⟩
  have o79 : (st (st M 80 s m) 79 s n) 79 = upx (M 79) s n := by rw [st_upx, st_ne _ _ _ (by decide)]
  have o80 : (st (st M 80 s m) 79 s n) 80 = upx (M 80) s m := by rw [st_ne _ _ _ (by decide), st_upx]
  have oe : ∀ k, k ≠ 79 → k ≠ 80 → (st (st M 80 s m) 79 s n) k = M k := fun k a b => by rw [st_ne _ _ _ a, st_ne _ _ _ b]
  generalize st (st M 80 s m) 79 s n = N at *
  refine while_up 4 0 n (fun x L M' => L 1 = s ∧ L 3 = n ∧ (∀ k, k ≠ 75 + s.toNat → M' k = N k) ∧ ∀ i, 0 ≤ i → i < x → M' (75 + s.toNat) i = 0) hn.1 rfl ⟨rfl, rfl, fun _ _ => rfl, fun i a b => absurd b (by omega)⟩ ?_ ?_ ?_
  · intro x L M' T F a1 a2 hL ⟨_, k2, _⟩ hT hF
    simp only [sSeq, sSet, sInc, sPF, sPA, sPD, sOF, sOA, sX, sIf, sSkip, sRet, sRetB, sRetV, sSw, sSel, eK, eL, eR, eF, eA, eQ, eD, eU, eB, eV, eIf, ePF, eC0, eC1, eC2, eC3, eC4, eC5, eC6, eC7, cB, cZ, cAnd, cOr, cNot, i2l, st_fn, sl_ap, if_true, if_false, ↓reduceIte, reduceIte, Nat.reduceEqDiff, Int.reduceEq, Int.reduceLT, Int.reduceLE, Int.reduceAdd, Int.reduceSub, Int.reduceMul, Int.reduceNeg, and_true, true_and, not_true, not_false_eq_true, true_or, or_true, ne_eq, hL, k2]
    exact ⟨hT, hF⟩
  · intro x L M' Q' hx0 hx1 hL ⟨k1, k2, k3, k4⟩ hQ'
    simp only [sSeq, sSet, sInc, sPF, sPA, sPD, sOF, sOA, sX, sIf, sSkip, sRet, sRetB, sRetV, sSw, sSel, eK, eL, eR, eF, eA, eQ, eD, eU, eB, eV, eIf, ePF, eC0, eC1, eC2, eC3, eC4, eC5, eC6, eC7, cB, cZ, cAnd, cOr, cNot, i2l, st_fn, sl_ap, if_true, if_false, ↓reduceIte, reduceIte, Nat.reduceEqDiff, Int.reduceEq, Int.reduceLT, Int.reduceLE, Int.reduceAdd, Int.reduceSub, Int.reduceMul, Int.reduceNeg, and_true, true_and, not_true, not_false_eq_true, true_or, or_true, ne_eq, hL, k1, rowN hs.1]
    refine ⟨hs.1, hs.2, hx0, by omega, ?_⟩
    rw [iAdd_id (by omega) (by omega)]
    refine hQ' _ _ rfl ⟨?_, ?_, fun k hk => by rw [st_ne _ _ _ hk]; exact k3 k hk, fun i a b => ?_⟩
    · simp only [sl_ap, Nat.reduceEqDiff, if_false]; exact k1
    · simp only [sl_ap, Nat.reduceEqDiff, if_false]; exact k2
    · rw [st_upx, upx_ap]
      by_cases ci : i = x
      · rw [if_pos ci]
      · rw [if_neg ci]
        exact k4 i a (by omega)
  · intro L M' _ ⟨k1, k2, k3, k4⟩
    refine hQ M' (fun k a b c => by rw [k3 k c]; exact oe k a b) ?_ ?_ k4
    · rw [k3 79 (by omega)]; exact o79
    · rw [k3 80 (by omega)]; exact o80
abbrev XF3 : Type := Int → Int → Int → XM → (Int → XM → Prop) → Prop
def S_M_sheet_ (FN : XF3) : XS := sSeq (sIf (cOr (cOr (cNot (cZ (fun x => x ≠ 0) (eC1 F_Sheets_isNumber (eL 1)))) (cNot (cZ (fun x => x ≠ 0) (eC1 F_Sheets_isMould (eL 2))))) (cB (fun x y => y < x) (eL 3) (eK 120))) (sRet (eK (-2))) sSkip) (sSeq (sIf (cZ (fun x => x < 0) (eL 3)) (sRet (eC1 F_Sheets_found (eK 5))) sSkip) (sSeq (sX (eC3 FN (eL 1) (eL 2) (eL 3))) (sRet (eL 3))))
theorem M_sheet_gen (FN : XF3) {M : XM} {s m n : Int} {Q : Int → XM → Prop} (hN : ∀ (Q : Int → XM → Prop), (0 ≤ s ∧ s < 4) → (0 ≤ n ∧ n ≤ 120) → (∀ M', (∀ k, k ≠ 79 → k ≠ 80 → k ≠ 75 + s.toNat → M' k = M k) → M' 79 = upx (M 79) s n → M' 80 = upx (M 80) s m → (∀ i, 0 ≤ i → i < n → M' (75 + s.toNat) i = 0) → Q 0 M') → FN s m n M Q)
    (q1 : ¬ (((0 ≤ s ∧ s ≤ 3) ∧ 0 ≤ m ∧ m ≤ 3) ∧ n ≤ 120) → Q (-2) M) (q2 : (((0 ≤ s ∧ s ≤ 3) ∧ 0 ≤ m ∧ m ≤ 3) ∧ n ≤ 120) → n < 0 → Q (-15) (st M 73 3 5))
    (q3 : (((0 ≤ s ∧ s ≤ 3) ∧ 0 ≤ m ∧ m ≤ 3) ∧ n ≤ 120) → ¬ n < 0 → ∀ M', (∀ k, k ≠ 79 → k ≠ 80 → k ≠ 75 + s.toNat → M' k = M k) → M' 79 = upx (M 79) s n → M' 80 = upx (M 80) s m → (∀ i, 0 ≤ i → i < n → M' (75 + s.toNat) i = 0) → Q n M') : S_M_sheet_ FN (fun _ _ => False) Q (sl (sl (sl (fun _ => 0) 1 s) 2 m) 3 n) M := by
  unfold S_M_sheet_
  simp only [sSeq, sSet, sInc, sPF, sPA, sPD, sOF, sOA, sX, sIf, sSkip, sRet, sRetB, sRetV, sSw, sSel, eK, eL, eR, eF, eA, eQ, eD, eU, eB, eV, eIf, ePF, eC0, eC1, eC2, eC3, eC4, eC5, eC6, eC7, cB, cZ, cAnd, cOr, cNot, i2l, st_fn, sl_ap, if_true, if_false, ↓reduceIte, reduceIte, Nat.reduceEqDiff, Int.reduceEq, Int.reduceLT, Int.reduceLE, Int.reduceAdd, Int.reduceSub, Int.reduceMul, Int.reduceNeg, and_true, true_and, not_true, not_false_eq_true, true_or, or_true, ne_eq, F_Sheets_isNumber_iff, F_Sheets_isMould_iff, b01_ne, F_Sheets_found_iff]
  by_cases c : ((0 ≤ s ∧ s ≤ 3) ∧ 0 ≤ m ∧ m ≤ 3) ∧ n ≤ 120
  · refine ⟨fun _ => ⟨fun _ => ⟨fun q => absurd q (by omega), fun _ => ⟨fun c0 => q2 c c0, fun c0 => ?_⟩⟩, fun q => absurd c.1.2 q⟩, fun q => absurd c.1.1 q⟩
    exact hN _ ⟨c.1.1.1, by omega⟩ ⟨by omega, c.2⟩ (q3 c c0)
  · have q1 := q1 c
    ((repeat' (first | (with_reducible intro _) | (with_reducible refine And.intro ?_ ?_))) <;> try (exfalso; omega))
    all_goals exact q1
theorem R_sheet_ok {M : XM} {s m n : Int} {Q : Int → XM → Prop}
    (q1 : ¬ (((0 ≤ s ∧ s ≤ 3) ∧ 0 ≤ m ∧ m ≤ 3) ∧ n ≤ 120) → Q (-2) M) (q2 : (((0 ≤ s ∧ s ≤ 3) ∧ 0 ≤ m ∧ m ≤ 3) ∧ n ≤ 120) → n < 0 → Q (-15) (st M 81 4 5))
    (q3 : (((0 ≤ s ∧ s ≤ 3) ∧ 0 ≤ m ∧ m ≤ 3) ∧ n ≤ 120) → ¬ n < 0 → ∀ M', (∀ k, k ≠ 82 → k ≠ 83 → k ≠ 84 → M' k = M k) → M' 82 = upx (M 82) s m → M' 83 = upx (M 83) s n → (∀ j, M' 84 j = if 120 * s ≤ j ∧ j < 120 * s + n then 0 else M 84 j) → Q n M') : F_R_sheet s m n M Q := by
  unfold F_R_sheet S_R_sheet
  simp only [sSeq, sSet, sInc, sPF, sPA, sPD, sOF, sOA, sX, sIf, sSkip, sRet, sRetB, sRetV, sSw, sSel, eK, eL, eR, eF, eA, eQ, eD, eU, eB, eV, eIf, ePF, eC0, eC1, eC2, eC3, eC4, eC5, eC6, eC7, cB, cZ, cAnd, cOr, cNot, i2l, st_fn, sl_ap, if_true, if_false, ↓reduceIte, reduceIte, Nat.reduceEqDiff, Int.reduceEq, Int.reduceLT, Int.reduceLE, Int.reduceAdd, Int.reduceSub, Int.reduceMul, Int.reduceNeg, and_true, true_and, not_true, not_false_eq_true, true_or, or_true, ne_eq, F_R_isSheet_iff, F_R_in_iff, b01_ne, F_R_met_iff]
  by_cases c : ((0 ≤ s ∧ s ≤ 3) ∧ 0 ≤ m ∧ m ≤ 3) ∧ n ≤ 120
  · refine ⟨fun _ => ⟨fun _ => ⟨fun q => absurd q (by omega), fun _ => ⟨fun c0 => q2 c c0, fun c0 => ⟨by omega, by omega, by omega, by omega, ?_⟩⟩⟩, fun q => absurd c.1.2 q⟩, fun q => absurd c.1.1 q⟩
    have p82 : (st (st M 82 s m) 83 s n) 82 = upx (M 82) s m := by rw [st_ne _ _ _ (by decide), st_upx]
    have p83 : (st (st M 82 s m) 83 s n) 83 = upx (M 83) s n := by rw [st_upx, st_ne _ _ _ (by decide)]
    have pe : ∀ k, k ≠ 82 → k ≠ 83 → (st (st M 82 s m) 83 s n) k = M k := fun k a b => by rw [st_ne _ _ _ b, st_ne _ _ _ a]
    generalize st (st M 82 s m) 83 s n = P at *
    refine while_up 4 0 n (fun x L M' => L 1 = s ∧ L 3 = n ∧ (∀ k, k ≠ 84 → M' k = P k) ∧ ∀ j, M' 84 j = if 120 * s ≤ j ∧ j < 120 * s + x then 0 else M 84 j) (by omega) rfl ⟨rfl, rfl, fun _ _ => rfl, fun j => by rw [if_neg (by omega), pe 84 (by decide) (by decide)]⟩ ?_ ?_ ?_
    · intro x L M' T F a1 a2 hL ⟨_, k2, _⟩ hT hF
      simp only [sSeq, sSet, sInc, sPF, sPA, sPD, sOF, sOA, sX, sIf, sSkip, sRet, sRetB, sRetV, sSw, sSel, eK, eL, eR, eF, eA, eQ, eD, eU, eB, eV, eIf, ePF, eC0, eC1, eC2, eC3, eC4, eC5, eC6, eC7, cB, cZ, cAnd, cOr, cNot, i2l, st_fn, sl_ap, if_true, if_false, ↓reduceIte, reduceIte, Nat.reduceEqDiff, Int.reduceEq, Int.reduceLT, Int.reduceLE, Int.reduceAdd, Int.reduceSub, Int.reduceMul, Int.reduceNeg, and_true, true_and, not_true, not_false_eq_true, true_or, or_true, ne_eq, hL, k2]
      exact ⟨hT, hF⟩
    · intro x L M' Q' hx0 hx1 hL ⟨k1, k2, k3, k4⟩ hQ'
      simp (disch := omega) only [sSeq, sSet, sInc, sPF, sPA, sPD, sOF, sOA, sX, sIf, sSkip, sRet, sRetB, sRetV, sSw, sSel, eK, eL, eR, eF, eA, eQ, eD, eU, eB, eV, eIf, ePF, eC0, eC1, eC2, eC3, eC4, eC5, eC6, eC7, cB, cZ, cAnd, cOr, cNot, i2l, st_fn, sl_ap, if_true, if_false, ↓reduceIte, reduceIte, Nat.reduceEqDiff, Int.reduceEq, Int.reduceLT, Int.reduceLE, Int.reduceAdd, Int.reduceSub, Int.reduceMul, Int.reduceNeg, and_true, true_and, not_true, not_false_eq_true, true_or, or_true, ne_eq, hL, k1, iMul_id, iAdd_id]
      refine ⟨by omega, by omega, hQ' _ _ rfl ⟨?_, ?_, fun k hk => by rw [st_ne _ _ _ hk]; exact k3 k hk, fun j => ?_⟩⟩
      · simp only [sl_ap, Nat.reduceEqDiff, if_false]; exact k1
      · simp only [sl_ap, Nat.reduceEqDiff, if_false]; exact k2
      · rw [st_upx, upx_ap, k4 j]
        by_cases cj : j = 120 * s + x
        · rw [if_pos cj, if_pos (by omega)]
        · rw [if_neg cj]
          exact ite_eq_of (by omega)
    · intro L M2 _ ⟨k1, k2, k3, k4⟩
      rw [k2]
      exact q3 c c0 M2 (fun k a b d => by rw [k3 k d, pe k a b]) (by rw [k3 82 (by decide), p82]) (by rw [k3 83 (by decide), p83]) k4
  · have q1 := q1 c
    ((repeat' (first | (with_reducible intro _) | (with_reducible refine And.intro ?_ ?_))) <;> try (exfalso; omega))
    all_goals exact q1
theorem ok_sheet {Z M : XM} (h : Inv Z M) (s m n : Int) : F_M_sheet s m n M (fun v M1 => F_R_sheet s m n M1 (fun w M2 => v = w ∧ Inv Z M2)) := by
  have hz := (DCs_iff M).mp h.2.2.1
  refine M_sheet_gen F_Sheets_renew (fun Q a b hq => Sheets_renew_ok a b hq) (fun c => ?_) (fun c c0 => ?_) (fun c c0 N oe o79 o80 oz => ?_)
  · exact R_sheet_ok (fun _ => ⟨rfl, h⟩) (fun q => absurd q c) (fun q => absurd q c)
  · exact R_sheet_ok (fun q => absurd c q) (fun _ _ => ⟨rfl, Inv_late h 5⟩) (fun _ q => absurd c0 q)
  · refine R_sheet_ok (fun q => absurd c q) (fun _ q => absurd q c0) (fun _ _ M2 pe p82 p83 p84 => ?_)
    have e : ∀ k, k ≠ 84 → k ≠ 82 → k ≠ 83 → k ≠ 79 → k ≠ 80 → k ≠ 75 + s.toNat → M2 k = M k := fun k a b d f g i => by rw [pe k b d a, oe k f g i]
    refine ⟨rfl, Inv_sh h (fun k b1 b2 b3 b4 => e k (fun q => b1 (by rw [q]; decide)) (fun q => b1 (by rw [q]; decide)) (fun q => b1 (by rw [q]; decide)) (fun q => b1 (by rw [q]; decide)) (fun q => b1 (by rw [q]; decide)) (fun q => b1 ?_)) (fun j b1 b2 => by rw [e 81 (by decide) (by decide) (by decide) (by decide) (by decide) (by omega)]) (by rw [e 81 (by decide) (by decide) (by decide) (by decide) (by decide) (by omega)]; exact h.2.2.2.2.2.2.2.1) ⟨by rw [e 73 (by decide) (by decide) (by decide) (by decide) (by decide) (by omega), e 81 (by decide) (by decide) (by decide) (by decide) (by decide) (by omega)]; exact hz.1, ?_⟩⟩
    · rw [q]
      unfold ShC
      simp only [List.mem_cons, List.not_mem_nil, or_false]
      omega
    · intro q q0 q1
      rw [p82, p83, pe 79 (by decide) (by decide) (by decide), o79, pe 80 (by decide) (by decide) (by decide), o80, oe 82 (by decide) (by decide) (by omega), oe 83 (by decide) (by decide) (by omega)]
      simp only [upx_ap]
      by_cases cq : q = s
      · simp only [if_pos cq]
        refine Or.inr ⟨c.1.2.1, c.1.2.2, by omega, c.2, trivial, trivial, fun i i0 i1 => ?_⟩
        rw [p84, if_pos (by omega), pe _ (by omega) (by omega) (by omega), cq]
        exact oz i i0 i1
      · simp only [if_neg cq]
        rcases hz.2 q q0 q1 with a | ⟨a1, a2, a3, a4, a5, a6, a7⟩
        · exact Or.inl a
        · refine Or.inr ⟨a1, a2, a3, a4, a5, a6, fun i i0 i1 => ?_⟩
          rw [p84, if_neg (by omega), e _ (by omega) (by omega) (by omega) (by omega) (by omega) (by omega), oe 84 (by decide) (by decide) (by omega)]
          exact a7 i i0 i1
/-! copy -/
theorem F_Sheets_hasRange_iff {s f n : Int} {M : XM} {Q : Int → XM → Prop} (hs : 0 ≤ s ∧ s < 4) (hf : r32 f) (hn : r32 n) : F_Sheets_hasRange s f n M Q ↔ Q (if 0 ≤ f ∧ 0 ≤ n ∧ f + n ≤ M 79 s then 1 else 0) M := by
  unfold r32 at hf hn
  unfold F_Sheets_hasRange S_Sheets_hasRange
  simp (disch := omega) only [sSeq, sSet, sInc, sPF, sPA, sPD, sOF, sOA, sX, sIf, sSkip, sRet, sRetB, sRetV, sSw, sSel, eK, eL, eR, eF, eA, eQ, eD, eU, eB, eV, eIf, ePF, eC0, eC1, eC2, eC3, eC4, eC5, eC6, eC7, cB, cZ, cAnd, cOr, cNot, i2l, st_fn, sl_ap, if_true, if_false, ↓reduceIte, reduceIte, Nat.reduceEqDiff, Int.reduceEq, Int.reduceLT, Int.reduceLE, Int.reduceAdd, Int.reduceSub, Int.reduceMul, Int.reduceNeg, and_true, true_and, not_true, not_false_eq_true, true_or, or_true, ne_eq, hs.1, hs.2, lAdd_id]
  by_cases c1 : 0 ≤ f <;> by_cases c2 : 0 ≤ n <;> by_cases c3 : f + n ≤ M 79 s <;> simp [c1, c2, c3]
theorem cpy_at (M : XM) (a : Nat) (i : Int) (b : Nat) (j n : Int) (k : Nat) : cpy M a i b j n k = if k = b then (fun x => if j ≤ x ∧ x < j + n then M a (i + (x - j)) else M b x) else M k := rfl
def CpA (M : XM) (s t : Int) : Prop := ¬ (M 82 s < 0 ∨ M 82 t < 0) ∧ M 82 s = M 82 t
theorem M_copy_ok {M : XM} {s i t j n : Int} {Q : Int → XM → Prop} (r2 : r32 i) (r4 : r32 j) (r5 : r32 n)
    (q0 : ¬ ((0 ≤ s ∧ s ≤ 3) ∧ 0 ≤ t ∧ t ≤ 3) → Q (-2) M)
    (q1 : ((0 ≤ s ∧ s ≤ 3) ∧ 0 ≤ t ∧ t ≤ 3) → (M 79 s = -1 ∨ M 79 t = -1) → Q (-11) (st M 73 3 1))
    (q2 : ((0 ≤ s ∧ s ≤ 3) ∧ 0 ≤ t ∧ t ≤ 3) → ¬ (M 79 s = -1 ∨ M 79 t = -1) → ¬ M 80 s = M 80 t → Q (-14) (st M 73 3 4))
    (q3 : ((0 ≤ s ∧ s ≤ 3) ∧ 0 ≤ t ∧ t ≤ 3) → ¬ (M 79 s = -1 ∨ M 79 t = -1) → M 80 s = M 80 t → ¬ ((0 ≤ i ∧ 0 ≤ n ∧ i + n ≤ M 79 s) ∧ 0 ≤ j ∧ 0 ≤ n ∧ j + n ≤ M 79 t) → Q (-12) (st M 73 3 2))
    (q4 : ((0 ≤ s ∧ s ≤ 3) ∧ 0 ≤ t ∧ t ≤ 3) → ¬ (M 79 s = -1 ∨ M 79 t = -1) → M 80 s = M 80 t → ((0 ≤ i ∧ 0 ≤ n ∧ i + n ≤ M 79 s) ∧ 0 ≤ j ∧ 0 ≤ n ∧ j + n ≤ M 79 t) → (i + n ≤ 120 ∧ j + n ≤ 120) ∧ Q 1 (cpy M (75 + s.toNat) i (75 + t.toNat) j n)) : F_M_copy s i t j n M Q := by
  unfold F_M_copy S_M_copy
  simp only [sCpy, sSeq, sSet, sInc, sPF, sPA, sPD, sOF, sOA, sX, sIf, sSkip, sRet, sRetB, sRetV, sSw, sSel, eK, eL, eR, eF, eA, eQ, eD, eU, eB, eV, eIf, ePF, eC0, eC1, eC2, eC3, eC4, eC5, eC6, eC7, cB, cZ, cAnd, cOr, cNot, i2l, st_fn, sl_ap, if_true, if_false, ↓reduceIte, reduceIte, Nat.reduceEqDiff, Int.reduceEq, Int.reduceLT, Int.reduceLE, Int.reduceAdd, Int.reduceSub, Int.reduceMul, Int.reduceNeg, and_true, true_and, not_true, not_false_eq_true, true_or, or_true, ne_eq, F_Sheets_isNumber_iff, b01_ne, F_Sheets_found_iff]
  by_cases c : (0 ≤ s ∧ s ≤ 3) ∧ 0 ≤ t ∧ t ≤ 3
  · refine ⟨fun _ => ⟨fun _ => ?_, fun q => absurd c.2 q⟩, fun q => absurd c.1 q⟩
    have hs4 : 0 ≤ s ∧ s < 4 := by omega
    have ht4 : 0 ≤ t ∧ t < 4 := by omega
    rw [F_Sheets_isLost_iff hs4.1 hs4.2, F_Sheets_isLost_iff ht4.1 ht4.2]
    simp only [b01_ne, F_Sheets_hasRange_iff hs4 r2 r5, F_Sheets_hasRange_iff ht4 r4 r5, hs4.1, hs4.2, ht4.1, ht4.2, true_and, rowN hs4.1, rowN ht4.1]
    refine ⟨fun d => q1 c (Or.inl d), fun d => ⟨fun d2 => q1 c (Or.inr d2), fun d2 => ?_⟩⟩
    have dn : ¬ (M 79 s = -1 ∨ M 79 t = -1) := fun q => q.elim d d2
    refine ⟨fun d3 => q2 c dn d3, fun d3 => ?_⟩
    have d3 : M 80 s = M 80 t := Classical.byContradiction fun q => d3 q
    refine ⟨fun d4 => ⟨fun d5 => ?_, fun d5 => q3 c dn d3 (fun q => d5 q.2)⟩, fun d4 => q3 c dn d3 (fun q => d4 q.1)⟩
    have := q4 c dn d3 ⟨d4, d5⟩
    exact ⟨d4.1, d5.1, d4.2.1, this.1.1, this.1.2, this.2⟩
  · have q0 := q0 c
    ((repeat' (first | (with_reducible intro _) | (with_reducible refine And.intro ?_ ?_))) <;> try (exfalso; omega))
    all_goals exact q0
theorem R_copy_ok {M : XM} {s i t j n : Int} {Q : Int → XM → Prop} (r2 : r32 i) (r4 : r32 j) (r5 : r32 n) (b1 : 0 ≤ s ∧ s ≤ 3 → M 83 s ≤ 120) (b2 : 0 ≤ t ∧ t ≤ 3 → M 83 t ≤ 120)
    (q0 : ¬ ((0 ≤ s ∧ s ≤ 3) ∧ 0 ≤ t ∧ t ≤ 3) → Q (-2) M)
    (q1 : ((0 ≤ s ∧ s ≤ 3) ∧ 0 ≤ t ∧ t ≤ 3) → (M 82 s < 0 ∨ M 82 t < 0) → Q (-11) (st M 81 4 1))
    (q2 : ((0 ≤ s ∧ s ≤ 3) ∧ 0 ≤ t ∧ t ≤ 3) → ¬ (M 82 s < 0 ∨ M 82 t < 0) → ¬ M 82 s = M 82 t → Q (-14) (st M 81 4 4))
    (q3 : ((0 ≤ s ∧ s ≤ 3) ∧ 0 ≤ t ∧ t ≤ 3) → ¬ (M 82 s < 0 ∨ M 82 t < 0) → M 82 s = M 82 t → ¬ ((0 ≤ i ∧ 0 ≤ n ∧ i + n ≤ M 83 s) ∧ 0 ≤ j ∧ 0 ≤ n ∧ j + n ≤ M 83 t) → Q (-12) (st M 81 4 2))
    (q4 : ((0 ≤ s ∧ s ≤ 3) ∧ 0 ≤ t ∧ t ≤ 3) → ¬ (M 82 s < 0 ∨ M 82 t < 0) → M 82 s = M 82 t → ((0 ≤ i ∧ 0 ≤ n ∧ i + n ≤ M 83 s) ∧ 0 ≤ j ∧ 0 ≤ n ∧ j + n ≤ M 83 t) → ∀ M2, (∀ k, k ≠ 84 → k ≠ 85 → M2 k = M k) → (∀ y, M2 84 y = if 120 * t + j ≤ y ∧ y < 120 * t + j + n then M 84 (120 * s + i + (y - (120 * t + j))) else M 84 y) → Q 1 M2) : F_R_copy s i t j n M Q := by
  unfold r32 at r2 r4 r5
  unfold F_R_copy S_R_copy
  simp (disch := omega) only [sSeq, sSet, sInc, sPF, sPA, sPD, sOF, sOA, sX, sIf, sSkip, sRet, sRetB, sRetV, sSw, sSel, eK, eL, eR, eF, eA, eQ, eD, eU, eB, eV, eIf, ePF, eC0, eC1, eC2, eC3, eC4, eC5, eC6, eC7, cB, cZ, cAnd, cOr, cNot, i2l, st_fn, sl_ap, if_true, if_false, ↓reduceIte, reduceIte, Nat.reduceEqDiff, Int.reduceEq, Int.reduceLT, Int.reduceLE, Int.reduceAdd, Int.reduceSub, Int.reduceMul, Int.reduceNeg, and_true, true_and, not_true, not_false_eq_true, true_or, or_true, ne_eq, F_R_isSheet_iff, b01_ne, F_R_met_iff, lAdd_id]
  by_cases c : (0 ≤ s ∧ s ≤ 3) ∧ 0 ≤ t ∧ t ≤ 3
  · refine ⟨fun _ => ⟨fun _ => ?_, fun q => absurd c.2 q⟩, fun q => absurd c.1 q⟩
    have z1 := b1 c.1
    have z2 := b2 c.2
    refine ⟨by omega, by omega, fun d => q1 c (Or.inl d), fun d => ⟨by omega, by omega, fun d2 => q1 c (Or.inr d2), fun d2 => ⟨by omega, by omega, by omega, by omega, ?_⟩⟩⟩
    have dn : ¬ (M 82 s < 0 ∨ M 82 t < 0) := fun q => q.elim d d2
    refine ⟨fun d3 => q2 c dn d3, fun d3 => ?_⟩
    have d3 : M 82 s = M 82 t := Classical.byContradiction fun q => d3 q
    have hbad : ¬ ((0 ≤ i ∧ 0 ≤ n ∧ i + n ≤ M 83 s) ∧ 0 ≤ j ∧ 0 ≤ n ∧ j + n ≤ M 83 t) → Q (-12) (st M 81 4 2) := q3 c dn d3
    refine ⟨fun d4 => hbad (by omega), fun d4 => ⟨fun d5 => hbad (by omega), fun d5 => ⟨fun d6 => hbad (by omega), fun d6 => ⟨by omega, by omega, fun d7 => hbad (by omega), fun d7 => ⟨by omega, by omega, fun d8 => hbad (by omega), fun d8 => ?_⟩⟩⟩⟩⟩
    have hq := q4 c dn d3 (by omega)
    refine while_up 6 0 n (fun x L M' => L 1 = s ∧ L 2 = i ∧ L 3 = t ∧ L 4 = j ∧ L 5 = n ∧ (∀ k, k ≠ 85 → M' k = M k) ∧ ∀ a, 0 ≤ a → a < x → M' 85 a = M 84 (120 * s + i + a)) (by omega) rfl ⟨rfl, rfl, rfl, rfl, rfl, fun _ _ => rfl, fun a a0 a1 => absurd a1 (by omega)⟩ ?_ ?_ ?_
    · intro x L M' T F a1 a2 hL ⟨_, _, _, _, k5, _⟩ hT hF
      simp only [sSeq, sSet, sInc, sPF, sPA, sPD, sOF, sOA, sX, sIf, sSkip, sRet, sRetB, sRetV, sSw, sSel, eK, eL, eR, eF, eA, eQ, eD, eU, eB, eV, eIf, ePF, eC0, eC1, eC2, eC3, eC4, eC5, eC6, eC7, cB, cZ, cAnd, cOr, cNot, i2l, st_fn, sl_ap, if_true, if_false, ↓reduceIte, reduceIte, Nat.reduceEqDiff, Int.reduceEq, Int.reduceLT, Int.reduceLE, Int.reduceAdd, Int.reduceSub, Int.reduceMul, Int.reduceNeg, and_true, true_and, not_true, not_false_eq_true, true_or, or_true, ne_eq, hL, k5]
      exact ⟨hT, hF⟩
    · intro x L M' Q' hx0 hx1 hL ⟨k1, k2, k3, k4, k5, k6, k7⟩ hQ'
      simp (disch := omega) only [sSeq, sSet, sInc, sPF, sPA, sPD, sOF, sOA, sX, sIf, sSkip, sRet, sRetB, sRetV, sSw, sSel, eK, eL, eR, eF, eA, eQ, eD, eU, eB, eV, eIf, ePF, eC0, eC1, eC2, eC3, eC4, eC5, eC6, eC7, cB, cZ, cAnd, cOr, cNot, i2l, st_fn, sl_ap, if_true, if_false, ↓reduceIte, reduceIte, Nat.reduceEqDiff, Int.reduceEq, Int.reduceLT, Int.reduceLE, Int.reduceAdd, Int.reduceSub, Int.reduceMul, Int.reduceNeg, and_true, true_and, not_true, not_false_eq_true, true_or, or_true, ne_eq, hL, k1, k2, iMul_id, iAdd_id]
      refine ⟨by omega, by omega, by omega, by omega, hQ' _ _ rfl ⟨?_, ?_, ?_, ?_, ?_, fun k hk => by rw [st_ne _ _ _ hk]; exact k6 k hk, fun a a0 a1 => ?_⟩⟩
      iterate 5 simp only [sl_ap, Nat.reduceEqDiff, if_false]; assumption
      rw [st_upx, upx_ap]
      by_cases ca : a = x
      · rw [if_pos ca, ca, k6 84 (by decide)]
      · rw [if_neg ca]
        exact k7 a a0 (by omega)
    intro L1 M1 _ ⟨k1, k2, k3, k4, k5, k6, k7⟩
    refine while_up 6 0 n (fun x L M' => L 3 = t ∧ L 4 = j ∧ L 5 = n ∧ (∀ k, k ≠ 84 → M' k = M1 k) ∧ ∀ y, M' 84 y = if 120 * t + j ≤ y ∧ y < 120 * t + j + x then M 84 (120 * s + i + (y - (120 * t + j))) else M 84 y) (by omega) rfl ⟨by simp only [sl_ap, Nat.reduceEqDiff, if_false]; exact k3, by simp only [sl_ap, Nat.reduceEqDiff, if_false]; exact k4, by simp only [sl_ap, Nat.reduceEqDiff, if_false]; exact k5, fun _ _ => rfl, fun y => by rw [if_neg (by omega), k6 84 (by decide)]⟩ ?_ ?_ ?_
    · intro x L M' T F a1 a2 hL ⟨_, _, k5, _⟩ hT hF
      simp only [sSeq, sSet, sInc, sPF, sPA, sPD, sOF, sOA, sX, sIf, sSkip, sRet, sRetB, sRetV, sSw, sSel, eK, eL, eR, eF, eA, eQ, eD, eU, eB, eV, eIf, ePF, eC0, eC1, eC2, eC3, eC4, eC5, eC6, eC7, cB, cZ, cAnd, cOr, cNot, i2l, st_fn, sl_ap, if_true, if_false, ↓reduceIte, reduceIte, Nat.reduceEqDiff, Int.reduceEq, Int.reduceLT, Int.reduceLE, Int.reduceAdd, Int.reduceSub, Int.reduceMul, Int.reduceNeg, and_true, true_and, not_true, not_false_eq_true, true_or, or_true, ne_eq, hL, k5]
      exact ⟨hT, hF⟩
    · intro x L M' Q' hx0 hx1 hL ⟨p3, p4, p5, p6, p7⟩ hQ'
      simp (disch := omega) only [sSeq, sSet, sInc, sPF, sPA, sPD, sOF, sOA, sX, sIf, sSkip, sRet, sRetB, sRetV, sSw, sSel, eK, eL, eR, eF, eA, eQ, eD, eU, eB, eV, eIf, ePF, eC0, eC1, eC2, eC3, eC4, eC5, eC6, eC7, cB, cZ, cAnd, cOr, cNot, i2l, st_fn, sl_ap, if_true, if_false, ↓reduceIte, reduceIte, Nat.reduceEqDiff, Int.reduceEq, Int.reduceLT, Int.reduceLE, Int.reduceAdd, Int.reduceSub, Int.reduceMul, Int.reduceNeg, and_true, true_and, not_true, not_false_eq_true, true_or, or_true, ne_eq, hL, p3, p4, iMul_id, iAdd_id]
      refine ⟨by omega, by omega, by omega, by omega, ?_⟩
      rw [p6 85 (by decide), k7 x hx0 hx1]
      refine hQ' _ _ rfl ⟨?_, ?_, ?_, fun k hk => by rw [st_ne _ _ _ hk]; exact p6 k hk, fun y => ?_⟩
      iterate 3 simp only [sl_ap, Nat.reduceEqDiff, if_false]; assumption
      rw [st_upx, upx_ap, p7 y]
      by_cases cy : y = 120 * t + j + x
      · rw [if_pos cy, if_pos (by omega)]
        congr 1
        omega
      · rw [if_neg cy]
        exact ite_eq_of (by omega)
    · intro L M2 _ ⟨p3, p4, p5, p6, p7⟩
      exact hq M2 (fun k a b => by rw [p6 k a, k6 k b]) p7
  · have q0 := q0 c
    ((repeat' (first | (with_reducible intro _) | (with_reducible refine And.intro ?_ ?_))) <;> try (exfalso; omega))
    all_goals exact q0
theorem ok_copy {Z M : XM} (h : Inv Z M) (s i t j n : Int) (r2 : r32 i) (r4 : r32 j) (r5 : r32 n) : F_M_copy s i t j n M (fun v M1 => F_R_copy s i t j n M1 (fun w M2 => v = w ∧ Inv Z M2)) := by
  have hz := (DCs_iff M).mp h.2.2.1
  have hs : 0 ≤ s ∧ s ≤ 3 → _ := fun c => sh_at h c.1 c.2
  have ht : 0 ≤ t ∧ t ≤ 3 → _ := fun c => sh_at h c.1 c.2
  have g : ∀ f k, k ≠ 73 → (st M 73 3 f) k = M k := fun f k a => st_ne _ _ _ a
  have b1 : 0 ≤ s ∧ s ≤ 3 → M 83 s ≤ 120 := fun c => by have := hs c; omega
  have b2 : 0 ≤ t ∧ t ≤ 3 → M 83 t ≤ 120 := fun c => by have := ht c; omega
  refine M_copy_ok r2 r4 r5 (fun c => ?_) (fun c d => ?_) (fun c d d2 => ?_) (fun c d d2 d3 => ?_) (fun c d d2 d3 => ?_)
  · exact R_copy_ok r2 r4 r5 b1 b2 (fun _ => ⟨rfl, h⟩) (fun q => absurd q c) (fun q => absurd q c) (fun q => absurd q c) (fun q => absurd q c)
  · have z1 := hs c.1
    have z2 := ht c.2
    refine R_copy_ok r2 r4 r5 (by rw [g 1 83 (by decide)]; exact b1) (by rw [g 1 83 (by decide)]; exact b2) (fun q => absurd c q) (fun _ _ => ⟨rfl, Inv_late h 1⟩) ?_ ?_ ?_
    all_goals (rw [g 1 82 (by decide)]; intro _ q; exact absurd (by omega) q)
  · have z1 := hs c.1
    have z2 := ht c.2
    refine R_copy_ok r2 r4 r5 (by rw [g 4 83 (by decide)]; exact b1) (by rw [g 4 83 (by decide)]; exact b2) (fun q => absurd c q) ?_ (fun _ _ _ => ⟨rfl, Inv_late h 4⟩) ?_ ?_
    · rw [g 4 82 (by decide)]; intro _ q; exact absurd q (by omega)
    all_goals (rw [g 4 82 (by decide)]; intro _ _ q; exact absurd q (by omega))
  · have z1 := hs c.1
    have z2 := ht c.2
    refine R_copy_ok r2 r4 r5 (by rw [g 2 83 (by decide)]; exact b1) (by rw [g 2 83 (by decide)]; exact b2) (fun q => absurd c q) ?_ ?_ (fun _ _ _ _ => ⟨rfl, Inv_late h 2⟩) ?_
    · rw [g 2 82 (by decide)]; intro _ q; exact absurd q (by omega)
    · rw [g 2 82 (by decide)]; intro _ _ q; exact absurd (by omega) q
    · rw [g 2 82 (by decide), g 2 83 (by decide)]; intro _ _ _ q; exact absurd q (by omega)
  · have z1 := hs c.1
    have z2 := ht c.2
    have e79s : M 79 s = M 83 s := by omega
    have e79t : M 79 t = M 83 t := by omega
    have e82s : M 80 s = M 82 s := by omega
    have e82t : M 80 t = M 82 t := by omega
    refine ⟨by omega, ?_⟩
    have ca : ∀ k, k ≠ 75 + t.toNat → (cpy M (75 + s.toNat) i (75 + t.toNat) j n) k = M k := fun k a => by rw [cpy_at, if_neg a]
    have cb : (cpy M (75 + s.toNat) i (75 + t.toNat) j n) (75 + t.toNat) = fun x => if j ≤ x ∧ x < j + n then M (75 + s.toNat) (i + (x - j)) else M (75 + t.toNat) x := by rw [cpy_at, if_pos rfl]
    generalize cpy M (75 + s.toNat) i (75 + t.toNat) j n = N at *
    refine R_copy_ok r2 r4 r5 (by rw [ca 83 (by omega)]; exact b1) (by rw [ca 83 (by omega)]; exact b2) (fun q => absurd c q) ?_ ?_ ?_ ?_
    · rw [ca 82 (by omega)]; intro _ q; exact absurd q (by omega)
    · rw [ca 82 (by omega)]; intro _ _ q; exact absurd (by omega) q
    · rw [ca 82 (by omega), ca 83 (by omega)]; intro _ _ _ q; exact absurd (by omega) q
    · intro _ _ _ _ M2 e p84
      rw [ca 84 (by omega)] at p84
      have e' : ∀ k, k ≠ 84 → k ≠ 85 → k ≠ 75 + t.toNat → M2 k = M k := fun k a b d => by rw [e k a b, ca k d]
      refine ⟨rfl, Inv_sh h (fun k b1 b2 b3 b4 => e' k (fun q => b1 (by rw [q]; decide)) (fun q => b3 (by rw [q]; decide)) (fun q => b1 ?_)) (fun j b1 b2 => by rw [e' 81 (by decide) (by decide) (by omega)]) (by rw [e' 81 (by decide) (by decide) (by omega)]; exact h.2.2.2.2.2.2.2.1) ⟨by rw [e' 73 (by decide) (by decide) (by omega), e' 81 (by decide) (by decide) (by omega)]; exact hz.1, ?_⟩⟩
      · rw [q]
        unfold ShC
        simp only [List.mem_cons, List.not_mem_nil, or_false]
        omega
      · refine SR2_upd hz.2 c.2 (e' 79 (by decide) (by decide) (by omega)) (e' 80 (by decide) (by decide) (by omega)) (e' 82 (by decide) (by decide) (by omega)) (e' 83 (by decide) (by decide) (by omega)) (fun q b0 b1 b2 => e' _ (by omega) (by omega) (by omega)) (fun y hy => ?_) (fun y y0 y1 _ => ?_)
        · rw [p84, if_neg (by omega)]
        · rw [p84, e _ (by omega) (by omega), cb]
          dsimp only
          rcases z1 with z1 | ⟨_, _, _, _, _, _, z1⟩
          · omega
          rcases z2 with z2 | ⟨_, _, _, _, _, _, z2⟩
          · omega
          by_cases cy : j ≤ y ∧ y < j + n
          · rw [if_pos cy, if_pos (by omega), z1 _ (by omega) (by omega)]
            congr 1
            omega
          · rw [if_neg cy, if_neg (by omega)]
            exact z2 y y0 y1
