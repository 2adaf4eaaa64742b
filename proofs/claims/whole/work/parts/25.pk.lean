/-! ===== the list: spec ===== -/
def upx (o : Int → Int) (j v : Int) : Int → Int := fun b => if b = j then v else o b
theorem upx_ap (o : Int → Int) (j v b : Int) : upx o j v b = if b = j then v else o b := rfl
theorem st_upx (M : XM) (k : Nat) (j v : Int) : (st M k j v) k = upx (M k) j v := by
  rw [st_fn, if_pos rfl]
  rfl
def EqTo (n : Nat) (a b : Int → Int) : Prop := ∀ i, 0 ≤ i → i < (n : Int) → a i = b i
def insN (A : Int → Int → Bool) (t : Int) : Nat → (Int → Int) → (Int → Int)
  | 0, o => upx o 0 t
  | n + 1, o => if A t (o (n : Int)) = true then insN A t n (upx o ((n : Int) + 1) (o (n : Int))) else upx o ((n : Int) + 1) t
def rkN (A : Int → Int → Bool) (E : Int → Bool) : Nat → Nat × (Int → Int)
  | 0 => (0, fun _ => 0)
  | n + 1 => if E (n : Int) = true then ((rkN A E n).1 + 1, insN A (n : Int) (rkN A E n).1 (rkN A E n).2) else rkN A E n
def plN (o : Int → Int) (sh : Int → Bool) : Nat → Int → Int
  | 0 => fun _ => -1
  | i + 1 => upx (plN o sh i) (o (i : Int)) (if sh (i : Int) = true then plN o sh i (o ((i : Int) - 1)) else (i : Int) + 1)
theorem insN_out {A : Int → Int → Bool} {t : Int} : ∀ {n : Nat} {o : Int → Int} {b : Int}, (n : Int) < b → insN A t n o b = o b
  | 0, o, b, h => by
    show upx o 0 t b = o b
    rw [upx_ap, if_neg (show ¬ b = 0 by omega)]
  | n + 1, o, b, h => by
    show (if A t (o (n : Int)) = true then insN A t n (upx o ((n : Int) + 1) (o (n : Int))) else upx o ((n : Int) + 1) t) b = o b
    split
    · rw [insN_out (by omega), upx_ap, if_neg (by omega)]
    · rw [upx_ap, if_neg (by omega)]
theorem insN_eq {A : Int → Int → Bool} {t : Int} : ∀ {n : Nat} {a b : Int → Int}, EqTo n a b → EqTo (n + 1) (insN A t n a) (insN A t n b)
  | 0, a, b, _ => fun i h1 h2 => by
    show upx a 0 t i = upx b 0 t i
    rw [upx_ap, upx_ap, if_pos (show i = 0 by omega), if_pos (show i = 0 by omega)]
  | n + 1, a, b, h => fun i h1 h2 => by
    show (if A t (a (n : Int)) = true then insN A t n (upx a ((n : Int) + 1) (a (n : Int))) else upx a ((n : Int) + 1) t) i = (if A t (b (n : Int)) = true then insN A t n (upx b ((n : Int) + 1) (b (n : Int))) else upx b ((n : Int) + 1) t) i
    have hn := h (n : Int) (by omega) (by omega)
    rw [hn]
    by_cases c : A t (b (n : Int)) = true
    · rw [if_pos c, if_pos c]
      by_cases ci : i = (n : Int) + 1
      · rw [insN_out (by omega), insN_out (by omega), upx_ap, upx_ap, if_pos ci, if_pos ci]
      · refine insN_eq (n := n) (fun j h3 h4 => ?_) i h1 (by omega)
        rw [upx_ap, upx_ap, if_neg (show ¬ j = (n : Int) + 1 by omega), if_neg (show ¬ j = (n : Int) + 1 by omega)]
        exact h j h3 (by omega)
    · rw [if_neg c, if_neg c, upx_ap, upx_ap]
      by_cases ci : i = (n : Int) + 1
      · rw [if_pos ci, if_pos ci]
      · rw [if_neg ci, if_neg ci]
        exact h i h1 (by omega)
theorem insN_val {A : Int → Int → Bool} {t : Int} {P : Int → Prop} (ht : P t) : ∀ {n : Nat} {o : Int → Int}, (∀ i, 0 ≤ i → i < (n : Int) → P (o i)) → ∀ i, 0 ≤ i → i < (n : Int) + 1 → P (insN A t n o i)
  | 0, o, _ => fun i h1 h2 => by
    show P (upx o 0 t i)
    rw [upx_ap, if_pos (show i = 0 by omega)]
    exact ht
  | n + 1, o, h => fun i h1 h2 => by
    show P ((if A t (o (n : Int)) = true then insN A t n (upx o ((n : Int) + 1) (o (n : Int))) else upx o ((n : Int) + 1) t) i)
    by_cases c : A t (o (n : Int)) = true
    · rw [if_pos c]
      by_cases ci : i = (n : Int) + 1
      · rw [insN_out (by omega), upx_ap, if_pos ci]
        exact h _ (by omega) (by omega)
      · refine insN_val ht (n := n) (fun j h3 h4 => ?_) i h1 (by omega)
        rw [upx_ap, if_neg (show ¬ j = (n : Int) + 1 by omega)]
        exact h j h3 (by omega)
    · rw [if_neg c, upx_ap]
      by_cases ci : i = (n : Int) + 1
      · rw [if_pos ci]
        exact ht
      · rw [if_neg ci]
        exact h i h1 (by omega)
theorem rkN_r {A : Int → Int → Bool} {E : Int → Bool} : ∀ n : Nat, (rkN A E n).1 ≤ n ∧ ∀ i, 0 ≤ i → i < ((rkN A E n).1 : Int) → 0 ≤ (rkN A E n).2 i ∧ (rkN A E n).2 i < (n : Int)
  | 0 => ⟨Nat.le_refl _, fun i h1 h2 => absurd h2 (by show ¬ i < (0 : Int); omega)⟩
  | n + 1 => by
    have ih := rkN_r (A := A) (E := E) n
    have e : rkN A E (n + 1) = if E (n : Int) = true then ((rkN A E n).1 + 1, insN A (n : Int) (rkN A E n).1 (rkN A E n).2) else rkN A E n := rfl
    rw [e]
    by_cases c : E (n : Int) = true
    · rw [if_pos c]
      refine ⟨by dsimp only; omega, fun i h1 h2 => ?_⟩
      dsimp only at h2 ⊢
      exact insN_val (P := fun v => 0 ≤ v ∧ v < ((n + 1 : Nat) : Int)) ⟨by omega, by omega⟩ (fun j h3 h4 => by have := ih.2 j h3 h4; omega) i h1 (by omega)
    · rw [if_neg c]
      exact ⟨by omega, fun i h1 h2 => by have := ih.2 i h1 h2; omega⟩
def ahB (d : XM) (lo w r a b : Int) : Bool := decide (SUM d lo w r b < SUM d lo w r a ∨ (SUM d lo w r a = SUM d lo w r b ∧ rl d 14 r = 1 ∧ d 86 b < d 86 a))
def elB (d : XM) (lo w r t : Int) : Bool := decide (d 86 t ≤ w ∧ 0 < SUM d lo w r t)
def rkT (d : XM) (lo w r : Int) (n : Nat) : Nat × (Int → Int) := rkN (ahB d lo w r) (elB d lo w r) n
def LN (d : XM) (lo w r : Int) : Nat := (rkT d lo w r (d 81 5).toNat).1
def LO (d : XM) (lo w r : Int) : Int → Int := (rkT d lo w r (d 81 5).toNat).2
def shB (d : XM) (lo w r i : Int) : Bool := decide (0 < i ∧ rl d 14 r = 2 ∧ SUM d lo w r (LO d lo w r i) = SUM d lo w r (LO d lo w r (i - 1)))
def PL (d : XM) (lo w r : Int) : Int → Int := plN (LO d lo w r) (shB d lo w r) (LN d lo w r)
theorem L_r {d : XM} (hV : Vt d) (lo w r : Int) : (LN d lo w r : Int) ≤ d 81 5 ∧ ∀ i, 0 ≤ i → i < (LN d lo w r : Int) → 0 ≤ LO d lo w r i ∧ LO d lo w r i < d 81 5 := by
  have h := rkN_r (A := ahB d lo w r) (E := elB d lo w r) (d 81 5).toNat
  have hv := hV.1
  refine ⟨?_, fun i h1 h2 => ?_⟩
  · have := h.1
    unfold LN rkT
    omega
  · have := h.2 i h1 h2
    unfold LO rkT
    omega
/-! ===== the list: the class ===== -/
theorem F_Tally_isAhead_iff {a b : Int} {M : XM} {Q : Int → XM → Prop} (ha : 0 ≤ a ∧ a < 12) (hb : 0 ≤ b ∧ b < 12) : F_Tally_isAhead a b M Q ↔ Q (if M 36 b < M 36 a ∨ (M 36 a = M 36 b ∧ M 24 14 = 1 ∧ M 3 b < M 3 a) then 1 else 0) M := by
  unfold F_Tally_isAhead S_Tally_isAhead
  simp only [sSeq, sSet, sInc, sPF, sPA, sPD, sOF, sOA, sX, sIf, sSkip, sRet, sRetB, sRetV, sSw, sSel, eK, eL, eR, eF, eA, eQ, eD, eU, eB, eV, eIf, ePF, eC0, eC1, eC2, eC3, eC4, eC5, eC6, eC7, cB, cZ, cAnd, cOr, cNot, i2l, st_fn, sl_ap, if_true, if_false, ↓reduceIte, reduceIte, Nat.reduceEqDiff, Int.reduceEq, Int.reduceLT, Int.reduceLE, Int.reduceAdd, Int.reduceSub, Int.reduceMul, Int.reduceNeg, and_true, true_and, not_true, not_false_eq_true, true_or, or_true, ne_eq, ha.1, ha.2, hb.1, hb.2]
  by_cases c1 : M 36 a = M 36 b
  · by_cases c2 : M 24 14 = 1 <;> by_cases c3 : M 3 b < M 3 a <;> simp [c1, c2, c3]
  · by_cases c2 : M 36 b < M 36 a <;> simp [c1, c2]
theorem Tally_insert_ok {M : XM} {t : Int} {n : Nat} {A : Int → Int → Bool} {Q : Int → XM → Prop} (hn : M 29 11 = (n : Int)) (hn2 : n < 12) (ht : 0 ≤ t ∧ t < 12) (hv : ∀ i, 0 ≤ i → i < (n : Int) → 0 ≤ M 37 i ∧ M 37 i < t)
    (hA : ∀ b, 0 ≤ b → b < t → A t b = decide (M 36 b < M 36 t ∨ (M 36 t = M 36 b ∧ M 24 14 = 1 ∧ M 3 b < M 3 t)))
    (hQ : ∀ M', Only [29, 37] M M' → M' 29 11 = (n : Int) + 1 → M' 37 = insN A t n (M 37) → Q 0 M') : F_Tally_insert t M Q := by
  unfold F_Tally_insert S_Tally_insert
  simp only [sSeq, sSet, sInc, sPF, sPA, sPD, sOF, sOA, sX, sIf, sSkip, sRet, sRetB, sRetV, sSw, sSel, eK, eL, eR, eF, eA, eQ, eD, eU, eB, eV, eIf, ePF, eC0, eC1, eC2, eC3, eC4, eC5, eC6, eC7, cB, cZ, cAnd, cOr, cNot, i2l, st_fn, sl_ap, if_true, if_false, ↓reduceIte, reduceIte, Nat.reduceEqDiff, Int.reduceEq, Int.reduceLT, Int.reduceLE, Int.reduceAdd, Int.reduceSub, Int.reduceMul, Int.reduceNeg, and_true, true_and, not_true, not_false_eq_true, true_or, or_true, ne_eq]
  refine while_inv (fun L M' => ∃ i : Nat, i ≤ n ∧ L 2 = (i : Int) ∧ L 1 = t ∧ Only [37] M M' ∧ insN A t i (M' 37) = insN A t n (M 37) ∧ ∀ j, 0 ≤ j → j < (i : Int) → M' 37 j = M 37 j) (fun L _ => (L 2).toNat) ⟨n, Nat.le_refl _, hn, rfl, Only.rf, rfl, fun _ _ _ => rfl⟩ ?_
  intro L M' ⟨i, i1, i2, i3, i4, i5, i6⟩ Q' hQ'
  have hend : insN A t n (M 37) = upx (M' 37) i t → 0 ≤ (i : Int) ∧ (i : Int) < 12 ∧ Q 0 (st (st M' 37 i t) 29 11 (iAdd (M' 29 11) 1)) := by
    intro e
    refine ⟨by omega, by omega, ?_⟩
    have e29 : M' 29 = M 29 := i4 29 (by decide)
    rw [e29, hn, iAdd_id (by omega) (by omega)]
    refine hQ _ (((i4.wk (by decide)).set (by decide) _ _).set (by decide) _ _) ?_ ?_
    · simp only [st_fn, Nat.reduceEqDiff, ↓reduceIte, reduceIte, Int.reduceEq, if_true, if_false]
    · rw [st_ne _ _ _ (by decide), st_upx, e]
  simp only [sSeq, sSet, sInc, sPF, sPA, sPD, sOF, sOA, sX, sIf, sSkip, sRet, sRetB, sRetV, sSw, sSel, eK, eL, eR, eF, eA, eQ, eD, eU, eB, eV, eIf, ePF, eC0, eC1, eC2, eC3, eC4, eC5, eC6, eC7, cB, cZ, cAnd, cOr, cNot, i2l, st_fn, sl_ap, if_true, if_false, ↓reduceIte, reduceIte, Nat.reduceEqDiff, Int.reduceEq, Int.reduceLT, Int.reduceLE, Int.reduceAdd, Int.reduceSub, Int.reduceMul, Int.reduceNeg, and_true, true_and, not_true, not_false_eq_true, true_or, or_true, ne_eq, i2, i3]
  refine ⟨fun c => ?_, fun c => ?_⟩
  · obtain ⟨k, rfl⟩ : ∃ k, i = k + 1 := ⟨i - 1, by omega⟩
    rw [iSub_id (by omega) (by omega)]
    have ek : ((k + 1 : Nat) : Int) - 1 = (k : Int) := by omega
    have hk := hv (k : Int) (by omega) (by omega)
    have hk2 := i6 (k : Int) (by omega) (by omega)
    have e36 : M' 36 = M 36 := i4 36 (by decide)
    have e24 : M' 24 = M 24 := i4 24 (by decide)
    have e3 : M' 3 = M 3 := i4 3 (by decide)
    have hs : insN A t (k + 1) (M' 37) = if A t (M' 37 (k : Int)) = true then insN A t k (upx (M' 37) ((k : Int) + 1) (M' 37 (k : Int))) else upx (M' 37) ((k : Int) + 1) t := rfl
    rw [i5, hk2, hA _ hk.1 hk.2] at hs
    rw [ek]
    refine ⟨by omega, by omega, ?_⟩
    rw [F_Tally_isAhead_iff ht (by rw [hk2]; omega)]
    rw [e36, e24, e3, hk2]
    refine ⟨fun c2 => ?_, fun c2 => ?_⟩
    · have c2 := (b01_ne _).mp c2
      rw [if_pos (decide_eq_true c2)] at hs
      refine ⟨by omega, by omega, by omega, by omega, ?_⟩
      rw [iAdd_id (by omega) (by omega)]
      refine hQ' _ _ ⟨k, by omega, ?_, ?_, i4.set (by decide) _ _, ?_, fun j h1 h2 => ?_⟩ ?_
      · simp only [sl_ap, if_true]
        omega
      · simp only [sl_ap, Nat.reduceEqDiff, if_false]; exact i3
      · rw [st_upx, hs]
        rfl
      · rw [st_upx, upx_ap, if_neg (by omega)]
        exact i6 j h1 (by omega)
      · simp only [sl_ap, if_true, i2]
        omega
    · have c2 := fun q => c2 ((b01_ne _).mpr q)
      rw [if_neg (fun q => c2 (of_decide_eq_true q))] at hs
      exact hend hs
  · have e0 : i = 0 := by omega
    subst e0
    exact hend i5.symm
theorem F_Tally_sharesPlace_iff {i : Int} {M : XM} {Q : Int → XM → Prop} (hi : 0 ≤ i ∧ i < 12) (h1 : 0 ≤ M 37 i ∧ M 37 i < 12) (h2 : 0 < i → 0 ≤ M 37 (i - 1) ∧ M 37 (i - 1) < 12) : F_Tally_sharesPlace i M Q ↔ Q (if 0 < i ∧ M 24 14 = 2 ∧ M 36 (M 37 i) = M 36 (M 37 (i - 1)) then 1 else 0) M := by
  unfold F_Tally_sharesPlace S_Tally_sharesPlace
  rw [show i - 1 = iSub i 1 from (iSub_id (by omega) (by omega)).symm]
  have e : iSub i 1 = i - 1 := iSub_id (by omega) (by omega)
  simp only [sSeq, sSet, sInc, sPF, sPA, sPD, sOF, sOA, sX, sIf, sSkip, sRet, sRetB, sRetV, sSw, sSel, eK, eL, eR, eF, eA, eQ, eD, eU, eB, eV, eIf, ePF, eC0, eC1, eC2, eC3, eC4, eC5, eC6, eC7, cB, cZ, cAnd, cOr, cNot, i2l, st_fn, sl_ap, if_true, if_false, ↓reduceIte, reduceIte, Nat.reduceEqDiff, Int.reduceEq, Int.reduceLT, Int.reduceLE, Int.reduceAdd, Int.reduceSub, Int.reduceMul, Int.reduceNeg, and_true, true_and, not_true, not_false_eq_true, true_or, or_true, ne_eq, hi.1, hi.2, h1.1, h1.2]
  rw [e]
  by_cases c1 : 0 < i
  · have h3 := h2 c1
    have h4 : 0 ≤ i - 1 ∧ i - 1 < 12 := by omega
    have h5 : 1 ≤ i := by omega
    by_cases c2 : M 24 14 = 2 <;> by_cases c3 : M 36 (M 37 i) = M 36 (M 37 (i - 1)) <;> simp [c1, c2, c3, h3, h4, h5]
  · simp [c1]
def Lst (d : XM) (lo w r : Int) (M : XM) : Prop := M 29 11 = (LN d lo w r : Int) ∧ (∀ i, 0 ≤ i → i < (LN d lo w r : Int) → M 37 i = LO d lo w r i) ∧ ∀ t, 0 ≤ t → t < d 81 5 → M 38 t = PL d lo w r t
def S_Tally_rank_ (FI FS : XF1) : XS := sSeq (sSeq (sPF 29 11 (eK 0)) (sSeq (sSeq (sSet 2 (eK 0)) (sWhile (cB (fun x y => x < y) (eL 2) (eF 2 0)) (sSeq (sSeq (sPA 38 12 (eL 2) (eK (-1))) (sIf (cAnd (cB (fun x y => x ≤ y) (eA 3 12 (eL 2)) (eL 1)) (cB (fun x y => y < x) (eA 36 12 (eL 2)) (eK 0))) (sX (eC1 FI (eL 2))) sSkip)) (sInc 2 1)))) (sSeq (sSet 2 (eK 0)) (sWhile (cB (fun x y => x < y) (eL 2) (eF 29 11)) (sSeq (sPA 38 12 (eA 37 12 (eL 2)) (eIf (cZ (fun x => x ≠ 0) (eC1 FS (eL 2))) (eA 38 12 (eA 37 12 (eB iSub (eL 2) (eK 1)))) (eB iAdd (eL 2) (eK 1)))) (sInc 2 1)))))) sRetV
theorem S_Tally_rank_eq : S_Tally_rank = S_Tally_rank_ F_Tally_insert F_Tally_sharesPlace := rfl
theorem Tally_rank_ok {d M : XM} {lo w r : Int} {Q : Int → XM → Prop} (hB : Base d) (hC : CF d M) (hG : Gat d w r M) (hW : Wei d lo w r M) (hQ : ∀ M', Only [29, 37, 38] M M' → Lst d lo w r M' → Q 0 M') : F_Tally_rank w M Q := by
  have v1 := hB.2.2.1.1
  have hV := hB.2.2.1
  have e14 := (hG.1 14 (by omega) (by omega)).1
  have key : ∀ (FI FS : XF1), (∀ (M1 : XM) (t : Int) (n : Nat) (Q : Int → XM → Prop), Only [29, 37, 38] M M1 → M1 29 11 = (n : Int) → n < 12 → 0 ≤ t ∧ t < d 81 5 → (∀ i, 0 ≤ i → i < (n : Int) → 0 ≤ M1 37 i ∧ M1 37 i < t) → (∀ M', Only [29, 37] M1 M' → M' 29 11 = (n : Int) + 1 → M' 37 = insN (ahB d lo w r) t n (M1 37) → Q 0 M') → FI t M1 Q) →
      (∀ (M1 : XM) (i : Int) (Q : Int → XM → Prop), Only [29, 37, 38] M M1 → (0 ≤ i ∧ i < (LN d lo w r : Int)) → (∀ i, 0 ≤ i → i < (LN d lo w r : Int) → M1 37 i = LO d lo w r i) → Q (if shB d lo w r i = true then 1 else 0) M1 → FS i M1 Q) → S_Tally_rank_ FI FS (fun _ _ => False) Q (sl (fun _ => 0) 1 w) M := by
    intro FI FS hFI hFS
    unfold S_Tally_rank_
    simp only [sSeq, sSet, sInc, sPF, sPA, sPD, sOF, sOA, sX, sIf, sSkip, sRet, sRetB, sRetV, sSw, sSel, eK, eL, eR, eF, eA, eQ, eD, eU, eB, eV, eIf, ePF, eC0, eC1, eC2, eC3, eC4, eC5, eC6, eC7, cB, cZ, cAnd, cOr, cNot, i2l, st_fn, sl_ap, if_true, if_false, ↓reduceIte, reduceIte, Nat.reduceEqDiff, Int.reduceEq, Int.reduceLT, Int.reduceLE, Int.reduceAdd, Int.reduceSub, Int.reduceMul, Int.reduceNeg, and_true, true_and, not_true, not_false_eq_true, true_or, or_true, ne_eq]
    refine while_up 2 0 (d 81 5) (fun x L M' => L 1 = w ∧ Only [29, 37, 38] M M' ∧ M' 29 11 = ((rkT d lo w r x.toNat).1 : Int) ∧ EqTo (rkT d lo w r x.toNat).1 (M' 37) (rkT d lo w r x.toNat).2 ∧ ∀ t, 0 ≤ t → t < x → M' 38 t = -1) v1.1 rfl ⟨rfl, Only.rf.set (by decide) _ _, ?_, fun i h1 h2 => absurd h2 ?_, fun i h1 h2 => absurd h2 (by omega)⟩ ?_ ?_ ?_
    · simp only [st_fn, Nat.reduceEqDiff, ↓reduceIte, reduceIte, Int.reduceEq, if_true, if_false]
      rfl
    · show ¬ i < (0 : Int)
      omega
    · intro x L M' P F h1 h2 hL ⟨_, k2, _⟩ hT hF
      have m1 := ((hC.go k2 (by decide)).dct hB).1
      simp only [sSeq, sSet, sInc, sPF, sPA, sPD, sOF, sOA, sX, sIf, sSkip, sRet, sRetB, sRetV, sSw, sSel, eK, eL, eR, eF, eA, eQ, eD, eU, eB, eV, eIf, ePF, eC0, eC1, eC2, eC3, eC4, eC5, eC6, eC7, cB, cZ, cAnd, cOr, cNot, i2l, st_fn, sl_ap, if_true, if_false, ↓reduceIte, reduceIte, Nat.reduceEqDiff, Int.reduceEq, Int.reduceLT, Int.reduceLE, Int.reduceAdd, Int.reduceSub, Int.reduceMul, Int.reduceNeg, and_true, true_and, not_true, not_false_eq_true, true_or, or_true, ne_eq, hL]
      rw [m1]
      exact ⟨hT, hF⟩
    · intro x L M' Q' hx0 hx1 hL ⟨k1, k2, k3, k4, k5⟩ hQ'
      have m2 := ((hC.go k2 (by decide)).dct hB).2.1
      have hrk := rkN_r (A := ahB d lo w r) (E := elB d lo w r) x.toNat
      have hs : rkT d lo w r (x + 1).toNat = if elB d lo w r x = true then ((rkT d lo w r x.toNat).1 + 1, insN (ahB d lo w r) x (rkT d lo w r x.toNat).1 (rkT d lo w r x.toNat).2) else rkT d lo w r x.toNat := by
        rw [show (x + 1).toNat = x.toNat + 1 by omega]
        show (if elB d lo w r ((x.toNat : Nat) : Int) = true then ((rkT d lo w r x.toNat).1 + 1, insN (ahB d lo w r) ((x.toNat : Nat) : Int) (rkT d lo w r x.toNat).1 (rkT d lo w r x.toNat).2) else rkT d lo w r x.toNat) = _
        rw [show ((x.toNat : Nat) : Int) = x by omega]
      have e36 : M' 36 x = SUM d lo w r x := by rw [k2 36 (by decide)]; exact hW.2.2 x hx0 hx1
      simp (disch := omega) only [sSeq, sSet, sInc, sPF, sPA, sPD, sOF, sOA, sX, sIf, sSkip, sRet, sRetB, sRetV, sSw, sSel, eK, eL, eR, eF, eA, eQ, eD, eU, eB, eV, eIf, ePF, eC0, eC1, eC2, eC3, eC4, eC5, eC6, eC7, cB, cZ, cAnd, cOr, cNot, i2l, st_fn, sl_ap, if_true, if_false, ↓reduceIte, reduceIte, Nat.reduceEqDiff, Int.reduceEq, Int.reduceLT, Int.reduceLE, Int.reduceAdd, Int.reduceSub, Int.reduceMul, Int.reduceNeg, and_true, true_and, not_true, not_false_eq_true, true_or, or_true, ne_eq, hL, k1, m2, e36, iAdd_id]
      have hno : elB d lo w r x = false → Q' (sl L 2 (x + 1)) (st M' 38 x (-1)) := by
        intro c
        rw [c, if_neg (by decide)] at hs
        refine hQ' _ _ rfl ⟨?_, k2.set (by decide) _ _, ?_, ?_, fun t b1 b2 => ?_⟩
        · simp only [sl_ap, Nat.reduceEqDiff, if_false]; exact k1
        · rw [hs, st_ne _ _ _ (by decide)]
          exact k3
        · rw [hs, st_ne _ _ _ (by decide)]
          exact k4
        · rw [st_upx, upx_ap]
          by_cases ct : t = x
          · rw [if_pos ct]
          · rw [if_neg ct]
            exact k5 t b1 (by omega)
      refine ⟨hx0, by omega, hx0, by omega, fun c1 => ⟨hx0, by omega, fun c2 => ?_, fun c2 => hno ?_⟩, fun c1 => hno ?_⟩
      · have ce : elB d lo w r x = true := decide_eq_true ⟨c1, c2⟩
        rw [ce, if_pos rfl] at hs
        refine hFI _ _ (rkT d lo w r x.toNat).1 _ (k2.set (by decide) _ _) ?_ ?_ ⟨hx0, hx1⟩ (fun i h1 h2 => ?_) ?_
        · rw [st_ne _ _ _ (by decide)]
          exact k3
        · have := hrk.1
          unfold rkT
          omega
        · rw [st_ne _ _ _ (by decide), k4 i h1 h2]
          have := hrk.2 i h1 h2
          unfold rkT
          omega
        · intro N o n29 n37
          refine hQ' _ _ rfl ⟨?_, (k2.set (by decide) _ _).trans o (by decide) (by decide), ?_, ?_, fun t b1 b2 => ?_⟩
          · simp only [sl_ap, Nat.reduceEqDiff, if_false]; exact k1
          · rw [hs, n29]
            rfl
          · rw [hs, n37, st_ne _ _ _ (by decide)]
            exact insN_eq k4
          · rw [o 38 (by decide), st_upx, upx_ap]
            by_cases ct : t = x
            · rw [if_pos ct]
            · rw [if_neg ct]
              exact k5 t b1 (by omega)
      · exact decide_eq_false (fun q => c2 q.2)
      · exact decide_eq_false (fun q => c1 q.1)
    intro L1 M1 _ ⟨k1, k2, k3, k4, k5⟩
    have hLr := L_r hV lo w r
    have k3 : M1 29 11 = (LN d lo w r : Int) := k3
    have k4 : EqTo (LN d lo w r) (M1 37) (LO d lo w r) := k4
    refine while_up 2 0 (LN d lo w r) (fun x L M' => Only [29, 37, 38] M M' ∧ M' 29 = M1 29 ∧ M' 37 = M1 37 ∧ ∀ t, 0 ≤ t → t < d 81 5 → M' 38 t = plN (LO d lo w r) (shB d lo w r) x.toNat t) (by omega) rfl ⟨k2, rfl, rfl, fun t b1 b2 => k5 t b1 b2⟩ ?_ ?_ ?_
    · intro x L M' P F h1 h2 hL ⟨_, k2, _⟩ hT hF
      simp only [sSeq, sSet, sInc, sPF, sPA, sPD, sOF, sOA, sX, sIf, sSkip, sRet, sRetB, sRetV, sSw, sSel, eK, eL, eR, eF, eA, eQ, eD, eU, eB, eV, eIf, ePF, eC0, eC1, eC2, eC3, eC4, eC5, eC6, eC7, cB, cZ, cAnd, cOr, cNot, i2l, st_fn, sl_ap, if_true, if_false, ↓reduceIte, reduceIte, Nat.reduceEqDiff, Int.reduceEq, Int.reduceLT, Int.reduceLE, Int.reduceAdd, Int.reduceSub, Int.reduceMul, Int.reduceNeg, and_true, true_and, not_true, not_false_eq_true, true_or, or_true, ne_eq, hL]
      rw [k2, k3]
      exact ⟨hT, hF⟩
    · intro x L M' Q' hx0 hx1 hL ⟨j1, j2, j3, j4⟩ hQ'
      have a1 := hLr.2 x hx0 hx1
      have e37 : M' 37 x = LO d lo w r x := by rw [j3]; exact k4 x hx0 hx1
      have hs : plN (LO d lo w r) (shB d lo w r) (x + 1).toNat = upx (plN (LO d lo w r) (shB d lo w r) x.toNat) (LO d lo w r x) (if shB d lo w r x = true then plN (LO d lo w r) (shB d lo w r) x.toNat (LO d lo w r (x - 1)) else x + 1) := by
        rw [show (x + 1).toNat = x.toNat + 1 by omega]
        show upx (plN (LO d lo w r) (shB d lo w r) x.toNat) (LO d lo w r ((x.toNat : Nat) : Int)) (if shB d lo w r ((x.toNat : Nat) : Int) = true then plN (LO d lo w r) (shB d lo w r) x.toNat (LO d lo w r (((x.toNat : Nat) : Int) - 1)) else ((x.toNat : Nat) : Int) + 1) = _
        rw [show ((x.toNat : Nat) : Int) = x by omega]
      simp only [sSeq, sSet, sInc, sPF, sPA, sPD, sOF, sOA, sX, sIf, sSkip, sRet, sRetB, sRetV, sSw, sSel, eK, eL, eR, eF, eA, eQ, eD, eU, eB, eV, eIf, ePF, eC0, eC1, eC2, eC3, eC4, eC5, eC6, eC7, cB, cZ, cAnd, cOr, cNot, i2l, st_fn, sl_ap, if_true, if_false, ↓reduceIte, reduceIte, Nat.reduceEqDiff, Int.reduceEq, Int.reduceLT, Int.reduceLE, Int.reduceAdd, Int.reduceSub, Int.reduceMul, Int.reduceNeg, and_true, true_and, not_true, not_false_eq_true, true_or, or_true, ne_eq, hL, e37]
      refine ⟨hx0, by omega, hFS M' x _ j1 ⟨hx0, hx1⟩ (fun i h1 h2 => by rw [j3]; exact k4 i h1 h2) ?_⟩
      have hfin : ∀ v, v = (if shB d lo w r x = true then plN (LO d lo w r) (shB d lo w r) x.toNat (LO d lo w r (x - 1)) else x + 1) → Q' (sl L 2 (iAdd x 1)) (st M' 38 (LO d lo w r x) v) := by
        intro v hv
        rw [iAdd_id (by omega) (by omega)]
        refine hQ' _ _ rfl ⟨j1.set (by decide) _ _, j2, j3, fun t b1 b2 => ?_⟩
        rw [st_upx, hs, upx_ap, upx_ap, hv]
        by_cases ct : t = LO d lo w r x
        · rw [if_pos ct, if_pos ct]
        · rw [if_neg ct, if_neg ct]
          exact j4 t b1 b2
      by_cases cs : shB d lo w r x = true
      · rw [if_pos cs]
        rw [cs, if_pos rfl] at hfin
        have cx : 0 < x := (of_decide_eq_true cs).1
        have a2 := hLr.2 (x - 1) (by omega) (by omega)
        have e37b : M' 37 (x - 1) = LO d lo w r (x - 1) := by rw [j3]; exact k4 (x - 1) (by omega) (by omega)
        refine ⟨fun _ => ?_, fun q => absurd q (by simp)⟩
        rw [iSub_id (by omega) (by omega), e37b]
        have h := j4 _ a2.1 a2.2
        refine ⟨by omega, by omega, by omega, by omega, by omega, by omega, hfin _ h⟩
      · rw [if_neg cs]
        rw [if_neg cs] at hfin
        refine ⟨fun q => absurd q (by simp), fun _ => ⟨by omega, by omega, hfin _ (iAdd_id (by omega) (by omega))⟩⟩
    · intro L2 M2 _ ⟨j1, j2, j3, j4⟩
      refine hQ M2 j1 ⟨by rw [j2]; exact k3, fun i h1 h2 => by rw [j3]; exact k4 i h1 h2, j4⟩
  unfold F_Tally_rank
  rw [S_Tally_rank_eq]
  refine key _ _ (fun M1 t n Q o h29 hn ht hv hq => ?_) (fun M1 i Q o hi h37 hq => ?_)
  · refine Tally_insert_ok (A := ahB d lo w r) h29 hn ⟨ht.1, by omega⟩ hv (fun b b1 b2 => ?_) hq
    rw [o 36 (by decide), o 24 (by decide), o 3 (by decide), (hC.dct hB).2.1, e14, hW.2.2 b b1 (by omega), hW.2.2 t ht.1 ht.2]
    rfl
  · have hLr := L_r hV lo w r
    have a1 := hLr.2 i hi.1 hi.2
    have e1 := h37 i hi.1 hi.2
    have hi2 : 0 < i → 0 ≤ LO d lo w r (i - 1) ∧ LO d lo w r (i - 1) < d 81 5 ∧ M1 37 (i - 1) = LO d lo w r (i - 1) := fun c => by
      have := hLr.2 (i - 1) (by omega) (by omega)
      exact ⟨this.1, this.2, h37 _ (by omega) (by omega)⟩
    rw [F_Tally_sharesPlace_iff ⟨hi.1, by omega⟩ (by rw [e1]; omega) (fun c => by have := hi2 c; rw [this.2.2]; omega)]
    have : (if 0 < i ∧ M1 24 14 = 2 ∧ M1 36 (M1 37 i) = M1 36 (M1 37 (i - 1)) then (1 : Int) else 0) = if shB d lo w r i = true then 1 else 0 := by
      refine ite_eq_of ?_
      unfold shB
      rw [decide_eq_true_iff, o 24 (by decide), o 36 (by decide), e14, e1]
      refine and_congr_right fun c => ?_
      have h3 := hi2 c
      rw [h3.2.2, hW.2.2 _ a1.1 a1.2, hW.2.2 _ h3.1 h3.2.1]
    rw [this]
    exact hq
theorem Tally_makeList_ok {d M : XM} {w r : Int} {Q : Int → XM → Prop} (hB : Base d) (hC : CF d M) (hw : 0 ≤ w ∧ w ≤ 51) (hQ : ∀ M', Only [24, 25, 29, 30, 31, 32, 33, 34, 35, 36, 37, 38] M M' → Gat d w r M' → Wei d (-1) w r M' → Lst d (-1) w r M' → Q 0 M') : F_Tally_makeList w r M Q := by
  unfold F_Tally_makeList S_Tally_makeList
  simp only [sSeq, sSet, sInc, sPF, sPA, sPD, sOF, sOA, sX, sIf, sSkip, sRet, sRetB, sRetV, sSw, sSel, eK, eL, eR, eF, eA, eQ, eD, eU, eB, eV, eIf, ePF, eC0, eC1, eC2, eC3, eC4, eC5, eC6, eC7, cB, cZ, cAnd, cOr, cNot, i2l, st_fn, sl_ap, if_true, if_false, ↓reduceIte, reduceIte, Nat.reduceEqDiff, Int.reduceEq, Int.reduceLT, Int.reduceLE, Int.reduceAdd, Int.reduceSub, Int.reduceMul, Int.reduceNeg, and_true, true_and, not_true, not_false_eq_true, true_or, or_true, ne_eq]
  refine Tally_gather_ok hB hC hw fun M1 o1 g1 => ?_
  refine Tally_weigh_ok hB (hC.go o1 (by decide)) g1 fun M2 o2 g2 => ?_
  have g1' := g1.go o2 (by decide)
  have o12 : Only [24, 25, 30, 31, 32, 33, 34, 35, 36] M M2 := o1.trans o2 (by decide) (by decide)
  refine Tally_rank_ok hB (hC.go o12 (by decide)) g1' g2 fun M3 o3 g3 => ?_
  refine hQ M3 (o12.trans o3 (by decide) (by decide)) (g1'.go o3 (by decide)) ?_ g3
  unfold Wei
  rw [o3 34 (by decide), o3 35 (by decide), o3 33 (by decide), o3 36 (by decide)]
  exact g2
