/-! ===== ask: the class ===== -/
theorem bi_tb (n i : Nat) : bi n i = 1 ↔ Nat.testBit n i = true := by
  rw [Nat.testBit_eq_decide_div_mod_eq]
  unfold bi
  simp
theorem and_not {set may : Nat} : iAnd (set : Int) (iXor (may : Int) (-1)) = 0 ↔ ∀ i : Nat, i < 32 → bi set i = 1 → bi may i = 1 := by
  have e1 : (Int32.ofInt (-1)).toBitVec = BitVec.allOnes 32 := by decide
  unfold iAnd iXor
  rw [Int32.ofInt_toInt]
  have h0 : (Int32.ofInt (set : Int) &&& (Int32.ofInt (may : Int) ^^^ Int32.ofInt (-1))).toInt = 0 ↔ (Int32.ofInt (set : Int) &&& (Int32.ofInt (may : Int) ^^^ Int32.ofInt (-1))).toBitVec = 0#32 := by
    rw [← Int32.toInt_zero, Int32.toInt_inj, ← Int32.toBitVec_inj]
    rfl
  rw [h0, Int32.toBitVec_and, Int32.toBitVec_xor, oN, oN, e1]
  constructor
  · intro h i hi hb
    have := congrArg (fun v => v.getLsbD i) h
    rw [bi_tb] at hb ⊢
    simp only [BitVec.getLsbD_and, BitVec.getLsbD_xor, BitVec.getLsbD_ofNat, BitVec.getLsbD_allOnes, hi, hb, decide_true, Bool.true_and, Nat.zero_testBit] at this
    cases c : may.testBit i with
    | true => rfl
    | false => rw [c] at this; exact absurd this (by decide)
  · intro h
    apply BitVec.eq_of_getLsbD_eq
    intro i hi
    have := h i hi
    rw [bi_tb, bi_tb] at this
    simp only [BitVec.getLsbD_and, BitVec.getLsbD_xor, BitVec.getLsbD_ofNat, BitVec.getLsbD_allOnes, hi, decide_true, Bool.true_and, Nat.zero_testBit]
    cases c : set.testBit i with
    | true => rw [this c]; rfl
    | false => rfl
theorem or_pow {a k : Nat} (h : a < 2 ^ k) : a ||| 2 ^ k = a + 2 ^ k := by
  have := Nat.two_pow_add_eq_or_of_lt h 1
  rw [Nat.mul_one] at this
  rw [Nat.or_comm, ← this, Nat.add_comm]

theorem Wei.go {d M M' : XM} {lo w r : Int} {S : List Nat} (h : Wei d lo w r M) (ho : Only S M M') (hS : 33 ∉ S ∧ 34 ∉ S ∧ 35 ∉ S ∧ 36 ∉ S) : Wei d lo w r M' := by
  unfold Wei at h ⊢
  rw [ho 33 hS.1, ho 34 hS.2.1, ho 35 hS.2.2.1, ho 36 hS.2.2.2]
  exact h
theorem Errand_start_ok {c : Int} {M : XM} {Q : Int → XM → Prop} (hQ : Q 0 (st (st M 69 3 0) 69 4 c)) : F_Errand_start c M Q := by
  unfold F_Errand_start S_Errand_start
  simp only [sSeq, sSet, sInc, sPF, sPA, sPD, sOF, sOA, sX, sIf, sSkip, sRet, sRetB, sRetV, sSw, sSel, eK, eL, eR, eF, eA, eQ, eD, eU, eB, eV, eIf, ePF, eC0, eC1, eC2, eC3, eC4, eC5, eC6, eC7, cB, cZ, cAnd, cOr, cNot, i2l, st_fn, sl_ap, if_true, if_false, ↓reduceIte, reduceIte, Nat.reduceEqDiff, Int.reduceEq, Int.reduceLT, Int.reduceLE, Int.reduceAdd, Int.reduceSub, Int.reduceMul, Int.reduceNeg, and_true, true_and, not_true, not_false_eq_true, true_or, or_true, ne_eq]
  exact hQ
theorem Errand_offer_ok {s v p : Int} {M : XM} {Q : Int → XM → Prop} (h3 : 0 ≤ M 69 3) (h4 : M 69 3 < 16) (hy : 0 < v → p ≤ M 69 4 → Q 0 (st (st (st (st M 70 (M 69 3) s) 71 (M 69 3) v) 72 (M 69 3) p) 69 3 (M 69 3 + 1))) (hn : ¬ (0 < v ∧ p ≤ M 69 4) → Q 0 M) : F_Errand_offer s v p M Q := by
  unfold F_Errand_offer S_Errand_offer
  simp (disch := omega) only [sSeq, sSet, sInc, sPF, sPA, sPD, sOF, sOA, sX, sIf, sSkip, sRet, sRetB, sRetV, sSw, sSel, eK, eL, eR, eF, eA, eQ, eD, eU, eB, eV, eIf, ePF, eC0, eC1, eC2, eC3, eC4, eC5, eC6, eC7, cB, cZ, cAnd, cOr, cNot, i2l, st_fn, sl_ap, if_true, if_false, ↓reduceIte, reduceIte, Nat.reduceEqDiff, Int.reduceEq, Int.reduceLT, Int.reduceLE, Int.reduceAdd, Int.reduceSub, Int.reduceMul, Int.reduceNeg, and_true, true_and, not_true, not_false_eq_true, true_or, or_true, ne_eq, h3, h4, iAdd_id]
  refine ⟨fun a => ⟨fun b => ⟨fun _ => hy a b, fun q => q.elim⟩, fun b => hn (fun q => b q.2)⟩, fun a => hn (fun q => a q.1)⟩
theorem shopBits_ok {b : Int → Bool} {N Y : Nat} {M : XM} {Q : Int → XM → Prop} (hN : N ≤ 16) (hY : Y < 2147483648) (h3 : M 69 3 = ((gc b N : Nat) : Int)) (h70 : ∀ i, 0 ≤ i → i < ((gc b N : Nat) : Int) → M 70 i = ga b N i) (hQ : Q ((phi b Y N : Nat) : Int) M) : F_Errand_shopBits (Y : Int) M Q := by
  have hg := gc_le b N
  unfold F_Errand_shopBits S_Errand_shopBits
  simp only [sSeq, sSet, sInc, sPF, sPA, sPD, sOF, sOA, sX, sIf, sSkip, sRet, sRetB, sRetV, sSw, sSel, eK, eL, eR, eF, eA, eQ, eD, eU, eB, eV, eIf, ePF, eC0, eC1, eC2, eC3, eC4, eC5, eC6, eC7, cB, cZ, cAnd, cOr, cNot, i2l, st_fn, sl_ap, if_true, if_false, ↓reduceIte, reduceIte, Nat.reduceEqDiff, Int.reduceEq, Int.reduceLT, Int.reduceLE, Int.reduceAdd, Int.reduceSub, Int.reduceMul, Int.reduceNeg, and_true, true_and, not_true, not_false_eq_true, true_or, or_true, ne_eq]
  refine while_up 3 0 ((gc b N : Nat) : Int) (fun x L N' => N' = M ∧ L 1 = (Y : Int) ∧ ∃ m : Nat, m ≤ N ∧ gc b m = x.toNat ∧ L 2 = ((phi b Y m : Nat) : Int)) (by omega) rfl ⟨rfl, rfl, 0, by omega, rfl, rfl⟩ ?_ ?_ ?_
  · intro x L N' P F a1 a2 hLx ⟨b0, _⟩ hT hF
    subst b0
    simp only [sSeq, sSet, sInc, sPF, sPA, sPD, sOF, sOA, sX, sIf, sSkip, sRet, sRetB, sRetV, sSw, sSel, eK, eL, eR, eF, eA, eQ, eD, eU, eB, eV, eIf, ePF, eC0, eC1, eC2, eC3, eC4, eC5, eC6, eC7, cB, cZ, cAnd, cOr, cNot, i2l, st_fn, sl_ap, if_true, if_false, ↓reduceIte, reduceIte, Nat.reduceEqDiff, Int.reduceEq, Int.reduceLT, Int.reduceLE, Int.reduceAdd, Int.reduceSub, Int.reduceMul, Int.reduceNeg, and_true, true_and, not_true, not_false_eq_true, true_or, or_true, ne_eq, hLx, h3]
    exact ⟨hT, hF⟩
  · intro x L N' Q' hx0 hx1 hLx ⟨b0, b1, m, b2, b3, b4⟩ hQ'
    subst b0
    obtain ⟨m', c1, c2, c3, c4, c5⟩ := phi_next b N Y x.toNat (N - m) m (by omega) b3 (by omega)
    have eg : N' 70 x = (m' : Int) := by
      rw [h70 x hx0 hx1]
      have := ga_at b N m' c2 c3
      rw [c4, Int.toNat_of_nonneg hx0] at this
      exact this
    have hp := ps_lt (fun s => b (s : Int) && decide (bi Y (gc b s) = 1)) m'
    have hp2 : (2 : Nat) ^ m' ≤ 2 ^ 16 := Nat.pow_le_pow_right (by omega) (by omega)
    have hphi : phi b Y m' < 2 ^ m' := hp
    have ebit : iAnd (iShr (Y : Int) x) 1 = ((bi Y x.toNat : Nat) : Int) := by
      have e := bit_n (n := Y) (k := x.toNat) hY (by omega)
      rw [Int.toNat_of_nonneg hx0] at e
      exact e
    have hb := bi_lt Y x.toNat
    have es := phi_s b Y m'
    rw [c3, c4, Bool.true_and] at es
    simp only [sSeq, sSet, sInc, sPF, sPA, sPD, sOF, sOA, sX, sIf, sSkip, sRet, sRetB, sRetV, sSw, sSel, eK, eL, eR, eF, eA, eQ, eD, eU, eB, eV, eIf, ePF, eC0, eC1, eC2, eC3, eC4, eC5, eC6, eC7, cB, cZ, cAnd, cOr, cNot, i2l, st_fn, sl_ap, if_true, if_false, ↓reduceIte, reduceIte, Nat.reduceEqDiff, Int.reduceEq, Int.reduceLT, Int.reduceLE, Int.reduceAdd, Int.reduceSub, Int.reduceMul, Int.reduceNeg, and_true, true_and, not_true, not_false_eq_true, true_or, or_true, ne_eq, hLx, b1, ebit]
    have hfin : ∀ v : Int, v = ((phi b Y (m' + 1) : Nat) : Int) → ∀ L', L' 3 = x → L' 1 = (Y : Int) → L' 2 = v → Q' (sl L' 3 (iAdd (L' 3) 1)) N' := by
      intro v hv L' g3 g1 g2
      refine hQ' _ _ ?_ ⟨rfl, ?_, m' + 1, by omega, ?_, ?_⟩
      · simp only [sl_ap, st_fn, Nat.reduceEqDiff, ↓reduceIte, reduceIte, Int.reduceEq, if_true, if_false, g3]
        exact iAdd_id (by omega) (by omega)
      · simp only [sl_ap, st_fn, Nat.reduceEqDiff, ↓reduceIte, reduceIte, Int.reduceEq, if_true, if_false, g1]
      · rw [gc_s c3, c4]; omega
      · simp only [sl_ap, st_fn, Nat.reduceEqDiff, ↓reduceIte, reduceIte, Int.reduceEq, if_true, if_false, g2]
        exact hv
    refine ⟨fun c => ⟨hx0, by omega, ?_⟩, fun c => ?_⟩
    · have c' : bi Y x.toNat = 1 := by omega
      rw [if_pos (by rw [decide_eq_true_eq]; exact c')] at es
      have g := hfin (((phi b Y m ||| 2 ^ m' : Nat)) : Int) (by rw [← c5, or_pow hphi, es])
      rw [eg, b4, iShl_n (by omega), iOr_n (by rw [← c5]; omega) (by omega)]
      refine hQ' _ _ ?_ ⟨rfl, ?_, m' + 1, by omega, ?_, ?_⟩
      · simp only [sl_ap, st_fn, Nat.reduceEqDiff, ↓reduceIte, reduceIte, Int.reduceEq, if_true, if_false, hLx]
        exact iAdd_id (by omega) (by omega)
      · simp only [sl_ap, st_fn, Nat.reduceEqDiff, ↓reduceIte, reduceIte, Int.reduceEq, if_true, if_false, b1]
      · rw [gc_s c3, c4]; omega
      · simp only [sl_ap, st_fn, Nat.reduceEqDiff, ↓reduceIte, reduceIte, Int.reduceEq, if_true, if_false]
        rw [← c5, or_pow hphi, es]
    · have c' : ¬ bi Y x.toNat = 1 := by omega
      rw [if_neg (by rw [decide_eq_true_eq]; exact c')] at es
      refine hQ' _ _ ?_ ⟨rfl, ?_, m' + 1, by omega, ?_, ?_⟩
      · simp only [sl_ap, st_fn, Nat.reduceEqDiff, ↓reduceIte, reduceIte, Int.reduceEq, if_true, if_false, hLx]
        exact iAdd_id (by omega) (by omega)
      · simp only [sl_ap, st_fn, Nat.reduceEqDiff, ↓reduceIte, reduceIte, Int.reduceEq, if_true, if_false, b1]
      · rw [gc_s c3, c4]; omega
      · simp only [sl_ap, st_fn, Nat.reduceEqDiff, ↓reduceIte, reduceIte, Int.reduceEq, if_true, if_false, b4]
        rw [es, ← c5]
        rfl
  · intro L N' hLx ⟨b0, _, m, b2, b3, b4⟩
    subst b0
    rw [Int.toNat_natCast] at b3
    rw [b4, ← phi_rest b N Y (N - m) m (by omega) b3]
    exact hQ
def S_ch2 : XS := sIf (cAnd (cB (fun x y => x ≤ y) (eL 7) (eF 69 4)) (cOr (cB (fun x y => y < x) (eL 5) (eL 2)) (cAnd (cB (fun x y => x = y) (eL 5) (eL 2)) (cB (fun x y => x < y) (eL 7) (eL 4))))) (sSeq (sSet 2 (eL 5)) (sSeq (sSet 4 (eL 7)) (sSet 1 (eL 8)))) sSkip
def S_Errand_choose_ (FB : XF1) : XS := sSeq (sSet 1 (eK 0)) (sSeq (sSet 2 (eK 0)) (sSeq (sSet 4 (eK 0)) (sSeq (sSet 5 (eK 0)) (sSeq (sSet 7 (eK 0)) (sSeq (sSeq (sSet 8 (eK 1)) (sWhile (cB (fun x y => x < y) (eL 8) (eB iShl (eK 1) (eF 69 3))) (sSeq (sSeq (sSet 9 (eB iXor (eL 8) (eB iSub (eL 8) (eK 1)))) (sSeq (sSeq (sSet 10 (eK 0)) (sWhile (cAnd (cB (fun x y => x < y) (eL 10) (eF 69 3)) (cB (fun x y => x = y) (eB iAnd (eB iShr (eL 9) (eL 10)) (eK 1)) (eK 1))) (sSeq (sSeq (sSet 11 (eIf (cB (fun x y => x = y) (eB iAnd (eB iShr (eL 8) (eL 10)) (eK 1)) (eK 1)) (eK 1) (eK 0))) (sSeq (sSet 5 (eB lAdd (eL 5) (eIf (cZ (fun x => x ≠ 0) (eL 11)) (eA 71 16 (eL 10)) (eU lNeg (eA 71 16 (eL 10)))))) (sSet 7 (eB iAdd (eL 7) (eIf (cZ (fun x => x ≠ 0) (eL 11)) (eA 72 16 (eL 10)) (eU iNeg (eA 72 16 (eL 10)))))))) (sInc 10 1)))) S_ch2)) (sInc 8 1)))) (sRet (eC1 FB (eL 1))))))))
theorem S_Errand_choose_eq : S_Errand_choose = S_Errand_choose_ F_Errand_shopBits := rfl
theorem ch2_ok {Qn : XL → XM → Prop} {Qr : Int → XM → Prop} {L : XL} {M : XM} {set : Nat} {sm cs w0 c0 pu : Int} (h8 : L 8 = (set : Int)) (h5 : L 5 = sm) (h7 : L 7 = cs) (h2 : L 2 = w0) (h4 : L 4 = c0) (e4 : M 69 4 = pu)
    (hnew : cs ≤ pu → (w0 < sm ∨ (sm = w0 ∧ cs < c0)) → ∀ L', L' 8 = (set : Int) → L' 5 = sm → L' 7 = cs → L' 2 = sm → L' 4 = cs → L' 1 = (set : Int) → Qn L' M)
    (hold : ¬ (cs ≤ pu ∧ (w0 < sm ∨ (sm = w0 ∧ cs < c0))) → Qn L M) : S_ch2 Qn Qr L M := by
  unfold S_ch2
  simp only [sSeq, sSet, sInc, sPF, sPA, sPD, sOF, sOA, sX, sIf, sSkip, sRet, sRetB, sRetV, sSw, sSel, eK, eL, eR, eF, eA, eQ, eD, eU, eB, eV, eIf, ePF, eC0, eC1, eC2, eC3, eC4, eC5, eC6, eC7, cB, cZ, cAnd, cOr, cNot, i2l, st_fn, sl_ap, if_true, if_false, ↓reduceIte, reduceIte, Nat.reduceEqDiff, Int.reduceEq, Int.reduceLT, Int.reduceLE, Int.reduceAdd, Int.reduceSub, Int.reduceMul, Int.reduceNeg, and_true, true_and, not_true, not_false_eq_true, true_or, or_true, ne_eq, h8, h5, h7, h2, h4, e4]
  have hN : cs ≤ pu → (w0 < sm ∨ (sm = w0 ∧ cs < c0)) → Qn (sl (sl (sl L 2 sm) 4 cs) 1 (set : Int)) M := by
    intro a b
    refine hnew a b _ ?_ ?_ ?_ ?_ ?_ ?_
    · simp only [sl_ap, st_fn, Nat.reduceEqDiff, ↓reduceIte, reduceIte, Int.reduceEq, if_true, if_false]; exact h8
    · simp only [sl_ap, st_fn, Nat.reduceEqDiff, ↓reduceIte, reduceIte, Int.reduceEq, if_true, if_false]; exact h5
    · simp only [sl_ap, st_fn, Nat.reduceEqDiff, ↓reduceIte, reduceIte, Int.reduceEq, if_true, if_false]; exact h7
    · simp only [sl_ap, st_fn, Nat.reduceEqDiff, ↓reduceIte, reduceIte, Int.reduceEq, if_true, if_false]
    · simp only [sl_ap, st_fn, Nat.reduceEqDiff, ↓reduceIte, reduceIte, Int.reduceEq, if_true, if_false]
    · simp only [sl_ap, st_fn, Nat.reduceEqDiff, ↓reduceIte, reduceIte, Int.reduceEq, if_true, if_false]
  refine ⟨fun d1 => ⟨fun d2 => hN d1 (Or.inl d2), fun d2 => ⟨fun d3 => ⟨fun d4 => hN d1 (Or.inr ⟨d3, d4⟩), fun d4 => hold (fun q => q.2.elim d2 (fun z => d4 z.2))⟩, fun d3 => hold (fun q => q.2.elim d2 (fun z => d3 z.1))⟩⟩, fun d1 => hold (fun q => d1 q.1)⟩
theorem choose_gen (FB : XF1) {b : Int → Bool} {f p : Int → Int} {pu : Int} {N : Nat} {M : XM} {Q : Int → XM → Prop} (hN : N ≤ 16) (h0 : 0 ≤ pu) (hf : ∀ i, 0 ≤ i → i < ((gc b N : Nat) : Int) → 0 ≤ f (ga b N i) ∧ f (ga b N i) ≤ 552960000000000000) (hp : ∀ i, 0 ≤ i → i < ((gc b N : Nat) : Int) → 0 ≤ p (ga b N i) ∧ p (ga b N i) ≤ 1000) (h3 : M 69 3 = ((gc b N : Nat) : Int)) (h4 : M 69 4 = pu) (h71 : ∀ i, 0 ≤ i → i < ((gc b N : Nat) : Int) → M 71 i = f (ga b N i)) (h72 : ∀ i, 0 ≤ i → i < ((gc b N : Nat) : Int) → M 72 i = p (ga b N i)) (hFB : ∀ (Y : Nat) (Q : Int → XM → Prop), Y < 2 ^ gc b N → Q ((phi b Y N : Nat) : Int) M → FB (Y : Int) M Q) (hQ : Q ((phi b (chC b f p pu N (2 ^ gc b N - 1)) N : Nat) : Int) M) : S_Errand_choose_ FB (fun _ _ => False) Q (fun _ => 0) M := by
  have hg := gc_le b N
  have h2p := pow16 (show gc b N ≤ 16 by omega)
  have h2q := Nat.two_pow_pos (gc b N)
  have hch := bB_ok (P := fun Y => decide (wS b p N Y ≤ pu)) (wt := wS b f N) (ct := wS b p N) (by simp only [decide_eq_true_eq]; unfold wS; rw [sS_zero]; exact h0)
  unfold S_Errand_choose_
  simp only [sSeq, sSet, sInc, sPF, sPA, sPD, sOF, sOA, sX, sIf, sSkip, sRet, sRetB, sRetV, sSw, sSel, eK, eL, eR, eF, eA, eQ, eD, eU, eB, eV, eIf, ePF, eC0, eC1, eC2, eC3, eC4, eC5, eC6, eC7, cB, cZ, cAnd, cOr, cNot, i2l, st_fn, sl_ap, if_true, if_false, ↓reduceIte, reduceIte, Nat.reduceEqDiff, Int.reduceEq, Int.reduceLT, Int.reduceLE, Int.reduceAdd, Int.reduceSub, Int.reduceMul, Int.reduceNeg, and_true, true_and, not_true, not_false_eq_true, true_or, or_true, ne_eq]
  refine while_up 8 1 ((2 ^ gc b N : Nat) : Int) (fun x L M' => M' = M ∧ L 1 = ((chC b f p pu N (x.toNat - 1) : Nat) : Int) ∧ L 2 = wS b f N (chC b f p pu N (x.toNat - 1)) ∧ L 4 = wS b p N (chC b f p pu N (x.toNat - 1)) ∧ L 5 = wS b f N (x.toNat - 1) ∧ L 7 = wS b p N (x.toNat - 1)) (by omega) rfl ⟨rfl, rfl, (sS_zero _ _).symm, (sS_zero _ _).symm, (sS_zero _ _).symm, (sS_zero _ _).symm⟩ ?_ ?_ ?_
  · intro x L M' P F a1 a2 hL ⟨k0, _⟩ hT hF
    subst k0
    simp only [sSeq, sSet, sInc, sPF, sPA, sPD, sOF, sOA, sX, sIf, sSkip, sRet, sRetB, sRetV, sSw, sSel, eK, eL, eR, eF, eA, eQ, eD, eU, eB, eV, eIf, ePF, eC0, eC1, eC2, eC3, eC4, eC5, eC6, eC7, cB, cZ, cAnd, cOr, cNot, i2l, st_fn, sl_ap, if_true, if_false, ↓reduceIte, reduceIte, Nat.reduceEqDiff, Int.reduceEq, Int.reduceLT, Int.reduceLE, Int.reduceAdd, Int.reduceSub, Int.reduceMul, Int.reduceNeg, and_true, true_and, not_true, not_false_eq_true, true_or, or_true, ne_eq, hL, h3]
    rw [iShl_n (by omega)]
    exact ⟨hT, hF⟩
  · intro x L M' Q' hx0 hx1 hL ⟨k0, k1, k2, k3, k4, k5⟩ hQ'
    subst k0
    obtain ⟨set, rfl⟩ : ∃ s : Nat, x = (s : Int) := ⟨x.toNat, by omega⟩
    rw [show ((set : Int)).toNat = set by omega] at k1 k2 k3 k4 k5
    have hsub : ((set : Int) + 1).toNat - 1 = set := by omega
    have hset : 1 ≤ set ∧ set < 2 ^ gc b N := by omega
    simp only [sSeq, sSet, sInc, sPF, sPA, sPD, sOF, sOA, sX, sIf, sSkip, sRet, sRetB, sRetV, sSw, sSel, eK, eL, eR, eF, eA, eQ, eD, eU, eB, eV, eIf, ePF, eC0, eC1, eC2, eC3, eC4, eC5, eC6, eC7, cB, cZ, cAnd, cOr, cNot, i2l, st_fn, sl_ap, if_true, if_false, ↓reduceIte, reduceIte, Nat.reduceEqDiff, Int.reduceEq, Int.reduceLT, Int.reduceLE, Int.reduceAdd, Int.reduceSub, Int.reduceMul, Int.reduceNeg, and_true, true_and, not_true, not_false_eq_true, true_or, or_true, ne_eq, hL]
    rw [iSub_id (by omega) (by omega), show (set : Int) - 1 = ((set - 1 : Nat) : Int) by omega, iXor_n (by omega) (by omega)]
    have hxl : (set ^^^ (set - 1)) < 2 ^ 31 := Nat.xor_lt_two_pow (by omega) (by omega)
    have hsuc : chC b f p pu N set = if decide (wS b p N set ≤ pu) = true ∧ (wS b f N (chC b f p pu N (set - 1)) < wS b f N set ∨ (wS b f N set = wS b f N (chC b f p pu N (set - 1)) ∧ wS b p N set < wS b p N (chC b f p pu N (set - 1)))) then set else chC b f p pu N (set - 1) := by
      obtain ⟨m, rfl⟩ : ∃ m, set = m + 1 := ⟨set - 1, by omega⟩
      exact bB_s _ _ _ m
    generalize chC b f p pu N (set - 1) = c0 at *
    refine while_inv (fun L2 N2 => N2 = M' ∧ ∃ i : Nat, i ≤ gc b N ∧ L2 10 = (i : Int) ∧ L2 9 = ((set ^^^ (set - 1) : Nat) : Int) ∧ L2 8 = (set : Int) ∧ L2 1 = (c0 : Int) ∧ L2 2 = wS b f N c0 ∧ L2 4 = wS b p N c0 ∧ L2 5 = mix (fun i => f (ga b N i)) set i (gc b N) ∧ L2 7 = mix (fun i => p (ga b N i)) set i (gc b N)) (fun L2 _ => (((gc b N : Nat) : Int) - L2 10).toNat) ⟨rfl, 0, by omega, rfl, by simp only [sl_ap, st_fn, Nat.reduceEqDiff, ↓reduceIte, reduceIte, Int.reduceEq, if_true, if_false], by simp only [sl_ap, st_fn, Nat.reduceEqDiff, ↓reduceIte, reduceIte, Int.reduceEq, if_true, if_false]; exact hL, by simp only [sl_ap, st_fn, Nat.reduceEqDiff, ↓reduceIte, reduceIte, Int.reduceEq, if_true, if_false]; exact k1, by simp only [sl_ap, st_fn, Nat.reduceEqDiff, ↓reduceIte, reduceIte, Int.reduceEq, if_true, if_false]; exact k2, by simp only [sl_ap, st_fn, Nat.reduceEqDiff, ↓reduceIte, reduceIte, Int.reduceEq, if_true, if_false]; exact k3, by simp only [sl_ap, st_fn, Nat.reduceEqDiff, ↓reduceIte, reduceIte, Int.reduceEq, if_true, if_false]; rw [mix_0]; exact k4, by simp only [sl_ap, st_fn, Nat.reduceEqDiff, ↓reduceIte, reduceIte, Int.reduceEq, if_true, if_false]; rw [mix_0]; exact k5⟩ ?_
    intro L2 N2 ⟨j0, i, j1, j2, j3, j4, j5, j6, j7, j8, j9⟩ Q2 hQ2
    subst j0
    simp only [sSeq, sSet, sInc, sPF, sPA, sPD, sOF, sOA, sX, sIf, sSkip, sRet, sRetB, sRetV, sSw, sSel, eK, eL, eR, eF, eA, eQ, eD, eU, eB, eV, eIf, ePF, eC0, eC1, eC2, eC3, eC4, eC5, eC6, eC7, cB, cZ, cAnd, cOr, cNot, i2l, st_fn, sl_ap, if_true, if_false, ↓reduceIte, reduceIte, Nat.reduceEqDiff, Int.reduceEq, Int.reduceLT, Int.reduceLE, Int.reduceAdd, Int.reduceSub, Int.reduceMul, Int.reduceNeg, and_true, true_and, not_true, not_false_eq_true, true_or, or_true, ne_eq, j2, j3, h3]
    have hend : mix (fun i => f (ga b N i)) set i (gc b N) = wS b f N set → mix (fun i => p (ga b N i)) set i (gc b N) = wS b p N set → S_ch2 (fun L M => Q' (sl L 8 (iAdd (L 8) 1)) M) Q L2 N2 := by
      intro e e'
      rw [e] at j8
      rw [e'] at j9
      refine ch2_ok j4 j8 j9 j6 j7 h4 (fun d1 d2 L3 b8 b5 b7 b2 b4 b1 => ?_) (fun d1 => ?_)
      · rw [if_pos ⟨by rw [decide_eq_true_eq]; exact d1, d2⟩] at hsuc
        refine hQ' _ _ ?_ ⟨rfl, ?_, ?_, ?_, ?_, ?_⟩
        · simp only [sl_ap, st_fn, Nat.reduceEqDiff, ↓reduceIte, reduceIte, Int.reduceEq, if_true, if_false, b8]
          exact iAdd_id (by omega) (by omega)
        all_goals rw [hsub]
        · rw [hsuc]; simp only [sl_ap, st_fn, Nat.reduceEqDiff, ↓reduceIte, reduceIte, Int.reduceEq, if_true, if_false]; exact b1
        · rw [hsuc]; simp only [sl_ap, st_fn, Nat.reduceEqDiff, ↓reduceIte, reduceIte, Int.reduceEq, if_true, if_false]; exact b2
        · rw [hsuc]; simp only [sl_ap, st_fn, Nat.reduceEqDiff, ↓reduceIte, reduceIte, Int.reduceEq, if_true, if_false]; exact b4
        · simp only [sl_ap, st_fn, Nat.reduceEqDiff, ↓reduceIte, reduceIte, Int.reduceEq, if_true, if_false]; exact b5
        · simp only [sl_ap, st_fn, Nat.reduceEqDiff, ↓reduceIte, reduceIte, Int.reduceEq, if_true, if_false]; exact b7
      · rw [if_neg (fun q => d1 ⟨by have := q.1; rw [decide_eq_true_eq] at this; exact this, q.2⟩)] at hsuc
        refine hQ' _ _ ?_ ⟨rfl, ?_, ?_, ?_, ?_, ?_⟩
        · simp only [sl_ap, st_fn, Nat.reduceEqDiff, ↓reduceIte, reduceIte, Int.reduceEq, if_true, if_false, j4]
          exact iAdd_id (by omega) (by omega)
        all_goals rw [hsub]
        · rw [hsuc]; simp only [sl_ap, st_fn, Nat.reduceEqDiff, ↓reduceIte, reduceIte, Int.reduceEq, if_true, if_false]; exact j5
        · rw [hsuc]; simp only [sl_ap, st_fn, Nat.reduceEqDiff, ↓reduceIte, reduceIte, Int.reduceEq, if_true, if_false]; exact j6
        · rw [hsuc]; simp only [sl_ap, st_fn, Nat.reduceEqDiff, ↓reduceIte, reduceIte, Int.reduceEq, if_true, if_false]; exact j7
        · simp only [sl_ap, st_fn, Nat.reduceEqDiff, ↓reduceIte, reduceIte, Int.reduceEq, if_true, if_false]; exact j8
        · simp only [sl_ap, st_fn, Nat.reduceEqDiff, ↓reduceIte, reduceIte, Int.reduceEq, if_true, if_false]; exact j9
    have hbits := bi_xor set (set - 1) i
    refine ⟨fun c1 => ⟨fun c2 => ?_, fun c2 => ?_⟩, fun c1 => ?_⟩
    · rw [bit_n (by omega) (by omega)] at c2
      have c2 : bi (set ^^^ (set - 1)) i = 1 := by unfold bi; omega
      have hne := hbits.mp c2
      have hio : i < gc b N := by omega
      have g := hf (i : Int) (by omega) (by omega)
      have g' := hp (i : Int) (by omega) (by omega)
      have hm := mix_s (fun i => f (ga b N i)) set hio
      have hm' := mix_s (fun i => p (ga b N i)) set hio
      have hmb := mix_bd (f := fun i => f (ga b N i)) (B := 552960000000000000) (set := set) (i := i) (n := gc b N) (by omega) fun k a b => hf k a b
      have hmb' := mix_bd (f := fun i => p (ga b N i)) (B := 1000) (set := set) (i := i) (n := gc b N) (by omega) fun k a b => hp k a b
      have hmc := mix_bd (f := fun i => f (ga b N i)) (B := 552960000000000000) (set := set) (i := i + 1) (n := gc b N) (by omega) fun k a b => hf k a b
      have hmc' := mix_bd (f := fun i => p (ga b N i)) (B := 1000) (set := set) (i := i + 1) (n := gc b N) (by omega) fun k a b => hp k a b
      rw [h71 (i : Int) (by omega) (by omega), h72 (i : Int) (by omega) (by omega), j4, bit_n (by omega) (by omega), j8, j9]
      have hl := bi_lt set i
      have hl2 := bi_lt (set - 1) i
      have hfin : ∀ v v' u, v = mix (fun i => f (ga b N i)) set (i + 1) (gc b N) → v' = mix (fun i => p (ga b N i)) set (i + 1) (gc b N) → Q2 (sl (sl (sl (sl L2 11 u) 5 v) 7 v') 10 (iAdd (i : Int) 1)) N2 := by
        intro v v' u hv hv'
        rw [iAdd_id (by omega) (by omega)]
        refine hQ2 _ _ ⟨rfl, i + 1, by omega, ?_, ?_, ?_, ?_, ?_, ?_, ?_, ?_⟩ ?_
        all_goals simp only [sl_ap, st_fn, Nat.reduceEqDiff, ↓reduceIte, reduceIte, Int.reduceEq, if_true, if_false]
        · omega
        · exact j3
        · exact j4
        · exact j5
        · exact j6
        · exact j7
        · exact hv
        · exact hv'
        · omega
      have hbe : ((set / 2 ^ i % 2 : Nat) : Int) = ((bi set i : Nat) : Int) := rfl
      rw [hbe]
      generalize mix (fun i => f (ga b N i)) set i (gc b N) = X at *
      generalize mix (fun i => p (ga b N i)) set i (gc b N) = X' at *
      generalize mix (fun i => f (ga b N i)) set (i + 1) (gc b N) = V at *
      generalize mix (fun i => p (ga b N i)) set (i + 1) (gc b N) = V' at *
      have hB1 : (552960000000000000 : Int) * (gc b N : Int) ≤ 8847360000000000000 := by omega
      have hB2 : (1000 : Int) * (gc b N : Int) ≤ 16000 := by omega
      refine ⟨fun c3 => ?_, fun c3 => ?_⟩
      · rw [if_pos (show bi set i = 1 by omega), if_neg (show ¬ bi (set - 1) i = 1 by omega)] at hm hm'
        refine ⟨fun _ => ⟨by omega, by omega, fun _ => ⟨by omega, by omega, hfin _ _ _ ?_ ?_⟩, fun q => q.elim⟩, fun q => q.elim⟩
        · rw [lAdd_id (by omega) (by omega)]; omega
        · rw [iAdd_id (by omega) (by omega)]; omega
      · rw [if_neg (show ¬ bi set i = 1 by omega), if_pos (show bi (set - 1) i = 1 by omega)] at hm hm'
        have en : lNeg (f (ga b N (i : Int))) = -(f (ga b N (i : Int))) := x64_id ⟨by omega, by omega⟩
        have en' : iNeg (p (ga b N (i : Int))) = -(p (ga b N (i : Int))) := x32_id ⟨by omega, by omega⟩
        refine ⟨fun q => q.elim, fun _ => ⟨by omega, by omega, fun q => q.elim, fun _ => ⟨by omega, by omega, hfin _ _ _ ?_ ?_⟩⟩⟩
        · rw [en, lAdd_id (by omega) (by omega)]; omega
        · rw [en', iAdd_id (by omega) (by omega)]; omega
    · rw [bit_n (by omega) (by omega)] at c2
      have c2 : ¬ bi (set ^^^ (set - 1)) i = 1 := by unfold bi; omega
      have he : bi set i = bi (set - 1) i := Classical.byContradiction fun q => c2 (hbits.mpr q)
      exact hend (mix_end _ hset.1 he) (mix_end _ hset.1 he)
    · have hio : i = gc b N := by omega
      rw [hio] at hend
      exact hend (mix_n _ set (gc b N)) (mix_n _ set (gc b N))
  · intro L M' hL ⟨k0, k1, _⟩
    subst k0
    rw [show (((2 ^ gc b N : Nat) : Int)).toNat = 2 ^ gc b N by omega] at k1
    simp only [k1]
    have hc := (hch (2 ^ gc b N - 1)).1
    exact hFB _ _ (by unfold chC; omega) hQ
