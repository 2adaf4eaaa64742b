/-! ===== doubts: the class ===== -/
abbrev clm (d : XM) (k : Int) : Prop := (d 101 k = 0 ∨ d 101 k = 2) ∧ kn d k
theorem Doubts_isClaim_ok {d M : XM} {k : Int} {Q : Int → XM → Prop} (hd : DCl M d) (hk : 0 ≤ k ∧ k < 150) (hQ : Q (if clm d k then 1 else 0) M) : F_Doubts_isClaim k M Q := by
  have l9 := hd.2.2.2.2.2.2.2.2.1
  have hkn := C_kn hd k
  unfold F_Doubts_isClaim S_Doubts_isClaim
  simp (disch := omega) only [sSeq, sSet, sInc, sPF, sPA, sPD, sOF, sOA, sX, sIf, sSkip, sRet, sRetB, sRetV, sSw, sSel, eK, eL, eR, eF, eA, eQ, eD, eU, eB, eV, eIf, ePF, eC0, eC1, eC2, eC3, eC4, eC5, eC6, eC7, cB, cZ, cAnd, cOr, cNot, i2l, st_fn, sl_ap, if_true, if_false, ↓reduceIte, reduceIte, Nat.reduceEqDiff, Int.reduceEq, Int.reduceLT, Int.reduceLE, Int.reduceAdd, Int.reduceSub, Int.reduceMul, Int.reduceNeg, and_true, true_and, not_true, not_false_eq_true, true_or, or_true, ne_eq, F_Ledger_isKnown_iff, b01_ne, l9]
  have h1 : clm d k → Q 1 M := fun c => by rw [if_pos c] at hQ; exact hQ
  have h0 : ¬ clm d k → Q 0 M := fun c => by rw [if_neg c] at hQ; exact hQ
  refine ⟨hk.1, hk.2, fun c => ⟨fun c2 => h1 ⟨Or.inl c, hkn.mp c2⟩, fun c2 => h0 (fun q => c2 (hkn.mpr q.2))⟩, fun c => ⟨fun c3 => ⟨fun c2 => h1 ⟨Or.inr c3, hkn.mp c2⟩, fun c2 => h0 (fun q => c2 (hkn.mpr q.2))⟩, fun c3 => h0 (fun q => q.1.elim c c3)⟩⟩
theorem Doubts_isUntimely_ok {d M : XM} {k : Int} {Q : Int → XM → Prop} (hB : Base d) (hC : CF d M) (hk : 0 ≤ k ∧ k < d 81 19) (hQ : Q (if nvB d k = true then 1 else 0) M) : F_Doubts_isUntimely k M Q := by
  obtain ⟨h1, h2, h3, h4, h5, h6, h7, h8, h9, h10, h11, h12, h13, h14⟩ := hC.dct hB
  obtain ⟨l1, l2, l3, l4, l5, l6, l7, l8, l9, l10, l11⟩ := hC.dcl hB
  have g := hB.2.2.2.1.2.2 k hk.1 hk.2
  have hs := hB.2.2.2.1.1
  have v := hB.2.2.1
  have g2 := v.2.2.2.2.1 (d 97 k) (by omega) (by omega)
  have v1 := v.1
  have v2 := v.2.1
  have v3 := v.2.2.1
  unfold F_Doubts_isUntimely S_Doubts_isUntimely
  simp (disch := omega) only [sSeq, sSet, sInc, sPF, sPA, sPD, sOF, sOA, sX, sIf, sSkip, sRet, sRetB, sRetV, sSw, sSel, eK, eL, eR, eF, eA, eQ, eD, eU, eB, eV, eIf, ePF, eC0, eC1, eC2, eC3, eC4, eC5, eC6, eC7, cB, cZ, cAnd, cOr, cNot, i2l, st_fn, sl_ap, if_true, if_false, ↓reduceIte, reduceIte, Nat.reduceEqDiff, Int.reduceEq, Int.reduceLT, Int.reduceLE, Int.reduceAdd, Int.reduceSub, Int.reduceMul, Int.reduceNeg, and_true, true_and, not_true, not_false_eq_true, true_or, or_true, ne_eq, F_Trade_isOpen_iff, b01_ne, l4, l5, l6, h2, h4, h10, h11]
  have q1 : nvB d k = true → Q 1 M := fun c => by rw [if_pos c] at hQ; exact hQ
  have q0 : nvB d k = false → Q 0 M := fun c => by rw [c, if_neg (by decide)] at hQ; exact hQ
  refine ⟨by omega, by omega, by omega, by omega, by omega, by omega, by omega, by omega, ?_⟩
  refine ⟨fun c => ⟨by omega, by omega, fun c2 => q1 (decide_eq_true (Or.inr c2)), fun c2 => q0 (decide_eq_false (fun q => q.elim (fun z => z c) c2))⟩, fun c => q1 (decide_eq_true (Or.inl c))⟩
def Dinv (d M : XM) (th : Int) (M' : XM) : Prop := Only [67] M M' ∧ ∀ j, j ≠ 6 → j ≠ 7 → M' 67 j = M 67 j
theorem Dinv.set {d M M' : XM} {th : Int} (h : Dinv d M th M') {j : Int} (hj : j = 6 ∨ j = 7) (v : Int) : Dinv d M th (st M' 67 j v) := by
  refine ⟨h.1.set (by decide) _ _, fun a a1 a2 => ?_⟩
  rw [st_upx, upx_ap, if_neg (by omega)]
  exact h.2 a a1 a2
def bst (d : XM) (th : Int) : Nat := (rF d th (2 ^ OCt d th)).1.toNat
def S_cf2 (FB : XF1) : XS := sSeq (sSet 5 (eC1 FB (eL 3))) (sIf (cAnd (cB (fun x y => y ≤ x) (eL 2) (eF 67 4)) (cOr (cB (fun x y => x < y) (eL 5) (eF 67 6)) (cAnd (cB (fun x y => x = y) (eL 5) (eF 67 6)) (cB (fun x y => x < y) (eL 2) (eL 1))))) (sSeq (sPF 67 6 (eL 5)) (sSeq (sSet 1 (eL 2)) (sPF 67 7 (eL 3)))) sSkip)
def S_Doubts_chooseFewest_ (FB : XF1) : XS := sSeq (sSeq (sPF 67 6 (eK 0)) (sSeq (sPF 67 7 (eK 0)) (sSeq (sIf (cZ (fun x => x ≤ 0) (eF 67 4)) (sRetV) sSkip) (sSeq (sPF 67 6 (eB iAdd (eF 67 3) (eK 1))) (sSeq (sSet 1 (eK 0)) (sSeq (sSet 2 (eK 0)) (sSeq (sSet 3 (eK 1)) (sWhile (cB (fun x y => x < y) (eL 3) (eB iShl (eK 1) (eF 67 3))) (sSeq (sSeq (sSet 4 (eB iXor (eL 3) (eB iSub (eL 3) (eK 1)))) (sSeq (sSeq (sSet 5 (eK 0)) (sWhile (cAnd (cB (fun x y => x < y) (eL 5) (eF 67 3)) (cB (fun x y => x = y) (eB iAnd (eB iShr (eL 4) (eL 5)) (eK 1)) (eK 1))) (sSeq (sSeq (sSet 6 (eA 18 150 (eA 68 12 (eL 5)))) (sSet 2 (eB iAdd (eL 2) (eIf (cB (fun x y => x = y) (eB iAnd (eB iShr (eL 3) (eL 5)) (eK 1)) (eK 1)) (eL 6) (eU iNeg (eL 6)))))) (sInc 5 1)))) (S_cf2 FB))) (sInc 3 1)))))))))) sRetV
theorem S_Doubts_chooseFewest_eq : S_Doubts_chooseFewest = S_Doubts_chooseFewest_ F_JI_bitCount := rfl
theorem chooseFewest_gen (FB : XF1) {d M : XM} {th : Int} {Q : Int → XM → Prop} (hB : Base d) (ht : 0 ≤ th ∧ th < d 81 7) (hb : ∀ (n : Nat) (M : XM) (Q : Int → XM → Prop), n < 16777216 → Q ((PC n : Nat) : Int) M → FB (n : Int) M Q) (hn : OCt d th ≤ 12) (h3 : M 67 3 = ((OCt d th : Nat) : Int)) (h4 : M 67 4 = EX d th) (h68 : ∀ i, 0 ≤ i → i < (OCt d th : Int) → M 68 i = OAt d th i) (h18 : M 18 = d 100)
    (hQ : ∀ M', Dinv d M th M' → M' 67 6 = ((PC (bst d th) : Nat) : Int) → M' 67 7 = ((bst d th : Nat) : Int) → Q 0 M') : S_Doubts_chooseFewest_ FB (fun _ _ => False) Q (fun _ => 0) M := by
  have hmk := mk_r hB th
  have hs := hB.2.2.2.1.1
  have h2p : 2 ^ OCt d th ≤ 4096 := Nat.pow_le_pow_right (by omega) hn
  have h2q := Nat.two_pow_pos (OCt d th)
  have hsome := rF_some hB ht hn
  have hfr := rF_r d th
  unfold S_Doubts_chooseFewest_
  simp only [sSeq, sSet, sInc, sPF, sPA, sPD, sOF, sOA, sX, sIf, sSkip, sRet, sRetB, sRetV, sSw, sSel, eK, eL, eR, eF, eA, eQ, eD, eU, eB, eV, eIf, ePF, eC0, eC1, eC2, eC3, eC4, eC5, eC6, eC7, cB, cZ, cAnd, cOr, cNot, i2l, st_fn, sl_ap, if_true, if_false, ↓reduceIte, reduceIte, Nat.reduceEqDiff, Int.reduceEq, Int.reduceLT, Int.reduceLE, Int.reduceAdd, Int.reduceSub, Int.reduceMul, Int.reduceNeg, and_true, true_and, not_true, not_false_eq_true, true_or, or_true, ne_eq]
  have d0 : Dinv d M th (st (st M 67 6 0) 67 7 0) := Dinv.set (Dinv.set ⟨Only.rf, fun _ _ _ => rfl⟩ (Or.inl rfl) 0) (Or.inr rfl) 0
  rw [h4, h3]
  refine ⟨fun c => ?_, fun c => ?_⟩
  · have e : rF d th (2 ^ OCt d th) = (0, 0) := by
      obtain ⟨m, hm⟩ : ∃ m, 2 ^ OCt d th = m + 1 := ⟨2 ^ OCt d th - 1, by omega⟩
      rw [hm]
      exact rF_low c m (by omega)
    have eb : bst d th = 0 := by unfold bst; rw [e]; rfl
    refine hQ _ d0 ?_ ?_
    · rw [eb, PC_0]
      simp only [st_fn, Nat.reduceEqDiff, ↓reduceIte, reduceIte, Int.reduceEq, if_true, if_false]
      rfl
    · rw [eb]
      simp only [st_fn, Nat.reduceEqDiff, ↓reduceIte, reduceIte, Int.reduceEq, if_true, if_false]
      rfl
  rw [iAdd_id (by omega) (by omega)]
  have d1 : Dinv d M th (st (st (st M 67 6 0) 67 7 0) 67 6 (((OCt d th : Nat) : Int) + 1)) := d0.set (Or.inl rfl) _
  have n6 : (st (st (st M 67 6 0) 67 7 0) 67 6 (((OCt d th : Nat) : Int) + 1)) 67 6 = ((OCt d th : Nat) : Int) + 1 := by simp only [st_fn, Nat.reduceEqDiff, ↓reduceIte, reduceIte, Int.reduceEq, if_true, if_false]
  have n7 : (st (st (st M 67 6 0) 67 7 0) 67 6 (((OCt d th : Nat) : Int) + 1)) 67 7 = 0 := by simp only [st_fn, Nat.reduceEqDiff, ↓reduceIte, reduceIte, Int.reduceEq, if_true, if_false]
  generalize st (st (st M 67 6 0) 67 7 0) 67 6 (((OCt d th : Nat) : Int) + 1) = N at *
  have r1 : rF d th 1 = (-1, 0) := by
    rw [rF_succ, sS_0, if_neg (by omega)]
    rfl
  refine while_up 3 1 ((2 ^ OCt d th : Nat) : Int) (fun x L M' => L 2 = sS (mk d th) (x.toNat - 1) (OCt d th) ∧ Dinv d M th M' ∧ ((rF d th x.toNat).1 = -1 → M' 67 6 = ((OCt d th : Nat) : Int) + 1) ∧ ((rF d th x.toNat).1 ≠ -1 → M' 67 6 = ((PC (rF d th x.toNat).1.toNat : Nat) : Int) ∧ M' 67 7 = (rF d th x.toNat).1 ∧ L 1 = (rF d th x.toNat).2)) (by omega) rfl ⟨by show (0 : Int) = sS (mk d th) 0 (OCt d th); rw [sS_0], d1, fun _ => n6, fun q => absurd (show (rF d th ((1 : Int)).toNat).1 = -1 by rw [show ((1 : Int)).toNat = 1 from rfl, r1]) q⟩ ?_ ?_ ?_
  · intro x L M' P F a1 a2 hL ⟨_, k2, _⟩ hT hF
    simp only [sSeq, sSet, sInc, sPF, sPA, sPD, sOF, sOA, sX, sIf, sSkip, sRet, sRetB, sRetV, sSw, sSel, eK, eL, eR, eF, eA, eQ, eD, eU, eB, eV, eIf, ePF, eC0, eC1, eC2, eC3, eC4, eC5, eC6, eC7, cB, cZ, cAnd, cOr, cNot, i2l, st_fn, sl_ap, if_true, if_false, ↓reduceIte, reduceIte, Nat.reduceEqDiff, Int.reduceEq, Int.reduceLT, Int.reduceLE, Int.reduceAdd, Int.reduceSub, Int.reduceMul, Int.reduceNeg, and_true, true_and, not_true, not_false_eq_true, true_or, or_true, ne_eq, hL]
    rw [k2.2 3 (by decide) (by decide), h3, iShl_n (by omega)]
    exact ⟨hT, hF⟩
  · intro x L M' Q' hx0 hx1 hL ⟨k1, k2, k3, k4⟩ hQ'
    obtain ⟨set, rfl⟩ : ∃ s : Nat, x = (s : Int) := ⟨x.toNat, by omega⟩
    rw [show ((set : Int)).toNat = set by omega] at k1 k3 k4
    have hset : 1 ≤ set ∧ set < 2 ^ OCt d th := by omega
    have hz1 : ((set : Int)).toNat = set := by omega
    have hz2 : ¬ (set : Int) = -1 := by omega
    simp only [sSeq, sSet, sInc, sPF, sPA, sPD, sOF, sOA, sX, sIf, sSkip, sRet, sRetB, sRetV, sSw, sSel, eK, eL, eR, eF, eA, eQ, eD, eU, eB, eV, eIf, ePF, eC0, eC1, eC2, eC3, eC4, eC5, eC6, eC7, cB, cZ, cAnd, cOr, cNot, i2l, st_fn, sl_ap, if_true, if_false, ↓reduceIte, reduceIte, Nat.reduceEqDiff, Int.reduceEq, Int.reduceLT, Int.reduceLE, Int.reduceAdd, Int.reduceSub, Int.reduceMul, Int.reduceNeg, and_true, true_and, not_true, not_false_eq_true, true_or, or_true, ne_eq, hL]
    rw [iSub_id (by omega) (by omega), show (set : Int) - 1 = ((set - 1 : Nat) : Int) by omega, iXor_n (by omega) (by omega)]
    have hxl : (set ^^^ (set - 1)) < 2 ^ 31 := Nat.xor_lt_two_pow (by omega) (by omega)
    have e3 : M' 67 3 = ((OCt d th : Nat) : Int) := (k2.2 3 (by decide) (by decide)).trans h3
    have e4 : M' 67 4 = EX d th := (k2.2 4 (by decide) (by decide)).trans h4
    have e18 : M' 18 = d 100 := (k2.1 18 (by decide)).trans h18
    have e68 : M' 68 = M 68 := k2.1 68 (by decide)
    have hsb := sS_bd (f := mk d th) (B := 100000) (set := set) (n := OCt d th) (by omega) fun k a b => ⟨(hmk k a b).1, (hmk k a b).2.1⟩
    refine while_inv (fun L2 N2 => N2 = M' ∧ ∃ i : Nat, i ≤ OCt d th ∧ L2 5 = (i : Int) ∧ L2 4 = ((set ^^^ (set - 1) : Nat) : Int) ∧ L2 3 = (set : Int) ∧ L2 1 = L 1 ∧ L2 2 = mix (mk d th) set i (OCt d th)) (fun L2 _ => (((OCt d th : Nat) : Int) - L2 5).toNat) ⟨rfl, 0, by omega, rfl, by simp only [sl_ap, st_fn, Nat.reduceEqDiff, ↓reduceIte, reduceIte, Int.reduceEq, if_true, if_false], by simp only [sl_ap, st_fn, Nat.reduceEqDiff, ↓reduceIte, reduceIte, Int.reduceEq, if_true, if_false]; exact hL, by simp only [sl_ap, st_fn, Nat.reduceEqDiff, ↓reduceIte, reduceIte, Int.reduceEq, if_true, if_false], by simp only [sl_ap, st_fn, Nat.reduceEqDiff, ↓reduceIte, reduceIte, Int.reduceEq, if_true, if_false]; rw [mix_0]; exact k1⟩ ?_
    intro L2 N2 ⟨j0, i, j1, j2, j3, j4, j5, j6⟩ Q2 hQ2
    subst j0
    simp only [sSeq, sSet, sInc, sPF, sPA, sPD, sOF, sOA, sX, sIf, sSkip, sRet, sRetB, sRetV, sSw, sSel, eK, eL, eR, eF, eA, eQ, eD, eU, eB, eV, eIf, ePF, eC0, eC1, eC2, eC3, eC4, eC5, eC6, eC7, cB, cZ, cAnd, cOr, cNot, i2l, st_fn, sl_ap, if_true, if_false, ↓reduceIte, reduceIte, Nat.reduceEqDiff, Int.reduceEq, Int.reduceLT, Int.reduceLE, Int.reduceAdd, Int.reduceSub, Int.reduceMul, Int.reduceNeg, and_true, true_and, not_true, not_false_eq_true, true_or, or_true, ne_eq, j2, j3, e3]
    have hend : mix (mk d th) set i (OCt d th) = sS (mk d th) set (OCt d th) → S_cf2 FB (fun L M => Q' (sl L 3 (iAdd (L 3) 1)) M) Q L2 N2 := by
      intro e
      rw [e] at j6
      unfold S_cf2
      simp only [sSeq, sSet, sInc, sPF, sPA, sPD, sOF, sOA, sX, sIf, sSkip, sRet, sRetB, sRetV, sSw, sSel, eK, eL, eR, eF, eA, eQ, eD, eU, eB, eV, eIf, ePF, eC0, eC1, eC2, eC3, eC4, eC5, eC6, eC7, cB, cZ, cAnd, cOr, cNot, i2l, st_fn, sl_ap, if_true, if_false, ↓reduceIte, reduceIte, Nat.reduceEqDiff, Int.reduceEq, Int.reduceLT, Int.reduceLE, Int.reduceAdd, Int.reduceSub, Int.reduceMul, Int.reduceNeg, and_true, true_and, not_true, not_false_eq_true, true_or, or_true, ne_eq, j4, j6, e4]
      refine hb set N2 _ (by omega) ?_
      have hpn := PC_n hn hset.2
      have hx : iAdd (set : Int) 1 = (set : Int) + 1 := iAdd_id (by omega) (by omega)
      obtain ⟨p, hp⟩ : ∃ p, p = rF d th (set + 1) := ⟨_, rfl⟩
      have hfin : ∀ (L3 : XL) (N3 : XM), L3 3 = (set : Int) + 1 → L3 2 = sS (mk d th) set (OCt d th) → Dinv d M th N3 → (p.1 = -1 → N3 67 6 = ((OCt d th : Nat) : Int) + 1) → (p.1 ≠ -1 → N3 67 6 = ((PC p.1.toNat : Nat) : Int) ∧ N3 67 7 = p.1 ∧ L3 1 = p.2) → Q' L3 N3 := by
        intro L3 N3 c1 c2 c3 c4 c5
        rw [hp] at c4 c5
        refine hQ' _ _ c1 ⟨?_, c3, ?_, ?_⟩
        · rw [show ((set : Int) + 1).toNat - 1 = set by omega]; exact c2
        · rw [show ((set : Int) + 1).toNat = set + 1 by omega]; exact c4
        · rw [show ((set : Int) + 1).toNat = set + 1 by omega]; exact c5
      rw [rF_succ] at hp
      generalize hsum : sS (mk d th) set (OCt d th) = sm at *
      generalize hpc : PC set = pcs at *
      have hold : ¬ (EX d th ≤ sm ∧ ((rF d th set).1 = -1 ∨ pcs < PC (rF d th set).1.toNat ∨ (pcs = PC (rF d th set).1.toNat ∧ sm < (rF d th set).2))) → ∀ u, Q' (sl (sl L2 5 u) 3 (iAdd (set : Int) 1)) N2 := by
        intro c u
        rw [if_neg c] at hp
        rw [hp] at hfin
        rw [hx]
        refine hfin _ _ ?_ ?_ k2 k3 (fun q => ?_)
        · simp only [sl_ap, st_fn, Nat.reduceEqDiff, ↓reduceIte, reduceIte, Int.reduceEq, if_true, if_false]
        · simp only [sl_ap, st_fn, Nat.reduceEqDiff, ↓reduceIte, reduceIte, Int.reduceEq, if_true, if_false]; exact j6
        · simp only [sl_ap, st_fn, Nat.reduceEqDiff, ↓reduceIte, reduceIte, Int.reduceEq, if_true, if_false, j5]; exact k4 q
      have hnew : (EX d th ≤ sm ∧ ((rF d th set).1 = -1 ∨ pcs < PC (rF d th set).1.toNat ∨ (pcs = PC (rF d th set).1.toNat ∧ sm < (rF d th set).2))) → ∀ u, Q' (sl (sl (sl L2 5 u) 1 sm) 3 (iAdd (set : Int) 1)) (st (st N2 67 6 (pcs : Int)) 67 7 (set : Int)) := by
        intro c u
        rw [if_pos c] at hp
        have p1 : p.1 = (set : Int) := by rw [hp]
        have p2 : p.2 = sm := by rw [hp]
        rw [p1, p2, hz1, hpc] at hfin
        rw [hx]
        refine hfin _ _ ?_ ?_ ((k2.set (Or.inl rfl) _).set (Or.inr rfl) _) (fun q => absurd q hz2) (fun _ => ⟨?_, ?_, ?_⟩)
        · simp only [sl_ap, st_fn, Nat.reduceEqDiff, ↓reduceIte, reduceIte, Int.reduceEq, if_true, if_false]
        · simp only [sl_ap, st_fn, Nat.reduceEqDiff, ↓reduceIte, reduceIte, Int.reduceEq, if_true, if_false]; exact j6
        · simp only [st_fn, Nat.reduceEqDiff, ↓reduceIte, reduceIte, Int.reduceEq, if_true, if_false]
        · simp only [st_fn, Nat.reduceEqDiff, ↓reduceIte, reduceIte, Int.reduceEq, if_true, if_false]
        · simp only [sl_ap, st_fn, Nat.reduceEqDiff, ↓reduceIte, reduceIte, Int.reduceEq, if_true, if_false]
      by_cases cn : (rF d th set).1 = -1
      · have e6 := k3 cn
        rw [e6]
        refine ⟨fun d1 => ⟨fun d2 => ?_, fun d2 => absurd (by omega) d2⟩, fun d1 => ?_⟩
        · simp only [sSeq, sSet, sInc, sPF, sPA, sPD, sOF, sOA, sX, sIf, sSkip, sRet, sRetB, sRetV, sSw, sSel, eK, eL, eR, eF, eA, eQ, eD, eU, eB, eV, eIf, ePF, eC0, eC1, eC2, eC3, eC4, eC5, eC6, eC7, cB, cZ, cAnd, cOr, cNot, i2l, st_fn, sl_ap, if_true, if_false, ↓reduceIte, reduceIte, Nat.reduceEqDiff, Int.reduceEq, Int.reduceLT, Int.reduceLE, Int.reduceAdd, Int.reduceSub, Int.reduceMul, Int.reduceNeg, and_true, true_and, not_true, not_false_eq_true, true_or, or_true, ne_eq, sl_ap, j4, j6]
          exact hnew ⟨d1, Or.inl cn⟩ _
        · simp only [sl_ap, st_fn, Nat.reduceEqDiff, ↓reduceIte, reduceIte, Int.reduceEq, if_true, if_false, j4]
          exact hold (fun q => d1 q.1) _
      · have e6 := k4 cn
        rw [e6.1]
        refine ⟨fun d1 => ⟨fun d2 => ?_, fun d2 => ⟨fun d3 => ⟨fun d4 => ?_, fun d4 => ?_⟩, fun d3 => ?_⟩⟩, fun d1 => ?_⟩
        · simp only [sSeq, sSet, sInc, sPF, sPA, sPD, sOF, sOA, sX, sIf, sSkip, sRet, sRetB, sRetV, sSw, sSel, eK, eL, eR, eF, eA, eQ, eD, eU, eB, eV, eIf, ePF, eC0, eC1, eC2, eC3, eC4, eC5, eC6, eC7, cB, cZ, cAnd, cOr, cNot, i2l, st_fn, sl_ap, if_true, if_false, ↓reduceIte, reduceIte, Nat.reduceEqDiff, Int.reduceEq, Int.reduceLT, Int.reduceLE, Int.reduceAdd, Int.reduceSub, Int.reduceMul, Int.reduceNeg, and_true, true_and, not_true, not_false_eq_true, true_or, or_true, ne_eq, sl_ap, j4, j6]
          exact hnew ⟨d1, Or.inr (Or.inl (by omega))⟩ _
        · simp only [sl_ap, st_fn, Nat.reduceEqDiff, ↓reduceIte, reduceIte, Int.reduceEq, if_true, if_false, j5, e6.2.2] at d4
          simp only [sSeq, sSet, sInc, sPF, sPA, sPD, sOF, sOA, sX, sIf, sSkip, sRet, sRetB, sRetV, sSw, sSel, eK, eL, eR, eF, eA, eQ, eD, eU, eB, eV, eIf, ePF, eC0, eC1, eC2, eC3, eC4, eC5, eC6, eC7, cB, cZ, cAnd, cOr, cNot, i2l, st_fn, sl_ap, if_true, if_false, ↓reduceIte, reduceIte, Nat.reduceEqDiff, Int.reduceEq, Int.reduceLT, Int.reduceLE, Int.reduceAdd, Int.reduceSub, Int.reduceMul, Int.reduceNeg, and_true, true_and, not_true, not_false_eq_true, true_or, or_true, ne_eq, sl_ap, j4, j6]
          exact hnew ⟨d1, Or.inr (Or.inr ⟨by omega, d4⟩)⟩ _
        · simp only [sl_ap, st_fn, Nat.reduceEqDiff, ↓reduceIte, reduceIte, Int.reduceEq, if_true, if_false, j5, e6.2.2] at d4
          simp only [sl_ap, st_fn, Nat.reduceEqDiff, ↓reduceIte, reduceIte, Int.reduceEq, if_true, if_false, j4]
          refine hold (fun q => ?_) _
          rcases q.2 with q | q | q
          · exact cn q
          · omega
          · exact d4 q.2
        · simp only [sl_ap, st_fn, Nat.reduceEqDiff, ↓reduceIte, reduceIte, Int.reduceEq, if_true, if_false, j4]
          refine hold (fun q => ?_) _
          rcases q.2 with q | q | q
          · exact cn q
          · omega
          · omega
        · simp only [sl_ap, st_fn, Nat.reduceEqDiff, ↓reduceIte, reduceIte, Int.reduceEq, if_true, if_false, j4]
          exact hold (fun q => d1 q.1) _
    have hbits := bi_xor set (set - 1) i
    refine ⟨fun c1 => ⟨fun c2 => ?_, fun c2 => ?_⟩, fun c1 => ?_⟩
    · rw [bit_n (by omega) (by omega)] at c2
      have c2 : bi (set ^^^ (set - 1)) i = 1 := by unfold bi; omega
      have hne := hbits.mp c2
      have hio : i < OCt d th := by omega
      have g := hmk (i : Int) (by omega) (by omega)
      have hm := mix_s (mk d th) set hio
      have hmb := mix_bd (f := mk d th) (B := 100000) (set := set) (i := i) (n := OCt d th) (by omega) fun k a b => ⟨(hmk k a b).1, (hmk k a b).2.1⟩
      have em : d 100 (OAt d th (i : Int)) = mk d th (i : Int) := rfl
      rw [e68, h68 (i : Int) (by omega) (by omega), e18, em, j4, bit_n (by omega) (by omega), j6]
      have hl := bi_lt set i
      have hl2 := bi_lt (set - 1) i
      have hfin : ∀ v, v = mix (mk d th) set (i + 1) (OCt d th) → ∀ u, Q2 (sl (sl (sl L2 6 u) 2 v) 5 (iAdd (i : Int) 1)) N2 := by
        intro v hv u
        rw [iAdd_id (by omega) (by omega)]
        refine hQ2 _ _ ⟨rfl, i + 1, by omega, ?_, ?_, ?_, ?_, ?_⟩ ?_
        all_goals simp only [sl_ap, st_fn, Nat.reduceEqDiff, ↓reduceIte, reduceIte, Int.reduceEq, if_true, if_false]
        · omega
        · exact j3
        · exact j4
        · exact j5
        · exact hv
        · omega
      have hbe : ((set / 2 ^ i % 2 : Nat) : Int) = ((bi set i : Nat) : Int) := rfl
      rw [hbe]
      refine ⟨by omega, by omega, by omega, by omega, fun c3 => ?_, fun c3 => ?_⟩
      · refine hfin _ ?_ _
        rw [hm, if_pos (show bi set i = 1 by omega), if_neg (show ¬ bi (set - 1) i = 1 by omega), iAdd_id (by omega) (by omega)]
        omega
      · refine hfin _ ?_ _
        have en : iNeg (mk d th (i : Int)) = -(mk d th (i : Int)) := x32_id ⟨by omega, by omega⟩
        rw [hm, if_neg (show ¬ bi set i = 1 by omega), if_pos (show bi (set - 1) i = 1 by omega), en, iAdd_id (by omega) (by omega)]
        omega
    · rw [bit_n (by omega) (by omega)] at c2
      have c2 : ¬ bi (set ^^^ (set - 1)) i = 1 := by unfold bi; omega
      have he : bi set i = bi (set - 1) i := Classical.byContradiction fun q => c2 (hbits.mpr q)
      exact hend (mix_end (mk d th) hset.1 he)
    · have hio : i = OCt d th := by omega
      rw [hio] at hend
      exact hend (mix_n (mk d th) set (OCt d th))
  · intro L M' hL ⟨k1, k2, k3, k4⟩
    rw [show (((2 ^ OCt d th : Nat) : Int)).toNat = 2 ^ OCt d th by omega] at k4
    have h := k4 hsome
    have hr := (hfr (2 ^ OCt d th)).resolve_left hsome
    refine hQ M' k2 h.1 ?_
    rw [h.2.1]
    unfold bst
    omega
