/-! ===== doubts: the class ===== -/
abbrev clm (d : XM) (k : Int) : Prop := (d 101 k = 0 ∨ d 101 k = 2) ∧ kn d k
theorem Doubts_isClaim_ok {d M : XM} {k : Int} {Q : Int → XM → Prop} (hd : DCl M d) (hk : 0 ≤ k ∧ k < 150) (hQ : Q (if clm d k then 1 else 0) M) : F_Doubts_isClaim k M Q := by
  have l9 := hd.2.2.2.2.2.2.2.2.1
  have hkn := C_kn hd k
  unfold F_Doubts_isClaim S_Doubts_isClaim
  simp (disch := omega) only [sSeq, sSet, sInc, sPF, sPA, sPD, sOF, sOA, sX, sIf, sSkip, sRet, sRetB, sRetV, sSw, sSel, eK, eL, eR, eF, eA, eQ, eD, eU, eB, eV, eIf, ePF, eC0, eC1, eC2, eC3, eC4, eC5, eC6, eC7, cB, cZ, cAnd, cOr, cNot, i2l, st_fn, sl_ap, if_true, if_false, ↓reduceIte, reduceIte, Nat.reduceEqDiff, Int.reduceEq, Int.reduceLT, Int.reduceLE, Int.reduceAdd, Int.reduceSub, Int.reduceMul, Int.reduceNeg, and_true, true_and, not_true, not_false_eq_true, true_or, or_true, ne_eq, F_Ledger_isKnown_iff, b01_ne, l9]
  have h1 : clm d k → Q 1 M := fun c => by rw [if_pos c] at hQ; exact hQ
  have h0 : ¬ clm d k → Q 0 M := fun c => by rw [if_neg c] at hQ; exact hQ
  refine ⟨hk.1, hk.2, fun c => ⟨fun c2 => h1 ⟨Or.inl c, hkn.mp c2⟩, fun c2 => h0 (fun q => c2 (hkn.mpr q.2))⟩, fun c => ⟨fun c3 => ⟨fun c2 => h1 ⟨Or.inr c3, hkn.mp c2⟩, fun c2 => h0 (fun q => c2 (hkn.mpr q.2))⟩, fun c3 => h0 (fun q => q.1.elim c c3)⟩⟩
theorem Doubts_isUntimely_ok {d M : XM} {k : Int} {Q : Int → XM → Prop} (hB : Base d) (hC : CF d M) (hk : 0 ≤ k ∧ k < d 81 19) (hQ : Q (if nvB d k = true then 1 else 0) M) : F_Doubts_isUntimely k M Q := by
  obtain ⟨h1, h2, h3, h4, h5, h6, h7, h8, h9, h10, h11, h12, h13, h14⟩ := hC.dct hB
  obtain ⟨l1, l2, l3, l4, l5, l6, l7, l8, l9, l10, l11⟩ := hC.dcl hB
  have g := hB.2.2.2.1.2.2 k hk.1 hk.2
  have hs := hB.2.2.2.1.1
  have v := hB.2.2.1
  have g2 := v.2.2.2.2.1 (d 97 k) (by omega) (by omega)
  have v1 := v.1
  have v2 := v.2.1
  have v3 := v.2.2.1
  unfold F_Doubts_isUntimely S_Doubts_isUntimely
  simp (disch := omega) only [sSeq, sSet, sInc, sPF, sPA, sPD, sOF, sOA, sX, sIf, sSkip, sRet, sRetB, sRetV, sSw, sSel, eK, eL, eR, eF, eA, eQ, eD, eU, eB, eV, eIf, ePF, eC0, eC1, eC2, eC3, eC4, eC5, eC6, eC7, cB, cZ, cAnd, cOr, cNot, i2l, st_fn, sl_ap, if_true, if_false, ↓reduceIte, reduceIte, Nat.reduceEqDiff, Int.reduceEq, Int.reduceLT, Int.reduceLE, Int.reduceAdd, Int.reduceSub, Int.reduceMul, Int.reduceNeg, and_true, true_and, not_true, not_false_eq_true, true_or, or_true, ne_eq, F_Trade_isOpen_iff, b01_ne, l4, l5, l6, h2, h4, h10, h11]
  have q1 : nvB d k = true → Q 1 M := fun c => by rw [if_pos c] at hQ; exact hQ
  have q0 : nvB d k = false → Q 0 M := fun c => by rw [c, if_neg (by decide)] at hQ; exact hQ
  refine ⟨by omega, by omega, by omega, by omega, by omega, by omega, by omega, by omega, ?_⟩
  refine ⟨fun c => ⟨by omega, by omega, fun c2 => q1 (decide_eq_true (Or.inr c2)), fun c2 => q0 (decide_eq_false (fun q => q.elim (fun z => z c) c2))⟩, fun c => q1 (decide_eq_true (Or.inl c))⟩
def Dinv (d M : XM) (th : Int) (M' : XM) : Prop := Only [67] M M' ∧ ∀ j, j ≠ 6 → j ≠ 7 → M' 67 j = M 67 j
theorem Dinv.set {d M M' : XM} {th : Int} (h : Dinv d M th M') {j : Int} (hj : j = 6 ∨ j = 7) (v : Int) : Dinv d M th (st M' 67 j v) := by
  refine ⟨h.1.set (by decide) _ _, fun a a1 a2 => ?_⟩
  rw [st_upx, upx_ap, if_neg (by omega)]
  exact h.2 a a1 a2
def bst (d : XM) (th : Int) : Nat := (rF d th (2 ^ OCt d th)).1.toNat
def S_cf2 (FB : XF1) : XS := sSeq (sSet 5 (eC1 FB (eL 3))) (sIf (cAnd (cB (fun x y => y ≤ x) (eL 2) (eF 67 4)) (cOr (cB (fun x y => x < y) (eL 5) (eF 67 6)) (cAnd (cB (fun x y => x = y) (eL 5) (eF 67 6)) (cB (fun x y => x < y) (eL 2) (eL 1))))) (sSeq (sPF 67 6 (eL 5)) (sSeq (sSet 1 (eL 2)) (sPF 67 7 (eL 3)))) sSkip)
def S_Doubts_chooseFewest_ (FB : XF1) : XS := sSeq (sSeq (sPF 67 6 (eK 0)) (sSeq (sPF 67 7 (eK 0)) (sSeq (sIf (cZ (fun x => x ≤ 0) (eF 67 4)) (sRetV) sSkip) (sSeq (sPF 67 6 (eB iAdd (eF 67 3) (eK 1))) (sSeq (sSet 1 (eK 0)) (sSeq (sSet 2 (eK 0)) (sSeq (sSet 3 (eK 1)) (sWhile (cB (fun x y => x < y) (eL 3) (eB iShl (eK 1) (eF 67 3))) (sSeq (sSeq (sSet 4 (eB iXor (eL 3) (eB iSub (eL 3) (eK 1)))) (sSeq (sSeq (sSet 5 (eK 0)) (sWhile (cAnd (cB (fun x y => x < y) (eL 5) (eF 67 3)) (cB (fun x y => x = y) (eB iAnd (eB iShr (eL 4) (eL 5)) (eK 1)) (eK 1))) (sSeq (sSeq (sSet 6 (eA 18 150 (eA 68 12 (eL 5)))) (sSet 2 (eB iAdd (eL 2) (eIf (cB (fun x y => x = y) (eB iAnd (eB iShr (eL 3) (eL 5)) (eK 1)) (eK 1)) (eL 6) (eU iNeg (eL 6)))))) (sInc 5 1)))) (S_cf2 FB))) (sInc 3 1)))))))))) sRetV
theorem S_Doubts_chooseFewest_eq : S_Doubts_chooseFewest = S_Doubts_chooseFewest_ F_JI_bitCount := rfl
def Rel (d : XM) (th : Int) (b : Nat) (fw ch le : Int) : Prop := ((rF d th b).1 = -1 → fw = ((OCt d th : Nat) : Int) + 1) ∧ ((rF d th b).1 ≠ -1 → fw = ((PC (rF d th b).1.toNat : Nat) : Int) ∧ ch = (rF d th b).1 ∧ le = (rF d th b).2)
theorem Rel_new {d : XM} {th : Int} {b : Nat} {fw ch le : Int} (h : Rel d th b fw ch le) (c1 : EX d th ≤ sS (mk d th) b (OCt d th)) (c2 : ((PC b : Nat) : Int) < fw ∨ (((PC b : Nat) : Int) = fw ∧ sS (mk d th) b (OCt d th) < le)) (hp : PC b ≤ OCt d th) : Rel d th (b + 1) ((PC b : Nat) : Int) (b : Int) (sS (mk d th) b (OCt d th)) := by
  have e : rF d th (b + 1) = ((b : Int), sS (mk d th) b (OCt d th)) := by
    rw [rF_succ, if_pos]
    refine ⟨c1, ?_⟩
    by_cases cn : (rF d th b).1 = -1
    · exact Or.inl cn
    · have z := h.2 cn
      right
      rcases c2 with c2 | c2
      · left
        omega
      · right
        refine ⟨by omega, ?_⟩
        rw [← z.2.2]
        exact c2.2
  unfold Rel
  rw [e]
  refine ⟨fun q => ?_, fun _ => ⟨?_, rfl, rfl⟩⟩
  · have q : (b : Int) = -1 := q
    omega
  · show ((PC b : Nat) : Int) = ((PC ((b : Int)).toNat : Nat) : Int)
    rw [Int.toNat_natCast]
theorem Rel_old {d : XM} {th : Int} {b : Nat} {fw ch le : Int} (h : Rel d th b fw ch le) (c : ¬ (EX d th ≤ sS (mk d th) b (OCt d th) ∧ (((PC b : Nat) : Int) < fw ∨ (((PC b : Nat) : Int) = fw ∧ sS (mk d th) b (OCt d th) < le)))) (hp : PC b ≤ OCt d th) : Rel d th (b + 1) fw ch le := by
  have e : rF d th (b + 1) = rF d th b := by
    rw [rF_succ, if_neg]
    rintro ⟨c1, c2⟩
    refine c ⟨c1, ?_⟩
    by_cases cn : (rF d th b).1 = -1
    · have z := h.1 cn
      left
      omega
    · have z := h.2 cn
      rcases c2 with c2 | c2 | c2
      · exact absurd c2 cn
      · left
        omega
      · right
        refine ⟨by omega, ?_⟩
        rw [z.2.2]
        exact c2.2
  unfold Rel
  rw [e]
  exact h
theorem cf2_ok (FB : XF1) {Qn : XL → XM → Prop} {Qr : Int → XM → Prop} {L : XL} {M : XM} {set : Nat} {sm ex fw : Int} (hb : ∀ (n : Nat) (M : XM) (Q : Int → XM → Prop), n < 16777216 → Q ((PC n : Nat) : Int) M → FB (n : Int) M Q) (hset : set < 16777216) (h3 : L 3 = (set : Int)) (h2 : L 2 = sm) (e4 : M 67 4 = ex) (e6 : M 67 6 = fw)
    (hnew : ex ≤ sm → (((PC set : Nat) : Int) < fw ∨ (((PC set : Nat) : Int) = fw ∧ sm < L 1)) → ∀ L', L' 3 = (set : Int) → L' 2 = sm → L' 1 = sm → Qn L' (st (st M 67 6 ((PC set : Nat) : Int)) 67 7 (set : Int)))
    (hold : ¬ (ex ≤ sm ∧ (((PC set : Nat) : Int) < fw ∨ (((PC set : Nat) : Int) = fw ∧ sm < L 1))) → ∀ L', L' 3 = (set : Int) → L' 2 = sm → L' 1 = L 1 → Qn L' M) : S_cf2 FB Qn Qr L M := by
  unfold S_cf2
  simp only [sSeq, sSet, sInc, sPF, sPA, sPD, sOF, sOA, sX, sIf, sSkip, sRet, sRetB, sRetV, sSw, sSel, eK, eL, eR, eF, eA, eQ, eD, eU, eB, eV, eIf, ePF, eC0, eC1, eC2, eC3, eC4, eC5, eC6, eC7, cB, cZ, cAnd, cOr, cNot, i2l, st_fn, sl_ap, if_true, if_false, ↓reduceIte, reduceIte, Nat.reduceEqDiff, Int.reduceEq, Int.reduceLT, Int.reduceLE, Int.reduceAdd, Int.reduceSub, Int.reduceMul, Int.reduceNeg, and_true, true_and, not_true, not_false_eq_true, true_or, or_true, ne_eq, h3, h2, e4]
  refine hb set M _ hset ?_
  generalize ((PC set : Nat) : Int) = pc at *
  rw [e4, e6]
  have hN : ex ≤ sm → (pc < fw ∨ (pc = fw ∧ sm < L 1)) → Qn (sl (sl L 5 pc) 1 sm) (st (st M 67 6 pc) 67 7 (set : Int)) := by
    intro a b
    refine hnew a b _ ?_ ?_ ?_
    · simp only [sl_ap, st_fn, Nat.reduceEqDiff, ↓reduceIte, reduceIte, Int.reduceEq, if_true, if_false]; exact h3
    · simp only [sl_ap, st_fn, Nat.reduceEqDiff, ↓reduceIte, reduceIte, Int.reduceEq, if_true, if_false]; exact h2
    · simp only [sl_ap, st_fn, Nat.reduceEqDiff, ↓reduceIte, reduceIte, Int.reduceEq, if_true, if_false]
  have hO : ¬ (ex ≤ sm ∧ (pc < fw ∨ (pc = fw ∧ sm < L 1))) → Qn (sl L 5 pc) M := by
    intro a
    refine hold a _ ?_ ?_ ?_
    · simp only [sl_ap, st_fn, Nat.reduceEqDiff, ↓reduceIte, reduceIte, Int.reduceEq, if_true, if_false]; exact h3
    · simp only [sl_ap, st_fn, Nat.reduceEqDiff, ↓reduceIte, reduceIte, Int.reduceEq, if_true, if_false]; exact h2
    · simp only [sl_ap, st_fn, Nat.reduceEqDiff, ↓reduceIte, reduceIte, Int.reduceEq, if_true, if_false]
  refine ⟨fun d1 => ⟨fun d2 => hN d1 (Or.inl d2), fun d2 => ⟨fun d3 => ⟨fun d4 => hN d1 (Or.inr ⟨d3, d4⟩), fun d4 => hO (fun q => q.2.elim d2 (fun z => d4 z.2))⟩, fun d3 => hO (fun q => q.2.elim d2 (fun z => d3 z.1))⟩⟩, fun d1 => hO (fun q => d1 q.1)⟩
theorem chooseFewest_gen (FB : XF1) {d M : XM} {th : Int} {Q : Int → XM → Prop} (hB : Base d) (ht : 0 ≤ th ∧ th < d 81 7) (hb : ∀ (n : Nat) (M : XM) (Q : Int → XM → Prop), n < 16777216 → Q ((PC n : Nat) : Int) M → FB (n : Int) M Q) (hn : OCt d th ≤ 12) (h3 : M 67 3 = ((OCt d th : Nat) : Int)) (h4 : M 67 4 = EX d th) (h68 : ∀ i, 0 ≤ i → i < (OCt d th : Int) → M 68 i = OAt d th i) (h18 : M 18 = d 100)
    (hQ : ∀ M', Dinv d M th M' → M' 67 6 = ((PC (bst d th) : Nat) : Int) → M' 67 7 = ((bst d th : Nat) : Int) → Q 0 M') : S_Doubts_chooseFewest_ FB (fun _ _ => False) Q (fun _ => 0) M := by
  have hmk := mk_r hB th
  have hs := hB.2.2.2.1.1
  have h2p : 2 ^ OCt d th ≤ 4096 := Nat.pow_le_pow_right (by omega) hn
  have h2q := Nat.two_pow_pos (OCt d th)
  have hsome := rF_some hB ht hn
  have hfr := rF_r d th
  unfold S_Doubts_chooseFewest_
  simp only [sSeq, sSet, sInc, sPF, sPA, sPD, sOF, sOA, sX, sIf, sSkip, sRet, sRetB, sRetV, sSw, sSel, eK, eL, eR, eF, eA, eQ, eD, eU, eB, eV, eIf, ePF, eC0, eC1, eC2, eC3, eC4, eC5, eC6, eC7, cB, cZ, cAnd, cOr, cNot, i2l, st_fn, sl_ap, if_true, if_false, ↓reduceIte, reduceIte, Nat.reduceEqDiff, Int.reduceEq, Int.reduceLT, Int.reduceLE, Int.reduceAdd, Int.reduceSub, Int.reduceMul, Int.reduceNeg, and_true, true_and, not_true, not_false_eq_true, true_or, or_true, ne_eq]
  have d0 : Dinv d M th (st (st M 67 6 0) 67 7 0) := Dinv.set (Dinv.set ⟨Only.rf, fun _ _ _ => rfl⟩ (Or.inl rfl) 0) (Or.inr rfl) 0
  rw [h4, h3]
  refine ⟨fun c => ?_, fun c => ?_⟩
  · have e : rF d th (2 ^ OCt d th) = (0, 0) := by
      obtain ⟨m, hm⟩ : ∃ m, 2 ^ OCt d th = m + 1 := ⟨2 ^ OCt d th - 1, by omega⟩
      rw [hm]
      exact rF_low c m (by omega)
    have eb : bst d th = 0 := by unfold bst; rw [e]; rfl
    refine hQ _ d0 ?_ ?_
    · rw [eb, PC_0]
      simp only [st_fn, Nat.reduceEqDiff, ↓reduceIte, reduceIte, Int.reduceEq, if_true, if_false]
      rfl
    · rw [eb]
      simp only [st_fn, Nat.reduceEqDiff, ↓reduceIte, reduceIte, Int.reduceEq, if_true, if_false]
      rfl
  rw [iAdd_id (by omega) (by omega)]
  have d1 : Dinv d M th (st (st (st M 67 6 0) 67 7 0) 67 6 (((OCt d th : Nat) : Int) + 1)) := d0.set (Or.inl rfl) _
  have n6 : (st (st (st M 67 6 0) 67 7 0) 67 6 (((OCt d th : Nat) : Int) + 1)) 67 6 = ((OCt d th : Nat) : Int) + 1 := by simp only [st_fn, Nat.reduceEqDiff, ↓reduceIte, reduceIte, Int.reduceEq, if_true, if_false]
  have n7 : (st (st (st M 67 6 0) 67 7 0) 67 6 (((OCt d th : Nat) : Int) + 1)) 67 7 = 0 := by simp only [st_fn, Nat.reduceEqDiff, ↓reduceIte, reduceIte, Int.reduceEq, if_true, if_false]
  generalize st (st (st M 67 6 0) 67 7 0) 67 6 (((OCt d th : Nat) : Int) + 1) = N at *
  have r1 : rF d th 1 = (-1, 0) := by
    rw [rF_succ, sS_0, if_neg (by omega)]
    rfl
  refine while_up 3 1 ((2 ^ OCt d th : Nat) : Int) (fun x L M' => L 2 = sS (mk d th) (x.toNat - 1) (OCt d th) ∧ Dinv d M th M' ∧ Rel d th x.toNat (M' 67 6) (M' 67 7) (L 1)) (by omega) rfl ⟨by show (0 : Int) = sS (mk d th) 0 (OCt d th); rw [sS_0], d1, ⟨fun _ => n6, fun q => absurd (show (rF d th ((1 : Int)).toNat).1 = -1 by rw [show ((1 : Int)).toNat = 1 from rfl, r1]) q⟩⟩ ?_ ?_ ?_
  · intro x L M' P F a1 a2 hL ⟨_, k2, _⟩ hT hF
    simp only [sSeq, sSet, sInc, sPF, sPA, sPD, sOF, sOA, sX, sIf, sSkip, sRet, sRetB, sRetV, sSw, sSel, eK, eL, eR, eF, eA, eQ, eD, eU, eB, eV, eIf, ePF, eC0, eC1, eC2, eC3, eC4, eC5, eC6, eC7, cB, cZ, cAnd, cOr, cNot, i2l, st_fn, sl_ap, if_true, if_false, ↓reduceIte, reduceIte, Nat.reduceEqDiff, Int.reduceEq, Int.reduceLT, Int.reduceLE, Int.reduceAdd, Int.reduceSub, Int.reduceMul, Int.reduceNeg, and_true, true_and, not_true, not_false_eq_true, true_or, or_true, ne_eq, hL]
    rw [k2.2 3 (by decide) (by decide), h3, iShl_n (by omega)]
    exact ⟨hT, hF⟩
  · intro x L M' Q' hx0 hx1 hL ⟨k1, k2, k3⟩ hQ'
    obtain ⟨set, rfl⟩ : ∃ s : Nat, x = (s : Int) := ⟨x.toNat, by omega⟩
    rw [show ((set : Int)).toNat = set by omega] at k1 k3
    have hsub : ((set : Int) + 1).toNat - 1 = set := by omega
    have hsuc : ((set : Int) + 1).toNat = set + 1 := by omega
    have hset : 1 ≤ set ∧ set < 2 ^ OCt d th := by omega
    simp only [sSeq, sSet, sInc, sPF, sPA, sPD, sOF, sOA, sX, sIf, sSkip, sRet, sRetB, sRetV, sSw, sSel, eK, eL, eR, eF, eA, eQ, eD, eU, eB, eV, eIf, ePF, eC0, eC1, eC2, eC3, eC4, eC5, eC6, eC7, cB, cZ, cAnd, cOr, cNot, i2l, st_fn, sl_ap, if_true, if_false, ↓reduceIte, reduceIte, Nat.reduceEqDiff, Int.reduceEq, Int.reduceLT, Int.reduceLE, Int.reduceAdd, Int.reduceSub, Int.reduceMul, Int.reduceNeg, and_true, true_and, not_true, not_false_eq_true, true_or, or_true, ne_eq, hL]
    rw [iSub_id (by omega) (by omega), show (set : Int) - 1 = ((set - 1 : Nat) : Int) by omega, iXor_n (by omega) (by omega)]
    have hxl : (set ^^^ (set - 1)) < 2 ^ 31 := Nat.xor_lt_two_pow (by omega) (by omega)
    have e3 : M' 67 3 = ((OCt d th : Nat) : Int) := (k2.2 3 (by decide) (by decide)).trans h3
    have e4 : M' 67 4 = EX d th := (k2.2 4 (by decide) (by decide)).trans h4
    have e18 : M' 18 = d 100 := (k2.1 18 (by decide)).trans h18
    have e68 : M' 68 = M 68 := k2.1 68 (by decide)
    have hsb := sS_bd (f := mk d th) (B := 100000) (set := set) (n := OCt d th) (by omega) fun k a b => ⟨(hmk k a b).1, (hmk k a b).2.1⟩
    refine while_inv (fun L2 N2 => N2 = M' ∧ ∃ i : Nat, i ≤ OCt d th ∧ L2 5 = (i : Int) ∧ L2 4 = ((set ^^^ (set - 1) : Nat) : Int) ∧ L2 3 = (set : Int) ∧ L2 1 = L 1 ∧ L2 2 = mix (mk d th) set i (OCt d th)) (fun L2 _ => (((OCt d th : Nat) : Int) - L2 5).toNat) ⟨rfl, 0, by omega, rfl, by simp only [sl_ap, st_fn, Nat.reduceEqDiff, ↓reduceIte, reduceIte, Int.reduceEq, if_true, if_false], by simp only [sl_ap, st_fn, Nat.reduceEqDiff, ↓reduceIte, reduceIte, Int.reduceEq, if_true, if_false]; exact hL, by simp only [sl_ap, st_fn, Nat.reduceEqDiff, ↓reduceIte, reduceIte, Int.reduceEq, if_true, if_false], by simp only [sl_ap, st_fn, Nat.reduceEqDiff, ↓reduceIte, reduceIte, Int.reduceEq, if_true, if_false]; rw [mix_0]; exact k1⟩ ?_
    intro L2 N2 ⟨j0, i, j1, j2, j3, j4, j5, j6⟩ Q2 hQ2
    subst j0
    simp only [sSeq, sSet, sInc, sPF, sPA, sPD, sOF, sOA, sX, sIf, sSkip, sRet, sRetB, sRetV, sSw, sSel, eK, eL, eR, eF, eA, eQ, eD, eU, eB, eV, eIf, ePF, eC0, eC1, eC2, eC3, eC4, eC5, eC6, eC7, cB, cZ, cAnd, cOr, cNot, i2l, st_fn, sl_ap, if_true, if_false, ↓reduceIte, reduceIte, Nat.reduceEqDiff, Int.reduceEq, Int.reduceLT, Int.reduceLE, Int.reduceAdd, Int.reduceSub, Int.reduceMul, Int.reduceNeg, and_true, true_and, not_true, not_false_eq_true, true_or, or_true, ne_eq, j2, j3, e3]
    have hend : mix (mk d th) set i (OCt d th) = sS (mk d th) set (OCt d th) → S_cf2 FB (fun L M => Q' (sl L 3 (iAdd (L 3) 1)) M) Q L2 N2 := by
      intro e
      rw [e] at j6
      have hpn := PC_n hn hset.2
      refine cf2_ok FB (sm := sS (mk d th) set (OCt d th)) (ex := EX d th) (fw := N2 67 6) hb (by omega) j4 j6 e4 rfl (fun d1 d2 L3 b3 b2 b1 => ?_) (fun d1 L3 b3 b2 b1 => ?_)
      · rw [j5] at d2
        have r := Rel_new k3 d1 d2 hpn
        refine hQ' _ _ ?_ ⟨?_, (k2.set (Or.inl rfl) _).set (Or.inr rfl) _, ?_⟩
        · simp only [sl_ap, st_fn, Nat.reduceEqDiff, ↓reduceIte, reduceIte, Int.reduceEq, if_true, if_false, b3]
          exact iAdd_id (by omega) (by omega)
        · rw [hsub]
          simp only [sl_ap, st_fn, Nat.reduceEqDiff, ↓reduceIte, reduceIte, Int.reduceEq, if_true, if_false]
          exact b2
        · rw [hsuc]
          simp only [sl_ap, st_fn, Nat.reduceEqDiff, ↓reduceIte, reduceIte, Int.reduceEq, if_true, if_false, b1]
          exact r
      · rw [j5] at d1
        have r := Rel_old k3 d1 hpn
        refine hQ' _ _ ?_ ⟨?_, k2, ?_⟩
        · simp only [sl_ap, st_fn, Nat.reduceEqDiff, ↓reduceIte, reduceIte, Int.reduceEq, if_true, if_false, b3]
          exact iAdd_id (by omega) (by omega)
        · rw [hsub]
          simp only [sl_ap, st_fn, Nat.reduceEqDiff, ↓reduceIte, reduceIte, Int.reduceEq, if_true, if_false]
          exact b2
        · rw [hsuc]
          simp only [sl_ap, st_fn, Nat.reduceEqDiff, ↓reduceIte, reduceIte, Int.reduceEq, if_true, if_false, b1, j5]
          exact r
    have hbits := bi_xor set (set - 1) i
    refine ⟨fun c1 => ⟨fun c2 => ?_, fun c2 => ?_⟩, fun c1 => ?_⟩
    · rw [bit_n (by omega) (by omega)] at c2
      have c2 : bi (set ^^^ (set - 1)) i = 1 := by unfold bi; omega
      have hne := hbits.mp c2
      have hio : i < OCt d th := by omega
      have g := hmk (i : Int) (by omega) (by omega)
      have hm := mix_s (mk d th) set hio
      have hmb := mix_bd (f := mk d th) (B := 100000) (set := set) (i := i) (n := OCt d th) (by omega) fun k a b => ⟨(hmk k a b).1, (hmk k a b).2.1⟩
      have em : d 100 (OAt d th (i : Int)) = mk d th (i : Int) := rfl
      rw [e68, h68 (i : Int) (by omega) (by omega), e18, em, j4, bit_n (by omega) (by omega), j6]
      have hl := bi_lt set i
      have hl2 := bi_lt (set - 1) i
      have hfin : ∀ v, v = mix (mk d th) set (i + 1) (OCt d th) → ∀ u, Q2 (sl (sl (sl L2 6 u) 2 v) 5 (iAdd (i : Int) 1)) N2 := by
        intro v hv u
        rw [iAdd_id (by omega) (by omega)]
        refine hQ2 _ _ ⟨rfl, i + 1, by omega, ?_, ?_, ?_, ?_, ?_⟩ ?_
        all_goals simp only [sl_ap, st_fn, Nat.reduceEqDiff, ↓reduceIte, reduceIte, Int.reduceEq, if_true, if_false]
        · omega
        · exact j3
        · exact j4
        · exact j5
        · exact hv
        · omega
      have hbe : ((set / 2 ^ i % 2 : Nat) : Int) = ((bi set i : Nat) : Int) := rfl
      rw [hbe]
      refine ⟨by omega, by omega, by omega, by omega, fun c3 => ?_, fun c3 => ?_⟩
      · refine hfin _ ?_ _
        rw [hm, if_pos (show bi set i = 1 by omega), if_neg (show ¬ bi (set - 1) i = 1 by omega), iAdd_id (by omega) (by omega)]
        omega
      · refine hfin _ ?_ _
        have en : iNeg (mk d th (i : Int)) = -(mk d th (i : Int)) := x32_id ⟨by omega, by omega⟩
        rw [hm, if_neg (show ¬ bi set i = 1 by omega), if_pos (show bi (set - 1) i = 1 by omega), en, iAdd_id (by omega) (by omega)]
        omega
    · rw [bit_n (by omega) (by omega)] at c2
      have c2 : ¬ bi (set ^^^ (set - 1)) i = 1 := by unfold bi; omega
      have he : bi set i = bi (set - 1) i := Classical.byContradiction fun q => c2 (hbits.mpr q)
      exact hend (mix_end (mk d th) hset.1 he)
    · have hio : i = OCt d th := by omega
      rw [hio] at hend
      exact hend (mix_n (mk d th) set (OCt d th))
  · intro L M' hL ⟨k1, k2, k4⟩
    rw [show (((2 ^ OCt d th : Nat) : Int)).toNat = 2 ^ OCt d th by omega] at k4
    have h := k4.2 hsome
    have hr := (hfr (2 ^ OCt d th)).resolve_left hsome
    refine hQ M' k2 h.1 ?_
    rw [h.2.1]
    unfold bst
    omega
def Lst3 (d M : XM) (th : Int) (M' : XM) : Prop := M' 67 3 = ((OCt d th : Nat) : Int) ∧ M' 67 5 = ((NCt d th : Nat) : Int) ∧ M' 67 6 = ((PC (bst d th) : Nat) : Int) ∧ M' 67 7 = ((bst d th : Nat) : Int) ∧ ∀ i, 0 ≤ i → i < (OCt d th : Int) → M' 68 i = OAt d th i
def S_Doubts_examine_ (FL FU : XF1) (FF : XM → (Int → XM → Prop) → Prop) : XS := sSeq (sPF 67 5 (eK 0)) (sSeq (sPF 67 3 (eK 0)) (sSeq (sSet 2 (eK 0)) (sSeq (sSeq (sSet 3 (eK 0)) (sWhile (cB (fun x y => x < y) (eL 3) (eF 13 0)) (sSeq (sIf (cAnd (cB (fun x y => x = y) (eA 15 150 (eL 3)) (eL 1)) (cZ (fun x => x ≠ 0) (eC1 FL (eL 3)))) (sIf (cZ (fun x => x ≠ 0) (eC1 FU (eL 3))) (sOF 67 5 iAdd (eK 1)) (sIf (cB (fun x y => x = y) (eF 67 3) (eK 12)) (sRetB (eK 0)) (sSeq (sPA 68 12 (eF 67 3) (eL 3)) (sSeq (sOF 67 3 iAdd (eK 1)) (sSet 2 (eB iAdd (eL 2) (eA 18 150 (eL 3)))))))) sSkip) (sInc 3 1)))) (sSeq (sPF 67 4 (eB iSub (eL 2) (eA 6 24 (eL 1)))) (sSeq (sX (eC0 FF)) (sRetB (eK 1)))))))
theorem examine_gen (FL FU : XF1) (FF : XM → (Int → XM → Prop) → Prop) {d M : XM} {th : Int} {Q : Int → XM → Prop} (hB : Base d) (hC : CF d M) (ht : 0 ≤ th ∧ th < d 81 7)
    (hL : ∀ (M : XM) (k : Int) (Q : Int → XM → Prop), CF d M → 0 ≤ k ∧ k < d 81 19 → Q (if clm d k then 1 else 0) M → FL k M Q)
    (hU : ∀ (M : XM) (k : Int) (Q : Int → XM → Prop), CF d M → 0 ≤ k ∧ k < d 81 19 → Q (if nvB d k = true then 1 else 0) M → FU k M Q)
    (hF : ∀ (M : XM) (Q : Int → XM → Prop), OCt d th ≤ 12 → M 67 3 = ((OCt d th : Nat) : Int) → M 67 4 = EX d th → (∀ i, 0 ≤ i → i < (OCt d th : Int) → M 68 i = OAt d th i) → M 18 = d 100 → (∀ M', Dinv d M th M' → M' 67 6 = ((PC (bst d th) : Nat) : Int) → M' 67 7 = ((bst d th : Nat) : Int) → Q 0 M') → FF M Q)
    (q0 : 12 < OCt d th → ∀ M', Only [67, 68] M M' → Q 0 M') (q1 : OCt d th ≤ 12 → ∀ M', Only [67, 68] M M' → Lst3 d M th M' → Q 1 M') : S_Doubts_examine_ FL FU FF (fun _ _ => False) Q (sl (fun _ => 0) 1 th) M := by
  have hs := hB.2.2.2.1.1
  unfold S_Doubts_examine_
  simp only [sSeq, sSet, sInc, sPF, sPA, sPD, sOF, sOA, sX, sIf, sSkip, sRet, sRetB, sRetV, sSw, sSel, eK, eL, eR, eF, eA, eQ, eD, eU, eB, eV, eIf, ePF, eC0, eC1, eC2, eC3, eC4, eC5, eC6, eC7, cB, cZ, cAnd, cOr, cNot, i2l, st_fn, sl_ap, if_true, if_false, ↓reduceIte, reduceIte, Nat.reduceEqDiff, Int.reduceEq, Int.reduceLT, Int.reduceLE, Int.reduceAdd, Int.reduceSub, Int.reduceMul, Int.reduceNeg, and_true, true_and, not_true, not_false_eq_true, true_or, or_true, ne_eq]
  refine while_up 3 0 (d 81 19) (fun x L M' => L 1 = th ∧ Only [67, 68] M M' ∧ oc d th x.toNat ≤ 12 ∧ M' 67 3 = ((oc d th x.toNat : Nat) : Int) ∧ M' 67 5 = ((nc d th x.toNat : Nat) : Int) ∧ L 2 = al d th x.toNat ∧ EqTo (oc d th x.toNat) (M' 68) (oa d th x.toNat)) hs.1 rfl ⟨rfl, (Only.rf.set (by decide) _ _).set (by decide) _ _, by show 0 ≤ 12; omega, by simp only [st_fn, Nat.reduceEqDiff, ↓reduceIte, reduceIte, Int.reduceEq, if_true, if_false]; rfl, by simp only [st_fn, Nat.reduceEqDiff, ↓reduceIte, reduceIte, Int.reduceEq, if_true, if_false]; rfl, rfl, fun i a b => absurd b (by show ¬ i < ((0 : Nat) : Int); omega)⟩ ?_ ?_ ?_
  · intro x L M' P F a1 a2 hL ⟨_, k2, _⟩ hT hF
    simp only [sSeq, sSet, sInc, sPF, sPA, sPD, sOF, sOA, sX, sIf, sSkip, sRet, sRetB, sRetV, sSw, sSel, eK, eL, eR, eF, eA, eQ, eD, eU, eB, eV, eIf, ePF, eC0, eC1, eC2, eC3, eC4, eC5, eC6, eC7, cB, cZ, cAnd, cOr, cNot, i2l, st_fn, sl_ap, if_true, if_false, ↓reduceIte, reduceIte, Nat.reduceEqDiff, Int.reduceEq, Int.reduceLT, Int.reduceLE, Int.reduceAdd, Int.reduceSub, Int.reduceMul, Int.reduceNeg, and_true, true_and, not_true, not_false_eq_true, true_or, or_true, ne_eq, hL]
    rw [((hC.go k2 (by decide)).dcl hB).1]
    exact ⟨hT, hF⟩
  · intro x L M' Q' hx0 hx1 hLx ⟨k1, k2, k3, k4, k5, k6, k7⟩ hQ'
    have hC' := hC.go k2 (by decide)
    obtain ⟨l1, l2, l3, l4, l5, l6, l7, l8, l9, l10, l11⟩ := hC'.dcl hB
    have hsu := o_succ d th hx0
    have g := hB.2.2.2.1.2.2 x hx0 hx1
    have hnl := nc_le d th x.toNat
    have hab : 0 ≤ al d th x.toNat ∧ al d th x.toNat ≤ 15000000 := by
      have hb : ∀ n : Nat, (n : Int) ≤ d 81 19 → 0 ≤ al d th n ∧ al d th n ≤ 100000 * (n : Int) := by
        intro n
        induction n with
        | zero => intro _; exact ⟨Int.le_refl 0, Int.le_refl 0⟩
        | succ n ih =>
          intro hn
          have ih := ih (by omega)
          have gn := hB.2.2.2.1.2.2 (n : Int) (by omega) (by omega)
          have e : al d th (n + 1) = if gvB d th (n : Int) = true ∧ nvB d (n : Int) = false then al d th n + d 100 (n : Int) else al d th n := rfl
          rw [e]
          split <;> omega
      have := hb x.toNat (by omega)
      omega
    simp only [sSeq, sSet, sInc, sPF, sPA, sPD, sOF, sOA, sX, sIf, sSkip, sRet, sRetB, sRetV, sSw, sSel, eK, eL, eR, eF, eA, eQ, eD, eU, eB, eV, eIf, ePF, eC0, eC1, eC2, eC3, eC4, eC5, eC6, eC7, cB, cZ, cAnd, cOr, cNot, i2l, st_fn, sl_ap, if_true, if_false, ↓reduceIte, reduceIte, Nat.reduceEqDiff, Int.reduceEq, Int.reduceLT, Int.reduceLE, Int.reduceAdd, Int.reduceSub, Int.reduceMul, Int.reduceNeg, and_true, true_and, not_true, not_false_eq_true, true_or, or_true, ne_eq, hLx, k1, l5]
    rw [iAdd_id (x := x) (by omega) (by omega)]
    have hskip : gvB d th x = false → Q' (sl L 3 (x + 1)) M' := by
      intro c
      rw [c] at hsu
      simp only [Bool.false_eq_true, false_and, if_false] at hsu
      refine hQ' _ _ rfl ⟨?_, k2, ?_, ?_, ?_, ?_, ?_⟩
      · simp only [sl_ap, st_fn, Nat.reduceEqDiff, ↓reduceIte, reduceIte, Int.reduceEq, if_true, if_false]; exact k1
      · rw [hsu.1]; exact k3
      · rw [hsu.1]; exact k4
      · rw [hsu.2.1]; exact k5
      · simp only [sl_ap, st_fn, Nat.reduceEqDiff, ↓reduceIte, reduceIte, Int.reduceEq, if_true, if_false]; rw [hsu.2.2.2]; exact k6
      · rw [hsu.1, hsu.2.2.1]; exact k7
    refine ⟨hx0, by omega, fun c1 => ?_, fun c1 => hskip (decide_eq_false (fun q => c1 q.1))⟩
    refine hL M' x _ hC' ⟨hx0, hx1⟩ ?_
    by_cases c2 : clm d x
    · rw [if_pos c2]
      have cg : gvB d th x = true := decide_eq_true ⟨c1, c2.2, c2.1⟩
      refine ⟨fun _ => ?_, fun q => absurd q (by simp)⟩
      refine hU M' x _ hC' ⟨hx0, hx1⟩ ?_
      by_cases c3 : nvB d x = true
      · rw [if_pos c3]
        refine ⟨fun _ => ?_, fun q => absurd q (by simp)⟩
        rw [cg, c3] at hsu
        simp only [Bool.true_eq_false, and_false, if_false, and_self, if_true] at hsu
        rw [k5, iAdd_id (by omega) (by omega)]
        refine hQ' _ _ rfl ⟨?_, k2.set (by decide) _ _, ?_, ?_, ?_, ?_, ?_⟩
        · simp only [sl_ap, st_fn, Nat.reduceEqDiff, ↓reduceIte, reduceIte, Int.reduceEq, if_true, if_false]; exact k1
        · rw [hsu.1]; exact k3
        · rw [hsu.1]; simp only [st_fn, Nat.reduceEqDiff, ↓reduceIte, reduceIte, Int.reduceEq, if_true, if_false]; exact k4
        · rw [hsu.2.1]; simp only [st_fn, Nat.reduceEqDiff, ↓reduceIte, reduceIte, Int.reduceEq, if_true, if_false]; omega
        · simp only [sl_ap, st_fn, Nat.reduceEqDiff, ↓reduceIte, reduceIte, Int.reduceEq, if_true, if_false]; rw [hsu.2.2.2]; exact k6
        · rw [hsu.1, hsu.2.2.1, st_ne _ _ _ (by decide)]; exact k7
      · have c3 : nvB d x = false := by simpa using c3
        rw [c3, if_neg (by decide)]
        refine ⟨fun q => absurd q (by simp), fun _ => ?_⟩
        rw [cg, c3] at hsu
        simp only [Bool.false_eq_true, and_false, if_false, and_self, if_true] at hsu
        rw [k4]
        refine ⟨fun c4 => ?_, fun c4 => ?_⟩
        · refine q0 ?_ M' k2
          have hm := oc_mono d th (show (x + 1).toNat ≤ (d 81 19).toNat by omega)
          rw [hsu.1] at hm
          unfold OCt
          omega
        · rw [k6, l8, iAdd_id (x := ((oc d th x.toNat : Nat) : Int)) (by omega) (by omega), iAdd_id (x := al d th x.toNat) (by omega) (by omega)]
          refine ⟨by omega, by omega, hx0, by omega, hQ' _ _ rfl ⟨?_, (k2.set (by decide) _ _).set (by decide) _ _, ?_, ?_, ?_, ?_, ?_⟩⟩
          · simp only [sl_ap, st_fn, Nat.reduceEqDiff, ↓reduceIte, reduceIte, Int.reduceEq, if_true, if_false]; exact k1
          · rw [hsu.1]; omega
          · rw [hsu.1]; simp only [st_fn, Nat.reduceEqDiff, ↓reduceIte, reduceIte, Int.reduceEq, if_true, if_false]; omega
          · rw [hsu.2.1]; simp only [st_fn, Nat.reduceEqDiff, ↓reduceIte, reduceIte, Int.reduceEq, if_true, if_false]; exact k5
          · simp only [sl_ap, st_fn, Nat.reduceEqDiff, ↓reduceIte, reduceIte, Int.reduceEq, if_true, if_false]; rw [hsu.2.2.2]
          · rw [hsu.1, hsu.2.2.1, st_ne _ _ _ (by decide), st_upx]
            intro i i0 i1
            rw [upx_ap, upx_ap]
            by_cases ci : i = ((oc d th x.toNat : Nat) : Int)
            · rw [if_pos ci, if_pos ci]
            · rw [if_neg ci, if_neg ci]
              exact k7 i i0 (by omega)
    · rw [if_neg c2]
      refine ⟨fun q => absurd q (by simp), fun _ => hskip (decide_eq_false (fun q => c2 ⟨q.2.2, q.2.1⟩))⟩
  · intro L M' _ ⟨k1, k2, k3, k4, k5, k6, k7⟩
    have hC' := hC.go k2 (by decide)
    have g := hB.2.2.1.2.2.2.2.1 th ht.1 ht.2
    have v2 := hB.2.2.1.2.1
    have h6 := (hC'.dct hB).2.2.2.2.2.1
    have ha : al d th (d 81 19).toNat = sumN (fun i => d 100 (oa d th (d 81 19).toNat i)) (oc d th (d 81 19).toNat) := al_sum d th _
    have hmk := mk_r hB th
    have hb := sumN_bd (f := fun i => d 100 (oa d th (d 81 19).toNat i)) (B := 100000) (n := oc d th (d 81 19).toNat) fun k a b => by have h9 := hmk k a b; have h10 : mk d th k = d 100 (oa d th (d 81 19).toNat k) := rfl; omega
    rw [k1, k6, h6, iSub_id (by omega) (by omega)]
    refine ⟨ht.1, by omega, hF _ _ k3 ?_ ?_ ?_ ?_ fun M2 o6 e6 e7 => ?_⟩
    · simp only [st_fn, Nat.reduceEqDiff, ↓reduceIte, reduceIte, Int.reduceEq, if_true, if_false]; exact k4
    · simp only [st_fn, Nat.reduceEqDiff, ↓reduceIte, reduceIte, Int.reduceEq, if_true, if_false]; rfl
    · intro i i0 i1
      rw [st_ne _ _ _ (by decide)]
      exact k7 i i0 i1
    · rw [st_ne _ _ _ (by decide)]
      exact (hC'.dcl hB).2.2.2.2.2.2.2.1
    · refine q1 k3 M2 ((k2.set (by decide) _ _).trans o6.1 (by decide) (by decide)) ⟨?_, ?_, e6, e7, fun i i0 i1 => ?_⟩
      · rw [o6.2 3 (by decide) (by decide)]; simp only [st_fn, Nat.reduceEqDiff, ↓reduceIte, reduceIte, Int.reduceEq, if_true, if_false]; exact k4
      · rw [o6.2 5 (by decide) (by decide)]; simp only [st_fn, Nat.reduceEqDiff, ↓reduceIte, reduceIte, Int.reduceEq, if_true, if_false]; exact k5
      · rw [o6.1 68 (by decide), st_ne _ _ _ (by decide)]; exact k7 i i0 i1
