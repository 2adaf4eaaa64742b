/-! ===== doubts: the reference ===== -/
theorem R_isGiven_ok {d M : XM} {k th : Int} {Q : Int → XM → Prop} (hC : RF d M) (hk : 0 ≤ k ∧ k < 150) (hQ : Q (if gvB d th k = true then 1 else 0) M) : F_R_isGiven k th M Q := by
  have e97 : M 97 = d 97 := hC.1 97 (by omega) (by omega) (by decide)
  have e101 : M 101 = d 101 := hC.1 101 (by omega) (by omega) (by decide)
  have hkn := R_kn hC k
  unfold F_R_isGiven S_R_isGiven
  simp (disch := omega) only [sSeq, sSet, sInc, sPF, sPA, sPD, sOF, sOA, sX, sIf, sSkip, sRet, sRetB, sRetV, sSw, sSel, eK, eL, eR, eF, eA, eQ, eD, eU, eB, eV, eIf, ePF, eC0, eC1, eC2, eC3, eC4, eC5, eC6, eC7, cB, cZ, cAnd, cOr, cNot, i2l, st_fn, sl_ap, if_true, if_false, ↓reduceIte, reduceIte, Nat.reduceEqDiff, Int.reduceEq, Int.reduceLT, Int.reduceLE, Int.reduceAdd, Int.reduceSub, Int.reduceMul, Int.reduceNeg, and_true, true_and, not_true, not_false_eq_true, true_or, or_true, ne_eq, F_R_isKnown_iff, b01_ne, e97, e101]
  have h1 : gvB d th k = true → Q 1 M := fun c => by rw [if_pos c] at hQ; exact hQ
  have h0 : gvB d th k = false → Q 0 M := fun c => by rw [c, if_neg (by decide)] at hQ; exact hQ
  refine ⟨hk.1, hk.2, fun c1 => ⟨fun c2 => ⟨hk.1, hk.2, fun c3 => h1 (decide_eq_true ⟨c1, hkn.mp c2, Or.inl c3⟩), fun c3 => ⟨hk.1, hk.2, fun c4 => h1 (decide_eq_true ⟨c1, hkn.mp c2, Or.inr c4⟩), fun c4 => h0 (decide_eq_false (fun q => q.2.2.elim c3 c4))⟩⟩, fun c2 => h0 (decide_eq_false (fun q => c2 (hkn.mpr q.2.1)))⟩, fun c1 => h0 (decide_eq_false (fun q => c1 q.1))⟩
theorem R_isNever_ok {d M : XM} {k : Int} {Q : Int → XM → Prop} (hB : Base d) (hC : RF d M) (hk : 0 ≤ k ∧ k < d 81 19) (hQ : Q (if nvB d k = true then 1 else 0) M) : F_R_isNever k M Q := by
  have e97 : M 97 = d 97 := hC.1 97 (by omega) (by omega) (by decide)
  have e96 : M 96 = d 96 := hC.1 96 (by omega) (by omega) (by decide)
  have e98 : M 98 = d 98 := hC.1 98 (by omega) (by omega) (by decide)
  have e86 : M 86 = d 86 := hC.1 86 (by omega) (by omega) (by decide)
  have e87 : M 87 = d 87 := hC.1 87 (by omega) (by omega) (by decide)
  have e92 : M 92 = d 92 := hC.1 92 (by omega) (by omega) (by decide)
  have e93 : M 93 = d 93 := hC.1 93 (by omega) (by omega) (by decide)
  have g := hB.2.2.2.1.2.2 k hk.1 hk.2
  have hs := hB.2.2.2.1.1
  have v := hB.2.2.1
  have g2 := v.2.2.2.2.1 (d 97 k) (by omega) (by omega)
  have v1 := v.1
  have v2 := v.2.1
  have v3 := v.2.2.1
  unfold F_R_isNever S_R_isNever
  simp (disch := omega) only [sSeq, sSet, sInc, sPF, sPA, sPD, sOF, sOA, sX, sIf, sSkip, sRet, sRetB, sRetV, sSw, sSel, eK, eL, eR, eF, eA, eQ, eD, eU, eB, eV, eIf, ePF, eC0, eC1, eC2, eC3, eC4, eC5, eC6, eC7, cB, cZ, cAnd, cOr, cNot, i2l, st_fn, sl_ap, if_true, if_false, ↓reduceIte, reduceIte, Nat.reduceEqDiff, Int.reduceEq, Int.reduceLT, Int.reduceLE, Int.reduceAdd, Int.reduceSub, Int.reduceMul, Int.reduceNeg, and_true, true_and, not_true, not_false_eq_true, true_or, or_true, ne_eq, F_R_isOpen_iff, b01_ne, e96, e97, e98, e86, e87, e92, e93]
  have q1 : nvB d k = true → Q 1 M := fun c => by rw [if_pos c] at hQ; exact hQ
  have q0 : nvB d k = false → Q 0 M := fun c => by rw [c, if_neg (by decide)] at hQ; exact hQ
  ((repeat' (first | (with_reducible intro _) | (with_reducible refine And.intro ?_ ?_))) <;> try (exfalso; omega))
  all_goals first
    | omega
    | (rename_i c c2; exact q1 (decide_eq_true (Or.inr c2)))
    | (rename_i c c2; exact q0 (decide_eq_false (fun q => q.elim (fun z => z c) c2)))
    | (rename_i c; exact q1 (decide_eq_true (Or.inl c)))
def LstR3 (d : XM) (th : Int) (M' : XM) : Prop := M' 81 48 = ((OCt d th : Nat) : Int) ∧ M' 81 50 = ((NCt d th : Nat) : Int) ∧ M' 81 51 = ((bst d th : Nat) : Int) ∧ ∀ i, 0 ≤ i → i < (OCt d th : Int) → M' 118 i = OAt d th i
def S_fd3 (FO : XF1) : XS := sIf (cAnd (cB (fun x y => x ≤ y) (eB iSub (eL 2) (eL 6)) (eA 89 24 (eL 1))) (cOr (cOr (cB (fun x y => x = y) (eL 3) (eK (-1))) (cB (fun x y => x < y) (eC1 FO (eL 5)) (eC1 FO (eL 3)))) (cAnd (cB (fun x y => x = y) (eC1 FO (eL 5)) (eC1 FO (eL 3))) (cB (fun x y => x < y) (eL 6) (eL 4))))) (sSeq (sSet 3 (eL 5)) (sSet 4 (eL 6))) sSkip
theorem fd3_ok (FO : XF1) {Qn : XL → XM → Prop} {Qr : Int → XM → Prop} {L : XL} {M : XM} {set : Nat} {sm be le all made : Int} {th : Int} (hb : ∀ (n : Nat) (M : XM) (Q : Int → XM → Prop), n < 16777216 → Q ((PC n : Nat) : Int) M → FO (n : Int) M Q) (hset : set < 16777216) (h1 : L 1 = th) (h2 : L 2 = all) (h5 : L 5 = (set : Int)) (h6 : L 6 = sm) (h3 : L 3 = be) (h4 : L 4 = le) (ht : 0 ≤ th ∧ th < 24) (hm : M 89 th = made) (hbe : be = -1 ∨ (0 ≤ be ∧ be < 16777216)) (hall : -1000000000 ≤ all ∧ all ≤ 1000000000) (hsm : -1000000000 ≤ sm ∧ sm ≤ 1000000000)
    (hnew : all - made ≤ sm → (be = -1 ∨ PC set < PC be.toNat ∨ (PC set = PC be.toNat ∧ sm < le)) → ∀ L', L' 1 = th → L' 2 = all → L' 5 = (set : Int) → L' 3 = (set : Int) → L' 4 = sm → Qn L' M)
    (hold : ¬ (all - made ≤ sm ∧ (be = -1 ∨ PC set < PC be.toNat ∨ (PC set = PC be.toNat ∧ sm < le))) → Qn L M) : S_fd3 FO Qn Qr L M := by
  unfold S_fd3
  simp only [sSeq, sSet, sInc, sPF, sPA, sPD, sOF, sOA, sX, sIf, sSkip, sRet, sRetB, sRetV, sSw, sSel, eK, eL, eR, eF, eA, eQ, eD, eU, eB, eV, eIf, ePF, eC0, eC1, eC2, eC3, eC4, eC5, eC6, eC7, cB, cZ, cAnd, cOr, cNot, i2l, st_fn, sl_ap, if_true, if_false, ↓reduceIte, reduceIte, Nat.reduceEqDiff, Int.reduceEq, Int.reduceLT, Int.reduceLE, Int.reduceAdd, Int.reduceSub, Int.reduceMul, Int.reduceNeg, and_true, true_and, not_true, not_false_eq_true, true_or, or_true, ne_eq, h1, h2, h5, h6, h3, h4]
  rw [iSub_id (by omega) (by omega), hm]
  have hN : all - made ≤ sm → (be = -1 ∨ PC set < PC be.toNat ∨ (PC set = PC be.toNat ∧ sm < le)) → Qn (sl (sl L 3 (set : Int)) 4 sm) M := by
    intro a b
    refine hnew a b _ ?_ ?_ ?_ ?_ ?_
    all_goals simp only [sl_ap, st_fn, Nat.reduceEqDiff, ↓reduceIte, reduceIte, Int.reduceEq, if_true, if_false]
    · exact h1
    · exact h2
    · exact h5
  refine ⟨ht.1, ht.2, fun d1 => ⟨fun d2 => hN (by omega) (Or.inl d2), fun d2 => ?_⟩, fun d1 => hold (fun q => d1 (by omega))⟩
  obtain ⟨b, rfl⟩ : ∃ b : Nat, be = (b : Int) := ⟨be.toNat, by omega⟩
  have hb16 : b < 16777216 := by omega
  rw [Int.toNat_natCast] at hN hold
  refine hb set M _ hset (hb b M _ hb16 ?_)
  refine ⟨fun d3 => hN (by omega) (Or.inr (Or.inl (by omega))), fun d3 => ?_⟩
  refine hb set M _ hset (hb b M _ hb16 ?_)
  refine ⟨fun d4 => ⟨fun d5 => hN (by omega) (Or.inr (Or.inr ⟨by omega, d5⟩)), fun d5 => hold (fun q => ?_)⟩, fun d4 => hold (fun q => ?_)⟩
  · rcases q.2 with q | q | q
    · exact d2 q
    · exact d3 (by omega)
    · exact d5 q.2
  · rcases q.2 with q | q | q
    · exact d2 q
    · exact d3 (by omega)
    · exact d4 (by omega)
def S_R_findDoubts_ (FG : XF2) (FN FO : XF1) : XS := sSeq (sPF 81 48 (eK 0)) (sSeq (sPF 81 50 (eK 0)) (sSeq (sSet 2 (eK 0)) (sSeq (sSeq (sSet 3 (eK 0)) (sWhile (cB (fun x y => x < y) (eL 3) (eF 81 19)) (sSeq (sIf (cZ (fun x => x ≠ 0) (eC2 FG (eL 3) (eL 1))) (sIf (cZ (fun x => x ≠ 0) (eC1 FN (eL 3))) (sOF 81 50 iAdd (eK 1)) (sSeq (sPA 118 150 (eF 81 48) (eL 3)) (sSeq (sOF 81 48 iAdd (eK 1)) (sSet 2 (eB iAdd (eL 2) (eA 100 150 (eL 3))))))) sSkip) (sInc 3 1)))) (sSeq (sPF 81 51 (eK 0)) (sSeq (sIf (cB (fun x y => y < x) (eF 81 48) (eK 12)) (sRetB (eK 0)) sSkip) (sSeq (sSet 3 (eK (-1))) (sSeq (sSet 4 (eK 0)) (sSeq (sSeq (sSet 5 (eK 0)) (sWhile (cB (fun x y => x < y) (eL 5) (eB iShl (eK 1) (eF 81 48))) (sSeq (sSeq (sSet 6 (eK 0)) (sSeq (sSeq (sSet 7 (eK 0)) (sWhile (cB (fun x y => x < y) (eL 7) (eF 81 48)) (sSeq (sSet 6 (eB iAdd (eL 6) (eIf (cB (fun x y => x = y) (eB iAnd (eB iShr (eL 5) (eL 7)) (eK 1)) (eK 1)) (eA 100 150 (eA 118 150 (eL 7))) (eK 0)))) (sInc 7 1)))) (S_fd3 FO))) (sInc 5 1)))) (sSeq (sPF 81 51 (eL 3)) (sRetB (eK 1)))))))))))
theorem S_R_findDoubts_eq : S_R_findDoubts = S_R_findDoubts_ F_R_isGiven F_R_isNever F_R_ones := rfl
theorem al_bd {d : XM} (hB : Base d) (th : Int) : ∀ n : Nat, (n : Int) ≤ d 81 19 → 0 ≤ al d th n ∧ al d th n ≤ 100000 * (n : Int)
  | 0, _ => ⟨Int.le_refl 0, Int.le_refl 0⟩
  | n + 1, hn => by
    have ih := al_bd hB th n (by omega)
    have gn := hB.2.2.2.1.2.2 (n : Int) (by omega) (by omega)
    have e : al d th (n + 1) = if gvB d th (n : Int) = true ∧ nvB d (n : Int) = false then al d th n + d 100 (n : Int) else al d th n := rfl
    rw [e]
    split <;> omega
theorem findDoubts_gen (FG : XF2) (FN FO : XF1) {d M : XM} {th : Int} {Q : Int → XM → Prop} (hB : Base d) (hC : RF d M) (ht : 0 ≤ th ∧ th < d 81 7)
    (hG : ∀ (M : XM) (k : Int) (Q : Int → XM → Prop), RF d M → 0 ≤ k ∧ k < d 81 19 → Q (if gvB d th k = true then 1 else 0) M → FG k th M Q)
    (hN : ∀ (M : XM) (k : Int) (Q : Int → XM → Prop), RF d M → 0 ≤ k ∧ k < d 81 19 → Q (if nvB d k = true then 1 else 0) M → FN k M Q)
    (hO : ∀ (n : Nat) (M : XM) (Q : Int → XM → Prop), n < 16777216 → Q ((PC n : Nat) : Int) M → FO (n : Int) M Q)
    (q0 : 12 < OCt d th → ∀ M', OnlyR [118] [48, 50, 51] M M' → Q 0 M') (q1 : OCt d th ≤ 12 → ∀ M', OnlyR [118] [48, 50, 51] M M' → LstR3 d th M' → Q 1 M') : S_R_findDoubts_ FG FN FO (fun _ _ => False) Q (sl (fun _ => 0) 1 th) M := by
  have hs := hB.2.2.2.1.1
  have v2 := hB.2.2.1.2.1
  unfold S_R_findDoubts_
  simp only [sSeq, sSet, sInc, sPF, sPA, sPD, sOF, sOA, sX, sIf, sSkip, sRet, sRetB, sRetV, sSw, sSel, eK, eL, eR, eF, eA, eQ, eD, eU, eB, eV, eIf, ePF, eC0, eC1, eC2, eC3, eC4, eC5, eC6, eC7, cB, cZ, cAnd, cOr, cNot, i2l, st_fn, sl_ap, if_true, if_false, ↓reduceIte, reduceIte, Nat.reduceEqDiff, Int.reduceEq, Int.reduceLT, Int.reduceLE, Int.reduceAdd, Int.reduceSub, Int.reduceMul, Int.reduceNeg, and_true, true_and, not_true, not_false_eq_true, true_or, or_true, ne_eq]
  refine while_up 3 0 (d 81 19) (fun x L M' => L 1 = th ∧ OnlyR [118] [48, 50, 51] M M' ∧ M' 81 48 = ((oc d th x.toNat : Nat) : Int) ∧ M' 81 50 = ((nc d th x.toNat : Nat) : Int) ∧ L 2 = al d th x.toNat ∧ EqTo (oc d th x.toNat) (M' 118) (oa d th x.toNat)) hs.1 rfl ⟨rfl, (OnlyR.rf.setF (by decide) _).setF (by decide) _, by simp only [st_fn, Nat.reduceEqDiff, ↓reduceIte, reduceIte, Int.reduceEq, if_true, if_false]; rfl, by simp only [st_fn, Nat.reduceEqDiff, ↓reduceIte, reduceIte, Int.reduceEq, if_true, if_false]; rfl, rfl, fun i a b => absurd b (by show ¬ i < ((0 : Nat) : Int); omega)⟩ ?_ ?_ ?_
  · intro x L M' P F a1 a2 hL ⟨_, k2, _⟩ hT hF
    simp only [sSeq, sSet, sInc, sPF, sPA, sPD, sOF, sOA, sX, sIf, sSkip, sRet, sRetB, sRetV, sSw, sSel, eK, eL, eR, eF, eA, eQ, eD, eU, eB, eV, eIf, ePF, eC0, eC1, eC2, eC3, eC4, eC5, eC6, eC7, cB, cZ, cAnd, cOr, cNot, i2l, st_fn, sl_ap, if_true, if_false, ↓reduceIte, reduceIte, Nat.reduceEqDiff, Int.reduceEq, Int.reduceLT, Int.reduceLE, Int.reduceAdd, Int.reduceSub, Int.reduceMul, Int.reduceNeg, and_true, true_and, not_true, not_false_eq_true, true_or, or_true, ne_eq, hL]
    rw [(hC.go k2 (by decide) (by decide)).2.1 19 (by decide)]
    exact ⟨hT, hF⟩
  · intro x L M' Q' hx0 hx1 hLx ⟨k1, k2, k4, k5, k6, k7⟩ hQ'
    have hC' := hC.go k2 (by decide) (by decide)
    have hsu := o_succ d th hx0
    have g := hB.2.2.2.1.2.2 x hx0 hx1
    have hnl := nc_le d th x.toNat
    have hol := oc_le d th x.toNat
    have hab := al_bd hB th x.toNat (by omega)
    have e100 : M' 100 = d 100 := hC'.1 100 (by omega) (by omega) (by decide)
    simp only [sSeq, sSet, sInc, sPF, sPA, sPD, sOF, sOA, sX, sIf, sSkip, sRet, sRetB, sRetV, sSw, sSel, eK, eL, eR, eF, eA, eQ, eD, eU, eB, eV, eIf, ePF, eC0, eC1, eC2, eC3, eC4, eC5, eC6, eC7, cB, cZ, cAnd, cOr, cNot, i2l, st_fn, sl_ap, if_true, if_false, ↓reduceIte, reduceIte, Nat.reduceEqDiff, Int.reduceEq, Int.reduceLT, Int.reduceLE, Int.reduceAdd, Int.reduceSub, Int.reduceMul, Int.reduceNeg, and_true, true_and, not_true, not_false_eq_true, true_or, or_true, ne_eq, hLx, k1]
    rw [iAdd_id (x := x) (by omega) (by omega)]
    refine hG M' x _ hC' ⟨hx0, hx1⟩ ?_
    by_cases cg : gvB d th x = true
    · rw [if_pos cg]
      refine ⟨fun _ => ?_, fun q => absurd q (by simp)⟩
      refine hN M' x _ hC' ⟨hx0, hx1⟩ ?_
      by_cases c3 : nvB d x = true
      · rw [if_pos c3]
        refine ⟨fun _ => ?_, fun q => absurd q (by simp)⟩
        rw [cg, c3] at hsu
        simp only [Bool.true_eq_false, and_false, if_false, and_self, if_true] at hsu
        rw [k5, iAdd_id (by omega) (by omega)]
        refine hQ' _ _ rfl ⟨?_, k2.setF (by decide) _, ?_, ?_, ?_, ?_⟩
        · simp only [sl_ap, st_fn, Nat.reduceEqDiff, ↓reduceIte, reduceIte, Int.reduceEq, if_true, if_false]; exact k1
        · rw [hsu.1]; simp only [st_fn, Nat.reduceEqDiff, ↓reduceIte, reduceIte, Int.reduceEq, if_true, if_false]; exact k4
        · rw [hsu.2.1]; simp only [st_fn, Nat.reduceEqDiff, ↓reduceIte, reduceIte, Int.reduceEq, if_true, if_false]; omega
        · simp only [sl_ap, st_fn, Nat.reduceEqDiff, ↓reduceIte, reduceIte, Int.reduceEq, if_true, if_false]; rw [hsu.2.2.2]; exact k6
        · rw [hsu.1, hsu.2.2.1, st_ne _ _ _ (by decide)]; exact k7
      · have c3 : nvB d x = false := by simpa using c3
        rw [c3, if_neg (by decide)]
        refine ⟨fun q => absurd q (by simp), fun _ => ?_⟩
        rw [cg, c3] at hsu
        simp only [Bool.false_eq_true, and_false, if_false, and_self, if_true] at hsu
        rw [k4, k6, e100, iAdd_id (x := ((oc d th x.toNat : Nat) : Int)) (by omega) (by omega), iAdd_id (x := al d th x.toNat) (by omega) (by omega)]
        refine ⟨by omega, by omega, hx0, by omega, hQ' _ _ rfl ⟨?_, (k2.set (by decide) (by decide) _ _).setF (by decide) _, ?_, ?_, ?_, ?_⟩⟩
        · simp only [sl_ap, st_fn, Nat.reduceEqDiff, ↓reduceIte, reduceIte, Int.reduceEq, if_true, if_false]; exact k1
        · rw [hsu.1]; simp only [st_fn, Nat.reduceEqDiff, ↓reduceIte, reduceIte, Int.reduceEq, if_true, if_false]; omega
        · rw [hsu.2.1]; simp only [st_fn, Nat.reduceEqDiff, ↓reduceIte, reduceIte, Int.reduceEq, if_true, if_false]; exact k5
        · simp only [sl_ap, st_fn, Nat.reduceEqDiff, ↓reduceIte, reduceIte, Int.reduceEq, if_true, if_false]; rw [hsu.2.2.2]
        · rw [hsu.1, hsu.2.2.1, st_ne _ _ _ (by decide), st_upx]
          intro i i0 i1
          rw [upx_ap, upx_ap]
          by_cases ci : i = ((oc d th x.toNat : Nat) : Int)
          · rw [if_pos ci, if_pos ci]
          · rw [if_neg ci, if_neg ci]
            exact k7 i i0 (by omega)
    · have cg : gvB d th x = false := by simpa using cg
      rw [cg, if_neg (by decide)]
      refine ⟨fun q => absurd q (by simp), fun _ => ?_⟩
      rw [cg] at hsu
      simp only [Bool.false_eq_true, false_and, if_false] at hsu
      refine hQ' _ _ rfl ⟨?_, k2, ?_, ?_, ?_, ?_⟩
      · simp only [sl_ap, st_fn, Nat.reduceEqDiff, ↓reduceIte, reduceIte, Int.reduceEq, if_true, if_false]; exact k1
      · rw [hsu.1]; exact k4
      · rw [hsu.2.1]; exact k5
      · simp only [sl_ap, st_fn, Nat.reduceEqDiff, ↓reduceIte, reduceIte, Int.reduceEq, if_true, if_false]; rw [hsu.2.2.2]; exact k6
      · rw [hsu.1, hsu.2.2.1]; exact k7
  intro L1 M1 _ ⟨k1, k2, k4, k5, k6, k7⟩
  have k2' : OnlyR [118] [48, 50, 51] M (st M1 81 51 0) := k2.setF (by decide) _
  have k4' : (st M1 81 51 0) 81 48 = ((OCt d th : Nat) : Int) := by simp only [st_fn, Nat.reduceEqDiff, ↓reduceIte, reduceIte, Int.reduceEq, if_true, if_false]; exact k4
  have k5' : (st M1 81 51 0) 81 50 = ((NCt d th : Nat) : Int) := by simp only [st_fn, Nat.reduceEqDiff, ↓reduceIte, reduceIte, Int.reduceEq, if_true, if_false]; exact k5
  have k7' : EqTo (OCt d th) ((st M1 81 51 0) 118) (OAt d th) := by rw [st_ne _ _ _ (by decide)]; exact k7
  have e48 : M1 81 48 = ((OCt d th : Nat) : Int) := k4
  generalize st M1 81 51 0 = N at *
  rw [e48]
  refine ⟨fun c => q0 (by omega) N k2', fun c => ?_⟩
  have hn : OCt d th ≤ 12 := by omega
  have hCN := hC.go k2' (by decide) (by decide)
  have hmk := mk_r hB th
  have h2p : 2 ^ OCt d th ≤ 4096 := Nat.pow_le_pow_right (by omega) hn
  have h2q := Nat.two_pow_pos (OCt d th)
  have hsome := rF_some hB ht hn
  have hfr := rF_r d th
  have hab := al_bd hB th (d 81 19).toNat (by omega)
  have hmd := hB.2.2.1.2.2.2.2.1 th ht.1 ht.2
  have n100 : N 100 = d 100 := hCN.1 100 (by omega) (by omega) (by decide)
  have n89 : N 89 = d 89 := hCN.1 89 (by omega) (by omega) (by decide)
  refine while_up 5 0 ((2 ^ OCt d th : Nat) : Int) (fun x L M' => M' = N ∧ L 1 = th ∧ L 2 = al d th (d 81 19).toNat ∧ L 3 = (rF d th x.toNat).1 ∧ L 4 = (rF d th x.toNat).2) (by omega) rfl ⟨rfl, by simp only [sl_ap, st_fn, Nat.reduceEqDiff, ↓reduceIte, reduceIte, Int.reduceEq, if_true, if_false]; exact k1, by simp only [sl_ap, st_fn, Nat.reduceEqDiff, ↓reduceIte, reduceIte, Int.reduceEq, if_true, if_false]; exact k6, by simp only [sl_ap, st_fn, Nat.reduceEqDiff, ↓reduceIte, reduceIte, Int.reduceEq, if_true, if_false]; rfl, by simp only [sl_ap, st_fn, Nat.reduceEqDiff, ↓reduceIte, reduceIte, Int.reduceEq, if_true, if_false]; rfl⟩ ?_ ?_ ?_
  · intro x L M' P F a1 a2 hL ⟨b0, _⟩ hT hF
    subst b0
    simp only [sSeq, sSet, sInc, sPF, sPA, sPD, sOF, sOA, sX, sIf, sSkip, sRet, sRetB, sRetV, sSw, sSel, eK, eL, eR, eF, eA, eQ, eD, eU, eB, eV, eIf, ePF, eC0, eC1, eC2, eC3, eC4, eC5, eC6, eC7, cB, cZ, cAnd, cOr, cNot, i2l, st_fn, sl_ap, if_true, if_false, ↓reduceIte, reduceIte, Nat.reduceEqDiff, Int.reduceEq, Int.reduceLT, Int.reduceLE, Int.reduceAdd, Int.reduceSub, Int.reduceMul, Int.reduceNeg, and_true, true_and, not_true, not_false_eq_true, true_or, or_true, ne_eq, hL, k4']
    rw [iShl_n (by omega)]
    exact ⟨hT, hF⟩
  · intro x L M' Q' hx0 hx1 hL ⟨b0, b1, b2, b3, b4⟩ hQ'
    subst b0
    obtain ⟨set, rfl⟩ : ∃ s : Nat, x = (s : Int) := ⟨x.toNat, by omega⟩
    have hsuc : ((set : Int) + 1).toNat = set + 1 := by omega
    rw [Int.toNat_natCast] at b3 b4
    have hsb := sS_bd (f := mk d th) (B := 100000) (set := set) (n := OCt d th) (by omega) fun k a b => ⟨(hmk k a b).1, (hmk k a b).2.1⟩
    simp only [sSeq, sSet, sInc, sPF, sPA, sPD, sOF, sOA, sX, sIf, sSkip, sRet, sRetB, sRetV, sSw, sSel, eK, eL, eR, eF, eA, eQ, eD, eU, eB, eV, eIf, ePF, eC0, eC1, eC2, eC3, eC4, eC5, eC6, eC7, cB, cZ, cAnd, cOr, cNot, i2l, st_fn, sl_ap, if_true, if_false, ↓reduceIte, reduceIte, Nat.reduceEqDiff, Int.reduceEq, Int.reduceLT, Int.reduceLE, Int.reduceAdd, Int.reduceSub, Int.reduceMul, Int.reduceNeg, and_true, true_and, not_true, not_false_eq_true, true_or, or_true, ne_eq, hL]
    refine while_up 7 0 ((OCt d th : Nat) : Int) (fun y L2 N2 => N2 = M' ∧ L2 1 = th ∧ L2 2 = al d th (d 81 19).toNat ∧ L2 3 = L 3 ∧ L2 4 = L 4 ∧ L2 5 = (set : Int) ∧ L2 6 = sS (mk d th) set y.toNat) (by omega) rfl ⟨rfl, by simp only [sl_ap, st_fn, Nat.reduceEqDiff, ↓reduceIte, reduceIte, Int.reduceEq, if_true, if_false]; exact b1, by simp only [sl_ap, st_fn, Nat.reduceEqDiff, ↓reduceIte, reduceIte, Int.reduceEq, if_true, if_false]; exact b2, by simp only [sl_ap, st_fn, Nat.reduceEqDiff, ↓reduceIte, reduceIte, Int.reduceEq, if_true, if_false], by simp only [sl_ap, st_fn, Nat.reduceEqDiff, ↓reduceIte, reduceIte, Int.reduceEq, if_true, if_false], by simp only [sl_ap, st_fn, Nat.reduceEqDiff, ↓reduceIte, reduceIte, Int.reduceEq, if_true, if_false]; exact hL, by simp only [sl_ap, st_fn, Nat.reduceEqDiff, ↓reduceIte, reduceIte, Int.reduceEq, if_true, if_false]; rfl⟩ ?_ ?_ ?_
    · intro y L2 N2 P F a1 a2 hL2 ⟨c0, _⟩ hT hF
      subst c0
      simp only [sSeq, sSet, sInc, sPF, sPA, sPD, sOF, sOA, sX, sIf, sSkip, sRet, sRetB, sRetV, sSw, sSel, eK, eL, eR, eF, eA, eQ, eD, eU, eB, eV, eIf, ePF, eC0, eC1, eC2, eC3, eC4, eC5, eC6, eC7, cB, cZ, cAnd, cOr, cNot, i2l, st_fn, sl_ap, if_true, if_false, ↓reduceIte, reduceIte, Nat.reduceEqDiff, Int.reduceEq, Int.reduceLT, Int.reduceLE, Int.reduceAdd, Int.reduceSub, Int.reduceMul, Int.reduceNeg, and_true, true_and, not_true, not_false_eq_true, true_or, or_true, ne_eq, hL2, k4']
      exact ⟨hT, hF⟩
    · intro y L2 N2 Q2 hy0 hy1 hL2 ⟨c0, c1, c2, c3, c4, c5, c6⟩ hQ2
      subst c0
      have gy := hmk y hy0 hy1
      have hsy := sS_bd (f := mk d th) (B := 100000) (set := set) (n := y.toNat) (by omega) fun k a b => ⟨(hmk k a (by omega)).1, (hmk k a (by omega)).2.1⟩
      have hst : sS (mk d th) set (y + 1).toNat = sS (mk d th) set y.toNat + (if bi set y.toNat = 1 then mk d th y else 0) := sumN_succ _ hy0
      have em : d 100 (OAt d th y) = mk d th y := rfl
      simp only [sSeq, sSet, sInc, sPF, sPA, sPD, sOF, sOA, sX, sIf, sSkip, sRet, sRetB, sRetV, sSw, sSel, eK, eL, eR, eF, eA, eQ, eD, eU, eB, eV, eIf, ePF, eC0, eC1, eC2, eC3, eC4, eC5, eC6, eC7, cB, cZ, cAnd, cOr, cNot, i2l, st_fn, sl_ap, if_true, if_false, ↓reduceIte, reduceIte, Nat.reduceEqDiff, Int.reduceEq, Int.reduceLT, Int.reduceLE, Int.reduceAdd, Int.reduceSub, Int.reduceMul, Int.reduceNeg, and_true, true_and, not_true, not_false_eq_true, true_or, or_true, ne_eq, hL2, c5, c6, k7' y hy0 hy1, n100, em]
      rw [show y = ((y.toNat : Nat) : Int) by omega, bit_n (by omega) (by omega)]
      rw [show ((y.toNat : Nat) : Int) = y by omega, iAdd_id (x := y) (by omega) (by omega)]
      have hfin : ∀ v, v = sS (mk d th) set (y + 1).toNat → Q2 (sl (sl L2 6 v) 7 (y + 1)) N2 := by
        intro v hv
        refine hQ2 _ _ rfl ⟨rfl, ?_, ?_, ?_, ?_, ?_, ?_⟩
        all_goals simp only [sl_ap, st_fn, Nat.reduceEqDiff, ↓reduceIte, reduceIte, Int.reduceEq, if_true, if_false]
        · exact c1
        · exact c2
        · exact c3
        · exact c4
        · exact c5
        · exact hv
      have hbe : ((set / 2 ^ y.toNat % 2 : Nat) : Int) = ((bi set y.toNat : Nat) : Int) := rfl
      rw [hbe]
      have hl := bi_lt set y.toNat
      refine ⟨fun c7 => ⟨by omega, by omega, by omega, by omega, hfin _ ?_⟩, fun c7 => hfin _ ?_⟩
      · rw [hst, if_pos (by omega)]
        exact iAdd_id (by omega) (by omega)
      · rw [hst, if_neg (by omega)]
        exact iAdd_id (by omega) (by omega)
    · intro L2 N2 _ ⟨c0, c1, c2, c3, c4, c5, c6⟩
      subst c0
      rw [Int.toNat_natCast] at c6
      have hr := hfr set
      refine fd3_ok FO (made := d 89 th) hO (by omega) c1 c2 c5 c6 (c3.trans b3) (c4.trans b4) ⟨ht.1, by omega⟩ (by rw [n89]) (by omega) (by omega) (by omega) (fun d1 d2 L3 e1 e2 e5 e3 e4 => ?_) (fun d1 => ?_)
      · have er : rF d th (set + 1) = ((set : Int), sS (mk d th) set (OCt d th)) := by
          rw [rF_succ, if_pos]
          exact ⟨d1, d2⟩
        refine hQ' _ _ ?_ ⟨rfl, ?_, ?_, ?_, ?_⟩
        · simp only [sl_ap, st_fn, Nat.reduceEqDiff, ↓reduceIte, reduceIte, Int.reduceEq, if_true, if_false, e5]
          exact iAdd_id (by omega) (by omega)
        · simp only [sl_ap, st_fn, Nat.reduceEqDiff, ↓reduceIte, reduceIte, Int.reduceEq, if_true, if_false]; exact e1
        · simp only [sl_ap, st_fn, Nat.reduceEqDiff, ↓reduceIte, reduceIte, Int.reduceEq, if_true, if_false]; exact e2
        · rw [hsuc, er]; simp only [sl_ap, st_fn, Nat.reduceEqDiff, ↓reduceIte, reduceIte, Int.reduceEq, if_true, if_false]; exact e3
        · rw [hsuc, er]; simp only [sl_ap, st_fn, Nat.reduceEqDiff, ↓reduceIte, reduceIte, Int.reduceEq, if_true, if_false]; exact e4
      · have er : rF d th (set + 1) = rF d th set := by
          rw [rF_succ, if_neg]
          exact d1
        refine hQ' _ _ ?_ ⟨rfl, ?_, ?_, ?_, ?_⟩
        · simp only [sl_ap, st_fn, Nat.reduceEqDiff, ↓reduceIte, reduceIte, Int.reduceEq, if_true, if_false, c5]
          exact iAdd_id (by omega) (by omega)
        · simp only [sl_ap, st_fn, Nat.reduceEqDiff, ↓reduceIte, reduceIte, Int.reduceEq, if_true, if_false]; exact c1
        · simp only [sl_ap, st_fn, Nat.reduceEqDiff, ↓reduceIte, reduceIte, Int.reduceEq, if_true, if_false]; exact c2
        · rw [hsuc, er]; simp only [sl_ap, st_fn, Nat.reduceEqDiff, ↓reduceIte, reduceIte, Int.reduceEq, if_true, if_false]; exact c3.trans b3
        · rw [hsuc, er]; simp only [sl_ap, st_fn, Nat.reduceEqDiff, ↓reduceIte, reduceIte, Int.reduceEq, if_true, if_false]; exact c4.trans b4
  · intro L M' _ ⟨b0, b1, b2, b3, b4⟩
    subst b0
    rw [Int.toNat_natCast] at b3
    have hr := (hfr (2 ^ OCt d th)).resolve_left hsome
    refine q1 hn _ (k2'.setF (by decide) _) ⟨?_, ?_, ?_, fun i i0 i1 => ?_⟩
    · simp only [st_fn, Nat.reduceEqDiff, ↓reduceIte, reduceIte, Int.reduceEq, if_true, if_false]; exact k4'
    · simp only [st_fn, Nat.reduceEqDiff, ↓reduceIte, reduceIte, Int.reduceEq, if_true, if_false]; exact k5'
    · simp only [st_fn, Nat.reduceEqDiff, ↓reduceIte, reduceIte, Int.reduceEq, if_true, if_false]
      rw [b3]
      unfold bst
      omega
    · rw [st_ne _ _ _ (by decide)]
      exact k7' i i0 i1
