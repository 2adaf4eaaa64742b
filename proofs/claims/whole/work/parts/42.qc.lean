/-! ===== doubts: the reference ===== -/
theorem R_isGiven_ok {d M : XM} {k th : Int} {Q : Int → XM → Prop} (hC : RF d M) (hk : 0 ≤ k ∧ k < 150) (hQ : Q (if gvB d th k = true then 1 else 0) M) : F_R_isGiven k th M Q := by
  have e97 : M 97 = d 97 := hC.1 97 (by omega) (by omega) (by decide)
  have e101 : M 101 = d 101 := hC.1 101 (by omega) (by omega) (by decide)
  have hkn := R_kn hC k
  unfold F_R_isGiven S_R_isGiven
  simp (disch := omega) only [sSeq, sSet, sInc, sPF, sPA, sPD, sOF, sOA, sX, sIf, sSkip, sRet, sRetB, sRetV, sSw, sSel, eK, eL, eR, eF, eA, eQ, eD, eU, eB, eV, eIf, ePF, eC0, eC1, eC2, eC3, eC4, eC5, eC6, eC7, cB, cZ, cAnd, cOr, cNot, i2l, st_fn, sl_ap, if_true, if_false, ↓reduceIte, reduceIte, Nat.reduceEqDiff, Int.reduceEq, Int.reduceLT, Int.reduceLE, Int.reduceAdd, Int.reduceSub, Int.reduceMul, Int.reduceNeg, and_true, true_and, not_true, not_false_eq_true, true_or, or_true, ne_eq, F_R_isKnown_iff, b01_ne, e97, e101]
  have h1 : gvB d th k = true → Q 1 M := fun c => by rw [if_pos c] at hQ; exact hQ
  have h0 : gvB d th k = false → Q 0 M := fun c => by rw [c, if_neg (by decide)] at hQ; exact hQ
  refine ⟨hk.1, hk.2, fun c1 => ⟨fun c2 => ⟨hk.1, hk.2, fun c3 => h1 (decide_eq_true ⟨c1, hkn.mp c2, Or.inl c3⟩), fun c3 => ⟨hk.1, hk.2, fun c4 => h1 (decide_eq_true ⟨c1, hkn.mp c2, Or.inr c4⟩), fun c4 => h0 (decide_eq_false (fun q => q.2.2.elim c3 c4))⟩⟩, fun c2 => h0 (decide_eq_false (fun q => c2 (hkn.mpr q.2.1)))⟩, fun c1 => h0 (decide_eq_false (fun q => c1 q.1))⟩
theorem R_isNever_ok {d M : XM} {k : Int} {Q : Int → XM → Prop} (hB : Base d) (hC : RF d M) (hk : 0 ≤ k ∧ k < d 81 19) (hQ : Q (if nvB d k = true then 1 else 0) M) : F_R_isNever k M Q := by
  have e97 : M 97 = d 97 := hC.1 97 (by omega) (by omega) (by decide)
  have e96 : M 96 = d 96 := hC.1 96 (by omega) (by omega) (by decide)
  have e98 : M 98 = d 98 := hC.1 98 (by omega) (by omega) (by decide)
  have e86 : M 86 = d 86 := hC.1 86 (by omega) (by omega) (by decide)
  have e87 : M 87 = d 87 := hC.1 87 (by omega) (by omega) (by decide)
  have e92 : M 92 = d 92 := hC.1 92 (by omega) (by omega) (by decide)
  have e93 : M 93 = d 93 := hC.1 93 (by omega) (by omega) (by decide)
  have g := hB.2.2.2.1.2.2 k hk.1 hk.2
  have hs := hB.2.2.2.1.1
  have v := hB.2.2.1
  have g2 := v.2.2.2.2.1 (d 97 k) (by omega) (by omega)
  have v1 := v.1
  have v2 := v.2.1
  have v3 := v.2.2.1
  unfold F_R_isNever S_R_isNever
  simp (disch := omega) only [sSeq, sSet, sInc, sPF, sPA, sPD, sOF, sOA, sX, sIf, sSkip, sRet, sRetB, sRetV, sSw, sSel, eK, eL, eR, eF, eA, eQ, eD, eU, eB, eV, eIf, ePF, eC0, eC1, eC2, eC3, eC4, eC5, eC6, eC7, cB, cZ, cAnd, cOr, cNot, i2l, st_fn, sl_ap, if_true, if_false, ↓reduceIte, reduceIte, Nat.reduceEqDiff, Int.reduceEq, Int.reduceLT, Int.reduceLE, Int.reduceAdd, Int.reduceSub, Int.reduceMul, Int.reduceNeg, and_true, true_and, not_true, not_false_eq_true, true_or, or_true, ne_eq, F_R_isOpen_iff, b01_ne, e96, e97, e98, e86, e87, e92, e93]
  have q1 : nvB d k = true → Q 1 M := fun c => by rw [if_pos c] at hQ; exact hQ
  have q0 : nvB d k = false → Q 0 M := fun c => by rw [c, if_neg (by decide)] at hQ; exact hQ
  ((repeat' (first | (with_reducible intro _) | (with_reducible refine And.intro ?_ ?_))) <;> try (exfalso; omega))
  all_goals first
    | omega
    | (rename_i c c2; exact q1 (decide_eq_true (Or.inr c2)))
    | (rename_i c c2; exact q0 (decide_eq_false (fun q => q.elim (fun z => z c) c2)))
    | (rename_i c; exact q1 (decide_eq_true (Or.inl c)))
def LstR3 (d : XM) (th : Int) (M' : XM) : Prop := M' 81 48 = ((OCt d th : Nat) : Int) ∧ M' 81 50 = ((NCt d th : Nat) : Int) ∧ M' 81 51 = ((bst d th : Nat) : Int) ∧ ∀ i, 0 ≤ i → i < (OCt d th : Int) → M' 118 i = OAt d th i
def S_fd3 (FO : XF1) : XS := sIf (cAnd (cB (fun x y => x ≤ y) (eB iSub (eL 2) (eL 6)) (eA 89 24 (eL 1))) (cOr (cOr (cB (fun x y => x = y) (eL 3) (eK (-1))) (cB (fun x y => x < y) (eC1 FO (eL 5)) (eC1 FO (eL 3)))) (cAnd (cB (fun x y => x = y) (eC1 FO (eL 5)) (eC1 FO (eL 3))) (cB (fun x y => x < y) (eL 6) (eL 4))))) (sSeq (sSet 3 (eL 5)) (sSet 4 (eL 6))) sSkip
theorem fd3_ok (FO : XF1) {Qn : XL → XM → Prop} {Qr : Int → XM → Prop} {L : XL} {M : XM} {set : Nat} {sm ex be le all made : Int} {th : Int} (hb : ∀ (n : Nat) (M : XM) (Q : Int → XM → Prop), n < 16777216 → Q ((PC n : Nat) : Int) M → FO (n : Int) M Q) (hset : set < 16777216) (h1 : L 1 = th) (h2 : L 2 = all) (h5 : L 5 = (set : Int)) (h6 : L 6 = sm) (h3 : L 3 = be) (h4 : L 4 = le) (ht : 0 ≤ th ∧ th < 24) (hm : M 89 th = made) (hbe : be = -1 ∨ (0 ≤ be ∧ be < 16777216)) (hall : -1000000000 ≤ all ∧ all ≤ 1000000000) (hsm : -1000000000 ≤ sm ∧ sm ≤ 1000000000)
    (hnew : all - made ≤ sm → (be = -1 ∨ PC set < PC be.toNat ∨ (PC set = PC be.toNat ∧ sm < le)) → ∀ L', L' 1 = th → L' 2 = all → L' 5 = (set : Int) → L' 3 = (set : Int) → L' 4 = sm → Qn L' M)
    (hold : ¬ (all - made ≤ sm ∧ (be = -1 ∨ PC set < PC be.toNat ∨ (PC set = PC be.toNat ∧ sm < le))) → Qn L M) : S_fd3 FO Qn Qr L M := by
  unfold S_fd3
  simp only [sSeq, sSet, sInc, sPF, sPA, sPD, sOF, sOA, sX, sIf, sSkip, sRet, sRetB, sRetV, sSw, sSel, eK, eL, eR, eF, eA, eQ, eD, eU, eB, eV, eIf, ePF, eC0, eC1, eC2, eC3, eC4, eC5, eC6, eC7, cB, cZ, cAnd, cOr, cNot, i2l, st_fn, sl_ap, if_true, if_false, ↓reduceIte, reduceIte, Nat.reduceEqDiff, Int.reduceEq, Int.reduceLT, Int.reduceLE, Int.reduceAdd, Int.reduceSub, Int.reduceMul, Int.reduceNeg, and_true, true_and, not_true, not_false_eq_true, true_or, or_true, ne_eq, h1, h2, h5, h6, h3, h4]
  rw [iSub_id (by omega) (by omega), hm]
  have hN : all - made ≤ sm → (be = -1 ∨ PC set < PC be.toNat ∨ (PC set = PC be.toNat ∧ sm < le)) → Qn (sl (sl L 3 (set : Int)) 4 sm) M := by
    intro a b
    refine hnew a b _ ?_ ?_ ?_ ?_ ?_
    all_goals simp only [sl_ap, st_fn, Nat.reduceEqDiff, ↓reduceIte, reduceIte, Int.reduceEq, if_true, if_false]
    · exact h1
    · exact h2
    · exact h5
  refine ⟨ht.1, ht.2, fun d1 => ⟨fun d2 => hN (by omega) (Or.inl d2), fun d2 => ?_⟩, fun d1 => hold (fun q => d1 (by omega))⟩
  obtain ⟨b, rfl⟩ : ∃ b : Nat, be = (b : Int) := ⟨be.toNat, by omega⟩
  have hb16 : b < 16777216 := by omega
  rw [Int.toNat_natCast] at hN hold
  refine hb set M _ hset (hb b M _ hb16 ?_)
  refine ⟨fun d3 => hN (by omega) (Or.inr (Or.inl (by omega))), fun d3 => ?_⟩
  refine hb set M _ hset (hb b M _ hb16 ?_)
  refine ⟨fun d4 => ⟨fun d5 => hN (by omega) (Or.inr (Or.inr ⟨by omega, d5⟩)), fun d5 => hold (fun q => ?_)⟩, fun d4 => hold (fun q => ?_)⟩
  · rcases q.2 with q | q | q
    · exact d2 q
    · exact d3 (by omega)
    · exact d5 q.2
  · rcases q.2 with q | q | q
    · exact d2 q
    · exact d3 (by omega)
    · exact d4 (by omega)
