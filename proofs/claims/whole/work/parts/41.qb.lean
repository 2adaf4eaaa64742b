/-! ===== cannot, doubted: the class ===== -/
abbrev vCannot (d : XM) (th : Int) : Int := if 0 ≤ th ∧ th < d 81 7 then (if OCt d th ≤ 12 then ((NCt d th : Nat) : Int) + ((PC (bst d th) : Nat) : Int) else -4) else -2
def ExSpec (d : XM) (F : XF1) : Prop := ∀ (M : XM) (th : Int) (Q : Int → XM → Prop), CF d M → 0 ≤ th ∧ th < d 81 7 → (12 < OCt d th → ∀ M', Only [67, 68] M M' → Q 0 M') → (OCt d th ≤ 12 → ∀ M', Only [67, 68] M M' → Lst3 d M th M' → Q 1 M') → F th M Q
theorem S_Doubts_examine_eq : S_Doubts_examine = S_Doubts_examine_ F_Doubts_isClaim F_Doubts_isUntimely F_Doubts_chooseFewest := rfl
theorem ex_spec {d : XM} (hB : Base d) : ExSpec d F_Doubts_examine := by
  intro M th Q hC ht q0 q1
  have hs := hB.2.2.2.1.1
  unfold F_Doubts_examine
  rw [S_Doubts_examine_eq]
  refine examine_gen F_Doubts_isClaim F_Doubts_isUntimely F_Doubts_chooseFewest hB hC ht (fun M k Q h1 h2 h3 => Doubts_isClaim_ok (h1.dcl hB) ⟨h2.1, by omega⟩ h3) (fun M k Q h1 h2 h3 => Doubts_isUntimely_ok hB h1 h2 h3) (fun M Q h1 h2 h3 h4 h5 h6 => ?_) q0 q1
  unfold F_Doubts_chooseFewest
  rw [S_Doubts_chooseFewest_eq]
  exact chooseFewest_gen F_JI_bitCount hB ht (fun _ _ _ a b => (JI_bitCount_iff a).mpr b) h1 h2 h3 h4 h5 h6
theorem bst_lt {d : XM} (hB : Base d) {th : Int} (ht : 0 ≤ th ∧ th < d 81 7) (hn : OCt d th ≤ 12) : bst d th < 2 ^ OCt d th ∧ 2 ^ OCt d th ≤ 4096 ∧ NCt d th ≤ 150 := by
  have h := (rF_r d th (2 ^ OCt d th)).resolve_left (rF_some hB ht hn)
  have h2 : 2 ^ OCt d th ≤ 2 ^ 12 := Nat.pow_le_pow_right (by omega) hn
  have h3 := nc_le d th (d 81 19).toNat
  have hs := hB.2.2.2.1.1
  unfold bst NCt
  omega
def S_M_cannot_ (FE : XF1) : XS := sSeq (sIf (cNot (cZ (fun x => x ≠ 0) (eC1 F_Trade_isThing (eU i2l (eL 1))))) (sRet (eK (-2))) sSkip) (sSeq (sIf (cNot (cZ (fun x => x ≠ 0) (eC1 FE (eL 1)))) (sRet (eK (-4))) sSkip) (sRet (eB iAdd (eF 67 5) (eF 67 6))))
theorem M_cannot_gen (FE : XF1) {d M : XM} {th : Int} {Q : Int → XM → Prop} (hB : Base d) (hC : CF d M) (hE : ExSpec d FE) (hQ : ∀ M', Only SC M M' → Q (vCannot d th) M') : S_M_cannot_ FE (fun _ _ => False) Q (sl (fun _ => 0) 1 th) M := by
  obtain ⟨h1, h2, h3, h4, h5, h6, h7, h8, h9, h10, h11, h12, h13, h14⟩ := hC.dct hB
  obtain ⟨v1, v2, v3, v4, v5, v6⟩ := hB.2.2.1
  unfold S_M_cannot_
  simp (disch := omega) only [sSeq, sSet, sInc, sPF, sPA, sPD, sOF, sOA, sX, sIf, sSkip, sRet, sRetB, sRetV, sSw, sSel, eK, eL, eR, eF, eA, eQ, eD, eU, eB, eV, eIf, ePF, eC0, eC1, eC2, eC3, eC4, eC5, eC6, eC7, cB, cZ, cAnd, cOr, cNot, i2l, st_fn, sl_ap, if_true, if_false, ↓reduceIte, reduceIte, Nat.reduceEqDiff, Int.reduceEq, Int.reduceLT, Int.reduceLE, Int.reduceAdd, Int.reduceSub, Int.reduceMul, Int.reduceNeg, and_true, true_and, not_true, not_false_eq_true, true_or, or_true, ne_eq, F_Trade_isThing_iff, b01_ne, h3]
  unfold vCannot at hQ
  by_cases c : 0 ≤ th ∧ th < d 81 7
  · rw [if_pos c] at hQ
    refine ⟨fun _ => ?_, fun q => absurd c q⟩
    refine hE M th _ hC c (fun a M' o => ?_) (fun a M' o l => ?_)
    · rw [if_neg (by omega)] at hQ
      exact ⟨fun q => absurd q (by simp), fun _ => hQ M' (o.wk (by decide))⟩
    · rw [if_pos a] at hQ
      have hb := bst_lt hB c a
      have hp := PC_le (n := bst d th) (by omega)
      refine ⟨fun _ => ?_, fun q => absurd q (by simp)⟩
      rw [l.2.1, l.2.2.1, iAdd_id (by omega) (by omega)]
      exact hQ M' (o.wk (by decide))
  · rw [if_neg c] at hQ
    exact ⟨fun q => absurd q c, fun _ => hQ M Only.rf⟩
def fndN (d : XM) (th k : Int) : Nat → Option Nat
  | 0 => none
  | n + 1 => match fndN d th k n with
    | some i => some i
    | none => if OAt d th (n : Int) = k then some n else none
def dbt (d : XM) (th k : Int) : Int := match fndN d th k (OCt d th) with
  | some i => ((bi (bst d th) i : Nat) : Int)
  | none => 0
