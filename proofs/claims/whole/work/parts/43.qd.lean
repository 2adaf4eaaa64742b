/-! ===== cannot, doubted ===== -/
def FdSpec (d : XM) (F : XF1) : Prop := ∀ (M : XM) (th : Int) (Q : Int → XM → Prop), RF d M → 0 ≤ th ∧ th < d 81 7 → (12 < OCt d th → ∀ M', OnlyR [118] [48, 50, 51] M M' → Q 0 M') → (OCt d th ≤ 12 → ∀ M', OnlyR [118] [48, 50, 51] M M' → LstR3 d th M' → Q 1 M') → F th M Q
theorem fd_spec {d : XM} (hB : Base d) : FdSpec d F_R_findDoubts := by
  intro M th Q hC ht q0 q1
  have hs := hB.2.2.2.1.1
  unfold F_R_findDoubts
  rw [S_R_findDoubts_eq]
  exact findDoubts_gen F_R_isGiven F_R_isNever F_R_ones hB hC ht (fun M k Q h1 h2 h3 => R_isGiven_ok h1 ⟨h2.1, by omega⟩ h3) (fun M k Q h1 h2 h3 => R_isNever_ok hB h1 h2 h3) (fun _ _ _ a b => R_ones_ok a b) q0 q1
def S_R_cannot_ (FD FO : XF1) : XS := sSeq (sIf (cNot (cZ (fun x => x ≠ 0) (eC1 F_R_isThing (eU i2l (eL 1))))) (sRet (eK (-2))) sSkip) (sRet (eIf (cZ (fun x => x ≠ 0) (eC1 FD (eL 1))) (eB iAdd (eF 81 50) (eC1 FO (eF 81 51))) (eK (-4))))
theorem R_cannot_gen (FD FO : XF1) {d M : XM} {th : Int} {Q : Int → XM → Prop} (hB : Base d) (hC : RF d M) (hlo : M 81 29 = -1) (hD : FdSpec d FD) (hO : ∀ (n : Nat) (M : XM) (Q : Int → XM → Prop), n < 16777216 → Q ((PC n : Nat) : Int) M → FO (n : Int) M Q) (hQ : ∀ M', OnlyR SR SF M M' → M' 81 29 = -1 → Q (vCannot d th) M') : S_R_cannot_ FD FO (fun _ _ => False) Q (sl (fun _ => 0) 1 th) M := by
  obtain ⟨v1, v2, v3, v4, v5, v6⟩ := hB.2.2.1
  have e7 := hC.2.1 7 (by decide)
  unfold S_R_cannot_
  simp (disch := omega) only [sSeq, sSet, sInc, sPF, sPA, sPD, sOF, sOA, sX, sIf, sSkip, sRet, sRetB, sRetV, sSw, sSel, eK, eL, eR, eF, eA, eQ, eD, eU, eB, eV, eIf, ePF, eC0, eC1, eC2, eC3, eC4, eC5, eC6, eC7, cB, cZ, cAnd, cOr, cNot, i2l, st_fn, sl_ap, if_true, if_false, ↓reduceIte, reduceIte, Nat.reduceEqDiff, Int.reduceEq, Int.reduceLT, Int.reduceLE, Int.reduceAdd, Int.reduceSub, Int.reduceMul, Int.reduceNeg, and_true, true_and, not_true, not_false_eq_true, true_or, or_true, ne_eq, F_R_isThing_iff, b01_ne, e7]
  unfold vCannot at hQ
  by_cases c : 0 ≤ th ∧ th < d 81 7
  · rw [if_pos c] at hQ
    refine ⟨fun _ => ?_, fun q => absurd c q⟩
    refine hD M th _ hC c (fun a M' o => ?_) (fun a M' o l => ?_)
    · rw [if_neg (by omega)] at hQ
      exact ⟨fun q => absurd q (by simp), fun _ => hQ M' (o.wk (by decide) (by decide)) ((o.2 29 (by decide)).trans hlo)⟩
    · rw [if_pos a] at hQ
      have hb := bst_lt hB c a
      have hp := PC_le (n := bst d th) (by omega)
      refine ⟨fun _ => ?_, fun q => absurd q (by simp)⟩
      rw [l.2.1, l.2.2.1]
      refine hO (bst d th) _ _ (by omega) ?_
      rw [iAdd_id (by omega) (by omega)]
      exact hQ M' (o.wk (by decide) (by decide)) ((o.2 29 (by decide)).trans hlo)
  · rw [if_neg c] at hQ
    exact ⟨fun q => absurd q c, fun _ => hQ M OnlyR.rf hlo⟩
theorem ok_cannot {Z M : XM} (hZ : ZC Z) (h : Inv Z M) (x1 : Int) : F_M_cannot x1 M (fun v M1 => F_R_cannot x1 M1 (fun w M2 => v = w ∧ Inv Z M2)) :=
  have hB := h.base hZ
  ok_of (FM := F_M_cannot x1) (FR := F_R_cannot x1) h (vCannot M x1) (fun _ hQ => M_cannot_gen F_Doubts_examine hB CF.rf (ex_spec hB) hQ) (fun _ _ hC hlo hQ => R_cannot_gen F_R_findDoubts F_R_ones hB hC hlo (fd_spec hB) (fun _ _ _ a b => R_ones_ok a b) hQ)
theorem fnd_succ (d : XM) (th k : Int) {x : Int} (h : 0 ≤ x) (hn : fndN d th k x.toNat = none) : fndN d th k (x + 1).toNat = if OAt d th x = k then some x.toNat else none := by
  have e1 : ((x.toNat : Nat) : Int) = x := by omega
  rw [show (x + 1).toNat = x.toNat + 1 by omega]
  have e : fndN d th k (x.toNat + 1) = match fndN d th k x.toNat with
    | some i => some i
    | none => if OAt d th ((x.toNat : Nat) : Int) = k then some x.toNat else none := rfl
  rw [e, hn, e1]
theorem fnd_mono {d : XM} {th k : Int} {i : Nat} : ∀ {n m : Nat}, n ≤ m → fndN d th k n = some i → fndN d th k m = some i
  | n, 0, h, h1 => by rw [show n = 0 by omega] at h1; exact h1
  | n, m + 1, h, h1 => by
    by_cases c : n = m + 1
    · rw [← c]; exact h1
    · have ih := fnd_mono (show n ≤ m by omega) h1
      have e : fndN d th k (m + 1) = match fndN d th k m with
        | some i => some i
        | none => if OAt d th (m : Int) = k then some m else none := rfl
      rw [e, ih]
theorem oa_g (d : XM) (th : Int) : ∀ n : Nat, ∀ i, 0 ≤ i → i < (oc d th n : Int) → gvB d th (oa d th n i) = true ∧ nvB d (oa d th n i) = false
  | 0, i, h1, h2 => absurd h2 (by show ¬ i < ((0 : Nat) : Int); omega)
  | n + 1, i, h1, h2 => by
    have e : oc d th (n + 1) = if gvB d th (n : Int) = true ∧ nvB d (n : Int) = false then oc d th n + 1 else oc d th n := rfl
    have e2 : oa d th (n + 1) = if gvB d th (n : Int) = true ∧ nvB d (n : Int) = false then upx (oa d th n) ((oc d th n : Nat) : Int) (n : Int) else oa d th n := rfl
    have ih := oa_g d th n i h1
    rw [e] at h2
    rw [e2]
    by_cases c : gvB d th (n : Int) = true ∧ nvB d (n : Int) = false
    · rw [if_pos c] at h2 ⊢
      rw [upx_ap]
      by_cases ci : i = ((oc d th n : Nat) : Int)
      · rw [if_pos ci]
        exact c
      · rw [if_neg ci]
        exact ih (by omega)
    · rw [if_neg c] at h2 ⊢
      exact ih h2
theorem fnd_no {d : XM} {th k : Int} (hg : gvB d th k = false ∨ nvB d k = true) : ∀ n : Nat, n ≤ OCt d th → fndN d th k n = none
  | 0, _ => rfl
  | n + 1, h => by
    have e : fndN d th k (n + 1) = match fndN d th k n with
      | some i => some i
      | none => if OAt d th (n : Int) = k then some n else none := rfl
    rw [e, fnd_no hg n (by omega)]
    have g := oa_g d th (d 81 19).toNat (n : Int) (by omega) (show (n : Int) < ((OCt d th : Nat) : Int) by omega)
    have : ¬ OAt d th (n : Int) = k := by
      intro q
      have g1 : gvB d th (OAt d th (n : Int)) = true ∧ nvB d (OAt d th (n : Int)) = false := g
      rw [q] at g1
      rcases hg with hg | hg
      · rw [hg] at g1
        exact absurd g1.1 (by decide)
      · rw [hg] at g1
        exact absurd g1.2 (by decide)
    rw [if_neg this]
abbrev vDoubted (d : XM) (k : Int) : Int := if 0 ≤ k ∧ k < d 81 19 then (if OCt d (d 97 k) ≤ 12 then (if gvB d (d 97 k) k = true ∧ nvB d k = true then 1 else dbt d (d 97 k) k) else -4) else -2
theorem dbt_some {d : XM} {th k : Int} {i n : Nat} (hn : n ≤ OCt d th) (h : fndN d th k n = some i) : dbt d th k = ((bi (bst d th) i : Nat) : Int) := by
  unfold dbt
  rw [fnd_mono hn h]
theorem dbt_none {d : XM} {th k : Int} (h : fndN d th k (OCt d th) = none) : dbt d th k = 0 := by
  unfold dbt
  rw [h]
def S_Doubts_isDoubted_ (FL FU : XF1) : XS := sSeq (sIf (cNot (cZ (fun x => x ≠ 0) (eC1 FL (eL 1)))) (sRetB (eK 0)) sSkip) (sSeq (sIf (cZ (fun x => x ≠ 0) (eC1 FU (eL 1))) (sRetB (eK 1)) sSkip) (sSeq (sSeq (sSet 2 (eK 0)) (sWhile (cB (fun x y => x < y) (eL 2) (eF 67 3)) (sSeq (sIf (cB (fun x y => x = y) (eA 68 12 (eL 2)) (eL 1)) (sRetB (eIf (cB (fun x y => x = y) (eB iAnd (eB iShr (eF 67 7) (eL 2)) (eK 1)) (eK 1)) (eK 1) (eK 0))) sSkip) (sInc 2 1)))) (sRetB (eK 0))))
theorem isDoubted_gen (FL FU : XF1) {d M0 M : XM} {k : Int} {Q : Int → XM → Prop} (hB : Base d) (hC : CF d M) (hk : 0 ≤ k ∧ k < d 81 19) (hn : OCt d (d 97 k) ≤ 12) (hl : Lst3 d M0 (d 97 k) M)
    (hL : ∀ (Q : Int → XM → Prop), Q (if clm d k then 1 else 0) M → FL k M Q) (hU : ∀ (Q : Int → XM → Prop), Q (if nvB d k = true then 1 else 0) M → FU k M Q)
    (hQ : Q (if gvB d (d 97 k) k = true ∧ nvB d k = true then 1 else dbt d (d 97 k) k) M) : S_Doubts_isDoubted_ FL FU (fun _ _ => False) Q (sl (fun _ => 0) 1 k) M := by
  have g := hB.2.2.2.1.2.2 k hk.1 hk.2
  have hb := bst_lt hB (th := d 97 k) ⟨by omega, by omega⟩ hn
  unfold S_Doubts_isDoubted_
  simp only [sSeq, sSet, sInc, sPF, sPA, sPD, sOF, sOA, sX, sIf, sSkip, sRet, sRetB, sRetV, sSw, sSel, eK, eL, eR, eF, eA, eQ, eD, eU, eB, eV, eIf, ePF, eC0, eC1, eC2, eC3, eC4, eC5, eC6, eC7, cB, cZ, cAnd, cOr, cNot, i2l, st_fn, sl_ap, if_true, if_false, ↓reduceIte, reduceIte, Nat.reduceEqDiff, Int.reduceEq, Int.reduceLT, Int.reduceLE, Int.reduceAdd, Int.reduceSub, Int.reduceMul, Int.reduceNeg, and_true, true_and, not_true, not_false_eq_true, true_or, or_true, ne_eq]
  refine hL _ ?_
  have hgc : gvB d (d 97 k) k = true ↔ clm d k := by
    unfold gvB
    rw [decide_eq_true_iff]
    exact ⟨fun q => ⟨q.2.2, q.2.1⟩, fun q => ⟨rfl, q.2, q.1⟩⟩
  by_cases c : clm d k
  · rw [if_pos c]
    refine ⟨fun _ => hU _ ?_, fun q => absurd q (by simp)⟩
    by_cases c2 : nvB d k = true
    · rw [if_pos c2]
      rw [if_pos ⟨hgc.mpr c, c2⟩] at hQ
      exact ⟨fun _ => hQ, fun q => absurd q (by simp)⟩
    · rw [if_neg c2]
      rw [if_neg (fun q => c2 q.2)] at hQ
      refine ⟨fun q => absurd q (by simp), fun _ => ?_⟩
      refine while_up 2 0 ((OCt d (d 97 k) : Nat) : Int) (fun x L M' => M' = M ∧ L 1 = k ∧ fndN d (d 97 k) k x.toNat = none) (by omega) rfl ⟨rfl, rfl, rfl⟩ ?_ ?_ ?_
      · intro x L M' P F a1 a2 hLx ⟨b0, _⟩ hT hF
        subst b0
        simp only [sSeq, sSet, sInc, sPF, sPA, sPD, sOF, sOA, sX, sIf, sSkip, sRet, sRetB, sRetV, sSw, sSel, eK, eL, eR, eF, eA, eQ, eD, eU, eB, eV, eIf, ePF, eC0, eC1, eC2, eC3, eC4, eC5, eC6, eC7, cB, cZ, cAnd, cOr, cNot, i2l, st_fn, sl_ap, if_true, if_false, ↓reduceIte, reduceIte, Nat.reduceEqDiff, Int.reduceEq, Int.reduceLT, Int.reduceLE, Int.reduceAdd, Int.reduceSub, Int.reduceMul, Int.reduceNeg, and_true, true_and, not_true, not_false_eq_true, true_or, or_true, ne_eq, hLx, hl.1]
        exact ⟨hT, hF⟩
      · intro x L M' Q' hx0 hx1 hLx ⟨b0, b1, b2⟩ hQ'
        subst b0
        have hsu := fnd_succ d (d 97 k) k hx0 b2
        have hbl := bi_lt (bst d (d 97 k)) x.toNat
        simp only [sSeq, sSet, sInc, sPF, sPA, sPD, sOF, sOA, sX, sIf, sSkip, sRet, sRetB, sRetV, sSw, sSel, eK, eL, eR, eF, eA, eQ, eD, eU, eB, eV, eIf, ePF, eC0, eC1, eC2, eC3, eC4, eC5, eC6, eC7, cB, cZ, cAnd, cOr, cNot, i2l, st_fn, sl_ap, if_true, if_false, ↓reduceIte, reduceIte, Nat.reduceEqDiff, Int.reduceEq, Int.reduceLT, Int.reduceLE, Int.reduceAdd, Int.reduceSub, Int.reduceMul, Int.reduceNeg, and_true, true_and, not_true, not_false_eq_true, true_or, or_true, ne_eq, hLx, b1, hl.2.2.2.2 x hx0 hx1, hl.2.2.2.1]
        refine ⟨hx0, by omega, fun c3 => ?_, fun c3 => ?_⟩
        · rw [if_pos c3] at hsu
          rw [dbt_some (show (x + 1).toNat ≤ OCt d (d 97 k) by omega) hsu] at hQ
          rw [show x = ((x.toNat : Nat) : Int) by omega, bit_n (by omega) (by omega)]
          have hbe : ((bst d (d 97 k) / 2 ^ x.toNat % 2 : Nat) : Int) = ((bi (bst d (d 97 k)) x.toNat : Nat) : Int) := rfl
          rw [hbe]
          generalize bi (bst d (d 97 k)) x.toNat = b at *
          refine ⟨fun c4 => ?_, fun c4 => ?_⟩
          · rw [c4] at hQ; exact hQ
          · rw [show (b : Int) = 0 by omega] at hQ; exact hQ
        · rw [if_neg c3] at hsu
          rw [iAdd_id (by omega) (by omega)]
          refine hQ' _ _ rfl ⟨rfl, ?_, hsu⟩
          simp only [sl_ap, st_fn, Nat.reduceEqDiff, ↓reduceIte, reduceIte, Int.reduceEq, if_true, if_false]; exact b1
      · intro L M' _ ⟨b0, b1, b2⟩
        subst b0
        rw [Int.toNat_natCast] at b2
        rw [dbt_none b2] at hQ
        exact hQ
  · rw [if_neg c]
    have hg : gvB d (d 97 k) k = false := by
      apply Classical.byContradiction
      intro q
      exact c (hgc.mp (by simpa using q))
    rw [if_neg (fun q => c (hgc.mp q.1)), dbt_none (fnd_no (Or.inl hg) _ (Nat.le_refl _))] at hQ
    exact ⟨fun q => absurd q (by simp), fun _ => hQ⟩
