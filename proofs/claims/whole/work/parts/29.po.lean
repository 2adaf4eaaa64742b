/-! span -/
theorem sta_lo (d : XM) (w s : Int) (hs : 0 ≤ s) : stL d (-1) w s = sta d w s := if_neg (fun q => by omega)
def spanN (d : XM) (T w e : Int) : Nat → Int
  | 0 => SUM d (-1) w w T
  | n + 1 => if sta d w (n : Int) = 2 then (if e = 0 then (if SUM d (n : Int) w w T < spanN d T w e n then SUM d (n : Int) w w T else spanN d T w e n) else (if spanN d T w e n < SUM d (n : Int) w w T then SUM d (n : Int) w w T else spanN d T w e n)) else spanN d T w e n
theorem spanN_succ (d : XM) (T w e : Int) {x : Int} (h : 0 ≤ x) : spanN d T w e (x + 1).toNat = if sta d w x = 2 then (if e = 0 then (if SUM d x w w T < spanN d T w e x.toNat then SUM d x w w T else spanN d T w e x.toNat) else (if spanN d T w e x.toNat < SUM d x w w T then SUM d x w w T else spanN d T w e x.toNat)) else spanN d T w e x.toNat := by
  have e1 : ((x.toNat : Nat) : Int) = x := by omega
  have e2 : (x + 1).toNat = x.toNat + 1 := by omega
  rw [e2]
  have e3 : spanN d T w e (x.toNat + 1) = if sta d w ((x.toNat : Nat) : Int) = 2 then (if e = 0 then (if SUM d ((x.toNat : Nat) : Int) w w T < spanN d T w e x.toNat then SUM d ((x.toNat : Nat) : Int) w w T else spanN d T w e x.toNat) else (if spanN d T w e x.toNat < SUM d ((x.toNat : Nat) : Int) w w T then SUM d ((x.toNat : Nat) : Int) w w T else spanN d T w e x.toNat)) else spanN d T w e x.toNat := rfl
  rw [e3, e1]
abbrev vSpan (d : XM) (T w e : Int) : Int := if (0 ≤ T ∧ T < d 81 5) ∧ (0 ≤ w ∧ w ≤ 51) ∧ 0 ≤ e ∧ e ≤ 1 then spanN d T w e (d 81 11).toNat else LMIN
def S_M_span_ (FG : XF2) (FW : XF1) : XS := sSeq (sIf (cOr (cOr (cNot (cZ (fun x => x ≠ 0) (eC1 F_Trade_isTitle (eU i2l (eL 1))))) (cNot (cZ (fun x => x ≠ 0) (eC1 F_M_isWeek (eU i2l (eL 2)))))) (cNot (cZ (fun x => x ≠ 0) (eC3 F_M_within (eU i2l (eL 3)) (eK 0) (eK 1))))) (sRet (eK (-9223372036854775808))) sSkip) (sSeq (sX (eC2 FG (eL 2) (eL 2))) (sSeq (sX (eC1 FW (eK (-1)))) (sSeq (sSet 4 (eA 36 12 (eL 1))) (sSeq (sSeq (sSet 6 (eK 0)) (sWhile (cB (fun x y => x < y) (eL 6) (eF 2 6)) (sSeq (sIf (cB (fun x y => x = y) (eA 32 16 (eL 6)) (eK 2)) (sSeq (sX (eC1 FW (eL 6))) (sSeq (sSet 7 (eA 36 12 (eL 1))) (sSet 4 (eIf (cZ (fun x => x = 0) (eL 3)) (eB mMin (eL 4) (eL 7)) (eB mMax (eL 4) (eL 7)))))) sSkip) (sInc 6 1)))) (sRet (eL 4))))))
theorem M_span_gen (FG : XF2) (FW : XF1) {d M : XM} {T w e : Int} {Q : Int → XM → Prop} (hB : Base d) (hC : CF d M) (hG : GaSpec d FG) (hW : WeSpec d FW) (hQ : ∀ M', Only SC M M' → Q (vSpan d T w e) M') : S_M_span_ FG FW (fun _ _ => False) Q (sl (sl (sl (fun _ => 0) 1 T) 2 w) 3 e) M := by
  obtain ⟨h1, h2, h3, h4, h5, h6, h7, h8, h9, h10, h11, h12, h13, h14⟩ := hC.dct hB
  obtain ⟨v1, v2, v3, v4, v5, v6⟩ := hB.2.2.1
  unfold S_M_span_
  simp (disch := omega) only [sSeq, sSet, sInc, sPF, sPA, sPD, sOF, sOA, sX, sIf, sSkip, sRet, sRetB, sRetV, sSw, sSel, eK, eL, eR, eF, eA, eQ, eD, eU, eB, eV, eIf, ePF, eC0, eC1, eC2, eC3, eC4, eC5, eC6, eC7, cB, cZ, cAnd, cOr, cNot, i2l, st_fn, sl_ap, if_true, if_false, ↓reduceIte, reduceIte, Nat.reduceEqDiff, Int.reduceEq, Int.reduceLT, Int.reduceLE, Int.reduceAdd, Int.reduceSub, Int.reduceMul, Int.reduceNeg, and_true, true_and, not_true, not_false_eq_true, true_or, or_true, ne_eq, F_Trade_isTitle_iff, F_M_isWeek_iff, F_M_within_iff, b01_ne, h1]
  unfold vSpan at hQ
  by_cases c : (0 ≤ T ∧ T < d 81 5) ∧ (0 ≤ w ∧ w ≤ 51) ∧ 0 ≤ e ∧ e ≤ 1
  · rw [if_pos c] at hQ
    ((repeat' (first | (with_reducible intro _) | (with_reducible refine And.intro ?_ ?_))) <;> try (exfalso; omega))
    refine hG M w w _ hC c.2.1 fun M1 o1 g1 => hW M1 (-1) w w _ (hC.go o1 (by decide)) g1 fun M2 o2 g2 => ⟨c.1.1, by omega, ?_⟩
    have o12 : Only SL M M2 := o1.trans o2 (by decide) (by decide)
    refine while_up 6 0 (d 81 11) (fun x L M' => L 1 = T ∧ L 2 = w ∧ L 3 = e ∧ L 4 = spanN d T w e x.toNat ∧ Only SL M M' ∧ Gat d w w M') v3.1 rfl ⟨rfl, rfl, rfl, g2.2.2 T c.1.1 c.1.2, o12, g1.go o2 (by decide)⟩ ?_ ?_ ?_
    · intro x L M' P F a1 a2 hL ⟨_, _, _, _, k2, _⟩ hT hF
      have m7 := ((hC.go k2 SL_SC).dct hB).2.2.2.2.2.2.1
      simp only [sSeq, sSet, sInc, sPF, sPA, sPD, sOF, sOA, sX, sIf, sSkip, sRet, sRetB, sRetV, sSw, sSel, eK, eL, eR, eF, eA, eQ, eD, eU, eB, eV, eIf, ePF, eC0, eC1, eC2, eC3, eC4, eC5, eC6, eC7, cB, cZ, cAnd, cOr, cNot, i2l, st_fn, sl_ap, if_true, if_false, ↓reduceIte, reduceIte, Nat.reduceEqDiff, Int.reduceEq, Int.reduceLT, Int.reduceLE, Int.reduceAdd, Int.reduceSub, Int.reduceMul, Int.reduceNeg, and_true, true_and, not_true, not_false_eq_true, true_or, or_true, ne_eq, hL]
      rw [m7]
      exact ⟨hT, hF⟩
    · intro x L M' Q' hx0 hx1 hL ⟨k1, k2, k3, k4, k5, k6⟩ hQ'
      have hs := spanN_succ d T w e hx0
      simp only [sSeq, sSet, sInc, sPF, sPA, sPD, sOF, sOA, sX, sIf, sSkip, sRet, sRetB, sRetV, sSw, sSel, eK, eL, eR, eF, eA, eQ, eD, eU, eB, eV, eIf, ePF, eC0, eC1, eC2, eC3, eC4, eC5, eC6, eC7, cB, cZ, cAnd, cOr, cNot, i2l, st_fn, sl_ap, if_true, if_false, ↓reduceIte, reduceIte, Nat.reduceEqDiff, Int.reduceEq, Int.reduceLT, Int.reduceLE, Int.reduceAdd, Int.reduceSub, Int.reduceMul, Int.reduceNeg, and_true, true_and, not_true, not_false_eq_true, true_or, or_true, ne_eq, hL, k1]
      rw [k6.2.2 x hx0 hx1, iAdd_id (by omega) (by omega)]
      refine ⟨hx0, by omega, fun c1 => ?_, fun c1 => ?_⟩
      · rw [if_pos c1] at hs
        refine hW M' x w w _ (hC.go k5 SL_SC) k6 fun N o g => ?_
        have e36 := g.2.2 T c.1.1 c.1.2
        simp only [sSeq, sSet, sInc, sPF, sPA, sPD, sOF, sOA, sX, sIf, sSkip, sRet, sRetB, sRetV, sSw, sSel, eK, eL, eR, eF, eA, eQ, eD, eU, eB, eV, eIf, ePF, eC0, eC1, eC2, eC3, eC4, eC5, eC6, eC7, cB, cZ, cAnd, cOr, cNot, i2l, st_fn, sl_ap, if_true, if_false, ↓reduceIte, reduceIte, Nat.reduceEqDiff, Int.reduceEq, Int.reduceLT, Int.reduceLE, Int.reduceAdd, Int.reduceSub, Int.reduceMul, Int.reduceNeg, and_true, true_and, not_true, not_false_eq_true, true_or, or_true, ne_eq, hL, k1, k3, k4, e36]
        have hfin : ∀ v, v = spanN d T w e (x + 1).toNat → Q' (sl (sl (sl L 7 (SUM d x w w T)) 4 v) 6 (x + 1)) N := by
          intro v hv
          refine hQ' _ _ rfl ⟨?_, ?_, ?_, ?_, k5.trans o (by decide) (by decide), k6.go o (by decide)⟩
          all_goals simp only [sl_ap, Nat.reduceEqDiff, if_true, if_false]
          · exact k1
          · exact k2
          · exact k3
          · exact hv
        refine ⟨c.1.1, by omega, fun c2 => hfin _ ?_, fun c2 => hfin _ ?_⟩
        · rw [hs, if_pos c2]
          rfl
        · rw [hs, if_neg c2]
          unfold mMax
          (repeat' split) <;> omega
      · rw [if_neg c1] at hs
        refine hQ' _ _ rfl ⟨?_, ?_, ?_, ?_, k5, k6⟩
        all_goals simp only [sl_ap, Nat.reduceEqDiff, if_true, if_false]
        · exact k1
        · exact k2
        · exact k3
        · rw [hs]; exact k4
    · intro L M' _ ⟨k1, k2, k3, k4, k5, k6⟩
      rw [k4]
      exact hQ M' (k5.wk SL_SC)
  · rw [if_neg c] at hQ
    ((repeat' (first | (with_reducible intro _) | (with_reducible refine And.intro ?_ ?_))) <;> try (exfalso; omega))
    all_goals exact hQ M Only.rf
def S_R_span_ (FG FS : XF2) : XS := sSeq (sIf (cOr (cOr (cNot (cZ (fun x => x ≠ 0) (eC1 F_R_isTitle (eL 1)))) (cNot (cZ (fun x => x ≠ 0) (eC1 F_R_isWeek (eU i2l (eL 2)))))) (cNot (cZ (fun x => x ≠ 0) (eC3 F_R_in (eU i2l (eL 3)) (eK 0) (eK 1))))) (sRet (eK (-9223372036854775808))) sSkip) (sSeq (sX (eC2 FG (eL 2) (eL 2))) (sSeq (sSet 4 (eC1 F_R_sumOf (eL 1))) (sSeq (sSeq (sSet 6 (eK 0)) (sWhile (cB (fun x y => x < y) (eL 6) (eF 81 11)) (sSeq (sIf (cB (fun x y => x = y) (eC2 FS (eL 6) (eL 2)) (eK 2)) (sSeq (sPF 81 29 (eL 6)) (sSeq (sX (eC2 FG (eL 2) (eL 2))) (sSeq (sPF 81 29 (eK (-1))) (sSeq (sSet 7 (eC1 F_R_sumOf (eL 1))) (sSet 4 (eIf (cZ (fun x => x = 0) (eL 3)) (eIf (cB (fun x y => x < y) (eL 7) (eL 4)) (eL 7) (eL 4)) (eIf (cB (fun x y => y < x) (eL 7) (eL 4)) (eL 7) (eL 4)))))))) sSkip) (sInc 6 1)))) (sRet (eL 4)))))
theorem R_span_gen (FG FS : XF2) {d M : XM} {T w e : Int} {Q : Int → XM → Prop} (hB : Base d) (hC : RF d M) (hlo : M 81 29 = -1) (hG : FsSpec d FG) (hS : StSpec d FS) (hQ : ∀ M', OnlyR SR SF M M' → M' 81 29 = -1 → Q (vSpan d T w e) M') : S_R_span_ FG FS (fun _ _ => False) Q (sl (sl (sl (fun _ => 0) 1 T) 2 w) 3 e) M := by
  obtain ⟨v1, v2, v3, v4, v5, v6⟩ := hB.2.2.1
  have e5 := hC.2.1 5 (by decide)
  unfold S_R_span_
  simp (disch := omega) only [sSeq, sSet, sInc, sPF, sPA, sPD, sOF, sOA, sX, sIf, sSkip, sRet, sRetB, sRetV, sSw, sSel, eK, eL, eR, eF, eA, eQ, eD, eU, eB, eV, eIf, ePF, eC0, eC1, eC2, eC3, eC4, eC5, eC6, eC7, cB, cZ, cAnd, cOr, cNot, i2l, st_fn, sl_ap, if_true, if_false, ↓reduceIte, reduceIte, Nat.reduceEqDiff, Int.reduceEq, Int.reduceLT, Int.reduceLE, Int.reduceAdd, Int.reduceSub, Int.reduceMul, Int.reduceNeg, and_true, true_and, not_true, not_false_eq_true, true_or, or_true, ne_eq, F_R_isTitle_iff, F_R_in_iff, F_R_isWeek_iff, b01_ne, e5]
  unfold vSpan at hQ
  by_cases c : (0 ≤ T ∧ T < d 81 5) ∧ (0 ≤ w ∧ w ≤ 51) ∧ 0 ≤ e ∧ e ≤ 1
  · rw [if_pos c] at hQ
    ((repeat' (first | (with_reducible intro _) | (with_reducible refine And.intro ?_ ?_))) <;> try (exfalso; omega))
    have hT12 : 0 ≤ T ∧ T < 12 := ⟨c.1.1, by omega⟩
    refine hG M (-1) w w _ hC hlo c.2.1 fun M1 o1 g1 => ?_
    rw [F_R_sumOf_iff hT12, R_sum_val hB g1 c.1]
    refine while_up 6 0 (d 81 11) (fun x L M' => L 1 = T ∧ L 2 = w ∧ L 3 = e ∧ L 4 = spanN d T w e x.toNat ∧ OnlyR SR SF M M' ∧ M' 81 29 = -1) v3.1 rfl ⟨rfl, rfl, rfl, rfl, o1.wk (by decide) (by decide), (o1.2 29 (by decide)).trans hlo⟩ ?_ ?_ ?_
    · intro x L M' P F a1 a2 hL ⟨_, _, _, _, k2, _⟩ hT hF
      simp only [sSeq, sSet, sInc, sPF, sPA, sPD, sOF, sOA, sX, sIf, sSkip, sRet, sRetB, sRetV, sSw, sSel, eK, eL, eR, eF, eA, eQ, eD, eU, eB, eV, eIf, ePF, eC0, eC1, eC2, eC3, eC4, eC5, eC6, eC7, cB, cZ, cAnd, cOr, cNot, i2l, st_fn, sl_ap, if_true, if_false, ↓reduceIte, reduceIte, Nat.reduceEqDiff, Int.reduceEq, Int.reduceLT, Int.reduceLE, Int.reduceAdd, Int.reduceSub, Int.reduceMul, Int.reduceNeg, and_true, true_and, not_true, not_false_eq_true, true_or, or_true, ne_eq, hL]
      rw [(hC.go k2 (fun _ q => q) (fun _ q => q)).2.1 11 (by decide)]
      exact ⟨hT, hF⟩
    · intro x L M' Q' hx0 hx1 hL ⟨k1, k2, k3, k4, k5, k6⟩ hQ'
      have hs := spanN_succ d T w e hx0
      have hC' := hC.go k5 (fun _ q => q) (fun _ q => q)
      simp only [sSeq, sSet, sInc, sPF, sPA, sPD, sOF, sOA, sX, sIf, sSkip, sRet, sRetB, sRetV, sSw, sSel, eK, eL, eR, eF, eA, eQ, eD, eU, eB, eV, eIf, ePF, eC0, eC1, eC2, eC3, eC4, eC5, eC6, eC7, cB, cZ, cAnd, cOr, cNot, i2l, st_fn, sl_ap, if_true, if_false, ↓reduceIte, reduceIte, Nat.reduceEqDiff, Int.reduceEq, Int.reduceLT, Int.reduceLE, Int.reduceAdd, Int.reduceSub, Int.reduceMul, Int.reduceNeg, and_true, true_and, not_true, not_false_eq_true, true_or, or_true, ne_eq, hL, k1, k2]
      refine hS M' x w _ hC' c.2.1 ⟨hx0, hx1⟩ ?_
      rw [k6, sta_lo d w x hx0, iAdd_id (by omega) (by omega)]
      refine ⟨fun c1 => ?_, fun c1 => ?_⟩
      · rw [if_pos c1] at hs
        have oA : OnlyR SR SF M (st M' 81 29 x) := k5.setF (by decide) _
        refine hG _ x w w _ (hC.go oA (fun _ q => q) (fun _ q => q)) (by simp only [st_fn, Nat.reduceEqDiff, ↓reduceIte, reduceIte, Int.reduceEq, if_true, if_false]) c.2.1 fun N o g => ?_
        have oN : OnlyR SR SF M (st N 81 29 (-1)) := (oA.trans o (fun _ q => q) (by decide) (fun _ q => q) (by decide)).setF (by decide) _
        have e113 : (st N 81 29 (-1)) 113 = N 113 := rfl
        have e114 : (st N 81 29 (-1)) 114 = N 114 := rfl
        rw [F_R_sumOf_iff hT12, e113, e114, R_sum_val hB g c.1]
        simp only [sSeq, sSet, sInc, sPF, sPA, sPD, sOF, sOA, sX, sIf, sSkip, sRet, sRetB, sRetV, sSw, sSel, eK, eL, eR, eF, eA, eQ, eD, eU, eB, eV, eIf, ePF, eC0, eC1, eC2, eC3, eC4, eC5, eC6, eC7, cB, cZ, cAnd, cOr, cNot, i2l, st_fn, sl_ap, if_true, if_false, ↓reduceIte, reduceIte, Nat.reduceEqDiff, Int.reduceEq, Int.reduceLT, Int.reduceLE, Int.reduceAdd, Int.reduceSub, Int.reduceMul, Int.reduceNeg, and_true, true_and, not_true, not_false_eq_true, true_or, or_true, ne_eq, hL, k1, k3, k4]
        have hfin : ∀ v, v = spanN d T w e (x + 1).toNat → Q' (sl (sl (sl L 7 (SUM d x w w T)) 4 v) 6 (x + 1)) (st N 81 29 (-1)) := by
          intro v hv
          refine hQ' _ _ rfl ⟨?_, ?_, ?_, ?_, oN, ?_⟩
          all_goals simp only [sl_ap, st_fn, Nat.reduceEqDiff, ↓reduceIte, reduceIte, Int.reduceEq, if_true, if_false]
          · exact k1
          · exact k2
          · exact k3
          · exact hv
        refine ⟨fun c2 => ⟨fun c3 => hfin _ ?_, fun c3 => hfin _ ?_⟩, fun c2 => ⟨fun c3 => hfin _ ?_, fun c3 => hfin _ ?_⟩⟩
        · rw [hs, if_pos c2, if_pos c3]
        · rw [hs, if_pos c2, if_neg c3]
        · rw [hs, if_neg c2, if_pos c3]
        · rw [hs, if_neg c2, if_neg c3]
      · rw [if_neg c1] at hs
        refine hQ' _ _ rfl ⟨?_, ?_, ?_, ?_, k5, k6⟩
        all_goals simp only [sl_ap, Nat.reduceEqDiff, if_true, if_false]
        · exact k1
        · exact k2
        · exact k3
        · rw [hs]; exact k4
    · intro L M' _ ⟨k1, k2, k3, k4, k5, k6⟩
      rw [k4]
      exact hQ M' k5 k6
  · rw [if_neg c] at hQ
    ((repeat' (first | (with_reducible intro _) | (with_reducible refine And.intro ?_ ?_))) <;> try (exfalso; omega))
    all_goals exact hQ M OnlyR.rf hlo
theorem ok_span {Z M : XM} (hZ : ZC Z) (h : Inv Z M) (x1 x2 x3 : Int) : F_M_span x1 x2 x3 M (fun v M1 => F_R_span x1 x2 x3 M1 (fun w M2 => v = w ∧ Inv Z M2)) :=
  ok_of (FM := F_M_span x1 x2 x3) (FR := F_R_span x1 x2 x3) h (vSpan M x1 x2 x3) (fun _ hQ => M_span_gen F_Tally_gather F_Tally_weigh (h.base hZ) CF.rf (ga_spec (h.base hZ)) (we_spec (h.base hZ)) hQ) (fun _ _ hC hlo hQ => R_span_gen F_R_findSums F_R_statusOf (h.base hZ) hC hlo (fs_spec (h.base hZ)) (st_spec (h.base hZ)) hQ)
/-! firm -/
def frB (d : XM) (w n : Int) : Bool := decide (¬ sta d w n = 2 ∨ (0 < (LN d n w w : Int) ∧ LO d n w w 0 = LO d (-1) w w 0))
def firmN (d : XM) (w : Int) : Nat → Bool
  | 0 => true
  | n + 1 => firmN d w n && frB d w (n : Int)
theorem firmN_succ (d : XM) (w : Int) {x : Int} (h : 0 ≤ x) : firmN d w (x + 1).toNat = (firmN d w x.toNat && frB d w x) := by
  have e1 : ((x.toNat : Nat) : Int) = x := by omega
  rw [show (x + 1).toNat = x.toNat + 1 by omega]
  show (firmN d w x.toNat && frB d w ((x.toNat : Nat) : Int)) = _
  rw [e1]
theorem firmN_mono {d : XM} {w : Int} : ∀ {n m : Nat}, n ≤ m → firmN d w n = false → firmN d w m = false
  | n, 0, h, h1 => by rw [show n = 0 by omega] at h1; exact h1
  | n, m + 1, h, h1 => by
    by_cases c : n = m + 1
    · rw [← c]; exact h1
    · show (firmN d w m && _) = false
      rw [firmN_mono (show n ≤ m by omega) h1, Bool.false_and]
abbrev vFirm (d : XM) (w : Int) : Int := if 0 ≤ w ∧ w ≤ 51 then (if (LN d (-1) w w : Int) = 0 then -3 else if firmN d w (d 81 11).toNat = true then 1 else 0) else -2
def S_M_firm_ (FG : XF2) (FW FK : XF1) : XS := sSeq (sIf (cNot (cZ (fun x => x ≠ 0) (eC1 F_M_isWeek (eU i2l (eL 1))))) (sRet (eK (-2))) sSkip) (sSeq (sX (eC2 FG (eL 1) (eL 1))) (sSeq (sIf (cZ (fun x => x = 0) (eF 29 11)) (sRet (eK (-3))) sSkip) (sSeq (sSet 2 (eA 37 12 (eK 0))) (sSeq (sSeq (sSet 3 (eK 0)) (sWhile (cB (fun x y => x < y) (eL 3) (eF 2 6)) (sSeq (sIf (cB (fun x y => x = y) (eA 32 16 (eL 3)) (eK 2)) (sSeq (sX (eC1 FW (eL 3))) (sSeq (sX (eC1 FK (eL 1))) (sIf (cOr (cZ (fun x => x = 0) (eF 29 11)) (cB (fun x y => x ≠ y) (eA 37 12 (eK 0)) (eL 2))) (sRet (eK 0)) sSkip))) sSkip) (sInc 3 1)))) (sRet (eK 1))))))
theorem M_firm_gen (FG : XF2) (FW FK : XF1) {d M : XM} {w : Int} {Q : Int → XM → Prop} (hB : Base d) (hC : CF d M) (hG : MlSpec d FG) (hW : WeSpec d FW) (hK : RkSpec d FK) (hQ : ∀ M', Only SC M M' → Q (vFirm d w) M') : S_M_firm_ FG FW FK (fun _ _ => False) Q (sl (fun _ => 0) 1 w) M := by
  obtain ⟨h1, h2, h3, h4, h5, h6, h7, h8, h9, h10, h11, h12, h13, h14⟩ := hC.dct hB
  obtain ⟨v1, v2, v3, v4, v5, v6⟩ := hB.2.2.1
  unfold S_M_firm_
  simp (disch := omega) only [sSeq, sSet, sInc, sPF, sPA, sPD, sOF, sOA, sX, sIf, sSkip, sRet, sRetB, sRetV, sSw, sSel, eK, eL, eR, eF, eA, eQ, eD, eU, eB, eV, eIf, ePF, eC0, eC1, eC2, eC3, eC4, eC5, eC6, eC7, cB, cZ, cAnd, cOr, cNot, i2l, st_fn, sl_ap, if_true, if_false, ↓reduceIte, reduceIte, Nat.reduceEqDiff, Int.reduceEq, Int.reduceLT, Int.reduceLE, Int.reduceAdd, Int.reduceSub, Int.reduceMul, Int.reduceNeg, and_true, true_and, not_true, not_false_eq_true, true_or, or_true, ne_eq, F_M_isWeek_iff, b01_ne]
  unfold vFirm at hQ
  by_cases c : 0 ≤ w ∧ w ≤ 51
  · rw [if_pos c] at hQ
    refine ⟨fun _ => ?_, fun q => absurd c q⟩
    refine hG M w w _ hC c fun M1 o1 g1 g2 g3 => ?_
    rw [g3.1]
    have hL := L_r hB.2.2.1 (-1) w w
    refine ⟨fun c0 => ?_, fun c0 => ?_⟩
    · rw [if_pos c0] at hQ
      exact hQ M1 (o1.wk SL_SC)
    rw [if_neg c0] at hQ
    rw [g3.2.1 0 (by omega) (by omega)]
    refine while_up 3 0 (d 81 11) (fun x L M' => L 1 = w ∧ L 2 = LO d (-1) w w 0 ∧ firmN d w x.toNat = true ∧ Only SL M M' ∧ Gat d w w M') v3.1 rfl ⟨rfl, rfl, rfl, o1, g1⟩ ?_ ?_ ?_
    · intro x L M' P F a1 a2 hL ⟨_, _, _, k2, _⟩ hT hF
      have m7 := ((hC.go k2 SL_SC).dct hB).2.2.2.2.2.2.1
      simp only [sSeq, sSet, sInc, sPF, sPA, sPD, sOF, sOA, sX, sIf, sSkip, sRet, sRetB, sRetV, sSw, sSel, eK, eL, eR, eF, eA, eQ, eD, eU, eB, eV, eIf, ePF, eC0, eC1, eC2, eC3, eC4, eC5, eC6, eC7, cB, cZ, cAnd, cOr, cNot, i2l, st_fn, sl_ap, if_true, if_false, ↓reduceIte, reduceIte, Nat.reduceEqDiff, Int.reduceEq, Int.reduceLT, Int.reduceLE, Int.reduceAdd, Int.reduceSub, Int.reduceMul, Int.reduceNeg, and_true, true_and, not_true, not_false_eq_true, true_or, or_true, ne_eq, hL]
      rw [m7]
      exact ⟨hT, hF⟩
    · intro x L M' Q' hx0 hx1 hL ⟨k1, k2, k3, k4, k5⟩ hQ'
      have hs := firmN_succ d w hx0
      rw [k3, Bool.true_and] at hs
      simp only [sSeq, sSet, sInc, sPF, sPA, sPD, sOF, sOA, sX, sIf, sSkip, sRet, sRetB, sRetV, sSw, sSel, eK, eL, eR, eF, eA, eQ, eD, eU, eB, eV, eIf, ePF, eC0, eC1, eC2, eC3, eC4, eC5, eC6, eC7, cB, cZ, cAnd, cOr, cNot, i2l, st_fn, sl_ap, if_true, if_false, ↓reduceIte, reduceIte, Nat.reduceEqDiff, Int.reduceEq, Int.reduceLT, Int.reduceLE, Int.reduceAdd, Int.reduceSub, Int.reduceMul, Int.reduceNeg, and_true, true_and, not_true, not_false_eq_true, true_or, or_true, ne_eq, hL, k1]
      rw [k5.2.2 x hx0 hx1, iAdd_id (by omega) (by omega)]
      refine ⟨hx0, by omega, fun c1 => ?_, fun c1 => ?_⟩
      · refine hW M' x w w _ (hC.go k4 SL_SC) k5 fun N1 oa ga => ?_
        have k5a := k5.go oa (by decide)
        have k4a : Only SL M N1 := k4.trans oa (by decide) (by decide)
        refine hK N1 x w w _ (hC.go k4a SL_SC) k5a ga fun N2 ob gb => ?_
        have k5b := k5a.go ob (by decide)
        have k4b : Only SL M N2 := k4a.trans ob (by decide) (by decide)
        rw [gb.1]
        simp only [sSeq, sSet, sInc, sPF, sPA, sPD, sOF, sOA, sX, sIf, sSkip, sRet, sRetB, sRetV, sSw, sSel, eK, eL, eR, eF, eA, eQ, eD, eU, eB, eV, eIf, ePF, eC0, eC1, eC2, eC3, eC4, eC5, eC6, eC7, cB, cZ, cAnd, cOr, cNot, i2l, st_fn, sl_ap, if_true, if_false, ↓reduceIte, reduceIte, Nat.reduceEqDiff, Int.reduceEq, Int.reduceLT, Int.reduceLE, Int.reduceAdd, Int.reduceSub, Int.reduceMul, Int.reduceNeg, and_true, true_and, not_true, not_false_eq_true, true_or, or_true, ne_eq, hL, k2]
        have hbad : frB d w x = false → Q 0 N2 := by
          intro cf
          rw [cf] at hs
          have := firmN_mono (show (x + 1).toNat ≤ (d 81 11).toNat by omega) hs
          rw [this, if_neg (by decide)] at hQ
          exact hQ N2 (k4b.wk SL_SC)
        have hgood : frB d w x = true → Q' (sl L 3 (x + 1)) N2 := by
          intro cf
          rw [cf] at hs
          refine hQ' _ _ rfl ⟨?_, ?_, hs, k4b, k5b⟩
          all_goals simp only [sl_ap, Nat.reduceEqDiff, if_true, if_false]
          · exact k1
          · exact k2
        refine ⟨fun c2 => hbad (decide_eq_false (by omega)), fun c2 => ⟨fun c3 => ?_, fun c3 => ?_⟩⟩
        · rw [gb.2.1 0 (by omega) (by omega)] at c3
          exact hbad (decide_eq_false (fun q => by rcases q with q | q; exact q c1; exact c3 q.2))
        · rw [gb.2.1 0 (by omega) (by omega)] at c3
          exact hgood (decide_eq_true (Or.inr ⟨by omega, Classical.byContradiction fun q => c3 q⟩))
      · have : frB d w x = true := decide_eq_true (Or.inl c1)
        rw [this] at hs
        refine hQ' _ _ rfl ⟨?_, ?_, hs, k4, k5⟩
        all_goals simp only [sl_ap, Nat.reduceEqDiff, if_true, if_false]
        · exact k1
        · exact k2
    · intro L M' _ ⟨k1, k2, k3, k4, k5⟩
      rw [k3, if_pos rfl] at hQ
      exact hQ M' (k4.wk SL_SC)
  · rw [if_neg c] at hQ
    ((repeat' (first | (with_reducible intro _) | (with_reducible refine And.intro ?_ ?_))) <;> try (exfalso; omega))
    all_goals exact hQ M Only.rf
def S_R_firm_ (FG FS : XF2) : XS := sSeq (sIf (cNot (cZ (fun x => x ≠ 0) (eC1 F_R_isWeek (eU i2l (eL 1))))) (sRet (eK (-2))) sSkip) (sSeq (sX (eC2 FG (eL 1) (eL 1))) (sSeq (sIf (cZ (fun x => x = 0) (eF 81 45)) (sRet (eK (-3))) sSkip) (sSeq (sSet 2 (eA 116 12 (eK 0))) (sSeq (sSet 3 (eK 1)) (sSeq (sSeq (sSet 4 (eK 0)) (sWhile (cAnd (cB (fun x y => x < y) (eL 4) (eF 81 11)) (cZ (fun x => x ≠ 0) (eL 3))) (sSeq (sIf (cB (fun x y => x = y) (eC2 FS (eL 4) (eL 1)) (eK 2)) (sSeq (sPF 81 29 (eL 4)) (sSeq (sX (eC2 FG (eL 1) (eL 1))) (sSeq (sPF 81 29 (eK (-1))) (sSet 3 (eIf (cAnd (cZ (fun x => 0 < x) (eF 81 45)) (cB (fun x y => x = y) (eA 116 12 (eK 0)) (eL 2))) (eK 1) (eK 0)))))) sSkip) (sInc 4 1)))) (sRet (eIf (cZ (fun x => x ≠ 0) (eL 3)) (eK 1) (eK 0))))))))
theorem R_firm_gen (FG FS : XF2) {d M : XM} {w : Int} {Q : Int → XM → Prop} (hB : Base d) (hC : RF d M) (hlo : M 81 29 = -1) (hG : FlSpec d FG) (hS : StSpec d FS) (hQ : ∀ M', OnlyR SR SF M M' → M' 81 29 = -1 → Q (vFirm d w) M') : S_R_firm_ FG FS (fun _ _ => False) Q (sl (fun _ => 0) 1 w) M := by
  obtain ⟨v1, v2, v3, v4, v5, v6⟩ := hB.2.2.1
  unfold S_R_firm_
  simp (disch := omega) only [sSeq, sSet, sInc, sPF, sPA, sPD, sOF, sOA, sX, sIf, sSkip, sRet, sRetB, sRetV, sSw, sSel, eK, eL, eR, eF, eA, eQ, eD, eU, eB, eV, eIf, ePF, eC0, eC1, eC2, eC3, eC4, eC5, eC6, eC7, cB, cZ, cAnd, cOr, cNot, i2l, st_fn, sl_ap, if_true, if_false, ↓reduceIte, reduceIte, Nat.reduceEqDiff, Int.reduceEq, Int.reduceLT, Int.reduceLE, Int.reduceAdd, Int.reduceSub, Int.reduceMul, Int.reduceNeg, and_true, true_and, not_true, not_false_eq_true, true_or, or_true, ne_eq, F_R_isWeek_iff, b01_ne]
  unfold vFirm at hQ
  by_cases c : 0 ≤ w ∧ w ≤ 51
  · rw [if_pos c] at hQ
    refine ⟨fun _ => ?_, fun q => absurd c q⟩
    refine hG M (-1) w w _ hC hlo c fun M1 o1 g1 g2 => ?_
    rw [g2.1]
    have hL := L_r hB.2.2.1 (-1) w w
    have h29 : M1 81 29 = -1 := (o1.2 29 (by decide)).trans hlo
    refine ⟨fun c0 => ?_, fun c0 => ?_⟩
    · rw [if_pos c0] at hQ
      exact hQ M1 (o1.wk (by decide) (by decide)) h29
    rw [if_neg c0] at hQ
    rw [g2.2.1 0 (by omega) (by omega)]
    refine while_inv (fun L M' => ∃ x, 0 ≤ x ∧ x ≤ d 81 11 ∧ L 4 = x ∧ L 1 = w ∧ L 2 = LO d (-1) w w 0 ∧ L 3 = (if firmN d w x.toNat = true then 1 else 0) ∧ OnlyR SR SF M M' ∧ M' 81 29 = -1) (fun L _ => (d 81 11 - L 4).toNat) ⟨0, Int.le_refl 0, v3.1, rfl, rfl, rfl, by simp only [sl_ap, st_fn, Nat.reduceEqDiff, ↓reduceIte, reduceIte, Int.reduceEq, if_true, if_false]; rfl, o1.wk (by decide) (by decide), h29⟩ ?_
    intro L M' ⟨x, hx0, hx2, hL, k1, k2, k3, k5, k6⟩ Q' hQ'
    have hC' := hC.go k5 (fun _ q => q) (fun _ q => q)
    have hend : (x < d 81 11 → firmN d w x.toNat = false) → ((¬ L 3 = 0 → Q 1 M') ∧ (¬ ¬ L 3 = 0 → Q 0 M')) := by
      intro cx
      have e : firmN d w x.toNat = firmN d w (d 81 11).toNat := by
        by_cases cl : x < d 81 11
        · rw [cx cl, firmN_mono (by omega) (cx cl)]
        · rw [show x = d 81 11 by omega]
      rw [e] at k3
      rw [k3]
      have hq := hQ M' k5 k6
      by_cases c1 : firmN d w (d 81 11).toNat = true
      · rw [if_pos c1] at hq ⊢
        exact ⟨fun _ => hq, fun q => absurd q (by simp)⟩
      · rw [if_neg c1] at hq ⊢
        exact ⟨fun q => absurd q (by simp), fun _ => hq⟩
    simp only [sSeq, sSet, sInc, sPF, sPA, sPD, sOF, sOA, sX, sIf, sSkip, sRet, sRetB, sRetV, sSw, sSel, eK, eL, eR, eF, eA, eQ, eD, eU, eB, eV, eIf, ePF, eC0, eC1, eC2, eC3, eC4, eC5, eC6, eC7, cB, cZ, cAnd, cOr, cNot, i2l, st_fn, sl_ap, if_true, if_false, ↓reduceIte, reduceIte, Nat.reduceEqDiff, Int.reduceEq, Int.reduceLT, Int.reduceLE, Int.reduceAdd, Int.reduceSub, Int.reduceMul, Int.reduceNeg, and_true, true_and, not_true, not_false_eq_true, true_or, or_true, ne_eq, hL, k1]
    rw [hC'.2.1 11 (by decide)]
    refine ⟨fun cx => ⟨fun c3 => ?_, fun c3 => hend fun _ => ?_⟩, fun cx => hend fun q => absurd q cx⟩
    · have hf : firmN d w x.toNat = true := by
        apply Classical.byContradiction
        intro q
        rw [if_neg q] at k3
        exact c3 k3
      have hs := firmN_succ d w hx0
      rw [hf, Bool.true_and] at hs
      refine hS M' x w _ hC' c ⟨hx0, cx⟩ ?_
      rw [k6, sta_lo d w x hx0, iAdd_id (by omega) (by omega)]
      refine ⟨fun c1 => ?_, fun c1 => ?_⟩
      · have oA : OnlyR SR SF M (st M' 81 29 x) := k5.setF (by decide) _
        refine hG _ x w w _ (hC.go oA (fun _ q => q) (fun _ q => q)) (by simp only [st_fn, Nat.reduceEqDiff, ↓reduceIte, reduceIte, Int.reduceEq, if_true, if_false]) c fun N o g g' => ?_
        have oN : OnlyR SR SF M (st N 81 29 (-1)) := (oA.trans o (fun _ q => q) (by decide) (fun _ q => q) (by decide)).setF (by decide) _
        have e45 : (st N 81 29 (-1)) 81 45 = (LN d x w w : Int) := g'.1
        have e116 : (st N 81 29 (-1)) 116 = N 116 := rfl
        rw [g'.1]
        simp only [sSeq, sSet, sInc, sPF, sPA, sPD, sOF, sOA, sX, sIf, sSkip, sRet, sRetB, sRetV, sSw, sSel, eK, eL, eR, eF, eA, eQ, eD, eU, eB, eV, eIf, ePF, eC0, eC1, eC2, eC3, eC4, eC5, eC6, eC7, cB, cZ, cAnd, cOr, cNot, i2l, st_fn, sl_ap, if_true, if_false, ↓reduceIte, reduceIte, Nat.reduceEqDiff, Int.reduceEq, Int.reduceLT, Int.reduceLE, Int.reduceAdd, Int.reduceSub, Int.reduceMul, Int.reduceNeg, and_true, true_and, not_true, not_false_eq_true, true_or, or_true, ne_eq, hL, k2]
        have hfin : ∀ v, v = (if firmN d w (x + 1).toNat = true then 1 else 0) → Q' (sl (sl L 3 v) 4 (x + 1)) (st N 81 29 (-1)) := by
          intro v hv
          refine hQ' _ _ ⟨x + 1, by omega, by omega, ?_, ?_, ?_, ?_, oN, ?_⟩ ?_
          all_goals simp only [sl_ap, st_fn, Nat.reduceEqDiff, ↓reduceIte, reduceIte, Int.reduceEq, if_true, if_false]
          · exact k1
          · exact k2
          · exact hv
          · omega
        rw [hs] at hfin
        refine ⟨fun c2 => ⟨fun c4 => hfin _ ?_, fun c4 => hfin _ ?_⟩, fun c2 => hfin _ ?_⟩
        · rw [g'.2.1 0 (by omega) (by omega)] at c4
          rw [show frB d w x = true from decide_eq_true (Or.inr ⟨c2, c4⟩), if_pos rfl]
        · rw [g'.2.1 0 (by omega) (by omega)] at c4
          rw [show frB d w x = false from decide_eq_false (fun q => by rcases q with q | q; exact q c1; exact c4 q.2), if_neg (by decide)]
        · rw [show frB d w x = false from decide_eq_false (fun q => by rcases q with q | q; exact q c1; exact c2 q.1), if_neg (by decide)]
      · have : frB d w x = true := decide_eq_true (Or.inl c1)
        rw [this] at hs
        refine hQ' _ _ ⟨x + 1, by omega, by omega, ?_, ?_, ?_, ?_, k5, k6⟩ ?_
        all_goals simp only [sl_ap, st_fn, Nat.reduceEqDiff, ↓reduceIte, reduceIte, Int.reduceEq, if_true, if_false]
        · exact k1
        · exact k2
        · rw [k3, hf, hs]
        · omega
    · apply Classical.byContradiction
      intro q
      have q : firmN d w x.toNat = true := by simpa using q
      rw [if_pos q] at k3
      exact c3 (by omega)
  · rw [if_neg c] at hQ
    ((repeat' (first | (with_reducible intro _) | (with_reducible refine And.intro ?_ ?_))) <;> try (exfalso; omega))
    all_goals exact hQ M OnlyR.rf hlo
theorem ok_firm {Z M : XM} (hZ : ZC Z) (h : Inv Z M) (x1 : Int) : F_M_firm x1 M (fun v M1 => F_R_firm x1 M1 (fun w M2 => v = w ∧ Inv Z M2)) :=
  ok_of (FM := F_M_firm x1) (FR := F_R_firm x1) h (vFirm M x1) (fun _ hQ => M_firm_gen F_Tally_makeList F_Tally_weigh F_Tally_rank (h.base hZ) CF.rf (ml_spec (h.base hZ)) (we_spec (h.base hZ)) (rk_spec (h.base hZ)) hQ) (fun _ _ hC hlo hQ => R_firm_gen F_R_findList F_R_statusOf (h.base hZ) hC hlo (fl_spec (h.base hZ)) (st_spec (h.base hZ)) hQ)
