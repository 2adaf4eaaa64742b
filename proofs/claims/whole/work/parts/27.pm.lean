/-! ===== calls that only look: how the two sides come together ===== -/
def ZC (Z : XM) : Prop := CZ3 Z ∧ ∀ n m : Nat, n ≤ 24 → m ≤ 24 → Z (42 + n) (m : Int) = ((chz n m : Nat) : Int)
theorem Inv.base {Z M : XM} (hZ : ZC Z) (h : Inv Z M) : Base M := by
  obtain ⟨a1, a2, a3, a4, a5, a6, a7, a8, a9⟩ := h
  refine ⟨a1, a2, a4, a5, a9, ⟨⟨fun i h1 h2 => ?_, fun i h1 h2 => ?_⟩, fun i h1 h2 => ?_⟩⟩
  · rw [a6 1001 (Or.inr (by omega))]; exact hZ.1.1.1 i h1 h2
  · rw [a6 1002 (Or.inr (by omega))]; exact hZ.1.1.2 i h1 h2
  · rw [a6 1003 (Or.inr (by omega))]; exact hZ.1.2 i h1 h2
def KeepI (M M2 : XM) : Prop := (∀ k, k ∉ SC → k ∉ SR → k ≠ 81 → M2 k = M k) ∧ (∀ j, j ∉ SF → M2 81 j = M 81 j) ∧ M2 81 29 = -1
theorem Inv_keep {Z M M2 : XM} (h : Inv Z M) (hk : KeepI M M2) : Inv Z M2 := by
  obtain ⟨⟨h1, h2, h3, h4, h5, h6, h7, h8, h9, h10, h11, h12, h13, h14⟩, ⟨l1, l2, l3, l4, l5, l6, l7, l8, l9, l10, l11⟩, ⟨s1, s2⟩, v, wv, hF, m1, m2, m3⟩ := h
  obtain ⟨k1, k2, k3⟩ := hk
  have e : ∀ k, k ∉ SC → k ∉ SR → k ≠ 81 → M2 k = M k := k1
  have f : ∀ j, j ∉ SF → M2 81 j = M 81 j := k2
  refine ⟨?_, ?_, ?_, ?_, ?_, ?_, ?_, k3, ?_⟩
  · refine ⟨?_, ?_, ?_, ?_, ?_, ?_, ?_, ?_, ?_, ?_, ?_, ?_, ?_, ?_⟩
    · rw [e 2 (by decide) (by decide) (by decide), f 5 (by decide)]; exact h1
    · rw [e 3 (by decide) (by decide) (by decide), e 86 (by decide) (by decide) (by decide)]; exact h2
    · rw [e 2 (by decide) (by decide) (by decide), f 7 (by decide)]; exact h3
    · rw [e 4 (by decide) (by decide) (by decide), e 87 (by decide) (by decide) (by decide)]; exact h4
    · rw [e 5 (by decide) (by decide) (by decide), e 88 (by decide) (by decide) (by decide)]; exact h5
    · rw [e 6 (by decide) (by decide) (by decide), e 89 (by decide) (by decide) (by decide)]; exact h6
    · rw [e 2 (by decide) (by decide) (by decide), f 11 (by decide)]; exact h7
    · rw [e 7 (by decide) (by decide) (by decide), e 90 (by decide) (by decide) (by decide)]; exact h8
    · rw [e 8 (by decide) (by decide) (by decide), e 91 (by decide) (by decide) (by decide)]; exact h9
    · rw [e 9 (by decide) (by decide) (by decide), e 92 (by decide) (by decide) (by decide)]; exact h10
    · rw [e 10 (by decide) (by decide) (by decide), e 93 (by decide) (by decide) (by decide)]; exact h11
    · rw [e 11 (by decide) (by decide) (by decide), e 94 (by decide) (by decide) (by decide)]; exact h12
    · rw [e 12 (by decide) (by decide) (by decide), e 95 (by decide) (by decide) (by decide)]; exact h13
    · rw [e 2 (by decide) (by decide) (by decide), e 95 (by decide) (by decide) (by decide)]; exact h14
  · refine ⟨?_, ?_, ?_, ?_, ?_, ?_, ?_, ?_, ?_, ?_, ?_⟩
    · rw [e 13 (by decide) (by decide) (by decide), f 19 (by decide)]; exact l1
    · rw [e 13 (by decide) (by decide) (by decide), f 18 (by decide)]; exact l2
    · rw [e 13 (by decide) (by decide) (by decide), f 28 (by decide)]; exact l3
    · rw [e 14 (by decide) (by decide) (by decide), e 96 (by decide) (by decide) (by decide)]; exact l4
    · rw [e 15 (by decide) (by decide) (by decide), e 97 (by decide) (by decide) (by decide)]; exact l5
    · rw [e 16 (by decide) (by decide) (by decide), e 98 (by decide) (by decide) (by decide)]; exact l6
    · rw [e 17 (by decide) (by decide) (by decide), e 99 (by decide) (by decide) (by decide)]; exact l7
    · rw [e 18 (by decide) (by decide) (by decide), e 100 (by decide) (by decide) (by decide)]; exact l8
    · rw [e 19 (by decide) (by decide) (by decide), e 101 (by decide) (by decide) (by decide)]; exact l9
    · rw [e 20 (by decide) (by decide) (by decide), e 102 (by decide) (by decide) (by decide)]; exact l10
    · rw [e 21 (by decide) (by decide) (by decide), e 103 (by decide) (by decide) (by decide)]; exact l11
  · unfold DCs
    rw [e 73 (by decide) (by decide) (by decide), f 4 (by decide), e 75 (by decide) (by decide) (by decide), e 76 (by decide) (by decide) (by decide), e 77 (by decide) (by decide) (by decide), e 78 (by decide) (by decide) (by decide), e 79 (by decide) (by decide) (by decide), e 80 (by decide) (by decide) (by decide), e 82 (by decide) (by decide) (by decide), e 83 (by decide) (by decide) (by decide), e 84 (by decide) (by decide) (by decide)]
    exact ⟨s1, s2⟩
  · unfold Vt
    rw [f 5 (by decide), f 7 (by decide), f 11 (by decide), e 86 (by decide) (by decide) (by decide), e 87 (by decide) (by decide) (by decide), e 88 (by decide) (by decide) (by decide), e 89 (by decide) (by decide) (by decide), e 90 (by decide) (by decide) (by decide), e 91 (by decide) (by decide) (by decide), e 92 (by decide) (by decide) (by decide), e 93 (by decide) (by decide) (by decide), e 94 (by decide) (by decide) (by decide)]
    exact v
  · unfold Vl
    rw [f 19 (by decide), f 18 (by decide), f 11 (by decide), f 7 (by decide), e 96 (by decide) (by decide) (by decide), e 97 (by decide) (by decide) (by decide), e 98 (by decide) (by decide) (by decide), e 99 (by decide) (by decide) (by decide), e 100 (by decide) (by decide) (by decide), e 101 (by decide) (by decide) (by decide), e 102 (by decide) (by decide) (by decide)]
    exact wv
  · intro k hk
    rw [e k (by unfold SC; simp only [List.mem_cons, List.not_mem_nil, or_false]; omega) (by unfold SR; simp only [List.mem_cons, List.not_mem_nil, or_false]; omega) (by omega)]
    exact hF k hk
  · rw [f 28 (by decide)]; exact m1
  · unfold DCr at m3 ⊢
    rw [e 22 (by decide) (by decide) (by decide), e 23 (by decide) (by decide) (by decide), e 26 (by decide) (by decide) (by decide), e 27 (by decide) (by decide) (by decide), e 28 (by decide) (by decide) (by decide), e 104 (by decide) (by decide) (by decide), f 31 (by decide)]
    exact m3
theorem CF.rf {d : XM} : CF d d := fun _ _ _ => rfl
theorem SC_lt {k : Nat} (h : k ∈ SC) : k < 81 := by
  unfold SC at h
  simp only [List.mem_cons, List.not_mem_nil, or_false] at h
  omega
theorem SR_gt {k : Nat} (h : k ∈ SR) : 82 ≤ k ∧ k < 120 := by
  unfold SR at h
  simp only [List.mem_cons, List.not_mem_nil, or_false] at h
  omega
theorem RF_of {M M1 : XM} (h : Only SC M M1) : RF M M1 := by
  refine ⟨fun k h1 h2 h3 => h k (fun q => by have := SC_lt q; omega), fun j _ => by rw [h 81 (by decide)], fun k hk => h k (fun q => ?_)⟩
  unfold SC at q
  simp only [List.mem_cons, List.not_mem_nil, or_false] at q hk
  omega
theorem Keep_of {M M1 M2 : XM} (h : Only SC M M1) (h2 : OnlyR SR SF M1 M2) (h3 : M2 81 29 = -1) : KeepI M M2 :=
  ⟨fun k a1 a2 a3 => (h2.1 k a3 a2).trans (h k a1), fun j hj => (h2.2 j hj).trans (by rw [h 81 (by decide)]), h3⟩
theorem ok_of {Z M : XM} {FM FR : XM → (Int → XM → Prop) → Prop} (h : Inv Z M) (v : Int) (hM : ∀ Q : Int → XM → Prop, (∀ M', Only SC M M' → Q v M') → FM M Q)
    (hR : ∀ (M1 : XM) (Q : Int → XM → Prop), RF M M1 → M1 81 29 = -1 → (∀ M', OnlyR SR SF M1 M' → M' 81 29 = -1 → Q v M') → FR M1 Q) : FM M (fun v M1 => FR M1 (fun w M2 => v = w ∧ Inv Z M2)) := by
  refine hM _ fun M1 o1 => ?_
  refine hR M1 _ (RF_of o1) (by rw [o1 81 (by decide)]; exact h.2.2.2.2.2.2.2.1) fun M2 o2 h2 => ?_
  exact ⟨rfl, Inv_keep h (Keep_of o1 o2 h2)⟩
def GaSpec (d : XM) (F : XF2) : Prop := ∀ (M : XM) (w r : Int) (Q : Int → XM → Prop), CF d M → 0 ≤ w ∧ w ≤ 51 → (∀ M', Only [24, 25, 30, 31, 32] M M' → Gat d w r M' → Q 0 M') → F w r M Q
def WeSpec (d : XM) (F : XF1) : Prop := ∀ (M : XM) (lo w r : Int) (Q : Int → XM → Prop), CF d M → Gat d w r M → (∀ M', Only [33, 34, 35, 36] M M' → Wei d lo w r M' → Q 0 M') → F lo M Q
def RkSpec (d : XM) (F : XF1) : Prop := ∀ (M : XM) (lo w r : Int) (Q : Int → XM → Prop), CF d M → Gat d w r M → Wei d lo w r M → (∀ M', Only [29, 37, 38] M M' → Lst d lo w r M' → Q 0 M') → F w M Q
def SL : List Nat := [24, 25, 29, 30, 31, 32, 33, 34, 35, 36, 37, 38]
def MlSpec (d : XM) (F : XF2) : Prop := ∀ (M : XM) (w r : Int) (Q : Int → XM → Prop), CF d M → 0 ≤ w ∧ w ≤ 51 → (∀ M', Only SL M M' → Gat d w r M' → Wei d (-1) w r M' → Lst d (-1) w r M' → Q 0 M') → F w r M Q
def StSpec (d : XM) (F : XF2) : Prop := ∀ (M : XM) (s w : Int) (Q : Int → XM → Prop), RF d M → 0 ≤ w ∧ w ≤ 51 → 0 ≤ s ∧ s < d 81 11 → Q (stL d (M 81 29) w s) M → F s w M Q
def FaSpec (d : XM) (F : XF2) : Prop := ∀ (M : XM) (w r : Int) (Q : Int → XM → Prop), RF d M → 0 ≤ w ∧ w ≤ 51 → (∀ M', OnlyR [105, 106, 107, 108, 109] [32, 33] M M' → GatR d w r M' → Q 0 M') → F w r M Q
def FsSpec (d : XM) (F : XF2) : Prop := ∀ (M : XM) (lo w r : Int) (Q : Int → XM → Prop), RF d M → M 81 29 = lo → 0 ≤ w ∧ w ≤ 51 → (∀ M', OnlyR S1 [32, 33] M M' → WeiR d lo w r M' → Q 0 M') → F w r M Q
def FlSpec (d : XM) (F : XF2) : Prop := ∀ (M : XM) (lo w r : Int) (Q : Int → XM → Prop), RF d M → M 81 29 = lo → 0 ≤ w ∧ w ≤ 51 → (∀ M', OnlyR S2 [32, 33, 45] M M' → WeiR d lo w r M' → LstR d lo w r M' → Q 0 M') → F w r M Q
theorem ga_spec {d : XM} (hB : Base d) : GaSpec d F_Tally_gather := fun _ _ _ _ h1 h2 h3 => Tally_gather_ok hB h1 h2 h3
theorem we_spec {d : XM} (hB : Base d) : WeSpec d F_Tally_weigh := fun _ _ _ _ _ h1 h2 h3 => Tally_weigh_ok hB h1 h2 h3
theorem rk_spec {d : XM} (hB : Base d) : RkSpec d F_Tally_rank := fun _ _ _ _ _ h1 h2 h3 h4 => Tally_rank_ok hB h1 h2 h3 h4
theorem ml_spec {d : XM} (hB : Base d) : MlSpec d F_Tally_makeList := fun _ _ _ _ h1 h2 h3 => Tally_makeList_ok hB h1 h2 h3
theorem st_spec {d : XM} (hB : Base d) : StSpec d F_R_statusOf := fun _ _ _ _ h1 h2 h3 h4 => R_statusOf_ok ⟨hB.2.2.1, hB.2.2.2.1⟩ h1 h2 h3 h4
theorem fa_spec {d : XM} (hB : Base d) : FaSpec d F_R_findAmounts := fun _ _ _ _ h1 h2 h3 => R_findAmounts_ok hB h1 h2 h3
theorem fs_spec {d : XM} (hB : Base d) : FsSpec d F_R_findSums := fun _ _ _ _ _ h1 h2 h3 h4 => R_findSums_ok hB h1 h2 h3 h4
theorem fl_spec {d : XM} (hB : Base d) : FlSpec d F_R_findList := fun _ _ _ _ _ h1 h2 h3 h4 => R_findList_ok hB h1 h2 h3 h4
def wk (w : Int) : Prop := 0 ≤ w ∧ w ≤ 51
/-! tells -/
abbrev vTells (d : XM) (s w : Int) : Int := if (0 ≤ s ∧ s < d 81 11) ∧ 0 ≤ w ∧ w ≤ 51 then stL d (-1) w s else -2
def S_M_tells_ (FG : XF2) : XS := sSeq (sIf (cOr (cNot (cZ (fun x => x ≠ 0) (eC1 F_Trade_isShop (eU i2l (eL 1))))) (cNot (cZ (fun x => x ≠ 0) (eC1 F_M_isWeek (eU i2l (eL 2)))))) (sRet (eK (-2))) sSkip) (sSeq (sX (eC2 FG (eL 2) (eL 2))) (sRet (eA 32 16 (eL 1))))
theorem M_tells_gen (FG : XF2) {d M : XM} {s w : Int} {Q : Int → XM → Prop} (hB : Base d) (hC : CF d M) (hG : GaSpec d FG) (hQ : ∀ M', Only SC M M' → Q (vTells d s w) M') : S_M_tells_ FG (fun _ _ => False) Q (sl (sl (fun _ => 0) 1 s) 2 w) M := by
  have hd := hC.dct hB
  obtain ⟨h1, h2, h3, h4, h5, h6, h7, h8, h9, h10, h11, h12, h13, h14⟩ := hd
  obtain ⟨v1, v2, v3, v4, v5, v6⟩ := hB.2.2.1
  unfold S_M_tells_
  simp (disch := omega) only [sSeq, sSet, sInc, sPF, sPA, sPD, sOF, sOA, sX, sIf, sSkip, sRet, sRetB, sRetV, sSw, sSel, eK, eL, eR, eF, eA, eQ, eD, eU, eB, eV, eIf, ePF, eC0, eC1, eC2, eC3, eC4, eC5, eC6, eC7, cB, cZ, cAnd, cOr, cNot, i2l, st_fn, sl_ap, if_true, if_false, ↓reduceIte, reduceIte, Nat.reduceEqDiff, Int.reduceEq, Int.reduceLT, Int.reduceLE, Int.reduceAdd, Int.reduceSub, Int.reduceMul, Int.reduceNeg, and_true, true_and, not_true, not_false_eq_true, true_or, or_true, ne_eq, F_Trade_isShop_iff, F_M_isWeek_iff, b01_ne, h7]
  by_cases c : (0 ≤ s ∧ s < d 81 11) ∧ 0 ≤ w ∧ w ≤ 51
  · unfold vTells at hQ
    rw [if_pos c] at hQ
    ((repeat' (first | (with_reducible intro _) | (with_reducible refine And.intro ?_ ?_))) <;> try (exfalso; omega))
    refine hG M w w _ hC c.2 fun M1 o1 g1 => ⟨c.1.1, by omega, ?_⟩
    rw [g1.2.2 s c.1.1 c.1.2]
    have e : stL d (-1) w s = sta d w s := if_neg (fun q => by omega)
    rw [e] at hQ
    exact hQ M1 (o1.wk (by decide))
  · unfold vTells at hQ
    rw [if_neg c] at hQ
    ((repeat' (first | (with_reducible intro _) | (with_reducible refine And.intro ?_ ?_))) <;> try (exfalso; omega))
    all_goals exact hQ M Only.rf
def S_R_tells_ (FG : XF2) : XS := sRet (eIf (cAnd (cZ (fun x => x ≠ 0) (eC1 F_R_isShop (eU i2l (eL 1)))) (cZ (fun x => x ≠ 0) (eC1 F_R_isWeek (eU i2l (eL 2))))) (eC2 FG (eL 1) (eL 2)) (eK (-2)))
theorem R_tells_gen (FG : XF2) {d M : XM} {s w : Int} {Q : Int → XM → Prop} (hB : Base d) (hC : RF d M) (hlo : M 81 29 = -1) (hG : StSpec d FG) (hQ : ∀ M', OnlyR SR SF M M' → M' 81 29 = -1 → Q (vTells d s w) M') : S_R_tells_ FG (fun _ _ => False) Q (sl (sl (fun _ => 0) 1 s) 2 w) M := by
  obtain ⟨v1, v2, v3, v4, v5, v6⟩ := hB.2.2.1
  have e11 := hC.2.1 11 (by decide)
  unfold S_R_tells_
  simp (disch := omega) only [sSeq, sSet, sInc, sPF, sPA, sPD, sOF, sOA, sX, sIf, sSkip, sRet, sRetB, sRetV, sSw, sSel, eK, eL, eR, eF, eA, eQ, eD, eU, eB, eV, eIf, ePF, eC0, eC1, eC2, eC3, eC4, eC5, eC6, eC7, cB, cZ, cAnd, cOr, cNot, i2l, st_fn, sl_ap, if_true, if_false, ↓reduceIte, reduceIte, Nat.reduceEqDiff, Int.reduceEq, Int.reduceLT, Int.reduceLE, Int.reduceAdd, Int.reduceSub, Int.reduceMul, Int.reduceNeg, and_true, true_and, not_true, not_false_eq_true, true_or, or_true, ne_eq, F_R_isShop_iff, F_R_isWeek_iff, b01_ne, e11]
  by_cases c : (0 ≤ s ∧ s < d 81 11) ∧ 0 ≤ w ∧ w ≤ 51
  · unfold vTells at hQ
    rw [if_pos c] at hQ
    ((repeat' (first | (with_reducible intro _) | (with_reducible refine And.intro ?_ ?_))) <;> try (exfalso; omega))
    refine hG M s w _ hC c.2 c.1 ?_
    rw [hlo]
    exact hQ M OnlyR.rf hlo
  · unfold vTells at hQ
    rw [if_neg c] at hQ
    ((repeat' (first | (with_reducible intro _) | (with_reducible refine And.intro ?_ ?_))) <;> try (exfalso; omega))
    all_goals exact hQ M OnlyR.rf hlo
theorem ok_tells {Z M : XM} (hZ : ZC Z) (h : Inv Z M) (x1 x2 : Int) : F_M_tells x1 x2 M (fun v M1 => F_R_tells x1 x2 M1 (fun w M2 => v = w ∧ Inv Z M2)) :=
  ok_of (FM := F_M_tells x1 x2) (FR := F_R_tells x1 x2) h (vTells M x1 x2) (fun _ hQ => M_tells_gen F_Tally_gather (h.base hZ) CF.rf (ga_spec (h.base hZ)) hQ) (fun _ _ hC hlo hQ => R_tells_gen F_R_statusOf (h.base hZ) hC hlo (st_spec (h.base hZ)) hQ)
