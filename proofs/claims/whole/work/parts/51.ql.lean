/-! ===== ask: the class's whole, the reference, both ===== -/
def mayB (d : XM) (w : Int) (s : Int) : Bool := decide (sta d w s = 1)
def offB (d : XM) (w c : Int) (s : Int) : Bool := decide (sta d w s = 1 ∧ 0 < WOR d w s ∧ d 94 s ≤ c)
def NS (d : XM) : Nat := (d 81 11).toNat
abbrev vAsk (d : XM) (w c : Int) : Int := if (0 ≤ w ∧ w ≤ 51) ∧ 0 ≤ c ∧ c ≤ 16000 then ((chR (mayB d w) (WOR d w) (d 94) c (NS d) (2 ^ NS d - 1) : Nat) : Int) else -2
def AskI (d : XM) (w c : Int) (x : Nat) (M : XM) : Prop := M 69 3 = ((gc (offB d w c) x : Nat) : Int) ∧ M 69 4 = c ∧ ∀ i, 0 ≤ i → i < ((gc (offB d w c) x : Nat) : Int) → M 70 i = ga (offB d w c) x i ∧ M 71 i = WOR d w (ga (offB d w c) x i) ∧ M 72 i = d 94 (ga (offB d w c) x i)
theorem AskI.old {d M : XM} {w c : Int} {x : Nat} (h : AskI d w c x M) (hn : ¬ offB d w c (x : Int) = true) : AskI d w c (x + 1) M := by
  unfold AskI at h ⊢
  rw [gc_n hn, ga_n hn]
  exact h
theorem AskI.new {d M : XM} {w c : Int} {x : Nat} (h : AskI d w c x M) (hy : offB d w c (x : Int) = true) : AskI d w c (x + 1) (st (st (st (st M 70 (M 69 3) (x : Int)) 71 (M 69 3) (WOR d w (x : Int))) 72 (M 69 3) (d 94 (x : Int))) 69 3 (M 69 3 + 1)) := by
  obtain ⟨h1, h2, h3⟩ := h
  unfold AskI
  rw [gc_s hy, ga_s hy]
  simp only [st_fn, Nat.reduceEqDiff, ↓reduceIte, reduceIte, Int.reduceEq, if_true, if_false, h1]
  refine ⟨by omega, h2, fun i a b => ?_⟩
  rw [upx_ap]
  by_cases e : i = ((gc (offB d w c) x : Nat) : Int)
  · simp only [if_pos e]
    exact ⟨trivial, trivial, trivial⟩
  · simp only [if_neg e]
    exact h3 i a (by omega)
def S_M_ask_ (FG : XF2) (FW FO FS : XF1) (FX : XM → (Int → XM → Prop) → Prop) : XS := sSeq (sIf (cOr (cNot (cZ (fun x => x ≠ 0) (eC1 F_M_isWeek (eU i2l (eL 1))))) (cNot (cZ (fun x => x ≠ 0) (eC3 F_M_within (eU i2l (eL 2)) (eK 0) (eK 16000))))) (sRet (eK (-2))) sSkip) (sSeq (sX (eC2 FG (eL 1) (eL 1))) (sSeq (sX (eC1 FW (eK (-1)))) (sSeq (sX (eC1 FS (eL 2))) (sSeq (sSeq (sSet 3 (eK 0)) (sWhile (cB (fun x y => x < y) (eL 3) (eF 2 6)) (sSeq (sIf (cB (fun x y => x = y) (eA 32 16 (eL 3)) (eK 1)) (sX (eC3 F_Errand_offer (eL 3) (eC1 FO (eL 3)) (eA 11 16 (eL 3)))) sSkip) (sInc 3 1)))) (sRet (eC0 FX))))))
theorem S_M_ask_eq : S_M_ask = S_M_ask_ F_Tally_gather F_Tally_weigh F_Tally_worthOf F_Errand_start F_Errand_choose := rfl
theorem M_ask_gen (FG : XF2) (FW FO FS : XF1) (FX : XM → (Int → XM → Prop) → Prop) {d M : XM} {w c : Int} {Q : Int → XM → Prop} (hB : Base d) (hC : CF d M) (hG : GaSpec d FG) (hW : WeSpec d FW) (hO : WoSpec d FO) (hS : ∀ (c : Int) (M : XM) (Q : Int → XM → Prop), Q 0 (st (st M 69 3 0) 69 4 c) → FS c M Q)
    (hX : ∀ (M : XM) (Q : Int → XM → Prop), (0 ≤ w ∧ w ≤ 51) ∧ 0 ≤ c ∧ c ≤ 16000 → AskI d w c (NS d) M → Q (vAsk d w c) M → FX M Q) (hQ : ∀ M', Only SC M M' → Q (vAsk d w c) M') : S_M_ask_ FG FW FO FS FX (fun _ _ => False) Q (sl (sl (fun _ => 0) 1 w) 2 c) M := by
  obtain ⟨h1, h2, h3, h4, h5, h6, h7, h8, h9, h10, h11, h12, h13, h14⟩ := hC.dct hB
  obtain ⟨v1, v2, v3, v4, v5, v6⟩ := hB.2.2.1
  unfold S_M_ask_
  simp (disch := omega) only [sSeq, sSet, sInc, sPF, sPA, sPD, sOF, sOA, sX, sIf, sSkip, sRet, sRetB, sRetV, sSw, sSel, eK, eL, eR, eF, eA, eQ, eD, eU, eB, eV, eIf, ePF, eC0, eC1, eC2, eC3, eC4, eC5, eC6, eC7, cB, cZ, cAnd, cOr, cNot, i2l, st_fn, sl_ap, if_true, if_false, ↓reduceIte, reduceIte, Nat.reduceEqDiff, Int.reduceEq, Int.reduceLT, Int.reduceLE, Int.reduceAdd, Int.reduceSub, Int.reduceMul, Int.reduceNeg, and_true, true_and, not_true, not_false_eq_true, true_or, or_true, ne_eq, F_M_isWeek_iff, F_M_within_iff, b01_ne]
  by_cases cc : (0 ≤ w ∧ w ≤ 51) ∧ 0 ≤ c ∧ c ≤ 16000
  · ((repeat' (first | (with_reducible intro _) | (with_reducible refine And.intro ?_ ?_))) <;> try (exfalso; omega))
    refine hG M w w _ hC cc.1 fun M1 o1 g1 => ?_
    refine hW M1 (-1) w w _ (hC.go o1 (by decide)) g1 fun M2 o2 g2 => ?_
    have o12 : Only SL M M2 := o1.trans o2 (by decide) (by decide)
    refine hS c M2 _ ?_
    have e32 : ∀ s, 0 ≤ s → s < d 81 11 → M2 32 s = sta d w s := fun s a b => by rw [o2 32 (by decide)]; exact g1.2.2 s a b
    have o3 : Only SC M (st (st M2 69 3 0) 69 4 c) := ((o12.wk SL_SC).set (by decide) _ _).set (by decide) _ _
    have w3 : Wei d (-1) w w (st (st M2 69 3 0) 69 4 c) := g2.go (S := [69]) ((Only.rf.set (by decide) _ _).set (by decide) _ _) (by decide)
    have e3 : ∀ s, 0 ≤ s → s < d 81 11 → (st (st M2 69 3 0) 69 4 c) 32 s = sta d w s := fun s a b => by rw [st_ne _ _ _ (by decide), st_ne _ _ _ (by decide)]; exact e32 s a b
    have i3 : AskI d w c 0 (st (st M2 69 3 0) 69 4 c) := by
      unfold AskI
      simp only [st_fn, Nat.reduceEqDiff, ↓reduceIte, reduceIte, Int.reduceEq, if_true, if_false]
      exact ⟨rfl, trivial, fun i a b => by exfalso; have : i < ((0 : Nat) : Int) := b; omega⟩
    generalize st (st M2 69 3 0) 69 4 c = N3 at *
    refine while_up 3 0 (d 81 11) (fun x L N => Only SC M N ∧ Wei d (-1) w w N ∧ (∀ s, 0 ≤ s → s < d 81 11 → N 32 s = sta d w s) ∧ AskI d w c x.toNat N) (by omega) rfl ⟨o3, w3, e3, i3⟩ ?_ ?_ ?_
    · intro x L N P F a1 a2 hL ⟨k1, _⟩ hT hF
      have e26 : N 2 6 = d 81 11 := by
        have := ((hC.go k1 (fun _ q => q)).dct hB).2.2.2.2.2.2.1
        exact this
      simp only [sSeq, sSet, sInc, sPF, sPA, sPD, sOF, sOA, sX, sIf, sSkip, sRet, sRetB, sRetV, sSw, sSel, eK, eL, eR, eF, eA, eQ, eD, eU, eB, eV, eIf, ePF, eC0, eC1, eC2, eC3, eC4, eC5, eC6, eC7, cB, cZ, cAnd, cOr, cNot, i2l, st_fn, sl_ap, if_true, if_false, ↓reduceIte, reduceIte, Nat.reduceEqDiff, Int.reduceEq, Int.reduceLT, Int.reduceLE, Int.reduceAdd, Int.reduceSub, Int.reduceMul, Int.reduceNeg, and_true, true_and, not_true, not_false_eq_true, true_or, or_true, ne_eq, hL, e26]
      exact ⟨hT, hF⟩
    · intro x L N Q' hx0 hx1 hL ⟨k1, k2, k3, k4⟩ hQ'
      have hCN := hC.go k1 (fun _ q => q)
      have e11 : N 11 = d 94 := (hCN.dct hB).2.2.2.2.2.2.2.2.2.2.2.1
      have hxx : ((x.toNat : Nat) : Int) = x := Int.toNat_of_nonneg hx0
      have hx1' : (x + 1).toNat = x.toNat + 1 := by omega
      have hgc := gc_le (offB d w c) x.toNat
      simp only [sSeq, sSet, sInc, sPF, sPA, sPD, sOF, sOA, sX, sIf, sSkip, sRet, sRetB, sRetV, sSw, sSel, eK, eL, eR, eF, eA, eQ, eD, eU, eB, eV, eIf, ePF, eC0, eC1, eC2, eC3, eC4, eC5, eC6, eC7, cB, cZ, cAnd, cOr, cNot, i2l, st_fn, sl_ap, if_true, if_false, ↓reduceIte, reduceIte, Nat.reduceEqDiff, Int.reduceEq, Int.reduceLT, Int.reduceLE, Int.reduceAdd, Int.reduceSub, Int.reduceMul, Int.reduceNeg, and_true, true_and, not_true, not_false_eq_true, true_or, or_true, ne_eq, hL, k3 x hx0 hx1]
      have hstep : ∀ N', Only [69, 70, 71, 72] N N' → AskI d w c (x.toNat + 1) N' → Q' (sl L 3 (iAdd (L 3) 1)) N' := by
        intro N' o a
        refine hQ' _ _ ?_ ⟨k1.trans o (fun _ q => q) (by decide), k2.go o (by decide), fun s q1 q2 => ?_, by rw [hx1']; exact a⟩
        · simp only [sl_ap, st_fn, Nat.reduceEqDiff, ↓reduceIte, reduceIte, Int.reduceEq, if_true, if_false, hL]
          exact iAdd_id (by omega) (by omega)
        · rw [o 32 (by decide)]; exact k3 s q1 q2
      rw [hL] at hstep
      refine ⟨hx0, by omega, fun c1 => ?_, fun c1 => ?_⟩
      · refine hO N w x _ hCN ⟨hx0, hx1⟩ k2 ⟨hx0, by omega, ?_⟩
        rw [e11]
        refine Errand_offer_ok (by rw [k4.1]; omega) (by rw [k4.1]; omega) (fun q1 q2 => ?_) (fun q => ?_)
        · rw [k4.2.1] at q2
          have hy : offB d w c ((x.toNat : Nat) : Int) = true := by
            rw [hxx]; unfold offB; rw [decide_eq_true_eq]; exact ⟨c1, q1, q2⟩
          have hnw := k4.new hy
          rw [hxx] at hnw
          exact hstep _ ((((Only.rf.set (by decide) _ _).set (by decide) _ _).set (by decide) _ _).set (by decide) _ _) hnw
        · rw [k4.2.1] at q
          have hy : ¬ offB d w c ((x.toNat : Nat) : Int) = true := by
            rw [hxx]; unfold offB; rw [decide_eq_true_eq]; exact fun z => q ⟨z.2.1, z.2.2⟩
          exact hstep _ Only.rf (k4.old hy)
      · have hy : ¬ offB d w c ((x.toNat : Nat) : Int) = true := by
          rw [hxx]; unfold offB; rw [decide_eq_true_eq]; exact fun z => c1 z.1
        exact hstep _ Only.rf (k4.old hy)
    · intro L N hL ⟨k1, k2, k3, k4⟩
      exact hX N _ cc k4 (hQ N k1)
  · have hq := hQ M Only.rf
    unfold vAsk at hq
    rw [if_neg cc] at hq
    ((repeat' (first | (with_reducible intro _) | (with_reducible refine And.intro ?_ ?_))) <;> try (exfalso; omega))
    all_goals exact hq
theorem WOR_r {d : XM} (hB : Base d) (w : Int) {s : Int} (hs : 0 ≤ s ∧ s < d 81 11) : 0 ≤ WOR d w s ∧ WOR d w s ≤ 552960000000000000 := by
  have h := hB.2.2.1.1
  exact ⟨WOR_nn hB w hs _, (WOR_bdN hB w hs (n := (d 81 5).toNat) (by omega)).2⟩
theorem price_r {d : XM} (hB : Base d) {s : Int} (hs : 0 ≤ s ∧ s < d 81 11) : 0 ≤ d 94 s ∧ d 94 s ≤ 1000 := by
  have h := hB.2.2.1.2.2.2.2.2 s hs.1 hs.2
  exact ⟨h.2.2.2.2.2.2.2.1, h.2.2.2.2.2.2.2.2⟩
theorem NS_r {d : XM} (hB : Base d) : NS d ≤ 16 ∧ ((NS d : Nat) : Int) = d 81 11 := by
  have h := hB.2.2.1.2.2.1
  unfold NS
  omega
theorem ask_phi {d : XM} (hB : Base d) (w c : Int) (h0 : 0 ≤ c) : phi (offB d w c) (chC (offB d w c) (WOR d w) (d 94) c (NS d) (2 ^ gc (offB d w c) (NS d) - 1)) (NS d) = chR (mayB d w) (WOR d w) (d 94) c (NS d) (2 ^ NS d - 1) := by
  have hn := NS_r hB
  refine ask_same (fun s hs => ?_) (fun s hs => (WOR_r hB w ⟨by omega, by omega⟩).1) (fun s hs => (price_r hB ⟨by omega, by omega⟩).1) h0
  unfold offB mayB
  rw [decide_eq_true_eq, decide_eq_true_eq]
theorem Errand_choose_ok {d M : XM} {w c : Int} {Q : Int → XM → Prop} (hB : Base d) (h0 : 0 ≤ c) (hA : AskI d w c (NS d) M) (hQ : Q ((chR (mayB d w) (WOR d w) (d 94) c (NS d) (2 ^ NS d - 1) : Nat) : Int) M) : F_Errand_choose M Q := by
  have hn := NS_r hB
  have hg := gc_le (offB d w c) (NS d)
  have h2p := pow16 (show gc (offB d w c) (NS d) ≤ 16 by omega)
  have hr := ga_r (offB d w c) (NS d)
  unfold F_Errand_choose
  rw [S_Errand_choose_eq]
  refine choose_gen F_Errand_shopBits (b := offB d w c) (f := WOR d w) (p := d 94) (pu := c) hn.1 h0 (fun i a b => ?_) (fun i a b => ?_) hA.1 hA.2.1 (fun i a b => (hA.2.2 i a b).2.1) (fun i a b => (hA.2.2 i a b).2.2) (fun Y Q hY q => ?_) (by rw [ask_phi hB w c h0]; exact hQ)
  · have := hr i a b
    exact WOR_r hB w ⟨by omega, by omega⟩
  · have := hr i a b
    exact price_r hB ⟨by omega, by omega⟩
  · exact shopBits_ok hn.1 (by omega) hA.1 (fun i a b => (hA.2.2 i a b).1) q
/-! the reference -/
def S_ra0 (FO : XF1) : XS := sSeq (sSet 12 (eK 0)) (sWhile (cB (fun x y => x < y) (eL 12) (eF 81 11)) (sSeq (sIf (cB (fun x y => x = y) (eB iAnd (eB iShr (eL 8) (eL 12)) (eK 1)) (eK 1)) (sSeq (sSet 9 (eB lAdd (eL 9) (eC1 FO (eL 12)))) (sSet 11 (eB iAdd (eL 11) (eA 94 16 (eL 12))))) sSkip) (sInc 12 1)))
def S_ra2 : XS := sIf (cAnd (cB (fun x y => x ≤ y) (eL 11) (eL 2)) (cOr (cB (fun x y => y < x) (eL 9) (eL 5)) (cAnd (cB (fun x y => x = y) (eL 9) (eL 5)) (cB (fun x y => x < y) (eL 11) (eL 7))))) (sSeq (sSet 4 (eL 8)) (sSeq (sSet 5 (eL 9)) (sSet 7 (eL 11)))) sSkip
def S_ra1 (FO : XF1) : XS := sSeq (sSet 9 (eK 0)) (sSeq (sSet 11 (eK 0)) (sSeq (S_ra0 FO) S_ra2))
def S_R_ask_ (FS : XF2) (FO : XF1) : XS := sSeq (sIf (cOr (cNot (cZ (fun x => x ≠ 0) (eC1 F_R_isWeek (eU i2l (eL 1))))) (cNot (cZ (fun x => x ≠ 0) (eC3 F_R_in (eU i2l (eL 2)) (eK 0) (eK 16000))))) (sRet (eK (-2))) sSkip) (sSeq (sX (eC2 FS (eL 1) (eL 1))) (sSeq (sSet 3 (eK 0)) (sSeq (sSeq (sSet 4 (eK 0)) (sWhile (cB (fun x y => x < y) (eL 4) (eF 81 11)) (sSeq (sSet 3 (eB iOr (eL 3) (eIf (cB (fun x y => x = y) (eA 112 16 (eL 4)) (eK 1)) (eB iShl (eK 1) (eL 4)) (eK 0)))) (sInc 4 1)))) (sSeq (sSet 4 (eK 0)) (sSeq (sSet 5 (eK 0)) (sSeq (sSet 7 (eK 0)) (sSeq (sSeq (sSet 8 (eK 1)) (sWhile (cB (fun x y => x < y) (eL 8) (eB iShl (eK 1) (eF 81 11))) (sSeq (sIf (cZ (fun x => x = 0) (eB iAnd (eL 8) (eB iXor (eL 3) (eK (-1))))) (S_ra1 FO) sSkip) (sInc 8 1)))) (sRet (eL 4)))))))))
theorem S_R_ask_eq : S_R_ask = S_R_ask_ F_R_findSums F_R_worthOf := rfl
theorem ra2_ok {Qn : XL → XM → Prop} {Qr : Int → XM → Prop} {L : XL} {M : XM} {set : Nat} {sm cs w0 c0 pu : Int} (h8 : L 8 = (set : Int)) (h9 : L 9 = sm) (h11 : L 11 = cs) (h5 : L 5 = w0) (h7 : L 7 = c0) (h2 : L 2 = pu)
    (hnew : cs ≤ pu → (w0 < sm ∨ (sm = w0 ∧ cs < c0)) → Qn (sl (sl (sl L 4 (set : Int)) 5 sm) 7 cs) M)
    (hold : ¬ (cs ≤ pu ∧ (w0 < sm ∨ (sm = w0 ∧ cs < c0))) → Qn L M) : S_ra2 Qn Qr L M := by
  unfold S_ra2
  simp only [sSeq, sSet, sInc, sPF, sPA, sPD, sOF, sOA, sX, sIf, sSkip, sRet, sRetB, sRetV, sSw, sSel, eK, eL, eR, eF, eA, eQ, eD, eU, eB, eV, eIf, ePF, eC0, eC1, eC2, eC3, eC4, eC5, eC6, eC7, cB, cZ, cAnd, cOr, cNot, i2l, st_fn, sl_ap, if_true, if_false, ↓reduceIte, reduceIte, Nat.reduceEqDiff, Int.reduceEq, Int.reduceLT, Int.reduceLE, Int.reduceAdd, Int.reduceSub, Int.reduceMul, Int.reduceNeg, and_true, true_and, not_true, not_false_eq_true, true_or, or_true, ne_eq, h8, h9, h11, h5, h7, h2]
  refine ⟨fun d1 => ⟨fun d2 => hnew d1 (Or.inl d2), fun d2 => ⟨fun d3 => ⟨fun d4 => hnew d1 (Or.inr ⟨d3, d4⟩), fun d4 => hold (fun q => q.2.elim d2 (fun z => d4 z.2))⟩, fun d3 => hold (fun q => q.2.elim d2 (fun z => d3 z.1))⟩⟩, fun d1 => hold (fun q => d1 q.1)⟩
theorem sS_succ (f : Int → Int) (set : Nat) {x : Int} (h : 0 ≤ x) : sS f set (x + 1).toNat = sS f set x.toNat + (if bi set x.toNat = 1 then f x else 0) := by
  unfold sS
  exact sumN_succ _ h
theorem ra1_ok (FO : XF1) {Qn : XL → XM → Prop} {Qr : Int → XM → Prop} {L : XL} {M : XM} {f : Int → Int} {set N : Nat} {coins w0 c0 : Int} (hN : N ≤ 16) (hset : set < 65536) (h11 : M 81 11 = (N : Int)) (hf : ∀ s : Int, 0 ≤ s → s < (N : Int) → 0 ≤ f s ∧ f s ≤ 552960000000000000) (hp : ∀ s : Int, 0 ≤ s → s < (N : Int) → 0 ≤ M 94 s ∧ M 94 s ≤ 1000) (hO : ∀ (s : Int) (Q : Int → XM → Prop), 0 ≤ s → s < (N : Int) → Q (f s) M → FO s M Q) (h8 : L 8 = (set : Int)) (h2 : L 2 = coins) (h5 : L 5 = w0) (h7 : L 7 = c0)
    (hnew : sS (M 94) set N ≤ coins → (w0 < sS f set N ∨ (sS f set N = w0 ∧ sS (M 94) set N < c0)) → ∀ L', L' 8 = (set : Int) → L' 2 = coins → L' 3 = L 3 → L' 4 = (set : Int) → L' 5 = sS f set N → L' 7 = sS (M 94) set N → Qn L' M)
    (hold : ¬ (sS (M 94) set N ≤ coins ∧ (w0 < sS f set N ∨ (sS f set N = w0 ∧ sS (M 94) set N < c0))) → ∀ L', L' 8 = (set : Int) → L' 2 = coins → L' 3 = L 3 → L' 4 = L 4 → L' 5 = w0 → L' 7 = c0 → Qn L' M) : S_ra1 FO Qn Qr L M := by
  unfold S_ra1 S_ra0
  simp only [sSeq, sSet, sInc, sPF, sPA, sPD, sOF, sOA, sX, sIf, sSkip, sRet, sRetB, sRetV, sSw, sSel, eK, eL, eR, eF, eA, eQ, eD, eU, eB, eV, eIf, ePF, eC0, eC1, eC2, eC3, eC4, eC5, eC6, eC7, cB, cZ, cAnd, cOr, cNot, i2l, st_fn, sl_ap, if_true, if_false, ↓reduceIte, reduceIte, Nat.reduceEqDiff, Int.reduceEq, Int.reduceLT, Int.reduceLE, Int.reduceAdd, Int.reduceSub, Int.reduceMul, Int.reduceNeg, and_true, true_and, not_true, not_false_eq_true, true_or, or_true, ne_eq]
  refine while_up 12 0 (N : Int) (fun x L' N' => N' = M ∧ L' 8 = (set : Int) ∧ L' 2 = coins ∧ L' 3 = L 3 ∧ L' 4 = L 4 ∧ L' 5 = w0 ∧ L' 7 = c0 ∧ L' 9 = sS f set x.toNat ∧ L' 11 = sS (M 94) set x.toNat) (by omega) rfl ⟨rfl, by simp only [sl_ap, st_fn, Nat.reduceEqDiff, ↓reduceIte, reduceIte, Int.reduceEq, if_true, if_false]; exact h8, by simp only [sl_ap, st_fn, Nat.reduceEqDiff, ↓reduceIte, reduceIte, Int.reduceEq, if_true, if_false]; exact h2, by simp only [sl_ap, st_fn, Nat.reduceEqDiff, ↓reduceIte, reduceIte, Int.reduceEq, if_true, if_false], by simp only [sl_ap, st_fn, Nat.reduceEqDiff, ↓reduceIte, reduceIte, Int.reduceEq, if_true, if_false], by simp only [sl_ap, st_fn, Nat.reduceEqDiff, ↓reduceIte, reduceIte, Int.reduceEq, if_true, if_false]; exact h5, by simp only [sl_ap, st_fn, Nat.reduceEqDiff, ↓reduceIte, reduceIte, Int.reduceEq, if_true, if_false]; exact h7, rfl, rfl⟩ ?_ ?_ ?_
  · intro x L' N' P F a1 a2 hL ⟨k0, _⟩ hT hF
    subst k0
    simp only [sSeq, sSet, sInc, sPF, sPA, sPD, sOF, sOA, sX, sIf, sSkip, sRet, sRetB, sRetV, sSw, sSel, eK, eL, eR, eF, eA, eQ, eD, eU, eB, eV, eIf, ePF, eC0, eC1, eC2, eC3, eC4, eC5, eC6, eC7, cB, cZ, cAnd, cOr, cNot, i2l, st_fn, sl_ap, if_true, if_false, ↓reduceIte, reduceIte, Nat.reduceEqDiff, Int.reduceEq, Int.reduceLT, Int.reduceLE, Int.reduceAdd, Int.reduceSub, Int.reduceMul, Int.reduceNeg, and_true, true_and, not_true, not_false_eq_true, true_or, or_true, ne_eq, hL, h11]
    exact ⟨hT, hF⟩
  · intro x L' N' Q' hx0 hx1 hL ⟨k0, k8, k2, k3, k4, k5, k7, k9, k11⟩ hQ'
    subst k0
    have ebit : iAnd (iShr (set : Int) x) 1 = ((bi set x.toNat : Nat) : Int) := by
      have e := bit_n (n := set) (k := x.toNat) (by omega) (by omega)
      rw [Int.toNat_of_nonneg hx0] at e
      exact e
    have hb := bi_lt set x.toNat
    have s1 := sS_succ f set hx0
    have s2 := sS_succ (N' 94) set hx0
    have b1 := sS_bd (f := f) (B := 552960000000000000) (set := set) (n := x.toNat) (by omega) fun k a b => hf k a (by omega)
    have b2 := sS_bd (f := N' 94) (B := 1000) (set := set) (n := x.toNat) (by omega) fun k a b => hp k a (by omega)
    have f1 := hf x hx0 hx1
    have p1 := hp x hx0 hx1
    have hfin : ∀ (L2 : XL) (v v' : Int), v = sS f set (x + 1).toNat → v' = sS (N' 94) set (x + 1).toNat → L2 12 = x → L2 8 = (set : Int) → L2 2 = coins → L2 3 = L 3 → L2 4 = L 4 → L2 5 = w0 → L2 7 = c0 → L2 9 = v → L2 11 = v' → Q' (sl L2 12 (iAdd x 1)) N' := by
      intro L2 v v' hv hv' g12 g8 g2 g3 g4 g5 g7 g9 g11
      subst hv
      subst hv'
      refine hQ' _ _ ?_ ⟨rfl, ?_, ?_, ?_, ?_, ?_, ?_, ?_, ?_⟩
      · simp only [sl_ap, st_fn, Nat.reduceEqDiff, ↓reduceIte, reduceIte, Int.reduceEq, if_true, if_false]
        exact iAdd_id (by omega) (by omega)
      all_goals simp only [sl_ap, st_fn, Nat.reduceEqDiff, ↓reduceIte, reduceIte, Int.reduceEq, if_true, if_false]
      · exact g8
      · exact g2
      · exact g3
      · exact g4
      · exact g5
      · exact g7
      · exact g9
      · exact g11
    simp only [sSeq, sSet, sInc, sPF, sPA, sPD, sOF, sOA, sX, sIf, sSkip, sRet, sRetB, sRetV, sSw, sSel, eK, eL, eR, eF, eA, eQ, eD, eU, eB, eV, eIf, ePF, eC0, eC1, eC2, eC3, eC4, eC5, eC6, eC7, cB, cZ, cAnd, cOr, cNot, i2l, st_fn, sl_ap, if_true, if_false, ↓reduceIte, reduceIte, Nat.reduceEqDiff, Int.reduceEq, Int.reduceLT, Int.reduceLE, Int.reduceAdd, Int.reduceSub, Int.reduceMul, Int.reduceNeg, and_true, true_and, not_true, not_false_eq_true, true_or, or_true, ne_eq, hL, k8, ebit]
    refine ⟨fun c => ?_, fun c => ?_⟩
    · rw [if_pos (show bi set x.toNat = 1 by omega)] at s1 s2
      refine hO x _ hx0 hx1 ⟨hx0, by omega, ?_⟩
      rw [k9, k11]
      rw [lAdd_id (by omega) (by omega), iAdd_id (by omega) (by omega)]
      refine hfin _ _ _ rfl rfl ?_ ?_ ?_ ?_ ?_ ?_ ?_ ?_ ?_
      all_goals simp only [sl_ap, st_fn, Nat.reduceEqDiff, ↓reduceIte, reduceIte, Int.reduceEq, if_true, if_false]
      · exact hL
      · exact k8
      · exact k2
      · exact k3
      · exact k4
      · exact k5
      · exact k7
      · exact s1.symm
      · exact s2.symm
    · rw [if_neg (show ¬ bi set x.toNat = 1 by omega)] at s1 s2
      refine hfin _ _ _ rfl rfl hL k8 k2 k3 k4 k5 k7 ?_ ?_
      · rw [k9]; omega
      · rw [k11]; omega
  · intro L' N' hL ⟨k0, k8, k2, k3, k4, k5, k7, k9, k11⟩
    subst k0
    rw [Int.toNat_natCast] at k9 k11
    refine ra2_ok k8 k9 k11 k5 k7 k2 (fun d1 d2 => hnew d1 d2 _ ?_ ?_ ?_ ?_ ?_ ?_) (fun d1 => hold d1 _ k8 k2 k3 k4 k5 k7)
    all_goals simp only [sl_ap, st_fn, Nat.reduceEqDiff, ↓reduceIte, reduceIte, Int.reduceEq, if_true, if_false]
    · exact k8
    · exact k2
    · exact k3
theorem subB_iff {m : Int → Bool} {N set : Nat} (hN : N ≤ 16) (hset : set < 2 ^ N) : (∀ i : Nat, i < 32 → bi set i = 1 → bi (ps (fun s => m (s : Int)) N) i = 1) ↔ subB m N set = true := by
  unfold subB
  rw [decide_eq_true_eq]
  constructor
  · intro h s hs hb
    have := h s (by omega) hb
    rw [ps_bi _ hs] at this
    by_cases c : m (s : Int) = true
    · exact c
    · rw [if_neg c] at this
      exact absurd this (by decide)
  · intro h i hi hb
    by_cases c : i < N
    · rw [ps_bi _ c, if_pos (h i c hb)]
    · rw [bi_hi hset (by omega)] at hb
      exact absurd hb (by decide)
theorem R_ask_gen (FS : XF2) (FO : XF1) {d M : XM} {w c : Int} {Q : Int → XM → Prop} (hB : Base d) (hC : RF d M) (hlo : M 81 29 = -1) (hG : FsSpec d FS) (hO : WrSpec d FO) (hQ : ∀ M', OnlyR SR SF M M' → M' 81 29 = -1 → Q (vAsk d w c) M') : S_R_ask_ FS FO (fun _ _ => False) Q (sl (sl (fun _ => 0) 1 w) 2 c) M := by
  obtain ⟨v1, v2, v3, v4, v5, v6⟩ := hB.2.2.1
  have hn := NS_r hB
  unfold S_R_ask_
  simp (disch := omega) only [sSeq, sSet, sInc, sPF, sPA, sPD, sOF, sOA, sX, sIf, sSkip, sRet, sRetB, sRetV, sSw, sSel, eK, eL, eR, eF, eA, eQ, eD, eU, eB, eV, eIf, ePF, eC0, eC1, eC2, eC3, eC4, eC5, eC6, eC7, cB, cZ, cAnd, cOr, cNot, i2l, st_fn, sl_ap, if_true, if_false, ↓reduceIte, reduceIte, Nat.reduceEqDiff, Int.reduceEq, Int.reduceLT, Int.reduceLE, Int.reduceAdd, Int.reduceSub, Int.reduceMul, Int.reduceNeg, and_true, true_and, not_true, not_false_eq_true, true_or, or_true, ne_eq, F_R_isWeek_iff, F_R_in_iff, b01_ne]
  unfold vAsk at hQ
  by_cases cc : (0 ≤ w ∧ w ≤ 51) ∧ 0 ≤ c ∧ c ≤ 16000
  · rw [if_pos cc] at hQ
    ((repeat' (first | (with_reducible intro _) | (with_reducible refine And.intro ?_ ?_))) <;> try (exfalso; omega))
    refine hG M (-1) w w _ hC hlo cc.1 fun M1 o1 g1 => ?_
    have h29 : M1 81 29 = -1 := (o1.2 29 (by decide)).trans hlo
    have hq := hQ M1 (o1.wk (by decide) (by decide)) h29
    have hC1 := hC.go o1 (by decide) (by decide)
    have e11 : M1 81 11 = ((NS d : Nat) : Int) := (hC1.2.1 11 (by decide)).trans hn.2.symm
    have e94 : M1 94 = d 94 := hC1.1 94 (by omega) (by omega) (by decide)
    have e112 : ∀ s, 0 ≤ s → s < ((NS d : Nat) : Int) → M1 112 s = sta d w s := fun s a b => by rw [g1.2.2.2.2 s a (by omega), sta_lo d w s a]
    have hO1 : ∀ (s : Int) (Q : Int → XM → Prop), 0 ≤ s → s < ((NS d : Nat) : Int) → Q (WOR d w s) M1 → FO s M1 Q := fun s Q a b q => hO M1 w s Q hC1 ⟨a, by omega⟩ g1 q
    have hwr : ∀ s : Int, 0 ≤ s → s < ((NS d : Nat) : Int) → 0 ≤ WOR d w s ∧ WOR d w s ≤ 552960000000000000 := fun s a b => WOR_r hB w ⟨a, by omega⟩
    have hpr : ∀ s : Int, 0 ≤ s → s < ((NS d : Nat) : Int) → 0 ≤ M1 94 s ∧ M1 94 s ≤ 1000 := fun s a b => by rw [e94]; exact price_r hB ⟨a, by omega⟩
    rw [← e94] at hq
    clear hQ hG hO
    generalize WOR d w = f at *
    generalize NS d = N at *
    have h2p := pow16 hn.1
    have h2q := Nat.two_pow_pos N
    refine while_up 4 0 (N : Int) (fun x L N' => N' = M1 ∧ L 2 = c ∧ L 3 = ((ps (fun s => mayB d w (s : Int)) x.toNat : Nat) : Int)) (by omega) rfl ⟨rfl, rfl, rfl⟩ ?_ ?_ ?_
    · intro x L N' P F a1 a2 hL ⟨k0, _⟩ hT hF
      subst k0
      simp only [sSeq, sSet, sInc, sPF, sPA, sPD, sOF, sOA, sX, sIf, sSkip, sRet, sRetB, sRetV, sSw, sSel, eK, eL, eR, eF, eA, eQ, eD, eU, eB, eV, eIf, ePF, eC0, eC1, eC2, eC3, eC4, eC5, eC6, eC7, cB, cZ, cAnd, cOr, cNot, i2l, st_fn, sl_ap, if_true, if_false, ↓reduceIte, reduceIte, Nat.reduceEqDiff, Int.reduceEq, Int.reduceLT, Int.reduceLE, Int.reduceAdd, Int.reduceSub, Int.reduceMul, Int.reduceNeg, and_true, true_and, not_true, not_false_eq_true, true_or, or_true, ne_eq, hL, e11]
      exact ⟨hT, hF⟩
    · intro x L N' Q' hx0 hx1 hL ⟨k0, k2, k3⟩ hQ'
      subst k0
      have hpl := ps_lt (fun s => mayB d w (s : Int)) x.toNat
      have hpw : (2 : Nat) ^ x.toNat ≤ 2 ^ 16 := Nat.pow_le_pow_right (by omega) (by omega)
      have hps := ps_s (fun s => mayB d w (s : Int)) x.toNat
      have hx1' : (x + 1).toNat = x.toNat + 1 := by omega
      have hxx : ((x.toNat : Nat) : Int) = x := Int.toNat_of_nonneg hx0
      simp only [sSeq, sSet, sInc, sPF, sPA, sPD, sOF, sOA, sX, sIf, sSkip, sRet, sRetB, sRetV, sSw, sSel, eK, eL, eR, eF, eA, eQ, eD, eU, eB, eV, eIf, ePF, eC0, eC1, eC2, eC3, eC4, eC5, eC6, eC7, cB, cZ, cAnd, cOr, cNot, i2l, st_fn, sl_ap, if_true, if_false, ↓reduceIte, reduceIte, Nat.reduceEqDiff, Int.reduceEq, Int.reduceLT, Int.reduceLE, Int.reduceAdd, Int.reduceSub, Int.reduceMul, Int.reduceNeg, and_true, true_and, not_true, not_false_eq_true, true_or, or_true, ne_eq, hL, e112 x hx0 hx1, k3]
      have hm : mayB d w ((x.toNat : Nat) : Int) = true ↔ sta d w x = 1 := by rw [hxx]; unfold mayB; rw [decide_eq_true_eq]
      refine ⟨hx0, by omega, fun c1 => ?_, fun c1 => ?_⟩
      · rw [if_pos (hm.mpr c1)] at hps
        have es : iShl 1 x = ((2 ^ x.toNat : Nat) : Int) := by rw [← hxx]; exact iShl_n (by omega)
        rw [es, iOr_n (by omega) (by omega), or_pow hpl, ← hps]
        refine hQ' _ _ ?_ ⟨rfl, ?_, ?_⟩
        all_goals simp only [sl_ap, st_fn, Nat.reduceEqDiff, ↓reduceIte, reduceIte, Int.reduceEq, if_true, if_false]
        · exact iAdd_id (by omega) (by omega)
        · exact k2
        · rw [hx1']
      · rw [if_neg (fun q => c1 (hm.mp q))] at hps
        have ez : iOr ((ps (fun s => mayB d w (s : Int)) x.toNat : Nat) : Int) 0 = ((ps (fun s => mayB d w (s : Int)) x.toNat : Nat) : Int) := by
          have := iOr_n (n := ps (fun s => mayB d w (s : Int)) x.toNat) (m := 0) (by omega) (by omega)
          rw [Nat.or_zero] at this
          exact this
        rw [ez]
        refine hQ' _ _ ?_ ⟨rfl, ?_, ?_⟩
        all_goals simp only [sl_ap, st_fn, Nat.reduceEqDiff, ↓reduceIte, reduceIte, Int.reduceEq, if_true, if_false]
        · exact iAdd_id (by omega) (by omega)
        · exact k2
        · rw [hx1', hps]; rfl
    · intro L0 N' _ ⟨k0, k2, k3⟩
      subst k0
      rw [Int.toNat_natCast] at k3
      refine while_up 8 1 ((2 ^ N : Nat) : Int) (fun x L M' => M' = N' ∧ L 2 = c ∧ L 3 = ((ps (fun s => mayB d w (s : Int)) N : Nat) : Int) ∧ L 4 = ((chR (mayB d w) f (N' 94) c N (x.toNat - 1) : Nat) : Int) ∧ L 5 = sS f (chR (mayB d w) f (N' 94) c N (x.toNat - 1)) N ∧ L 7 = sS (N' 94) (chR (mayB d w) f (N' 94) c N (x.toNat - 1)) N) (by omega) rfl ⟨rfl, by simp only [sl_ap, st_fn, Nat.reduceEqDiff, ↓reduceIte, reduceIte, Int.reduceEq, if_true, if_false]; exact k2, by simp only [sl_ap, st_fn, Nat.reduceEqDiff, ↓reduceIte, reduceIte, Int.reduceEq, if_true, if_false]; exact k3, rfl, (sS_zero _ _).symm, (sS_zero _ _).symm⟩ ?_ ?_ ?_
      · intro x L M' P F a1 a2 hL ⟨j0, _⟩ hT hF
        subst j0
        simp only [sSeq, sSet, sInc, sPF, sPA, sPD, sOF, sOA, sX, sIf, sSkip, sRet, sRetB, sRetV, sSw, sSel, eK, eL, eR, eF, eA, eQ, eD, eU, eB, eV, eIf, ePF, eC0, eC1, eC2, eC3, eC4, eC5, eC6, eC7, cB, cZ, cAnd, cOr, cNot, i2l, st_fn, sl_ap, if_true, if_false, ↓reduceIte, reduceIte, Nat.reduceEqDiff, Int.reduceEq, Int.reduceLT, Int.reduceLE, Int.reduceAdd, Int.reduceSub, Int.reduceMul, Int.reduceNeg, and_true, true_and, not_true, not_false_eq_true, true_or, or_true, ne_eq, hL, e11]
        rw [iShl_n (by omega)]
        exact ⟨hT, hF⟩
      · intro x L M' Q' hx0 hx1 hL ⟨j0, j2, j3, j4, j5, j7⟩ hQ'
        subst j0
        obtain ⟨set, rfl⟩ : ∃ s : Nat, x = (s : Int) := ⟨x.toNat, by omega⟩
        rw [show ((set : Int)).toNat = set by omega] at j4 j5 j7
        have hsub : ((set : Int) + 1).toNat - 1 = set := by omega
        have hset : 1 ≤ set ∧ set < 2 ^ N := by omega
        have hsuc : chR (mayB d w) f (M' 94) c N set = if (subB (mayB d w) N set && decide (sS (M' 94) set N ≤ c)) = true ∧ (sS f (chR (mayB d w) f (M' 94) c N (set - 1)) N < sS f set N ∨ (sS f set N = sS f (chR (mayB d w) f (M' 94) c N (set - 1)) N ∧ sS (M' 94) set N < sS (M' 94) (chR (mayB d w) f (M' 94) c N (set - 1)) N)) then set else chR (mayB d w) f (M' 94) c N (set - 1) := by
          obtain ⟨m, rfl⟩ : ∃ m, set = m + 1 := ⟨set - 1, by omega⟩
          exact bB_s _ _ _ m
        generalize chR (mayB d w) f (M' 94) c N (set - 1) = c0 at *
        simp only [sSeq, sSet, sInc, sPF, sPA, sPD, sOF, sOA, sX, sIf, sSkip, sRet, sRetB, sRetV, sSw, sSel, eK, eL, eR, eF, eA, eQ, eD, eU, eB, eV, eIf, ePF, eC0, eC1, eC2, eC3, eC4, eC5, eC6, eC7, cB, cZ, cAnd, cOr, cNot, i2l, st_fn, sl_ap, if_true, if_false, ↓reduceIte, reduceIte, Nat.reduceEqDiff, Int.reduceEq, Int.reduceLT, Int.reduceLE, Int.reduceAdd, Int.reduceSub, Int.reduceMul, Int.reduceNeg, and_true, true_and, not_true, not_false_eq_true, true_or, or_true, ne_eq, hL, j3]
        have hcond := and_not (set := set) (may := ps (fun s => mayB d w (s : Int)) N)
        rw [subB_iff hn.1 hset.2] at hcond
        refine ⟨fun c1 => ?_, fun c1 => ?_⟩
        · have c1 := hcond.mp c1
          rw [c1, Bool.true_and] at hsuc
          refine ra1_ok FO (f := f) (set := set) (N := N) (coins := c) (w0 := sS f c0 N) (c0 := sS (M' 94) c0 N) hn.1 (by omega) e11 hwr hpr hO1 hL j2 j5 j7 (fun d1 d2 L' b8 b2 b3 b4 b5 b7 => ?_) (fun d1 L' b8 b2 b3 b4 b5 b7 => ?_)
          · rw [if_pos ⟨by rw [decide_eq_true_eq]; exact d1, d2⟩] at hsuc
            refine hQ' _ _ ?_ ⟨rfl, ?_, ?_, ?_, ?_, ?_⟩
            · simp only [sl_ap, st_fn, Nat.reduceEqDiff, ↓reduceIte, reduceIte, Int.reduceEq, if_true, if_false, b8]
              exact iAdd_id (by omega) (by omega)
            all_goals try rw [hsub]
            · simp only [sl_ap, st_fn, Nat.reduceEqDiff, ↓reduceIte, reduceIte, Int.reduceEq, if_true, if_false]; exact b2
            · simp only [sl_ap, st_fn, Nat.reduceEqDiff, ↓reduceIte, reduceIte, Int.reduceEq, if_true, if_false]; exact b3.trans j3
            · rw [hsuc]; simp only [sl_ap, st_fn, Nat.reduceEqDiff, ↓reduceIte, reduceIte, Int.reduceEq, if_true, if_false]; exact b4
            · rw [hsuc]; simp only [sl_ap, st_fn, Nat.reduceEqDiff, ↓reduceIte, reduceIte, Int.reduceEq, if_true, if_false]; exact b5
            · rw [hsuc]; simp only [sl_ap, st_fn, Nat.reduceEqDiff, ↓reduceIte, reduceIte, Int.reduceEq, if_true, if_false]; exact b7
          · rw [if_neg (fun q => d1 ⟨by have := q.1; rw [decide_eq_true_eq] at this; exact this, q.2⟩)] at hsuc
            refine hQ' _ _ ?_ ⟨rfl, ?_, ?_, ?_, ?_, ?_⟩
            · simp only [sl_ap, st_fn, Nat.reduceEqDiff, ↓reduceIte, reduceIte, Int.reduceEq, if_true, if_false, b8]
              exact iAdd_id (by omega) (by omega)
            all_goals try rw [hsub]
            · simp only [sl_ap, st_fn, Nat.reduceEqDiff, ↓reduceIte, reduceIte, Int.reduceEq, if_true, if_false]; exact b2
            · simp only [sl_ap, st_fn, Nat.reduceEqDiff, ↓reduceIte, reduceIte, Int.reduceEq, if_true, if_false]; exact b3.trans j3
            · rw [hsuc]; simp only [sl_ap, st_fn, Nat.reduceEqDiff, ↓reduceIte, reduceIte, Int.reduceEq, if_true, if_false]; exact b4.trans j4
            · rw [hsuc]; simp only [sl_ap, st_fn, Nat.reduceEqDiff, ↓reduceIte, reduceIte, Int.reduceEq, if_true, if_false]; exact b5
            · rw [hsuc]; simp only [sl_ap, st_fn, Nat.reduceEqDiff, ↓reduceIte, reduceIte, Int.reduceEq, if_true, if_false]; exact b7
        · have c1 : ¬ subB (mayB d w) N set = true := fun q => c1 (hcond.mpr q)
          rw [if_neg (fun q => c1 (by have := q.1; rw [Bool.and_eq_true] at this; exact this.1))] at hsuc
          refine hQ' _ _ ?_ ⟨rfl, ?_, ?_, ?_, ?_, ?_⟩
          · simp only [sl_ap, st_fn, Nat.reduceEqDiff, ↓reduceIte, reduceIte, Int.reduceEq, if_true, if_false, hL]
            exact iAdd_id (by omega) (by omega)
          all_goals try rw [hsub]
          · simp only [sl_ap, st_fn, Nat.reduceEqDiff, ↓reduceIte, reduceIte, Int.reduceEq, if_true, if_false]; exact j2
          · simp only [sl_ap, st_fn, Nat.reduceEqDiff, ↓reduceIte, reduceIte, Int.reduceEq, if_true, if_false]; exact j3
          · rw [hsuc]; simp only [sl_ap, st_fn, Nat.reduceEqDiff, ↓reduceIte, reduceIte, Int.reduceEq, if_true, if_false]; exact j4
          · rw [hsuc]; simp only [sl_ap, st_fn, Nat.reduceEqDiff, ↓reduceIte, reduceIte, Int.reduceEq, if_true, if_false]; exact j5
          · rw [hsuc]; simp only [sl_ap, st_fn, Nat.reduceEqDiff, ↓reduceIte, reduceIte, Int.reduceEq, if_true, if_false]; exact j7
      · intro L M' hL ⟨j0, _, _, j4, _⟩
        subst j0
        rw [show (((2 ^ N : Nat) : Int)).toNat = 2 ^ N by omega] at j4
        rw [j4]
        exact hq
  · rw [if_neg cc] at hQ
    ((repeat' (first | (with_reducible intro _) | (with_reducible refine And.intro ?_ ?_))) <;> try (exfalso; omega))
    all_goals exact hQ M OnlyR.rf hlo
theorem ok_ask {Z M : XM} (hZ : ZC Z) (h : Inv Z M) (x1 x2 : Int) : F_M_ask x1 x2 M (fun v M1 => F_R_ask x1 x2 M1 (fun w M2 => v = w ∧ Inv Z M2)) := by
  have hB := h.base hZ
  refine ok_of (FM := F_M_ask x1 x2) (FR := F_R_ask x1 x2) h (vAsk M x1 x2) (fun _ hQ => ?_) (fun _ _ hC hlo hQ => ?_)
  · unfold F_M_ask
    rw [S_M_ask_eq]
    refine M_ask_gen F_Tally_gather F_Tally_weigh F_Tally_worthOf F_Errand_start F_Errand_choose hB CF.rf (ga_spec hB) (we_spec hB) (wo_spec hB) (fun _ _ _ q => Errand_start_ok q) (fun M' Q hcc hA hq => Errand_choose_ok hB hcc.2.1 hA ?_) hQ
    unfold vAsk at hq
    rw [if_pos hcc] at hq
    exact hq
  · unfold F_R_ask
    rw [S_R_ask_eq]
    exact R_ask_gen F_R_findSums F_R_worthOf hB hC hlo (fs_spec hB) (wr_spec hB) hQ
