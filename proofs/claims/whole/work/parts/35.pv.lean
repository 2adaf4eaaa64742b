/-! moves -/
def dK (d : XM) (k : Int) : XM := st (st d 13 2 k) 81 28 k
theorem dK_ne (d : XM) (k : Int) {a : Nat} (h1 : a ≠ 13) (h2 : a ≠ 81) : dK d k a = d a := by
  unfold dK
  rw [st_ne _ _ _ h2, st_ne _ _ _ h1]
theorem dK_81 (d : XM) (k : Int) {j : Int} (h : j ≠ 28) : dK d k 81 j = d 81 j := by
  unfold dK
  simp only [st_fn, Nat.reduceEqDiff, ↓reduceIte, reduceIte, Int.reduceEq, if_true, if_false, if_neg h]
theorem dK_13 (d : XM) (k : Int) {j : Int} (h : j ≠ 2) : dK d k 13 j = d 13 j := by
  unfold dK
  simp only [st_fn, Nat.reduceEqDiff, ↓reduceIte, reduceIte, Int.reduceEq, if_true, if_false, if_neg h]
theorem dK_28 (d : XM) (k : Int) : dK d k 81 28 = k := by
  unfold dK
  simp only [st_fn, Nat.reduceEqDiff, ↓reduceIte, reduceIte, Int.reduceEq, if_true, if_false]
theorem dK_2 (d : XM) (k : Int) : dK d k 13 2 = k := by
  unfold dK
  simp only [st_fn, Nat.reduceEqDiff, ↓reduceIte, reduceIte, Int.reduceEq, if_true, if_false]
theorem dK_base {d : XM} (hB : Base d) (k : Int) : Base (dK d k) := by
  obtain ⟨⟨h1, h2, h3, h4, h5, h6, h7, h8, h9, h10, h11, h12, h13, h14⟩, ⟨l1, l2, l3, l4, l5, l6, l7, l8, l9, l10, l11⟩, hv, hl, hr, hz⟩ := hB
  have e : ∀ a, (a ≠ 13 ∧ a ≠ 81) → dK d k a = d a := fun a q => dK_ne d k q.1 q.2
  refine ⟨?_, ?_, ?_, ?_, ?_, ?_⟩
  · unfold DCt
    rw [e 2 (by decide), e 3 (by decide), e 4 (by decide), e 5 (by decide), e 6 (by decide), e 7 (by decide), e 8 (by decide), e 9 (by decide), e 10 (by decide), e 11 (by decide), e 12 (by decide), e 86 (by decide), e 87 (by decide), e 88 (by decide), e 89 (by decide), e 90 (by decide), e 91 (by decide), e 92 (by decide), e 93 (by decide), e 94 (by decide), e 95 (by decide), dK_81 d k (by decide), dK_81 d k (by decide), dK_81 d k (by decide)]
    exact ⟨h1, h2, h3, h4, h5, h6, h7, h8, h9, h10, h11, h12, h13, h14⟩
  · unfold DCl
    rw [e 14 (by decide), e 15 (by decide), e 16 (by decide), e 17 (by decide), e 18 (by decide), e 19 (by decide), e 20 (by decide), e 21 (by decide), e 96 (by decide), e 97 (by decide), e 98 (by decide), e 99 (by decide), e 100 (by decide), e 101 (by decide), e 102 (by decide), e 103 (by decide), dK_81 d k (by decide), dK_81 d k (by decide), dK_28, dK_2, dK_13 d k (by decide), dK_13 d k (by decide)]
    exact ⟨l1, l2, rfl, l4, l5, l6, l7, l8, l9, l10, l11⟩
  · unfold Vt
    rw [dK_81 d k (by decide), dK_81 d k (by decide), dK_81 d k (by decide), e 86 (by decide), e 87 (by decide), e 88 (by decide), e 89 (by decide), e 90 (by decide), e 91 (by decide), e 92 (by decide), e 93 (by decide), e 94 (by decide)]
    exact hv
  · unfold Vl
    rw [dK_81 d k (by decide), dK_81 d k (by decide), dK_81 d k (by decide), dK_81 d k (by decide), e 96 (by decide), e 97 (by decide), e 98 (by decide), e 99 (by decide), e 100 (by decide), e 101 (by decide), e 102 (by decide)]
    exact hl
  · unfold DCr at hr ⊢
    rw [e 22 (by decide), e 23 (by decide), e 26 (by decide), e 27 (by decide), e 28 (by decide), e 104 (by decide), dK_81 d k (by decide)]
    exact hr
  · unfold CZ3 CZ at hz ⊢
    rw [e 1001 (by decide), e 1002 (by decide), e 1003 (by decide)]
    exact hz
theorem dK_rl (d : XM) (k i w : Int) : rl (dK d k) i w = rl d i w := (rl_cg (dK_ne d k (by decide) (by decide)) (dK_ne d k (by decide) (by decide)) (dK_ne d k (by decide) (by decide)) (dK_ne d k (by decide) (by decide)) i w).1
def brB (d : XM) (k w : Int) : Bool := decide (d 98 k = w ∨ (d 101 k = 3 ∧ d 98 k = w + rl d 2 w))
theorem dK_kn {d : XM} (h0 : d 81 28 = -1) (k : Int) {x : Int} (hx : 0 ≤ x) (hne : x ≠ k) : kn (dK d k) x ↔ kn d x := by
  unfold kn
  rw [dK_28, dK_81 d k (by decide), dK_ne d k (by decide) (by decide), dK_ne d k (by decide) (by decide), h0]
  refine ⟨fun q => ⟨by omega, q.2⟩, fun q => ⟨hne, q.2⟩⟩
theorem dK_amt {d : XM} (h0 : d 81 28 = -1) {k w : Int} (hb : brB d k w = false) (s t : Int) : amt (dK d k) w w s t = amt d w w s t := by
  have hb := of_decide_eq_false hb
  have hc : ∀ x, 0 ≤ x → x ≠ k → (ct (dK d k) w x ↔ ct d w x) := by
    intro x hx hne
    unfold ct
    have := dK_kn h0 k hx hne
    rw [dK_rl, dK_rl, dK_rl, dK_ne d k (show 102 ≠ 13 by decide) (by decide), dK_ne d k (show 98 ≠ 13 by decide) (by decide), dK_ne d k (show 99 ≠ 13 by decide) (by decide)]
    exact and_congr_left fun _ => this
  have ht : tkC (dK d k) w w = tkC d w w := by
    funext x
    unfold tkC
    rw [dK_rl, dK_rl, dK_ne d k (show 101 ≠ 13 by decide) (by decide), dK_ne d k (show 98 ≠ 13 by decide) (by decide), dK_ne d k (show 100 ≠ 13 by decide) (by decide)]
  have hh : hdC (dK d k) w = hdC d w := by
    funext x
    unfold hdC
    rw [dK_ne d k (show 101 ≠ 13 by decide) (by decide), dK_ne d k (show 98 ≠ 13 by decide) (by decide), dK_ne d k (show 100 ≠ 13 by decide) (by decide)]
  have z1 : tkC d w w k = 0 := by
    unfold tkC
    by_cases c : d 101 k = 3
    · rw [if_pos c, if_neg (fun q => hb (Or.inr ⟨c, q⟩))]
    · rw [if_neg c, if_neg (fun q => hb (Or.inl q.1))]
  have z2 : hdC d w k = 0 := by
    unfold hdC
    rw [if_neg (fun q => hb (Or.inl q.1))]
  have e1 : ∀ x, 0 ≤ x → tkF (dK d k) w w s t x = tkF d w w s t x := by
    intro x hx
    unfold tkF
    rw [ht, dK_ne d k (show 96 ≠ 13 by decide) (by decide), dK_ne d k (show 97 ≠ 13 by decide) (by decide)]
    by_cases c : x = k
    · rw [c, z1]
      split <;> split <;> rfl
    · exact ite_eq_of (and_congr_left fun _ => hc x hx c)
  have e2 : ∀ x, 0 ≤ x → hdF (dK d k) w w s t x = hdF d w w s t x := by
    intro x hx
    unfold hdF
    rw [hh, dK_ne d k (show 96 ≠ 13 by decide) (by decide), dK_ne d k (show 97 ≠ 13 by decide) (by decide)]
    by_cases c : x = k
    · rw [c, z2]
      split <;> split <;> rfl
    · exact ite_eq_of (and_congr_left fun _ => hc x hx c)
  unfold amt TK HD
  rw [dK_rl, dK_81 d k (by decide), sumN_congr (fun x hx _ => e1 x hx), sumN_congr (fun x hx _ => e2 x hx)]
theorem dK_sta {d : XM} (h0 : d 81 28 = -1) {k w : Int} (hb : brB d k w = false) (s : Int) : sta (dK d k) w s = sta d w s := by
  have hb := of_decide_eq_false hb
  have h : ∀ n : Nat, spN (dK d k) w s n = spN d w s n := by
    intro n
    induction n with
    | zero =>
      show decide (said (dK d k) w s) = decide (said d w s)
      unfold said
      rw [dK_ne d k (show 95 ≠ 13 by decide) (by decide), dK_81 d k (by decide)]
    | succ n ih =>
      show (spN (dK d k) w s n || decide (dK d k 96 (n : Int) = s ∧ dK d k 98 (n : Int) = w ∧ kn (dK d k) (n : Int))) = (spN d w s n || decide (d 96 (n : Int) = s ∧ d 98 (n : Int) = w ∧ kn d (n : Int)))
      rw [ih, dK_ne d k (show 96 ≠ 13 by decide) (by decide), dK_ne d k (show 98 ≠ 13 by decide) (by decide)]
      congr 1
      by_cases c : (n : Int) = k
      · rw [decide_eq_false (fun q => hb (Or.inl (by rw [← c]; exact q.2.1))), decide_eq_false (fun q => hb (Or.inl (by rw [← c]; exact q.2.1)))]
      · exact decide_eq_decide.mpr (and_congr_right fun _ => and_congr_right fun _ => dK_kn h0 k (by omega) c)
  unfold sta opn
  rw [h, dK_ne d k (show 92 ≠ 13 by decide) (by decide), dK_ne d k (show 93 ≠ 13 by decide) (by decide), dK_81 d k (by decide)]
theorem dK_PL {d : XM} (h0 : d 81 28 = -1) {k w : Int} (hb : brB d k w = false) : PL (dK d k) (-1) w w = PL d (-1) w w := by
  have e : ∀ a, (a ≠ 13 ∧ a ≠ 81) → dK d k a = d a := fun a q => dK_ne d k q.1 q.2
  have e5 : dK d k 81 5 = d 81 5 := dK_81 d k (by decide)
  have e7 : dK d k 81 7 = d 81 7 := dK_81 d k (by decide)
  have e11 : dK d k 81 11 = d 81 11 := dK_81 d k (by decide)
  have hst : stL (dK d k) (-1) w = stL d (-1) w := by
    funext s
    unfold stL
    rw [dK_sta h0 hb]
  have hhu : hun (dK d k) w w = hun d w w := by
    funext s t
    unfold hun
    rw [dK_amt h0 hb, dK_rl, dK_rl, e 88 (by decide), e 90 (by decide)]
  have hto : toF (dK d k) (-1) w w = toF d (-1) w w := by
    funext T K s t
    unfold toF
    rw [hst, hhu, e 87 (by decide), e 90 (by decide)]
  have hTO : TO (dK d k) (-1) w w = TO d (-1) w w := by
    funext T K
    unfold TO
    rw [hto, e7, e11]
  have hsz : SZ (dK d k) (-1) w = SZ d (-1) w := by
    funext K v
    unfold SZ
    rw [e11]
    congr 1
    funext s
    unfold szF
    rw [hst, e 90 (by decide), e 91 (by decide)]
  have hSU : SUM (dK d k) (-1) w w = SUM d (-1) w w := by
    funext T
    unfold SUM TOL FOL shr
    rw [hTO, hsz]
  have hah : ahB (dK d k) (-1) w w = ahB d (-1) w w := by
    funext a b
    unfold ahB
    rw [hSU, dK_rl, e 86 (by decide)]
  have hel : elB (dK d k) (-1) w w = elB d (-1) w w := by
    funext a
    unfold elB
    rw [hSU, e 86 (by decide)]
  have hLN : LN (dK d k) (-1) w w = LN d (-1) w w := by
    unfold LN rkT
    rw [hah, hel, e5]
  have hLO : LO (dK d k) (-1) w w = LO d (-1) w w := by
    unfold LO rkT
    rw [hah, hel, e5]
  have hsh : shB (dK d k) (-1) w w = shB d (-1) w w := by
    funext i
    unfold shB
    rw [hSU, hLO, dK_rl]
  unfold PL
  rw [hLO, hsh, hLN]
def mvN (d : XM) (k w : Int) : Nat → Bool
  | 0 => false
  | n + 1 => mvN d k w n || decide (¬ PL d (-1) w w (n : Int) = PL (dK d k) (-1) w w (n : Int))
theorem mvN_succ (d : XM) (k w : Int) {x : Int} (h : 0 ≤ x) : mvN d k w (x + 1).toNat = (mvN d k w x.toNat || decide (¬ PL d (-1) w w x = PL (dK d k) (-1) w w x)) := by
  have e1 : ((x.toNat : Nat) : Int) = x := by omega
  rw [show (x + 1).toNat = x.toNat + 1 by omega]
  show (mvN d k w x.toNat || decide (¬ PL d (-1) w w ((x.toNat : Nat) : Int) = PL (dK d k) (-1) w w ((x.toNat : Nat) : Int))) = _
  rw [e1]
theorem mvN_mono {d : XM} {k w : Int} : ∀ {n m : Nat}, n ≤ m → mvN d k w n = true → mvN d k w m = true
  | n, 0, h, h1 => by rw [show n = 0 by omega] at h1; exact h1
  | n, m + 1, h, h1 => by
    by_cases c : n = m + 1
    · rw [← c]; exact h1
    · show (mvN d k w m || _) = true
      rw [mvN_mono (show n ≤ m by omega) h1, Bool.true_or]
def mv (d : XM) (k w : Int) : Bool := mvN d k w (d 81 5).toNat
theorem mv_no {d : XM} (h0 : d 81 28 = -1) {k w : Int} (hb : brB d k w = false) : mv d k w = false := by
  unfold mv
  generalize (d 81 5).toNat = n
  induction n with
  | zero => rfl
  | succ n ih =>
    show (mvN d k w n || decide (¬ PL d (-1) w w (n : Int) = PL (dK d k) (-1) w w (n : Int))) = false
    rw [ih, dK_PL h0 hb, Bool.false_or]
    exact decide_eq_false (fun q => q rfl)
def mbN (d : XM) (k : Int) : Nat → Int
  | 0 => 0
  | n + 1 => if mv d k (n : Int) = true then lOr (mbN d k n) (lShl 1 (n : Int)) else mbN d k n
theorem mbN_succ (d : XM) (k : Int) {x : Int} (h : 0 ≤ x) : mbN d k (x + 1).toNat = if mv d k x = true then lOr (mbN d k x.toNat) (lShl 1 x) else mbN d k x.toNat := by
  have e1 : ((x.toNat : Nat) : Int) = x := by omega
  rw [show (x + 1).toNat = x.toNat + 1 by omega]
  show (if mv d k ((x.toNat : Nat) : Int) = true then lOr (mbN d k x.toNat) (lShl 1 ((x.toNat : Nat) : Int)) else mbN d k x.toNat) = _
  rw [e1]
theorem mbN_r (d : XM) (k : Int) : ∀ n : Nat, r64 (mbN d k n)
  | 0 => xz64
  | n + 1 => by
    have e : mbN d k (n + 1) = if mv d k (n : Int) = true then lOr (mbN d k n) (lShl 1 (n : Int)) else mbN d k n := rfl
    rw [e]
    split
    · exact xr64 _
    · exact mbN_r d k n
theorem lOr_0 {x : Int} (h : r64 x) : lOr x 0 = x := by
  unfold lOr
  rw [show Int64.ofInt 0 = 0 from rfl, Int64.or_zero, xt64i h]
def BrSpec (d : XM) (F : XF2) : Prop := ∀ (M : XM) (k w : Int) (Q : Int → XM → Prop), CF d M → (0 ≤ k ∧ k < d 81 19) → 0 ≤ w ∧ w ≤ 51 → (∀ M', Only [24, 25] M M' → Q (if brB d k w = true then 1 else 0) M') → F k w M Q
theorem br_spec {d : XM} (hB : Base d) : BrSpec d F_M_bearsOn := by
  intro M k w Q hC hk hw hQ
  have hd := hC.dcl hB
  obtain ⟨l1, l2, l3, l4, l5, l6, l7, l8, l9, l10, l11⟩ := hd
  have g := hB.2.2.2.1.2.2 k hk.1 hk.2
  have hs := hB.2.2.2.1.1
  have r2 : 0 ≤ rl d 2 w ∧ rl d 2 w ≤ 51 := rl_r hB.2.2.2.2.1 (i := 2) (by omega) (by omega) w
  unfold F_M_bearsOn S_M_bearsOn
  simp only [sSeq, sSet, sInc, sPF, sPA, sPD, sOF, sOA, sX, sIf, sSkip, sRet, sRetB, sRetV, sSw, sSel, eK, eL, eR, eF, eA, eQ, eD, eU, eB, eV, eIf, ePF, eC0, eC1, eC2, eC3, eC4, eC5, eC6, eC7, cB, cZ, cAnd, cOr, cNot, i2l, st_fn, sl_ap, if_true, if_false, ↓reduceIte, reduceIte, Nat.reduceEqDiff, Int.reduceEq, Int.reduceLT, Int.reduceLE, Int.reduceAdd, Int.reduceSub, Int.reduceMul, Int.reduceNeg, and_true, true_and, not_true, not_false_eq_true, true_or, or_true, ne_eq, l6, l9]
  refine ⟨hk.1, by omega, fun c => ?_, fun c => ⟨hk.1, by omega, fun c1 => ?_, fun c1 => ?_⟩⟩
  · have e : brB d k w = true := decide_eq_true (Or.inl c)
    rw [e, if_pos rfl] at hQ
    exact hQ M Only.rf
  · have e : brB d k w = false := decide_eq_false (fun q => q.elim c (fun z => c1 z.1))
    rw [e, if_neg (by decide)] at hQ
    exact hQ M Only.rf
  · have c1 : d 101 k = 3 := Classical.byContradiction fun q => c1 q
    refine Rules_bindTo_gen hB hC fun M1 o1 g1 => ?_
    rw [(g1 2 (by omega) (by omega)).1, iAdd_id (by omega) (by omega)]
    refine ⟨fun c2 => ?_, fun c2 => ?_⟩
    · have e : brB d k w = true := decide_eq_true (Or.inr ⟨c1, c2⟩)
      rw [e, if_pos rfl] at hQ
      exact hQ M1 o1
    · have e : brB d k w = false := decide_eq_false (fun q => q.elim c (fun z => c2 z.2))
      rw [e, if_neg (by decide)] at hQ
      exact hQ M1 o1
def ChSpec (d : XM) (F : XF2) : Prop := ∀ (M : XM) (k w : Int) (Q : Int → XM → Prop), CF d M → (0 ≤ k ∧ k < d 81 19) → 0 ≤ w ∧ w ≤ 51 → (∀ M', Only SC M M' → Q (if mv d k w = true then 1 else 0) M') → F k w M Q
def S_M_changesList_ (FG : XF2) : XS := sSeq (sX (eC2 FG (eL 2) (eL 2))) (sSeq (sSeq (sSet 3 (eK 0)) (sWhile (cB (fun x y => x < y) (eL 3) (eF 2 0)) (sSeq (sPA 1 12 (eL 3) (eA 38 12 (eL 3))) (sInc 3 1)))) (sSeq (sPF 13 2 (eL 1)) (sSeq (sX (eC2 FG (eL 2) (eL 2))) (sSeq (sPF 13 2 (eK (-1))) (sSeq (sSeq (sSet 3 (eK 0)) (sWhile (cB (fun x y => x < y) (eL 3) (eF 2 0)) (sSeq (sIf (cB (fun x y => x ≠ y) (eA 1 12 (eL 3)) (eA 38 12 (eL 3))) (sRetB (eK 1)) sSkip) (sInc 3 1)))) (sRetB (eK 0)))))))
theorem changesList_gen (FG : XF2) {d M : XM} {k w : Int} {Q : Int → XM → Prop} (hB : Base d) (hC : CF d M) (h0 : d 81 28 = -1) (hG : MlSpec d FG) (hG2 : MlSpec (dK d k) FG) (hw : 0 ≤ w ∧ w ≤ 51) (hQ : ∀ M', Only SC M M' → Q (if mv d k w = true then 1 else 0) M') : S_M_changesList_ FG (fun _ _ => False) Q (sl (sl (fun _ => 0) 1 k) 2 w) M := by
  have v1 := hB.2.2.1.1
  unfold S_M_changesList_
  simp only [sSeq, sSet, sInc, sPF, sPA, sPD, sOF, sOA, sX, sIf, sSkip, sRet, sRetB, sRetV, sSw, sSel, eK, eL, eR, eF, eA, eQ, eD, eU, eB, eV, eIf, ePF, eC0, eC1, eC2, eC3, eC4, eC5, eC6, eC7, cB, cZ, cAnd, cOr, cNot, i2l, st_fn, sl_ap, if_true, if_false, ↓reduceIte, reduceIte, Nat.reduceEqDiff, Int.reduceEq, Int.reduceLT, Int.reduceLE, Int.reduceAdd, Int.reduceSub, Int.reduceMul, Int.reduceNeg, and_true, true_and, not_true, not_false_eq_true, true_or, or_true, ne_eq]
  refine hG M w w _ hC hw fun M1 o1 g1 g2 g3 => ?_
  have hC1 := hC.go o1 SL_SC
  refine while_up 3 0 (d 81 5) (fun x L M' => L 1 = k ∧ L 2 = w ∧ Only [1] M1 M' ∧ ∀ t, 0 ≤ t → t < x → M' 1 t = PL d (-1) w w t) v1.1 rfl ⟨rfl, rfl, Only.rf, fun t a b => absurd b (by omega)⟩ ?_ ?_ ?_
  · intro x L M' P F a1 a2 hL ⟨_, _, k2, _⟩ hT hF
    have m1 := ((hC1.go k2 (by decide)).dct hB).1
    simp only [sSeq, sSet, sInc, sPF, sPA, sPD, sOF, sOA, sX, sIf, sSkip, sRet, sRetB, sRetV, sSw, sSel, eK, eL, eR, eF, eA, eQ, eD, eU, eB, eV, eIf, ePF, eC0, eC1, eC2, eC3, eC4, eC5, eC6, eC7, cB, cZ, cAnd, cOr, cNot, i2l, st_fn, sl_ap, if_true, if_false, ↓reduceIte, reduceIte, Nat.reduceEqDiff, Int.reduceEq, Int.reduceLT, Int.reduceLE, Int.reduceAdd, Int.reduceSub, Int.reduceMul, Int.reduceNeg, and_true, true_and, not_true, not_false_eq_true, true_or, or_true, ne_eq, hL]
    rw [m1]
    exact ⟨hT, hF⟩
  · intro x L M' Q' hx0 hx1 hL ⟨k1, k2, k3, k4⟩ hQ'
    have e38 : M' 38 x = PL d (-1) w w x := by rw [k3 38 (by decide)]; exact g3.2.2 x hx0 hx1
    simp only [sSeq, sSet, sInc, sPF, sPA, sPD, sOF, sOA, sX, sIf, sSkip, sRet, sRetB, sRetV, sSw, sSel, eK, eL, eR, eF, eA, eQ, eD, eU, eB, eV, eIf, ePF, eC0, eC1, eC2, eC3, eC4, eC5, eC6, eC7, cB, cZ, cAnd, cOr, cNot, i2l, st_fn, sl_ap, if_true, if_false, ↓reduceIte, reduceIte, Nat.reduceEqDiff, Int.reduceEq, Int.reduceLT, Int.reduceLE, Int.reduceAdd, Int.reduceSub, Int.reduceMul, Int.reduceNeg, and_true, true_and, not_true, not_false_eq_true, true_or, or_true, ne_eq, hL, e38]
    rw [iAdd_id (by omega) (by omega)]
    refine ⟨hx0, by omega, hx0, by omega, hQ' _ _ rfl ⟨?_, ?_, k3.set (by decide) _ _, fun t a b => ?_⟩⟩
    · simp only [sl_ap, st_fn, Nat.reduceEqDiff, ↓reduceIte, reduceIte, Int.reduceEq, if_true, if_false]; exact k1
    · simp only [sl_ap, st_fn, Nat.reduceEqDiff, ↓reduceIte, reduceIte, Int.reduceEq, if_true, if_false]; exact k2
    · rw [st_upx, upx_ap]
      by_cases c : t = x
      · rw [if_pos c, c]
      · rw [if_neg c]
        exact k4 t a (by omega)
  intro L1 M2 _ ⟨k1, k2, k3, k4⟩
  rw [k1, k2]
  have o2 : Only SC M M2 := o1.trans k3 SL_SC (by decide)
  have hC2 := hC.go o2 (fun _ q => q)
  have hCk : CF (dK d k) (st M2 13 2 k) := by
    intro a ha hl
    by_cases c13 : a = 13
    · subst c13
      funext j
      simp only [st_fn, Nat.reduceEqDiff, ↓reduceIte, reduceIte, Int.reduceEq, if_true, if_false]
      by_cases cj : j = 2
      · rw [if_pos cj, cj, dK_2]
      · rw [if_neg cj, dK_13 d k cj, hC2 13 (by decide) (by omega)]
    · rw [st_ne _ _ _ c13, dK_ne d k c13 (by omega)]
      exact hC2 a ha hl
  refine hG2 _ w w _ hCk hw fun M3 o3 q1 q2 q3 => ?_
  have e5 : dK d k 81 5 = d 81 5 := dK_81 d k (by decide)
  have e1 : ∀ t, 0 ≤ t → t < d 81 5 → (st M3 13 2 (-1)) 1 t = PL d (-1) w w t := fun t a b => by
    rw [st_ne _ _ _ (by decide), o3 1 (by decide), st_ne _ _ _ (by decide)]
    exact k4 t a b
  have e38 : ∀ t, 0 ≤ t → t < d 81 5 → (st M3 13 2 (-1)) 38 t = PL (dK d k) (-1) w w t := fun t a b => by
    rw [st_ne _ _ _ (by decide)]
    exact q3.2.2 t a (by rw [e5]; exact b)
  have oN : Only SC M (st M3 13 2 (-1)) := by
    intro a ha
    by_cases c13 : a = 13
    · subst c13
      funext j
      have l3 : d 13 2 = -1 := (hB.2.1.2.2.1).trans h0
      have h2 := o2 13 (by decide)
      have hd := hC 13 (by decide) (by omega)
      simp only [st_fn, Nat.reduceEqDiff, ↓reduceIte, reduceIte, Int.reduceEq, if_true, if_false, o3 13 (by decide)]
      by_cases cj : j = 2
      · rw [if_pos cj, cj, hd, l3]
      · rw [if_neg cj, if_neg cj, h2]
    · rw [st_ne _ _ _ c13, o3 a (fun q => ha (SL_SC a q)), st_ne _ _ _ c13, o2 a ha]
  generalize st M3 13 2 (-1) = N at *
  have m1 : N 2 0 = d 81 5 := by rw [oN 2 (by decide)]; exact (hC.dct hB).1
  refine while_up 3 0 (d 81 5) (fun x L M' => M' = N ∧ mvN d k w x.toNat = false) v1.1 rfl ⟨rfl, rfl⟩ ?_ ?_ ?_
  · intro x L M' P F a1 a2 hL ⟨a3, _⟩ hT hF
    subst a3
    simp only [sSeq, sSet, sInc, sPF, sPA, sPD, sOF, sOA, sX, sIf, sSkip, sRet, sRetB, sRetV, sSw, sSel, eK, eL, eR, eF, eA, eQ, eD, eU, eB, eV, eIf, ePF, eC0, eC1, eC2, eC3, eC4, eC5, eC6, eC7, cB, cZ, cAnd, cOr, cNot, i2l, st_fn, sl_ap, if_true, if_false, ↓reduceIte, reduceIte, Nat.reduceEqDiff, Int.reduceEq, Int.reduceLT, Int.reduceLE, Int.reduceAdd, Int.reduceSub, Int.reduceMul, Int.reduceNeg, and_true, true_and, not_true, not_false_eq_true, true_or, or_true, ne_eq, hL, m1]
    exact ⟨hT, hF⟩
  · intro x L M' Q' hx0 hx1 hL ⟨a1, a2⟩ hQ'
    subst a1
    have hs := mvN_succ d k w hx0
    rw [a2, Bool.false_or] at hs
    simp only [sSeq, sSet, sInc, sPF, sPA, sPD, sOF, sOA, sX, sIf, sSkip, sRet, sRetB, sRetV, sSw, sSel, eK, eL, eR, eF, eA, eQ, eD, eU, eB, eV, eIf, ePF, eC0, eC1, eC2, eC3, eC4, eC5, eC6, eC7, cB, cZ, cAnd, cOr, cNot, i2l, st_fn, sl_ap, if_true, if_false, ↓reduceIte, reduceIte, Nat.reduceEqDiff, Int.reduceEq, Int.reduceLT, Int.reduceLE, Int.reduceAdd, Int.reduceSub, Int.reduceMul, Int.reduceNeg, and_true, true_and, not_true, not_false_eq_true, true_or, or_true, ne_eq, hL, e1 x hx0 hx1, e38 x hx0 hx1]
    refine ⟨hx0, by omega, hx0, by omega, fun c => ?_, fun c => ?_⟩
    · rw [decide_eq_true c] at hs
      have := mvN_mono (show (x + 1).toNat ≤ (d 81 5).toNat by omega) hs
      have hm : mv d k w = true := this
      rw [hm, if_pos rfl] at hQ
      exact hQ _ oN
    · rw [decide_eq_false c] at hs
      rw [iAdd_id (by omega) (by omega)]
      exact hQ' _ _ rfl ⟨rfl, hs⟩
  · intro L M' _ ⟨a1, a2⟩
    subst a1
    have hm : mv d k w = false := a2
    rw [hm, if_neg (by decide)] at hQ
    exact hQ _ oN
theorem ch_spec {d : XM} (hB : Base d) (h0 : d 81 28 = -1) : ChSpec d F_M_changesList := fun _ k _ _ hC _ hw hQ => changesList_gen F_Tally_makeList hB hC h0 (ml_spec hB) (ml_spec (dK_base hB k)) hw hQ
abbrev vMoves (d : XM) (k : Int) : Int := if 0 ≤ k ∧ k < d 81 19 then (if kn d k then mbN d k 52 else lSub LMIN (-3)) else lSub LMIN (-2)
def S_M_moves_ (FB FC : XF2) : XS := sSeq (sIf (cNot (cZ (fun x => x ≠ 0) (eC1 F_Ledger_isSale (eL 1)))) (sRet (eC1 F_M_refused (eK (-2)))) sSkip) (sSeq (sIf (cNot (cZ (fun x => x ≠ 0) (eC1 F_Ledger_isKnown (eL 1)))) (sRet (eC1 F_M_refused (eK (-3)))) sSkip) (sSeq (sSet 2 (eK 0)) (sSeq (sSeq (sSet 4 (eK 0)) (sWhile (cB (fun x y => x < y) (eL 4) (eK 52)) (sSeq (sIf (cAnd (cZ (fun x => x ≠ 0) (eC2 FB (eL 1) (eL 4))) (cZ (fun x => x ≠ 0) (eC2 FC (eL 1) (eL 4)))) (sSet 2 (eB lOr (eL 2) (eB lShl (eK 1) (eL 4)))) sSkip) (sInc 4 1)))) (sRet (eL 2)))))
theorem M_moves_gen (FB FC : XF2) {d M : XM} {k : Int} {Q : Int → XM → Prop} (hB : Base d) (hC : CF d M) (h0 : d 81 28 = -1) (hb : BrSpec d FB) (hc : ChSpec d FC) (hQ : ∀ M', Only SC M M' → Q (vMoves d k) M') : S_M_moves_ FB FC (fun _ _ => False) Q (sl (fun _ => 0) 1 k) M := by
  have hd := hC.dcl hB
  have hs := hB.2.2.2.1.1
  have l1 := hd.1
  unfold S_M_moves_
  simp (disch := omega) only [sSeq, sSet, sInc, sPF, sPA, sPD, sOF, sOA, sX, sIf, sSkip, sRet, sRetB, sRetV, sSw, sSel, eK, eL, eR, eF, eA, eQ, eD, eU, eB, eV, eIf, ePF, eC0, eC1, eC2, eC3, eC4, eC5, eC6, eC7, cB, cZ, cAnd, cOr, cNot, i2l, st_fn, sl_ap, if_true, if_false, ↓reduceIte, reduceIte, Nat.reduceEqDiff, Int.reduceEq, Int.reduceLT, Int.reduceLE, Int.reduceAdd, Int.reduceSub, Int.reduceMul, Int.reduceNeg, and_true, true_and, not_true, not_false_eq_true, true_or, or_true, ne_eq, F_Ledger_isSale_iff, b01_ne, l1, F_M_refused_iff]
  unfold vMoves at hQ
  by_cases c : 0 ≤ k ∧ k < d 81 19
  · rw [if_pos c] at hQ
    refine ⟨fun _ => ?_, fun q => absurd c q⟩
    rw [F_Ledger_isKnown_iff c.1 (by omega), ite_eq_of (C_kn hd k)]
    refine ⟨fun c1 => ?_, fun c1 => ?_⟩
    · have c1 := (b01_ne _).mp c1
      rw [if_pos c1] at hQ
      refine while_up 4 0 52 (fun x L M' => L 1 = k ∧ L 2 = mbN d k x.toNat ∧ Only SC M M') (by omega) rfl ⟨rfl, rfl, Only.rf⟩ ?_ ?_ ?_
      · intro x L M' P F a1 a2 hL _ hT hF
        simp only [sSeq, sSet, sInc, sPF, sPA, sPD, sOF, sOA, sX, sIf, sSkip, sRet, sRetB, sRetV, sSw, sSel, eK, eL, eR, eF, eA, eQ, eD, eU, eB, eV, eIf, ePF, eC0, eC1, eC2, eC3, eC4, eC5, eC6, eC7, cB, cZ, cAnd, cOr, cNot, i2l, st_fn, sl_ap, if_true, if_false, ↓reduceIte, reduceIte, Nat.reduceEqDiff, Int.reduceEq, Int.reduceLT, Int.reduceLE, Int.reduceAdd, Int.reduceSub, Int.reduceMul, Int.reduceNeg, and_true, true_and, not_true, not_false_eq_true, true_or, or_true, ne_eq, hL]
        exact ⟨hT, hF⟩
      · intro x L M' Q' hx0 hx1 hL ⟨k1, k2, k3⟩ hQ'
        have hsu := mbN_succ d k hx0
        simp only [sSeq, sSet, sInc, sPF, sPA, sPD, sOF, sOA, sX, sIf, sSkip, sRet, sRetB, sRetV, sSw, sSel, eK, eL, eR, eF, eA, eQ, eD, eU, eB, eV, eIf, ePF, eC0, eC1, eC2, eC3, eC4, eC5, eC6, eC7, cB, cZ, cAnd, cOr, cNot, i2l, st_fn, sl_ap, if_true, if_false, ↓reduceIte, reduceIte, Nat.reduceEqDiff, Int.reduceEq, Int.reduceLT, Int.reduceLE, Int.reduceAdd, Int.reduceSub, Int.reduceMul, Int.reduceNeg, and_true, true_and, not_true, not_false_eq_true, true_or, or_true, ne_eq, hL, k1, k2]
        rw [iAdd_id (by omega) (by omega)]
        refine hb M' k x _ (hC.go k3 (fun _ q => q)) c (by omega) fun M1 o1 => ?_
        have o1' : Only SC M M1 := k3.trans o1 (fun _ q => q) (by decide)
        have hno : mv d k x = false → ∀ N, Only SC M N → Q' (sl L 4 (x + 1)) N := by
          intro cm N oN
          rw [cm, if_neg (by decide)] at hsu
          refine hQ' _ _ rfl ⟨?_, ?_, oN⟩
          · simp only [sl_ap, st_fn, Nat.reduceEqDiff, ↓reduceIte, reduceIte, Int.reduceEq, if_true, if_false]; exact k1
          · simp only [sl_ap, st_fn, Nat.reduceEqDiff, ↓reduceIte, reduceIte, Int.reduceEq, if_true, if_false]; rw [hsu]; exact k2
        refine ⟨fun c2 => ?_, fun c2 => ?_⟩
        · refine hc M1 k x _ (hC.go o1' (fun _ q => q)) c (by omega) fun M2 o2 => ?_
          have o2' : Only SC M M2 := o1'.trans o2 (fun _ q => q) (fun _ q => q)
          by_cases cm : mv d k x = true
          · rw [cm, if_pos rfl]
            refine ⟨fun _ => ?_, fun q => absurd q (by simp)⟩
            rw [cm, if_pos rfl] at hsu
            refine hQ' _ _ rfl ⟨?_, ?_, o2'⟩
            · simp only [sl_ap, st_fn, Nat.reduceEqDiff, ↓reduceIte, reduceIte, Int.reduceEq, if_true, if_false]; exact k1
            · simp only [sl_ap, st_fn, Nat.reduceEqDiff, ↓reduceIte, reduceIte, Int.reduceEq, if_true, if_false]; exact hsu.symm
          · have cm : mv d k x = false := by simpa using cm
            rw [cm, if_neg (by decide)]
            exact ⟨fun q => absurd q (by simp), fun _ => hno cm M2 o2'⟩
        · have cb : brB d k x = false := by
            apply Classical.byContradiction
            intro q
            have q : brB d k x = true := by simpa using q
            rw [q, if_pos rfl] at c2
            exact c2 (by decide)
          exact hno (mv_no h0 cb) M1 o1'
      · intro L M' _ ⟨k1, k2, k3⟩
        rw [k2]
        exact hQ M' k3
    · rw [if_neg (fun q => c1 ((b01_ne _).mpr q))] at hQ
      exact hQ M Only.rf
  · rw [if_neg c] at hQ
    ((repeat' (first | (with_reducible intro _) | (with_reducible refine And.intro ?_ ?_))) <;> try (exfalso; omega))
    all_goals exact hQ M Only.rf
def S_R_moves_ (FG : XF2) : XS := sSeq (sIf (cNot (cZ (fun x => x ≠ 0) (eC1 F_R_hasSale (eL 1)))) (sRet (eC1 F_R_no (eK (-2)))) sSkip) (sSeq (sIf (cNot (cZ (fun x => x ≠ 0) (eC1 F_R_isKnown (eL 1)))) (sRet (eC1 F_R_no (eK (-3)))) sSkip) (sSeq (sSet 2 (eK 0)) (sSeq (sSeq (sSet 4 (eK 0)) (sWhile (cB (fun x y => x ≤ y) (eL 4) (eK 51)) (sSeq (sSeq (sX (eC2 FG (eL 4) (eL 4))) (sSeq (sSeq (sSet 5 (eK 0)) (sWhile (cB (fun x y => x < y) (eL 5) (eF 81 5)) (sSeq (sPA 119 12 (eL 5) (eA 117 12 (eL 5))) (sInc 5 1)))) (sSeq (sPF 81 28 (eL 1)) (sSeq (sX (eC2 FG (eL 4) (eL 4))) (sSeq (sPF 81 28 (eK (-1))) (sSeq (sSet 5 (eK 0)) (sSeq (sSeq (sSet 6 (eK 0)) (sWhile (cB (fun x y => x < y) (eL 6) (eF 81 5)) (sSeq (sSet 5 (eIf (cOr (cZ (fun x => x ≠ 0) (eL 5)) (cB (fun x y => x ≠ y) (eA 119 12 (eL 6)) (eA 117 12 (eL 6)))) (eK 1) (eK 0))) (sInc 6 1)))) (sSet 2 (eB lOr (eL 2) (eIf (cZ (fun x => x ≠ 0) (eL 5)) (eB lShl (eK 1) (eL 4)) (eK 0))))))))))) (sInc 4 1)))) (sRet (eL 2)))))
theorem R_moves_gen (FG : XF2) {d M : XM} {k : Int} {Q : Int → XM → Prop} (hB : Base d) (hC : RF d M) (h0 : d 81 28 = -1) (hlo : M 81 29 = -1) (hG : FlSpec d FG) (hG2 : FlSpec (dK d k) FG) (hQ : ∀ M', OnlyR SR SF M M' → M' 81 29 = -1 → Q (vMoves d k) M') : S_R_moves_ FG (fun _ _ => False) Q (sl (fun _ => 0) 1 k) M := by
  have hs := hB.2.2.2.1.1
  have v1 := hB.2.2.1.1
  have e19 := hC.2.1 19 (by decide)
  unfold S_R_moves_
  simp (disch := omega) only [sSeq, sSet, sInc, sPF, sPA, sPD, sOF, sOA, sX, sIf, sSkip, sRet, sRetB, sRetV, sSw, sSel, eK, eL, eR, eF, eA, eQ, eD, eU, eB, eV, eIf, ePF, eC0, eC1, eC2, eC3, eC4, eC5, eC6, eC7, cB, cZ, cAnd, cOr, cNot, i2l, st_fn, sl_ap, if_true, if_false, ↓reduceIte, reduceIte, Nat.reduceEqDiff, Int.reduceEq, Int.reduceLT, Int.reduceLE, Int.reduceAdd, Int.reduceSub, Int.reduceMul, Int.reduceNeg, and_true, true_and, not_true, not_false_eq_true, true_or, or_true, ne_eq, F_R_hasSale_iff, b01_ne, e19, F_R_no_iff]
  unfold vMoves at hQ
  by_cases c : 0 ≤ k ∧ k < d 81 19
  · rw [if_pos c] at hQ
    refine ⟨fun _ => ?_, fun q => absurd c q⟩
    rw [F_R_isKnown_iff c.1 (by omega), ite_eq_of (R_kn hC k)]
    refine ⟨fun c1 => ?_, fun c1 => ?_⟩
    · have c1 := (b01_ne _).mp c1
      rw [if_pos c1] at hQ
      refine while_up 4 0 52 (fun x L M' => L 1 = k ∧ L 2 = mbN d k x.toNat ∧ OnlyR SR SF M M' ∧ M' 81 29 = -1) (by omega) rfl ⟨rfl, rfl, OnlyR.rf, hlo⟩ ?_ ?_ ?_
      · intro x L M' P F a1 a2 hL _ hT hF
        simp only [sSeq, sSet, sInc, sPF, sPA, sPD, sOF, sOA, sX, sIf, sSkip, sRet, sRetB, sRetV, sSw, sSel, eK, eL, eR, eF, eA, eQ, eD, eU, eB, eV, eIf, ePF, eC0, eC1, eC2, eC3, eC4, eC5, eC6, eC7, cB, cZ, cAnd, cOr, cNot, i2l, st_fn, sl_ap, if_true, if_false, ↓reduceIte, reduceIte, Nat.reduceEqDiff, Int.reduceEq, Int.reduceLT, Int.reduceLE, Int.reduceAdd, Int.reduceSub, Int.reduceMul, Int.reduceNeg, and_true, true_and, not_true, not_false_eq_true, true_or, or_true, ne_eq, hL]
        exact ⟨fun q => hT (by omega), fun q => hF (by omega)⟩
      · intro x L M' Q' hx0 hx1 hL ⟨k1, k2, k3, k4⟩ hQ'
        have hsu := mbN_succ d k hx0
        have hC' := hC.go k3 (fun _ q => q) (fun _ q => q)
        simp only [sSeq, sSet, sInc, sPF, sPA, sPD, sOF, sOA, sX, sIf, sSkip, sRet, sRetB, sRetV, sSw, sSel, eK, eL, eR, eF, eA, eQ, eD, eU, eB, eV, eIf, ePF, eC0, eC1, eC2, eC3, eC4, eC5, eC6, eC7, cB, cZ, cAnd, cOr, cNot, i2l, st_fn, sl_ap, if_true, if_false, ↓reduceIte, reduceIte, Nat.reduceEqDiff, Int.reduceEq, Int.reduceLT, Int.reduceLE, Int.reduceAdd, Int.reduceSub, Int.reduceMul, Int.reduceNeg, and_true, true_and, not_true, not_false_eq_true, true_or, or_true, ne_eq, hL, k1, k2]
        refine hG M' (-1) x x _ hC' k4 (by omega) fun M1 o1 g1 g3 => ?_
        have k3' : OnlyR SR SF M M1 := k3.trans o1 (fun _ q => q) (by decide) (fun _ q => q) (by decide)
        have hC1 := hC.go k3' (fun _ q => q) (fun _ q => q)
        have k4' : M1 81 29 = -1 := (o1.2 29 (by decide)).trans k4
        refine while_up 5 0 (d 81 5) (fun y L2 N => L2 1 = k ∧ L2 2 = mbN d k x.toNat ∧ L2 4 = x ∧ OnlyR [119] [] M1 N ∧ ∀ t, 0 ≤ t → t < y → N 119 t = PL d (-1) x x t) v1.1 rfl ⟨by simp only [sl_ap, st_fn, Nat.reduceEqDiff, ↓reduceIte, reduceIte, Int.reduceEq, if_true, if_false]; exact k1, by simp only [sl_ap, st_fn, Nat.reduceEqDiff, ↓reduceIte, reduceIte, Int.reduceEq, if_true, if_false]; exact k2, by simp only [sl_ap, st_fn, Nat.reduceEqDiff, ↓reduceIte, reduceIte, Int.reduceEq, if_true, if_false]; exact hL, OnlyR.rf, fun t a b => absurd b (by omega)⟩ ?_ ?_ ?_
        · intro y L2 N P F a1 a2 hL2 ⟨_, _, _, b4, _⟩ hT hF
          simp only [sSeq, sSet, sInc, sPF, sPA, sPD, sOF, sOA, sX, sIf, sSkip, sRet, sRetB, sRetV, sSw, sSel, eK, eL, eR, eF, eA, eQ, eD, eU, eB, eV, eIf, ePF, eC0, eC1, eC2, eC3, eC4, eC5, eC6, eC7, cB, cZ, cAnd, cOr, cNot, i2l, st_fn, sl_ap, if_true, if_false, ↓reduceIte, reduceIte, Nat.reduceEqDiff, Int.reduceEq, Int.reduceLT, Int.reduceLE, Int.reduceAdd, Int.reduceSub, Int.reduceMul, Int.reduceNeg, and_true, true_and, not_true, not_false_eq_true, true_or, or_true, ne_eq, hL2]
          rw [b4.2 5 (by decide), hC1.2.1 5 (by decide)]
          exact ⟨hT, hF⟩
        · intro y L2 N Q2 hy0 hy1 hL2 ⟨b1, b2, b3, b4, b5⟩ hQ2
          have e117 : N 117 y = PL d (-1) x x y := by rw [b4.1 117 (by decide) (by decide)]; exact g3.2.2 y hy0 hy1
          simp only [sSeq, sSet, sInc, sPF, sPA, sPD, sOF, sOA, sX, sIf, sSkip, sRet, sRetB, sRetV, sSw, sSel, eK, eL, eR, eF, eA, eQ, eD, eU, eB, eV, eIf, ePF, eC0, eC1, eC2, eC3, eC4, eC5, eC6, eC7, cB, cZ, cAnd, cOr, cNot, i2l, st_fn, sl_ap, if_true, if_false, ↓reduceIte, reduceIte, Nat.reduceEqDiff, Int.reduceEq, Int.reduceLT, Int.reduceLE, Int.reduceAdd, Int.reduceSub, Int.reduceMul, Int.reduceNeg, and_true, true_and, not_true, not_false_eq_true, true_or, or_true, ne_eq, hL2, e117]
          rw [iAdd_id (by omega) (by omega)]
          refine ⟨hy0, by omega, hy0, by omega, hQ2 _ _ rfl ⟨?_, ?_, ?_, b4.set (by decide) (by decide) _ _, fun t a b => ?_⟩⟩
          · simp only [sl_ap, st_fn, Nat.reduceEqDiff, ↓reduceIte, reduceIte, Int.reduceEq, if_true, if_false]; exact b1
          · simp only [sl_ap, st_fn, Nat.reduceEqDiff, ↓reduceIte, reduceIte, Int.reduceEq, if_true, if_false]; exact b2
          · simp only [sl_ap, st_fn, Nat.reduceEqDiff, ↓reduceIte, reduceIte, Int.reduceEq, if_true, if_false]; exact b3
          · rw [st_upx, upx_ap]
            by_cases ct : t = y
            · rw [if_pos ct, ct]
            · rw [if_neg ct]
              exact b5 t a (by omega)
        intro L2 M2 _ ⟨b1, b2, b3, b4, b5⟩
        rw [b1, b3]
        have k3b : OnlyR SR SF M M2 := k3'.trans b4 (fun _ q => q) (by decide) (fun _ q => q) (by decide)
        have hC2 := hC.go k3b (fun _ q => q) (fun _ q => q)
        have k4b : M2 81 29 = -1 := (b4.2 29 (by decide)).trans k4'
        have hCk : RF (dK d k) (st M2 81 28 k) := by
          refine ⟨fun a a1 a2 a3 => ?_, fun j hj => ?_, fun a ha => ?_⟩
          · rw [st_ne _ _ _ (by omega), dK_ne d k (by omega) (by omega)]
            exact hC2.1 a a1 a2 a3
          · simp only [st_fn, Nat.reduceEqDiff, ↓reduceIte, reduceIte, Int.reduceEq, if_true, if_false]
            by_cases cj : j = 28
            · rw [if_pos cj, cj, dK_28]
            · rw [if_neg cj, dK_81 d k cj]
              exact hC2.2.1 j hj
          · have : a ≠ 13 ∧ a ≠ 81 := by
              simp only [List.mem_cons, List.not_mem_nil, or_false] at ha
              omega
            rw [st_ne _ _ _ this.2, dK_ne d k this.1 this.2]
            exact hC2.2.2 a ha
        refine hG2 _ (-1) x x _ hCk (by simp only [st_fn, Nat.reduceEqDiff, ↓reduceIte, reduceIte, Int.reduceEq, if_true, if_false]; exact k4b) (by omega) fun M3 o3 q1 q3 => ?_
        have oN : OnlyR SR SF M (st M3 81 28 (-1)) := by
          refine ⟨fun a a1 a2 => ?_, fun j hj => ?_⟩
          · rw [st_ne _ _ _ a1, o3.1 a a1 (fun q => a2 (by
              unfold S2 at q
              unfold SR
              simp only [List.mem_cons, List.not_mem_nil, or_false] at q ⊢
              omega)), st_ne _ _ _ a1]
            exact k3b.1 a a1 a2
          · simp only [st_fn, Nat.reduceEqDiff, ↓reduceIte, reduceIte, Int.reduceEq, if_true, if_false]
            by_cases cj : j = 28
            · rw [if_pos cj, cj, hC.2.1 28 (by decide), h0]
            · rw [if_neg cj, o3.2 j (fun q => hj (by
                unfold SF
                simp only [List.mem_cons, List.not_mem_nil, or_false] at q ⊢
                omega))]
              simp only [st_fn, Nat.reduceEqDiff, ↓reduceIte, reduceIte, Int.reduceEq, if_true, if_false, if_neg cj]
              exact k3b.2 j hj
        have n29 : (st M3 81 28 (-1)) 81 29 = -1 := by
          simp only [st_fn, Nat.reduceEqDiff, ↓reduceIte, reduceIte, Int.reduceEq, if_true, if_false]
          rw [o3.2 29 (by decide)]
          simp only [st_fn, Nat.reduceEqDiff, ↓reduceIte, reduceIte, Int.reduceEq, if_true, if_false]
          exact k4b
        have e5 : dK d k 81 5 = d 81 5 := dK_81 d k (by decide)
        have e119 : ∀ t, 0 ≤ t → t < d 81 5 → (st M3 81 28 (-1)) 119 t = PL d (-1) x x t := fun t a b => by
          rw [st_ne _ _ _ (by decide), o3.1 119 (by decide) (by decide), st_ne _ _ _ (by decide)]
          exact b5 t a b
        have e117 : ∀ t, 0 ≤ t → t < d 81 5 → (st M3 81 28 (-1)) 117 t = PL (dK d k) (-1) x x t := fun t a b => by
          rw [st_ne _ _ _ (by decide)]
          exact q3.2.2 t a (by rw [e5]; exact b)
        have m5 : (st M3 81 28 (-1)) 81 5 = d 81 5 := by rw [oN.2 5 (by decide)]; exact hC.2.1 5 (by decide)
        generalize st M3 81 28 (-1) = N at *
        refine while_up 6 0 (d 81 5) (fun y L3 N' => N' = N ∧ L3 2 = mbN d k x.toNat ∧ L3 1 = k ∧ L3 4 = x ∧ L3 5 = if mvN d k x y.toNat = true then 1 else 0) v1.1 rfl ⟨rfl, by simp only [sl_ap, st_fn, Nat.reduceEqDiff, ↓reduceIte, reduceIte, Int.reduceEq, if_true, if_false]; exact b2, by simp only [sl_ap, st_fn, Nat.reduceEqDiff, ↓reduceIte, reduceIte, Int.reduceEq, if_true, if_false]; exact b1, by simp only [sl_ap, st_fn, Nat.reduceEqDiff, ↓reduceIte, reduceIte, Int.reduceEq, if_true, if_false]; exact b3, by simp only [sl_ap, st_fn, Nat.reduceEqDiff, ↓reduceIte, reduceIte, Int.reduceEq, if_true, if_false]; rfl⟩ ?_ ?_ ?_
        · intro y L3 N' P F a1 a2 hL3 ⟨b0, _⟩ hT hF
          subst b0
          simp only [sSeq, sSet, sInc, sPF, sPA, sPD, sOF, sOA, sX, sIf, sSkip, sRet, sRetB, sRetV, sSw, sSel, eK, eL, eR, eF, eA, eQ, eD, eU, eB, eV, eIf, ePF, eC0, eC1, eC2, eC3, eC4, eC5, eC6, eC7, cB, cZ, cAnd, cOr, cNot, i2l, st_fn, sl_ap, if_true, if_false, ↓reduceIte, reduceIte, Nat.reduceEqDiff, Int.reduceEq, Int.reduceLT, Int.reduceLE, Int.reduceAdd, Int.reduceSub, Int.reduceMul, Int.reduceNeg, and_true, true_and, not_true, not_false_eq_true, true_or, or_true, ne_eq, hL3, m5]
          exact ⟨hT, hF⟩
        · intro y L3 N' Q3 hy0 hy1 hL3 ⟨b0, b6, b7, b8, b9⟩ hQ3
          subst b0
          have hs := mvN_succ d k x hy0
          simp only [sSeq, sSet, sInc, sPF, sPA, sPD, sOF, sOA, sX, sIf, sSkip, sRet, sRetB, sRetV, sSw, sSel, eK, eL, eR, eF, eA, eQ, eD, eU, eB, eV, eIf, ePF, eC0, eC1, eC2, eC3, eC4, eC5, eC6, eC7, cB, cZ, cAnd, cOr, cNot, i2l, st_fn, sl_ap, if_true, if_false, ↓reduceIte, reduceIte, Nat.reduceEqDiff, Int.reduceEq, Int.reduceLT, Int.reduceLE, Int.reduceAdd, Int.reduceSub, Int.reduceMul, Int.reduceNeg, and_true, true_and, not_true, not_false_eq_true, true_or, or_true, ne_eq, hL3, e119 y hy0 hy1, e117 y hy0 hy1]
          rw [iAdd_id (by omega) (by omega)]
          have hfin : ∀ v, v = (if mvN d k x (y + 1).toNat = true then 1 else 0) → Q3 (sl (sl L3 5 v) 6 (y + 1)) N' := by
            intro v hv
            refine hQ3 _ _ rfl ⟨rfl, ?_, ?_, ?_, ?_⟩
            all_goals simp only [sl_ap, st_fn, Nat.reduceEqDiff, ↓reduceIte, reduceIte, Int.reduceEq, if_true, if_false]
            · exact b6
            · exact b7
            · exact b8
            · exact hv
          rw [hs] at hfin
          refine ⟨fun c5 => hfin _ ?_, fun c5 => ⟨hy0, by omega, hy0, by omega, fun c6 => hfin _ ?_, fun c6 => hfin _ ?_⟩⟩
          · have : mvN d k x y.toNat = true := by
              apply Classical.byContradiction
              intro q
              rw [if_neg q] at b9
              exact c5 b9
            rw [this, Bool.true_or, if_pos rfl]
          · rw [decide_eq_true c6, Bool.or_true, if_pos rfl]
          · have : mvN d k x y.toNat = false := by
              apply Classical.byContradiction
              intro q
              have q : mvN d k x y.toNat = true := by simpa using q
              rw [if_pos q] at b9
              exact c5 (by omega)
            rw [this, decide_eq_false c6, Bool.false_or, if_neg (by decide)]
        · intro L3 N' _ ⟨b0, b6, b7, b8, b9⟩
          subst b0
          have b9 : L3 5 = if mv d k x = true then 1 else 0 := b9
          rw [b6, b8, b9]
          have hfin : ∀ v, v = mbN d k (x + 1).toNat → Q' (sl (sl L3 2 v) 4 (x + 1)) N' := by
            intro v hv
            refine hQ' _ _ rfl ⟨?_, ?_, oN, n29⟩
            all_goals simp only [sl_ap, st_fn, Nat.reduceEqDiff, ↓reduceIte, reduceIte, Int.reduceEq, if_true, if_false]
            · exact b7
            · exact hv
          rw [hsu] at hfin
          have hx : iAdd x 1 = x + 1 := iAdd_id (by omega) (by omega)
          by_cases cm : mv d k x = true
          · rw [cm, if_pos rfl] at hfin
            rw [cm, if_pos rfl]
            simp only [sl_ap, st_fn, Nat.reduceEqDiff, ↓reduceIte, reduceIte, Int.reduceEq, if_true, if_false, b8, hx]
            exact ⟨fun _ => hfin _ rfl, fun q => absurd q (by simp)⟩
          · rw [if_neg cm] at hfin
            rw [if_neg cm]
            simp only [sl_ap, st_fn, Nat.reduceEqDiff, ↓reduceIte, reduceIte, Int.reduceEq, if_true, if_false, b8, hx]
            exact ⟨fun q => absurd q (by simp), fun _ => hfin _ (lOr_0 (mbN_r d k _))⟩
      · intro L M' _ ⟨k1, k2, k3, k4⟩
        rw [k2]
        exact hQ M' k3 k4
    · rw [if_neg (fun q => c1 ((b01_ne _).mpr q))] at hQ
      exact hQ M OnlyR.rf hlo
  · rw [if_neg c] at hQ
    ((repeat' (first | (with_reducible intro _) | (with_reducible refine And.intro ?_ ?_))) <;> try (exfalso; omega))
    all_goals exact hQ M OnlyR.rf hlo
theorem ok_moves {Z M : XM} (hZ : ZC Z) (h : Inv Z M) (x1 : Int) : F_M_moves x1 M (fun v M1 => F_R_moves x1 M1 (fun w M2 => v = w ∧ Inv Z M2)) :=
  have hB := h.base hZ
  have h0 : M 81 28 = -1 := h.2.2.2.2.2.2.1
  ok_of (FM := F_M_moves x1) (FR := F_R_moves x1) h (vMoves M x1) (fun _ hQ => M_moves_gen F_M_bearsOn F_M_changesList hB CF.rf h0 (br_spec hB) (ch_spec hB h0) hQ) (fun _ _ hC hlo hQ => R_moves_gen F_R_findList hB hC h0 hlo (fl_spec hB) (fl_spec (dK_base hB x1)) hQ)
