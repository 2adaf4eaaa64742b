/-! ===== sums: spec ===== -/
def stL' (d : XM) (lo w s : Int) : Int := stL d lo w s
def hun (d : XM) (w r s t : Int) : Int := (amt d w r s t * rl d (6 + d 88 t) r * rl d (10 + d 90 s) r).tdiv 100
def toF (d : XM) (lo w r T K s t : Int) : Int := if stL d lo w s = 2 ∧ d 87 t = T ∧ d 90 s = K then hun d w r s t else 0
def TO (d : XM) (lo w r T K : Int) : Int := sumN (fun s => sumN (fun t => toF d lo w r T K s t) (d 81 7).toNat) (d 81 11).toNat
def szF (d : XM) (lo w K v s : Int) : Int := if d 90 s = K ∧ stL d lo w s = v then d 91 s else 0
def SZ (d : XM) (lo w K v : Int) : Int := sumN (szF d lo w K v) (d 81 11).toNat
def shr (d : XM) (lo w r T K size : Int) : Int := if 0 < SZ d lo w K 2 then (TO d lo w r T K * size).tdiv (SZ d lo w K 2) else 0
def TOL (d : XM) (lo w r T : Int) : Int := sumN (fun K => TO d lo w r T K) 4
def FOL (d : XM) (lo w r T : Int) : Int := sumN (fun K => shr d lo w r T K (SZ d lo w K 1)) 4
def SUM (d : XM) (lo w r T : Int) : Int := TOL d lo w r T + FOL d lo w r T
theorem mul_bd {a b A B : Int} (ha : -A ≤ a ∧ a ≤ A) (hb : 0 ≤ b ∧ b ≤ B) (hA : 0 ≤ A) : -(A * B) ≤ a * b ∧ a * b ≤ A * B := by
  have h1 : a * b ≤ A * b := Int.mul_le_mul_of_nonneg_right ha.2 hb.1
  have h2 : A * b ≤ A * B := Int.mul_le_mul_of_nonneg_left hb.2 hA
  have h3 : (-A) * b ≤ a * b := Int.mul_le_mul_of_nonneg_right ha.1 hb.1
  have h4 : (-A) * b = -(A * b) := Int.neg_mul A b
  omega
theorem amt_bd {d : XM} (hV : Vl d) (hr : DCr d) (w r s t : Int) : -30000000 ≤ amt d w r s t ∧ amt d w r s t ≤ 30000000 := by
  have r0 : 1 ≤ rl d 0 r ∧ rl d 0 r ≤ 9999 := rl_r hr (i := 0) (by omega) (by omega) r
  have h1 := TK_bd hV w r s t (n := (d 81 19).toNat) (by have := hV.1; omega)
  have h2 := HD_bd hV w r s t (n := (d 81 19).toNat) (by have := hV.1; omega)
  have h3 := tdiv_nn (a := HD d w r s t) (b := rl d 0 r) h2.1 (by omega)
  have := hV.1
  unfold amt TK
  unfold HD at h3 ⊢
  omega
theorem rl_fk {d : XM} (hr : DCr d) (r : Int) {i : Int} (h1 : 6 ≤ i) (h2 : i ≤ 13) : 0 ≤ rl d i r ∧ rl d i r ≤ 500 := by
  have h := rl_r hr (i := i) (by omega) (by omega) r
  unfold loOf hiOf at h
  rw [if_neg (show ¬ i = 0 by omega), if_neg (show ¬ i = 0 by omega), if_neg (show ¬ i = 1 by omega), if_neg (show ¬ i < 4 by omega), if_neg (show ¬ i < 6 by omega), if_neg (show ¬ i = 14 by omega)] at h
  exact h
theorem hun_bd {d : XM} (hB : Base d) (w r : Int) {s t : Int} (hs : 0 ≤ s ∧ s < d 81 11) (ht : 0 ≤ t ∧ t < d 81 7) : (-15000000000 ≤ amt d w r s t * rl d (6 + d 88 t) r ∧ amt d w r s t * rl d (6 + d 88 t) r ≤ 15000000000) ∧ (-7500000000000 ≤ amt d w r s t * rl d (6 + d 88 t) r * rl d (10 + d 90 s) r ∧ amt d w r s t * rl d (6 + d 88 t) r * rl d (10 + d 90 s) r ≤ 7500000000000) ∧ (-75000000000 ≤ hun d w r s t ∧ hun d w r s t ≤ 75000000000) := by
  obtain ⟨hDt, hDl, hVt, hVl, hr, hz⟩ := hB
  have g1 := hVt.2.2.2.2.1 t ht.1 ht.2
  have g2 := hVt.2.2.2.2.2 s hs.1 hs.2
  have h1 := amt_bd hVl hr w r s t
  have h2 := mul_bd h1 (rl_fk hr r (i := 6 + d 88 t) (by omega) (by omega)) (by omega)
  have h3 := mul_bd (A := 15000000000) (B := 500) (by omega) (rl_fk hr r (i := 10 + d 90 s) (by omega) (by omega)) (by omega) (a := amt d w r s t * rl d (6 + d 88 t) r)
  refine ⟨by omega, by omega, ?_⟩
  unfold hun
  generalize amt d w r s t * rl d (6 + d 88 t) r * rl d (10 + d 90 s) r = q at *
  have h5 : (q.tdiv 100).natAbs = q.natAbs / 100 := Int.natAbs_tdiv q 100
  omega
theorem sumN_comm (f : Int → Int → Int) (m : Nat) : ∀ n : Nat, sumN (fun s => sumN (fun t => f s t) m) n = sumN (fun t => sumN (fun s => f s t) n) m
  | 0 => by
    induction m with
    | zero => rfl
    | succ m ih =>
      show (0 : Int) = sumN (fun t => sumN (fun s => f s t) 0) m + 0
      rw [← ih]
      rfl
  | n + 1 => by
    have ih := sumN_comm f m n
    show sumN (fun s => sumN (fun t => f s t) m) n + sumN (fun t => f n t) m = _
    rw [ih]
    clear ih
    induction m with
    | zero => rfl
    | succ m ih =>
      show sumN (fun t => sumN (fun s => f s t) n) m + sumN (fun s => f s m) n + (sumN (fun t => f n t) m + f n m) = sumN (fun t => sumN (fun s => f s t) (n + 1)) m + (sumN (fun s => f s m) n + f n m)
      rw [← ih]
      omega
theorem toF_bd {d : XM} (hB : Base d) (lo w r T K : Int) {s t : Int} (hs : 0 ≤ s ∧ s < d 81 11) (ht : 0 ≤ t ∧ t < d 81 7) : -75000000000 ≤ toF d lo w r T K s t ∧ toF d lo w r T K s t ≤ 75000000000 := by
  have := (hun_bd hB w r hs ht).2.2
  unfold toF
  split <;> omega
theorem toS_bd {d : XM} (hB : Base d) (lo w r T K : Int) {s : Int} (hs : 0 ≤ s ∧ s < d 81 11) {n : Nat} (hn : (n : Int) ≤ d 81 7) : -1800000000000 ≤ sumN (fun t => toF d lo w r T K s t) n ∧ sumN (fun t => toF d lo w r T K s t) n ≤ 1800000000000 := by
  have h := sumN_bd (f := fun t => toF d lo w r T K s t) (B := 75000000000) (n := n) fun t h1 h2 => toF_bd hB lo w r T K hs ⟨h1, by omega⟩
  have := hB.2.2.1.2.1
  omega
theorem TO_bdN {d : XM} (hB : Base d) (lo w r T K : Int) {n : Nat} (hn : (n : Int) ≤ d 81 11) : -28800000000000 ≤ sumN (fun s => sumN (fun t => toF d lo w r T K s t) (d 81 7).toNat) n ∧ sumN (fun s => sumN (fun t => toF d lo w r T K s t) (d 81 7).toNat) n ≤ 28800000000000 := by
  have hv := hB.2.2.1.2.1
  have h := sumN_bd (f := fun s => sumN (fun t => toF d lo w r T K s t) (d 81 7).toNat) (B := 1800000000000) (n := n) fun s h1 h2 => toS_bd hB lo w r T K ⟨h1, by omega⟩ (by omega)
  have := hB.2.2.1.2.2.1
  omega
theorem TO_bd {d : XM} (hB : Base d) (lo w r T K : Int) : -28800000000000 ≤ TO d lo w r T K ∧ TO d lo w r T K ≤ 28800000000000 := TO_bdN hB lo w r T K (by have := hB.2.2.1.2.2.1; omega)
theorem TO_comm (d : XM) (lo w r T K : Int) : TO d lo w r T K = sumN (fun t => sumN (fun s => toF d lo w r T K s t) (d 81 11).toNat) (d 81 7).toNat := sumN_comm (fun s t => toF d lo w r T K s t) _ _
theorem SZ_bdN {d : XM} (hB : Base d) (lo w K v : Int) : ∀ {n : Nat}, (n : Int) ≤ d 81 11 → 0 ≤ sumN (szF d lo w K v) n ∧ sumN (szF d lo w K v) n ≤ 100 * n
  | 0, _ => by show (0 : Int) ≤ 0 ∧ (0 : Int) ≤ 100 * 0; omega
  | n + 1, hn => by
    have ih := SZ_bdN hB lo w K v (n := n) (by omega)
    have g := hB.2.2.1.2.2.2.2.2 (n : Int) (by omega) (by omega)
    show 0 ≤ sumN (szF d lo w K v) n + szF d lo w K v n ∧ sumN (szF d lo w K v) n + szF d lo w K v n ≤ 100 * ((n + 1 : Nat) : Int)
    unfold szF at ih ⊢
    split <;> omega
theorem SZ_bd {d : XM} (hB : Base d) (lo w K v : Int) : 0 ≤ SZ d lo w K v ∧ SZ d lo w K v ≤ 1600 := by
  have hv := hB.2.2.1.2.2.1
  have h := SZ_bdN hB lo w K v (n := (d 81 11).toNat) (by omega)
  unfold SZ
  omega
theorem shr_bd {d : XM} (hB : Base d) (lo w r T K : Int) {size : Int} (hs : 0 ≤ size ∧ size ≤ 1600) : (-46080000000000000 ≤ TO d lo w r T K * size ∧ TO d lo w r T K * size ≤ 46080000000000000) ∧ (-46080000000000000 ≤ shr d lo w r T K size ∧ shr d lo w r T K size ≤ 46080000000000000) := by
  have h := mul_bd (TO_bd hB lo w r T K) hs (by omega)
  have h1 : -46080000000000000 ≤ TO d lo w r T K * size ∧ TO d lo w r T K * size ≤ 46080000000000000 := by omega
  refine ⟨h1, ?_⟩
  unfold shr
  split
  · exact tdiv_bd h1
  · omega
theorem TOL_bdN {d : XM} (hB : Base d) (lo w r T : Int) {n : Nat} (hn : n ≤ 4) : -115200000000000 ≤ sumN (fun K => TO d lo w r T K) n ∧ sumN (fun K => TO d lo w r T K) n ≤ 115200000000000 := by
  have h := sumN_bd (f := fun K => TO d lo w r T K) (B := 28800000000000) (n := n) fun K _ _ => TO_bd hB lo w r T K
  omega
theorem FOL_bdN {d : XM} (hB : Base d) (lo w r T : Int) {n : Nat} (hn : n ≤ 4) : -184320000000000000 ≤ sumN (fun K => shr d lo w r T K (SZ d lo w K 1)) n ∧ sumN (fun K => shr d lo w r T K (SZ d lo w K 1)) n ≤ 184320000000000000 := by
  have h := sumN_bd (f := fun K => shr d lo w r T K (SZ d lo w K 1)) (B := 46080000000000000) (n := n) fun K _ _ => (shr_bd hB lo w r T K (SZ_bd hB lo w K 1)).2
  omega
theorem SUM_bd {d : XM} (hB : Base d) (lo w r T : Int) : -200000000000000000 ≤ SUM d lo w r T ∧ SUM d lo w r T ≤ 200000000000000000 := by
  have h1 := TOL_bdN hB lo w r T (n := 4) (by omega)
  have h2 := FOL_bdN hB lo w r T (n := 4) (by omega)
  unfold SUM TOL FOL
  omega
/-! ===== sums: the class ===== -/
theorem CF.dcl {d M : XM} (h : CF d M) (hB : Base d) : DCl M d := by
  obtain ⟨l1, l2, l3, l4, l5, l6, l7, l8, l9, l10, l11⟩ := hB.2.1
  refine ⟨?_, ?_, ?_, ?_, ?_, ?_, ?_, ?_, ?_, ?_, ?_⟩
  · rw [h 13 (by decide) (by omega)]; exact l1
  · rw [h 13 (by decide) (by omega)]; exact l2
  · rw [h 13 (by decide) (by omega)]; exact l3
  · rw [h 14 (by decide) (by omega)]; exact l4
  · rw [h 15 (by decide) (by omega)]; exact l5
  · rw [h 16 (by decide) (by omega)]; exact l6
  · rw [h 17 (by decide) (by omega)]; exact l7
  · rw [h 18 (by decide) (by omega)]; exact l8
  · rw [h 19 (by decide) (by omega)]; exact l9
  · rw [h 20 (by decide) (by omega)]; exact l10
  · rw [h 21 (by decide) (by omega)]; exact l11
theorem CF.dct {d M : XM} (h : CF d M) (hB : Base d) : DCt M d := by
  obtain ⟨l1, l2, l3, l4, l5, l6, l7, l8, l9, l10, l11, l12, l13, l14⟩ := hB.1
  refine ⟨?_, ?_, ?_, ?_, ?_, ?_, ?_, ?_, ?_, ?_, ?_, ?_, ?_, ?_⟩
  · rw [h 2 (by decide) (by omega)]; exact l1
  · rw [h 3 (by decide) (by omega)]; exact l2
  · rw [h 2 (by decide) (by omega)]; exact l3
  · rw [h 4 (by decide) (by omega)]; exact l4
  · rw [h 5 (by decide) (by omega)]; exact l5
  · rw [h 6 (by decide) (by omega)]; exact l6
  · rw [h 2 (by decide) (by omega)]; exact l7
  · rw [h 7 (by decide) (by omega)]; exact l8
  · rw [h 8 (by decide) (by omega)]; exact l9
  · rw [h 9 (by decide) (by omega)]; exact l10
  · rw [h 10 (by decide) (by omega)]; exact l11
  · rw [h 11 (by decide) (by omega)]; exact l12
  · rw [h 12 (by decide) (by omega)]; exact l13
  · rw [h 2 (by decide) (by omega)]; exact l14
theorem Gat.go {d M M' : XM} {w r : Int} {S : List Nat} (h : Gat d w r M) (ho : Only S M M') (hS : 24 ∉ S ∧ 25 ∉ S ∧ 30 ∉ S ∧ 31 ∉ S ∧ 32 ∉ S) : Gat d w r M' := by
  unfold Gat
  rw [ho 24 hS.1, ho 25 hS.2.1, ho 30 hS.2.2.1, ho 31 hS.2.2.2.1, ho 32 hS.2.2.2.2]
  exact h
theorem Tally_amountAt_ok {d M : XM} {w r s t : Int} {Q : Int → XM → Prop} (hB : Base d) (hG : Gat d w r M) (hs : 0 ≤ s ∧ s < 16) (ht : 0 ≤ t ∧ t < 24) (hQ : Q (amt d w r s t) M) : F_Tally_amountAt s t M Q := by
  have hr := hB.2.2.2.2.1
  have hVl := hB.2.2.2.1
  have r0 : 1 ≤ rl d 0 r ∧ rl d 0 r ≤ 9999 := rl_r hr (i := 0) (by omega) (by omega) r
  have g := hG.2.1 s t hs.1 hs.2 ht.1 ht.2
  have e0 := (hG.1 0 (by omega) (by omega)).1
  have h1 := TK_bd hVl w r s t (n := (d 81 19).toNat) (by have := hVl.1; omega)
  have h2 := HD_bd hVl w r s t (n := (d 81 19).toNat) (by have := hVl.1; omega)
  have h3 := tdiv_nn (a := HD d w r s t) (b := rl d 0 r) h2.1 (by omega)
  have hv := hVl.1
  unfold amt at hQ
  unfold TK HD at *
  unfold F_Tally_amountAt S_Tally_amountAt
  simp (disch := omega) only [sSeq, sSet, sInc, sPF, sPA, sPD, sOF, sOA, sX, sIf, sSkip, sRet, sRetB, sRetV, sSw, sSel, eK, eL, eR, eF, eA, eQ, eD, eU, eB, eV, eIf, ePF, eC0, eC1, eC2, eC3, eC4, eC5, eC6, eC7, cB, cZ, cAnd, cOr, cNot, i2l, st_fn, sl_ap, if_true, if_false, ↓reduceIte, reduceIte, Nat.reduceEqDiff, Int.reduceEq, Int.reduceLT, Int.reduceLE, Int.reduceAdd, Int.reduceSub, Int.reduceMul, Int.reduceNeg, and_true, true_and, not_true, not_false_eq_true, true_or, or_true, ne_eq, Int.mul_comm s 24, iMul_id, iAdd_id, e0, g.1, g.2, iDiv_id]
  refine ⟨fun _ => ⟨by omega, by omega, by omega, by omega, by omega, hQ⟩, fun q => absurd (by omega) q⟩
theorem Tally_hundredthsAt_ok {d M : XM} {w r s t : Int} {Q : Int → XM → Prop} (hB : Base d) (hC : CF d M) (hG : Gat d w r M) (hs : 0 ≤ s ∧ s < d 81 11) (ht : 0 ≤ t ∧ t < d 81 7) (hQ : Q (hun d w r s t) M) : F_Tally_hundredthsAt s t M Q := by
  obtain ⟨h1, h2, h3, h4, h5, h6, h7, h8, h9, h10, h11, h12, h13, h14⟩ := hC.dct hB
  have g1 := hB.2.2.1.2.2.2.2.1 t ht.1 ht.2
  have g2 := hB.2.2.1.2.2.2.2.2 s hs.1 hs.2
  have v2 := hB.2.2.1.2.1
  have v3 := hB.2.2.1.2.2.1
  have hb := hun_bd hB w r hs ht
  have e1 := (hG.1 (6 + d 88 t) (by omega) (by omega)).1
  have e2 := (hG.1 (10 + d 90 s) (by omega) (by omega)).1
  unfold F_Tally_hundredthsAt S_Tally_hundredthsAt
  simp (disch := omega) only [sSeq, sSet, sInc, sPF, sPA, sPD, sOF, sOA, sX, sIf, sSkip, sRet, sRetB, sRetV, sSw, sSel, eK, eL, eR, eF, eA, eQ, eD, eU, eB, eV, eIf, ePF, eC0, eC1, eC2, eC3, eC4, eC5, eC6, eC7, cB, cZ, cAnd, cOr, cNot, i2l, st_fn, sl_ap, if_true, if_false, ↓reduceIte, reduceIte, Nat.reduceEqDiff, Int.reduceEq, Int.reduceLT, Int.reduceLE, Int.reduceAdd, Int.reduceSub, Int.reduceMul, Int.reduceNeg, and_true, true_and, not_true, not_false_eq_true, true_or, or_true, ne_eq, h5, h8, iAdd_id, e1, e2]
  refine ⟨by omega, by omega, by omega, by omega, by omega, by omega, by omega, by omega, ?_⟩
  refine Tally_amountAt_ok hB hG ⟨by omega, by omega⟩ ⟨by omega, by omega⟩ ?_
  rw [lMul_id (x := amt d w r s t) (by omega) (by omega), lMul_id (x := amt d w r s t * rl d (6 + d 88 t) r) (by omega) (by omega), lDiv_id (by omega) (by omega)]
  exact hQ
theorem Tally_weighShop_ok {d M : XM} {w r s K0 : Int} {Q : Int → XM → Prop} (hB : Base d) (hC : CF d M) (hG : Gat d w r M) (hs : 0 ≤ s ∧ s < d 81 11) (hK : K0 = d 90 s)
    (hb : ∀ i, 0 ≤ i → i < 48 → -100000000000000 ≤ M 33 i ∧ M 33 i ≤ 100000000000000)
    (hQ : ∀ M', Only [33] M M' → (∀ T K, 0 ≤ T → T < 12 → 0 ≤ K → K < 4 → M' 33 (4 * T + K) = M 33 (4 * T + K) + sumN (fun t => if d 87 t = T ∧ K0 = K then hun d w r s t else 0) (d 81 7).toNat) → Q 0 M') : F_Tally_weighShop s K0 M Q := by
  have v2 := hB.2.2.1.2.1
  have v3 := hB.2.2.1.2.2.1
  have v1 := hB.2.2.1.1
  have g2 := hB.2.2.1.2.2.2.2.2 s hs.1 hs.2
  unfold F_Tally_weighShop S_Tally_weighShop
  simp only [sSeq, sSet, sInc, sPF, sPA, sPD, sOF, sOA, sX, sIf, sSkip, sRet, sRetB, sRetV, sSw, sSel, eK, eL, eR, eF, eA, eQ, eD, eU, eB, eV, eIf, ePF, eC0, eC1, eC2, eC3, eC4, eC5, eC6, eC7, cB, cZ, cAnd, cOr, cNot, i2l, st_fn, sl_ap, if_true, if_false, ↓reduceIte, reduceIte, Nat.reduceEqDiff, Int.reduceEq, Int.reduceLT, Int.reduceLE, Int.reduceAdd, Int.reduceSub, Int.reduceMul, Int.reduceNeg, and_true, true_and, not_true, not_false_eq_true, true_or, or_true, ne_eq]
  have hbd : ∀ (T K : Int) (n : Nat), (n : Int) ≤ d 81 7 → -1800000000000 ≤ sumN (fun t => if d 87 t = T ∧ K0 = K then hun d w r s t else 0) n ∧ sumN (fun t => if d 87 t = T ∧ K0 = K then hun d w r s t else 0) n ≤ 1800000000000 := by
    intro T K n hn
    have h := sumN_bd (f := fun t => if d 87 t = T ∧ K0 = K then hun d w r s t else 0) (B := 75000000000) (n := n) fun t h1 h2 => by
      have := (hun_bd hB w r hs ⟨h1, by omega⟩ (t := t)).2.2
      split <;> omega
    omega
  refine while_up 3 0 (d 81 7) (fun x L M' => L 1 = s ∧ L 2 = K0 ∧ Only [33] M M' ∧ ∀ T K, 0 ≤ T → T < 12 → 0 ≤ K → K < 4 → M' 33 (4 * T + K) = M 33 (4 * T + K) + sumN (fun t => if d 87 t = T ∧ K0 = K then hun d w r s t else 0) x.toNat) v2.1 rfl ⟨rfl, rfl, Only.rf, fun T K _ _ _ _ => (Int.add_zero _).symm⟩ ?_ ?_ ?_
  · intro x L M' T F h1 h2 hL ⟨_, _, k2, _⟩ hT hF
    obtain ⟨m1, m2, m3, m4, m5, m6, m7, m8, m9, m10, m11, m12, m13, m14⟩ := (hC.go k2 (by decide)).dct hB
    simp only [sSeq, sSet, sInc, sPF, sPA, sPD, sOF, sOA, sX, sIf, sSkip, sRet, sRetB, sRetV, sSw, sSel, eK, eL, eR, eF, eA, eQ, eD, eU, eB, eV, eIf, ePF, eC0, eC1, eC2, eC3, eC4, eC5, eC6, eC7, cB, cZ, cAnd, cOr, cNot, i2l, st_fn, sl_ap, if_true, if_false, ↓reduceIte, reduceIte, Nat.reduceEqDiff, Int.reduceEq, Int.reduceLT, Int.reduceLE, Int.reduceAdd, Int.reduceSub, Int.reduceMul, Int.reduceNeg, and_true, true_and, not_true, not_false_eq_true, true_or, or_true, ne_eq, hL]
    rw [m3]
    exact ⟨hT, hF⟩
  · intro x L M' Q' hx0 hx1 hL ⟨k1, k2, k3, k4⟩ hQ'
    have hC' := hC.go k3 (by decide)
    obtain ⟨m1, m2, m3, m4, m5, m6, m7, m8, m9, m10, m11, m12, m13, m14⟩ := hC'.dct hB
    have g1 := hB.2.2.1.2.2.2.2.1 x hx0 hx1
    simp (disch := omega) only [sSeq, sSet, sInc, sPF, sPA, sPD, sOF, sOA, sX, sIf, sSkip, sRet, sRetB, sRetV, sSw, sSel, eK, eL, eR, eF, eA, eQ, eD, eU, eB, eV, eIf, ePF, eC0, eC1, eC2, eC3, eC4, eC5, eC6, eC7, cB, cZ, cAnd, cOr, cNot, i2l, st_fn, sl_ap, if_true, if_false, ↓reduceIte, reduceIte, Nat.reduceEqDiff, Int.reduceEq, Int.reduceLT, Int.reduceLE, Int.reduceAdd, Int.reduceSub, Int.reduceMul, Int.reduceNeg, and_true, true_and, not_true, not_false_eq_true, true_or, or_true, ne_eq, hL, k1, k2, m4, iMul_id, iAdd_id, Int.mul_comm _ 4]
    refine ⟨hx0, by omega, by omega, by omega, Tally_hundredthsAt_ok hB hC' (hG.go k3 (by decide)) hs ⟨hx0, hx1⟩ ?_⟩
    have h4 := k4 (d 87 x) K0 (by omega) (by omega) (by omega) (by omega)
    have hh := (hun_bd hB w r hs ⟨hx0, hx1⟩).2.2
    have hb2 := hbd (d 87 x) K0 x.toNat (by omega)
    have hb3 := hb (4 * d 87 x + K0) (by omega) (by omega)
    rw [lAdd_id (by omega) (by omega)]
    refine hQ' _ _ rfl ⟨?_, ?_, k3.set (by decide) _ _, fun T K b1 b2 b3 b4 => ?_⟩
    · simp only [sl_ap, Nat.reduceEqDiff, if_false]; exact k1
    · simp only [sl_ap, Nat.reduceEqDiff, if_false]; exact k2
    · rw [sumN_succ _ hx0]
      simp only [st_fn, if_true]
      have h5 := k4 T K b1 b2 b3 b4
      by_cases c : d 87 x = T ∧ K0 = K
      · rw [if_pos (show 4 * T + K = 4 * d 87 x + K0 by omega), if_pos c, h4, c.1, c.2, Int.add_assoc]
      · rw [if_neg (show ¬ 4 * T + K = 4 * d 87 x + K0 by omega), if_neg c, h5, Int.add_zero]
  · intro L M' _ ⟨k1, k2, k3, k4⟩
    exact hQ M' k3 k4
def Wei (d : XM) (lo w r : Int) (M : XM) : Prop := (∀ K, 0 ≤ K → K < 4 → M 34 K = SZ d lo w K 2 ∧ M 35 K = SZ d lo w K 1) ∧ (∀ T K, 0 ≤ T → T < 12 → 0 ≤ K → K < 4 → M 33 (4 * T + K) = TO d lo w r T K) ∧ (∀ T, 0 ≤ T → T < d 81 5 → M 36 T = SUM d lo w r T)
theorem Tally_toldOf_ok {d M : XM} {lo w r T : Int} {Q : Int → XM → Prop} (hB : Base d) (hT : 0 ≤ T ∧ T < 12) (h33 : ∀ T K, 0 ≤ T → T < 12 → 0 ≤ K → K < 4 → M 33 (4 * T + K) = TO d lo w r T K) (hQ : Q (TOL d lo w r T) M) : F_Tally_toldOf T M Q := by
  unfold F_Tally_toldOf S_Tally_toldOf
  simp only [sSeq, sSet, sInc, sPF, sPA, sPD, sOF, sOA, sX, sIf, sSkip, sRet, sRetB, sRetV, sSw, sSel, eK, eL, eR, eF, eA, eQ, eD, eU, eB, eV, eIf, ePF, eC0, eC1, eC2, eC3, eC4, eC5, eC6, eC7, cB, cZ, cAnd, cOr, cNot, i2l, st_fn, sl_ap, if_true, if_false, ↓reduceIte, reduceIte, Nat.reduceEqDiff, Int.reduceEq, Int.reduceLT, Int.reduceLE, Int.reduceAdd, Int.reduceSub, Int.reduceMul, Int.reduceNeg, and_true, true_and, not_true, not_false_eq_true, true_or, or_true, ne_eq]
  refine while_up 4 0 4 (fun x L M' => M' = M ∧ L 1 = T ∧ L 2 = sumN (fun K => TO d lo w r T K) x.toNat) (by omega) rfl ⟨rfl, rfl, rfl⟩ ?_ ?_ ?_
  · intro x L M' P F h1 h2 hL _ hT hF
    simp only [sSeq, sSet, sInc, sPF, sPA, sPD, sOF, sOA, sX, sIf, sSkip, sRet, sRetB, sRetV, sSw, sSel, eK, eL, eR, eF, eA, eQ, eD, eU, eB, eV, eIf, ePF, eC0, eC1, eC2, eC3, eC4, eC5, eC6, eC7, cB, cZ, cAnd, cOr, cNot, i2l, st_fn, sl_ap, if_true, if_false, ↓reduceIte, reduceIte, Nat.reduceEqDiff, Int.reduceEq, Int.reduceLT, Int.reduceLE, Int.reduceAdd, Int.reduceSub, Int.reduceMul, Int.reduceNeg, and_true, true_and, not_true, not_false_eq_true, true_or, or_true, ne_eq, hL]
    exact ⟨hT, hF⟩
  · intro x L M' Q' hx0 hx1 hL ⟨k1, k2, k3⟩ hQ'
    subst k1
    have h := TOL_bdN hB lo w r T (n := x.toNat) (by omega)
    have h2 := TO_bd hB lo w r T x
    simp (disch := omega) only [sSeq, sSet, sInc, sPF, sPA, sPD, sOF, sOA, sX, sIf, sSkip, sRet, sRetB, sRetV, sSw, sSel, eK, eL, eR, eF, eA, eQ, eD, eU, eB, eV, eIf, ePF, eC0, eC1, eC2, eC3, eC4, eC5, eC6, eC7, cB, cZ, cAnd, cOr, cNot, i2l, st_fn, sl_ap, if_true, if_false, ↓reduceIte, reduceIte, Nat.reduceEqDiff, Int.reduceEq, Int.reduceLT, Int.reduceLE, Int.reduceAdd, Int.reduceSub, Int.reduceMul, Int.reduceNeg, and_true, true_and, not_true, not_false_eq_true, true_or, or_true, ne_eq, hL, k2, k3, iMul_id, iAdd_id, Int.mul_comm _ 4, h33 T x hT.1 hT.2 hx0 hx1, lAdd_id]
    refine ⟨by omega, by omega, hQ' _ _ rfl ⟨rfl, ?_, ?_⟩⟩
    · simp only [sl_ap, Nat.reduceEqDiff, if_false]; exact k2
    · simp only [sl_ap, Nat.reduceEqDiff, if_true, if_false]
      rw [sumN_succ _ hx0]
  · intro L M' _ ⟨k1, k2, k3⟩
    subst k1
    rw [k3]
    exact hQ
theorem F_Tally_shareOfTold_ok {d M : XM} {lo w r T K size : Int} {Q : Int → XM → Prop} (hB : Base d) (hT : 0 ≤ T ∧ T < 12) (hK : 0 ≤ K ∧ K < 4) (hs : 0 ≤ size ∧ size ≤ 1600) (h34 : M 34 K = SZ d lo w K 2) (h33 : M 33 (4 * T + K) = TO d lo w r T K) (hQ : Q (shr d lo w r T K size) M) : F_Tally_shareOfTold T K size M Q := by
  have h := shr_bd hB lo w r T K hs
  have h2 := SZ_bd hB lo w K 2
  unfold F_Tally_shareOfTold S_Tally_shareOfTold
  simp (disch := omega) only [sSeq, sSet, sInc, sPF, sPA, sPD, sOF, sOA, sX, sIf, sSkip, sRet, sRetB, sRetV, sSw, sSel, eK, eL, eR, eF, eA, eQ, eD, eU, eB, eV, eIf, ePF, eC0, eC1, eC2, eC3, eC4, eC5, eC6, eC7, cB, cZ, cAnd, cOr, cNot, i2l, st_fn, sl_ap, if_true, if_false, ↓reduceIte, reduceIte, Nat.reduceEqDiff, Int.reduceEq, Int.reduceLT, Int.reduceLE, Int.reduceAdd, Int.reduceSub, Int.reduceMul, Int.reduceNeg, and_true, true_and, not_true, not_false_eq_true, true_or, or_true, ne_eq, iMul_id, iAdd_id, Int.mul_comm T 4, h34, h33, lMul_id, lDiv_id]
  unfold shr at hQ
  refine ⟨by omega, by omega, fun c => ?_, fun c => ?_⟩
  · rw [if_pos c] at hQ
    exact ⟨by omega, by omega, by omega, by omega, by omega, hQ⟩
  · rw [if_neg c] at hQ
    exact hQ
theorem stL_sta {d : XM} {lo w s : Int} : stL d lo w s = 2 ↔ sta d w s = 2 ∧ ¬ s = lo := by
  unfold stL sta
  by_cases c : opn d w s
  · rw [if_pos c]
    by_cases c2 : spN d w s (d 81 19).toNat = true
    · rw [if_pos c2]
      by_cases c3 : s = lo
      · rw [if_pos ⟨rfl, c3⟩]
        exact ⟨fun q => absurd q (by decide), fun q => absurd c3 q.2⟩
      · rw [if_neg (fun q => c3 q.2)]
        exact ⟨fun _ => ⟨rfl, c3⟩, fun _ => rfl⟩
    · rw [if_neg c2, if_neg (by omega)]
      exact ⟨fun q => absurd q (by decide), fun q => absurd q.1 (by decide)⟩
  · rw [if_neg c, if_neg (by omega)]
    exact ⟨fun q => absurd q (by decide), fun q => absurd q.1 (by decide)⟩
theorem stL_r {d : XM} {lo w s : Int} : (stL d lo w s = 0 ↔ sta d w s = 0) ∧ (stL d lo w s = 0 ∨ stL d lo w s = 1 ∨ stL d lo w s = 2) ∧ (sta d w s = 0 ∨ sta d w s = 1 ∨ sta d w s = 2) := by
  unfold stL sta
  by_cases c : opn d w s
  · rw [if_pos c]
    by_cases c2 : spN d w s (d 81 19).toNat = true
    · rw [if_pos c2]
      by_cases c3 : s = lo
      · rw [if_pos ⟨rfl, c3⟩]
        omega
      · rw [if_neg (fun q => c3 q.2)]
        omega
    · rw [if_neg c2, if_neg (by omega)]
      omega
  · rw [if_neg c, if_neg (by omega)]
    omega
theorem sumN_ite {f g : Int → Int} {P : Prop} [Decidable P] : ∀ n : Nat, sumN (fun t => if P then f t else 0) n = if P then sumN f n else 0
  | 0 => by
    show (0 : Int) = if P then 0 else 0
    split <;> rfl
  | n + 1 => by
    have ih := sumN_ite (f := f) (g := g) (P := P) n
    show sumN (fun t => if P then f t else 0) n + (if P then f n else 0) = if P then sumN f n + f n else 0
    rw [ih]
    split <;> rfl
theorem Tally_weigh_ok {d M : XM} {lo w r : Int} {Q : Int → XM → Prop} (hB : Base d) (hC : CF d M) (hG : Gat d w r M) (hQ : ∀ M', Only [33, 34, 35, 36] M M' → Wei d lo w r M' → Q 0 M') : F_Tally_weigh lo M Q := by
  have v1 := hB.2.2.1.1
  have v2 := hB.2.2.1.2.1
  have v3 := hB.2.2.1.2.2.1
  unfold F_Tally_weigh S_Tally_weigh
  simp only [sSeq, sSet, sInc, sPF, sPA, sPD, sOF, sOA, sX, sIf, sSkip, sRet, sRetB, sRetV, sSw, sSel, eK, eL, eR, eF, eA, eQ, eD, eU, eB, eV, eIf, ePF, eC0, eC1, eC2, eC3, eC4, eC5, eC6, eC7, cB, cZ, cAnd, cOr, cNot, i2l, st_fn, sl_ap, if_true, if_false, ↓reduceIte, reduceIte, Nat.reduceEqDiff, Int.reduceEq, Int.reduceLT, Int.reduceLE, Int.reduceAdd, Int.reduceSub, Int.reduceMul, Int.reduceNeg, and_true, true_and, not_true, not_false_eq_true, true_or, or_true, ne_eq]
  refine while_up 2 0 4 (fun x L M' => L 1 = lo ∧ Only [33, 34, 35, 36] M M' ∧ ∀ i, 0 ≤ i → i < x → M' 34 i = 0 ∧ M' 35 i = 0) (by omega) rfl ⟨rfl, Only.rf, fun i h1 h2 => absurd h2 (by omega)⟩ ?_ ?_ ?_
  · intro x L M' P F h1 h2 hL _ hT hF
    simp only [sSeq, sSet, sInc, sPF, sPA, sPD, sOF, sOA, sX, sIf, sSkip, sRet, sRetB, sRetV, sSw, sSel, eK, eL, eR, eF, eA, eQ, eD, eU, eB, eV, eIf, ePF, eC0, eC1, eC2, eC3, eC4, eC5, eC6, eC7, cB, cZ, cAnd, cOr, cNot, i2l, st_fn, sl_ap, if_true, if_false, ↓reduceIte, reduceIte, Nat.reduceEqDiff, Int.reduceEq, Int.reduceLT, Int.reduceLE, Int.reduceAdd, Int.reduceSub, Int.reduceMul, Int.reduceNeg, and_true, true_and, not_true, not_false_eq_true, true_or, or_true, ne_eq, hL]
    exact ⟨hT, hF⟩
  · intro x L M' Q' hx0 hx1 hL ⟨k1, k2, k3⟩ hQ'
    simp (disch := omega) only [sSeq, sSet, sInc, sPF, sPA, sPD, sOF, sOA, sX, sIf, sSkip, sRet, sRetB, sRetV, sSw, sSel, eK, eL, eR, eF, eA, eQ, eD, eU, eB, eV, eIf, ePF, eC0, eC1, eC2, eC3, eC4, eC5, eC6, eC7, cB, cZ, cAnd, cOr, cNot, i2l, st_fn, sl_ap, if_true, if_false, ↓reduceIte, reduceIte, Nat.reduceEqDiff, Int.reduceEq, Int.reduceLT, Int.reduceLE, Int.reduceAdd, Int.reduceSub, Int.reduceMul, Int.reduceNeg, and_true, true_and, not_true, not_false_eq_true, true_or, or_true, ne_eq, hL, iAdd_id]
    refine ⟨hx0, hx1, hx0, hx1, hQ' _ _ rfl ⟨?_, (k2.set (by decide) _ _).set (by decide) _ _, fun i b1 b2 => ?_⟩⟩
    · simp only [sl_ap, Nat.reduceEqDiff, if_false]; exact k1
    · simp only [st_fn, Nat.reduceEqDiff, if_true, if_false]
      by_cases c : i = x
      · rw [if_pos c, if_pos c]
        exact ⟨rfl, rfl⟩
      · rw [if_neg c, if_neg c]
        exact k3 i b1 (by omega)
  intro L1 M1 _ ⟨k1, k2, k3⟩
  refine while_up 2 0 48 (fun x L M' => L 1 = lo ∧ Only [33, 34, 35, 36] M M' ∧ M' 34 = M1 34 ∧ M' 35 = M1 35 ∧ ∀ i, 0 ≤ i → i < x → M' 33 i = 0) (by omega) rfl ⟨by simp only [sl_ap, Nat.reduceEqDiff, if_false]; exact k1, k2, rfl, rfl, fun i h1 h2 => absurd h2 (by omega)⟩ ?_ ?_ ?_
  · intro x L M' P F h1 h2 hL _ hT hF
    simp only [sSeq, sSet, sInc, sPF, sPA, sPD, sOF, sOA, sX, sIf, sSkip, sRet, sRetB, sRetV, sSw, sSel, eK, eL, eR, eF, eA, eQ, eD, eU, eB, eV, eIf, ePF, eC0, eC1, eC2, eC3, eC4, eC5, eC6, eC7, cB, cZ, cAnd, cOr, cNot, i2l, st_fn, sl_ap, if_true, if_false, ↓reduceIte, reduceIte, Nat.reduceEqDiff, Int.reduceEq, Int.reduceLT, Int.reduceLE, Int.reduceAdd, Int.reduceSub, Int.reduceMul, Int.reduceNeg, and_true, true_and, not_true, not_false_eq_true, true_or, or_true, ne_eq, hL]
    exact ⟨hT, hF⟩
  · intro x L M' Q' hx0 hx1 hL ⟨j1, j2, j3, j4, j5⟩ hQ'
    simp (disch := omega) only [sSeq, sSet, sInc, sPF, sPA, sPD, sOF, sOA, sX, sIf, sSkip, sRet, sRetB, sRetV, sSw, sSel, eK, eL, eR, eF, eA, eQ, eD, eU, eB, eV, eIf, ePF, eC0, eC1, eC2, eC3, eC4, eC5, eC6, eC7, cB, cZ, cAnd, cOr, cNot, i2l, st_fn, sl_ap, if_true, if_false, ↓reduceIte, reduceIte, Nat.reduceEqDiff, Int.reduceEq, Int.reduceLT, Int.reduceLE, Int.reduceAdd, Int.reduceSub, Int.reduceMul, Int.reduceNeg, and_true, true_and, not_true, not_false_eq_true, true_or, or_true, ne_eq, hL, iAdd_id]
    refine ⟨hx0, hx1, hQ' _ _ rfl ⟨?_, j2.set (by decide) _ _, j3, j4, fun i b1 b2 => ?_⟩⟩
    · simp only [sl_ap, Nat.reduceEqDiff, if_false]; exact j1
    · simp only [st_fn, if_true]
      by_cases c : i = x
      · rw [if_pos c]
      · rw [if_neg c]
        exact j5 i b1 (by omega)
  intro L2 M2 _ ⟨j1, j2, j3, j4, j5⟩
  -- the shops
  refine while_up 2 0 (d 81 11) (fun x L M' => L 1 = lo ∧ Only [33, 34, 35, 36] M M' ∧ (∀ K, 0 ≤ K → K < 4 → M' 34 K = sumN (szF d lo w K 2) x.toNat ∧ M' 35 K = sumN (szF d lo w K 1) x.toNat) ∧ ∀ T K, 0 ≤ T → T < 12 → 0 ≤ K → K < 4 → M' 33 (4 * T + K) = sumN (fun s => sumN (fun t => toF d lo w r T K s t) (d 81 7).toNat) x.toNat) v3.1 rfl ⟨by simp only [sl_ap, Nat.reduceEqDiff, if_false]; exact j1, j2, fun K b1 b2 => by rw [j3, j4]; exact k3 K b1 b2, fun T K b1 b2 b3 b4 => j5 _ (by omega) (by omega)⟩ ?_ ?_ ?_
  · intro x L M' P F h1 h2 hL ⟨_, k2, _⟩ hT hF
    have m7 := ((hC.go k2 (by decide)).dct hB).2.2.2.2.2.2.1
    simp only [sSeq, sSet, sInc, sPF, sPA, sPD, sOF, sOA, sX, sIf, sSkip, sRet, sRetB, sRetV, sSw, sSel, eK, eL, eR, eF, eA, eQ, eD, eU, eB, eV, eIf, ePF, eC0, eC1, eC2, eC3, eC4, eC5, eC6, eC7, cB, cZ, cAnd, cOr, cNot, i2l, st_fn, sl_ap, if_true, if_false, ↓reduceIte, reduceIte, Nat.reduceEqDiff, Int.reduceEq, Int.reduceLT, Int.reduceLE, Int.reduceAdd, Int.reduceSub, Int.reduceMul, Int.reduceNeg, and_true, true_and, not_true, not_false_eq_true, true_or, or_true, ne_eq, hL]
    rw [m7]
    exact ⟨hT, hF⟩
  · intro x L M' Q' hx0 hx1 hL ⟨p1, p2, p3, p4⟩ hQ'
    have hC' := hC.go p2 (by decide)
    obtain ⟨m1, m2, m3, m4, m5, m6, m7, m8, m9, m10, m11, m12, m13, m14⟩ := hC'.dct hB
    have g2 := hB.2.2.1.2.2.2.2.2 x hx0 hx1
    have hG' := hG.go p2 (by decide)
    have e32 := hG'.2.2 x hx0 hx1
    have q1 := p3 (d 90 x) (by omega) (by omega)
    have b1 := SZ_bdN hB lo w (d 90 x) 2 (n := x.toNat) (by omega)
    have b2 := SZ_bdN hB lo w (d 90 x) 1 (n := x.toNat) (by omega)
    have hst := stL_sta (d := d) (lo := lo) (w := w) (s := x)
    have hst2 := stL_r (d := d) (lo := lo) (w := w) (s := x)
    have hss : ∀ T K : Int, sumN (fun s => sumN (fun t => toF d lo w r T K s t) (d 81 7).toNat) (x + 1).toNat = sumN (fun s => sumN (fun t => toF d lo w r T K s t) (d 81 7).toNat) x.toNat + (if stL d lo w x = 2 then sumN (fun t => if d 87 t = T ∧ d 90 x = K then hun d w r x t else 0) (d 81 7).toNat else 0) := by
      intro T K
      rw [sumN_succ _ hx0]
      congr 1
      rw [← sumN_ite (g := fun _ => 0)]
      refine sumN_congr fun t _ _ => ?_
      unfold toF
      by_cases c : stL d lo w x = 2
      · rw [if_pos c]
        exact ite_eq_of ⟨fun q => q.2, fun q => ⟨c, q⟩⟩
      · rw [if_neg c, if_neg (fun q => c q.1)]
    have hz : ∀ K v : Int, sumN (szF d lo w K v) (x + 1).toNat = sumN (szF d lo w K v) x.toNat + szF d lo w K v x := fun K v => sumN_succ _ hx0
    simp (disch := omega) only [sSeq, sSet, sInc, sPF, sPA, sPD, sOF, sOA, sX, sIf, sSkip, sRet, sRetB, sRetV, sSw, sSel, eK, eL, eR, eF, eA, eQ, eD, eU, eB, eV, eIf, ePF, eC0, eC1, eC2, eC3, eC4, eC5, eC6, eC7, cB, cZ, cAnd, cOr, cNot, i2l, st_fn, sl_ap, if_true, if_false, ↓reduceIte, reduceIte, Nat.reduceEqDiff, Int.reduceEq, Int.reduceLT, Int.reduceLE, Int.reduceAdd, Int.reduceSub, Int.reduceMul, Int.reduceNeg, and_true, true_and, not_true, not_false_eq_true, true_or, or_true, ne_eq, hL, p1, m8, m9, e32, iAdd_id, q1.1, q1.2]
    have hno : ¬ stL d lo w x = 2 → ∀ N L2, L2 1 = lo → L2 2 = x + 1 → Only [33, 34, 35, 36] M N → N 33 = M' 33 → N 34 = M' 34 → (∀ K, 0 ≤ K → K < 4 → N 35 K = M' 35 K + szF d lo w K 1 x) → Q' L2 N := by
      intro c N L2 a1 a2 a3 a4 a5 a6
      refine hQ' _ _ a2 ⟨a1, a3, fun K b1 b2 => ?_, fun T K b1 b2 b3 b4 => ?_⟩
      · rw [a5, a6 K b1 b2, hz, hz, (p3 K b1 b2).1, (p3 K b1 b2).2]
        refine ⟨?_, rfl⟩
        unfold szF
        rw [if_neg (fun q => c q.2)]
        exact (Int.add_zero _).symm
      · rw [a4, hss, if_neg c, p4 T K b1 b2 b3 b4]
        exact (Int.add_zero _).symm
    have hone : stL d lo w x = 1 → Q' (sl (sl L 3 (d 90 x)) 2 (x + 1)) (st M' 35 (d 90 x) (sumN (szF d lo w (d 90 x) 1) x.toNat + d 91 x)) := by
      intro c
      refine hno (by omega) _ _ ?_ rfl (p2.set (by decide) _ _) rfl rfl fun K b1 b2 => ?_
      · simp only [sl_ap, Nat.reduceEqDiff, if_false]; exact p1
      · simp only [st_fn, if_true]
        unfold szF
        rw [c]
        by_cases ck : K = d 90 x
        · rw [if_pos ck, if_pos ⟨ck.symm, rfl⟩, ck, q1.2]
          rfl
        · rw [if_neg ck, if_neg (fun q => ck q.1.symm)]
          exact (Int.add_zero _).symm
    have hzero : stL d lo w x = 0 → Q' (sl (sl L 3 (d 90 x)) 2 (x + 1)) M' := by
      intro c
      refine hno (by omega) _ _ ?_ rfl p2 rfl rfl fun K b1 b2 => ?_
      · simp only [sl_ap, Nat.reduceEqDiff, if_false]; exact p1
      · unfold szF
        rw [if_neg (by omega)]
        exact (Int.add_zero _).symm
    refine ⟨hx0, by omega, hx0, by omega, fun c => ⟨fun c2 => ⟨by omega, by omega, hx0, by omega, ?_⟩, fun c2 => ?_⟩, fun c => ?_⟩
    · have cs : stL d lo w x = 2 := hst.mpr ⟨c, c2⟩
      refine Tally_weighShop_ok (w := w) (r := r) hB ((hC'.go (S := [34]) (Only.rf.set (by decide) _ _)) (by decide)) (hG'.go (S := [34]) (Only.rf.set (by decide) _ _) (by decide)) ⟨hx0, hx1⟩ rfl ?_ ?_
      · intro i i1 i2
        have h := p4 (i / 4) (i % 4) (by omega) (by omega) (by omega) (by omega)
        rw [show 4 * (i / 4) + i % 4 = i by omega] at h
        have hb := TO_bdN hB lo w r (i / 4) (i % 4) (n := x.toNat) (by omega)
        have e : (st M' 34 (d 90 x) (sumN (szF d lo w (d 90 x) 2) x.toNat + d 91 x)) 33 i = M' 33 i := rfl
        rw [e]
        omega
      · intro N o n33
        refine hQ' _ _ rfl ⟨?_, (p2.set (by decide) _ _).trans o (by decide) (by decide), fun K b1 b2 => ?_, fun T K b1 b2 b3 b4 => ?_⟩
        · simp only [sl_ap, Nat.reduceEqDiff, if_false]; exact p1
        · rw [o 34 (by decide), o 35 (by decide)]
          simp only [st_fn, Nat.reduceEqDiff, if_true, if_false]
          rw [hz, hz, (p3 K b1 b2).1, (p3 K b1 b2).2]
          unfold szF
          rw [cs]
          refine ⟨?_, ?_⟩
          · by_cases ck : K = d 90 x
            · rw [if_pos ck, if_pos ⟨ck.symm, rfl⟩, ck]
            · rw [if_neg ck, if_neg (fun q => ck q.1.symm)]
              exact (Int.add_zero _).symm
          · rw [if_neg (fun q => absurd q.2 (by decide))]
            exact (Int.add_zero _).symm
        · rw [n33 T K b1 b2 b3 b4, hss, if_pos cs]
          have e : (st M' 34 (d 90 x) (sumN (szF d lo w (d 90 x) 2) x.toNat + d 91 x)) 33 (4 * T + K) = M' 33 (4 * T + K) := rfl
          rw [e, p4 T K b1 b2 b3 b4]
    · exact ⟨hx0, by omega, fun c3 => ⟨by omega, by omega, hx0, by omega, hone (by omega)⟩, fun c3 => hzero (by omega)⟩
    · exact ⟨hx0, by omega, fun c3 => ⟨by omega, by omega, hx0, by omega, hone (by omega)⟩, fun c3 => hzero (by omega)⟩
  intro L3 M3 _ ⟨p1, p2, p3, p4⟩
  -- the titles
  refine while_up 2 0 (d 81 5) (fun x _ M' => Only [33, 34, 35, 36] M M' ∧ M' 33 = M3 33 ∧ M' 34 = M3 34 ∧ M' 35 = M3 35 ∧ ∀ T, 0 ≤ T → T < x → M' 36 T = SUM d lo w r T) v1.1 rfl ⟨p2, rfl, rfl, rfl, fun i h1 h2 => absurd h2 (by omega)⟩ ?_ ?_ ?_
  · intro x L M' P F h1 h2 hL ⟨k2, _⟩ hT hF
    have m1 := ((hC.go k2 (by decide)).dct hB).1
    simp only [sSeq, sSet, sInc, sPF, sPA, sPD, sOF, sOA, sX, sIf, sSkip, sRet, sRetB, sRetV, sSw, sSel, eK, eL, eR, eF, eA, eQ, eD, eU, eB, eV, eIf, ePF, eC0, eC1, eC2, eC3, eC4, eC5, eC6, eC7, cB, cZ, cAnd, cOr, cNot, i2l, st_fn, sl_ap, if_true, if_false, ↓reduceIte, reduceIte, Nat.reduceEqDiff, Int.reduceEq, Int.reduceLT, Int.reduceLE, Int.reduceAdd, Int.reduceSub, Int.reduceMul, Int.reduceNeg, and_true, true_and, not_true, not_false_eq_true, true_or, or_true, ne_eq, hL]
    rw [m1]
    exact ⟨hT, hF⟩
  · intro x L M' Q' hx0 hx1 hL ⟨q1, q2, q3, q4, q5⟩ hQ'
    simp only [sSeq, sSet, sInc, sPF, sPA, sPD, sOF, sOA, sX, sIf, sSkip, sRet, sRetB, sRetV, sSw, sSel, eK, eL, eR, eF, eA, eQ, eD, eU, eB, eV, eIf, ePF, eC0, eC1, eC2, eC3, eC4, eC5, eC6, eC7, cB, cZ, cAnd, cOr, cNot, i2l, st_fn, sl_ap, if_true, if_false, ↓reduceIte, reduceIte, Nat.reduceEqDiff, Int.reduceEq, Int.reduceLT, Int.reduceLE, Int.reduceAdd, Int.reduceSub, Int.reduceMul, Int.reduceNeg, and_true, true_and, not_true, not_false_eq_true, true_or, or_true, ne_eq, hL]
    refine Tally_toldOf_ok hB ⟨hx0, by omega⟩ (lo := lo) (w := w) (r := r) (by rw [q2]; exact p4) ?_
    refine ⟨hx0, by omega, ?_⟩
    refine while_up 3 0 4 (fun y L2 N => L2 2 = x ∧ Only [33, 34, 35, 36] M N ∧ N 33 = M3 33 ∧ N 34 = M3 34 ∧ N 35 = M3 35 ∧ (∀ T, 0 ≤ T → T < x → N 36 T = SUM d lo w r T) ∧ N 36 x = TOL d lo w r x + sumN (fun K => shr d lo w r x K (SZ d lo w K 1)) y.toNat) (by omega) rfl ⟨?_, q1.set (by decide) _ _, q2, q3, q4, fun T b1 b2 => ?_, ?_⟩ ?_ ?_ ?_
    · simp only [sl_ap, Nat.reduceEqDiff, if_false]; exact hL
    · simp only [st_fn, if_true]
      rw [if_neg (by omega)]
      exact q5 T b1 b2
    · simp only [st_fn, if_true]
      exact (Int.add_zero _).symm
    · intro y L2 N P F h1 h2 hL2 _ hT hF
      simp only [sSeq, sSet, sInc, sPF, sPA, sPD, sOF, sOA, sX, sIf, sSkip, sRet, sRetB, sRetV, sSw, sSel, eK, eL, eR, eF, eA, eQ, eD, eU, eB, eV, eIf, ePF, eC0, eC1, eC2, eC3, eC4, eC5, eC6, eC7, cB, cZ, cAnd, cOr, cNot, i2l, st_fn, sl_ap, if_true, if_false, ↓reduceIte, reduceIte, Nat.reduceEqDiff, Int.reduceEq, Int.reduceLT, Int.reduceLE, Int.reduceAdd, Int.reduceSub, Int.reduceMul, Int.reduceNeg, and_true, true_and, not_true, not_false_eq_true, true_or, or_true, ne_eq, hL2]
      exact ⟨hT, hF⟩
    · intro y L2 N Q2 hy0 hy1 hL2 ⟨a1, a2, a3, a4, a5, a6, a7⟩ hQ2
      have b4 := SZ_bd hB lo w y 1
      have b5 := TOL_bdN hB lo w r x (n := 4) (by omega)
      have b6 := FOL_bdN hB lo w r x (n := y.toNat) (by omega)
      have b7 := (shr_bd hB lo w r x y b4).2
      have e35 : N 35 y = SZ d lo w y 1 := by rw [a5]; exact (p3 y hy0 hy1).2
      simp only [sSeq, sSet, sInc, sPF, sPA, sPD, sOF, sOA, sX, sIf, sSkip, sRet, sRetB, sRetV, sSw, sSel, eK, eL, eR, eF, eA, eQ, eD, eU, eB, eV, eIf, ePF, eC0, eC1, eC2, eC3, eC4, eC5, eC6, eC7, cB, cZ, cAnd, cOr, cNot, i2l, st_fn, sl_ap, if_true, if_false, ↓reduceIte, reduceIte, Nat.reduceEqDiff, Int.reduceEq, Int.reduceLT, Int.reduceLE, Int.reduceAdd, Int.reduceSub, Int.reduceMul, Int.reduceNeg, and_true, true_and, not_true, not_false_eq_true, true_or, or_true, ne_eq, hL2, a1, e35]
      refine ⟨hx0, by omega, hy0, hy1, ?_⟩
      refine F_Tally_shareOfTold_ok (d := d) (lo := lo) (w := w) (r := r) hB ⟨hx0, by omega⟩ ⟨hy0, hy1⟩ b4 (by rw [a4]; exact (p3 y hy0 hy1).1) (by rw [a3]; exact p4 x y hx0 (by omega) hy0 hy1) ?_
      have b8 : TOL d lo w r x = sumN (fun K => TO d lo w r x K) 4 := rfl
      rw [a7, lAdd_id (by omega) (by omega), iAdd_id (by omega) (by omega)]
      refine hQ2 _ _ rfl ⟨?_, a2.set (by decide) _ _, a3, a4, a5, fun T b1 b2 => ?_, ?_⟩
      · simp only [sl_ap, Nat.reduceEqDiff, if_false]; exact a1
      · simp only [st_fn, if_true]
        rw [if_neg (by omega)]
        exact a6 T b1 b2
      · simp only [st_fn, if_true]
        rw [sumN_succ _ hy0]
        omega
    · intro L2 N _ ⟨a1, a2, a3, a4, a5, a6, a7⟩
      rw [a1, iAdd_id (by omega) (by omega)]
      refine hQ' _ _ rfl ⟨a2, a3, a4, a5, fun T b1 b2 => ?_⟩
      by_cases c : T = x
      · rw [c, a7]
        rfl
      · exact a6 T b1 (by omega)
  intro L4 M4 _ ⟨q1, q2, q3, q4, q5⟩
  refine hQ M4 q1 ⟨fun K b1 b2 => ?_, ?_, q5⟩
  · rw [q3, q4]
    exact p3 K b1 b2
  · rw [q2]
    exact p4
