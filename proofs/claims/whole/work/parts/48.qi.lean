/-! ===== read ===== -/
theorem first_not (P : Nat → Prop) : ∀ b, ¬ P b → ∃ n, n ≤ b ∧ (∀ k, k < n → P k) ∧ ¬ P n := by
  intro b
  induction b using Nat.strongRecOn with
  | _ b ih =>
    intro hb
    by_cases h : ∀ k, k < b → P k
    · exact ⟨b, Nat.le_refl b, h, hb⟩
    · obtain ⟨k, hk⟩ := Classical.not_forall.mp h
      have hk1 : k < b := Classical.byContradiction fun c => hk (fun q => absurd q c)
      have hk2 : ¬ P k := fun c => hk (fun _ => c)
      obtain ⟨n, h1, h2, h3⟩ := ih k hk1 hk2
      exact ⟨n, by omega, h2, h3⟩
theorem l2i_id {x : Int} (h1 : -2147483648 ≤ x) (h2 : x < 2147483648) : l2i x = x := x32_id ⟨h1, h2⟩
def VE (ns nt a b c e f g h : Int) : Prop := (0 ≤ a ∧ a < ns) ∧ (0 ≤ b ∧ b < nt) ∧ (0 ≤ c ∧ c ≤ 51) ∧ (0 ≤ e ∧ e ≤ 167) ∧ (1 ≤ f ∧ f ≤ 100000) ∧ (0 ≤ g ∧ g ≤ 3) ∧ (c ≤ h ∧ h ≤ 51)
def upw (f : Int → Int) (b n : Int) (g : Int → Int) : Int → Int := fun x => if b ≤ x ∧ x < b + n then g (x - b) else f x
theorem upw_zero (f : Int → Int) (b : Int) (g : Int → Int) : upw f b 0 g = f := by
  funext x
  unfold upw
  rw [if_neg (by omega)]
theorem upw_succ {f : Int → Int} {b n v : Int} {g : Int → Int} (hn : 0 ≤ n) (hv : v = g n) : (fun j => if j = b + n then v else upw f b n g j) = upw f b (n + 1) g := by
  funext j
  unfold upw
  by_cases e : j = b + n
  · subst e
    rw [if_pos rfl, if_pos ⟨by omega, by omega⟩, hv]
    congr 1; omega
  · rw [if_neg e]
    by_cases c : b ≤ j ∧ j < b + n
    · rw [if_pos c, if_pos ⟨c.1, by omega⟩]
    · rw [if_neg c, if_neg (by omega)]
def rdM (M : XM) (g : Int → Int → Int) (n : Int) : XM := fun c => if c = 13 then (fun j => if j = 0 then M 13 0 + n else M 13 j) else if 14 ≤ c ∧ c ≤ 21 then upw (M c) (M 13 0) n (fun k => if c = 21 then -1 else g k ((c : Int) - 14)) else M c
def rdR (M : XM) (g : Int → Int → Int) (n : Int) : XM := fun c => if c = 81 then (fun j => if j = 19 then M 81 19 + n else M 81 j) else if 96 ≤ c ∧ c ≤ 103 then upw (M c) (M 81 19) n (fun k => if c = 103 then -1 else g k ((c : Int) - 96)) else M c
theorem rdM_at {M : XM} {g : Int → Int → Int} {n : Int} {c : Nat} (h : 14 ≤ c ∧ c ≤ 21) : rdM M g n c = upw (M c) (M 13 0) n (fun k => if c = 21 then -1 else g k ((c : Int) - 14)) := by unfold rdM; rw [if_neg (by omega), if_pos h]
theorem rdM_ne {M : XM} {g : Int → Int → Int} {n : Int} {c : Nat} (h : c < 13 ∨ 21 < c) : rdM M g n c = M c := by unfold rdM; rw [if_neg (by omega), if_neg (by omega)]
theorem rdM_13 {M : XM} {g : Int → Int → Int} {n : Int} : rdM M g n 13 = (fun j => if j = 0 then M 13 0 + n else M 13 j) := by unfold rdM; rw [if_pos rfl]
theorem rdR_at {M : XM} {g : Int → Int → Int} {n : Int} {c : Nat} (h : 96 ≤ c ∧ c ≤ 103) : rdR M g n c = upw (M c) (M 81 19) n (fun k => if c = 103 then -1 else g k ((c : Int) - 96)) := by unfold rdR; rw [if_neg (by omega), if_pos h]
theorem rdR_ne {M : XM} {g : Int → Int → Int} {n : Int} {c : Nat} (h : c ≠ 81) (h2 : c < 96 ∨ 103 < c) : rdR M g n c = M c := by unfold rdR; rw [if_neg h, if_neg (by omega)]
theorem rdR_81 {M : XM} {g : Int → Int → Int} {n : Int} : rdR M g n 81 = (fun j => if j = 19 then M 81 19 + n else M 81 j) := by unfold rdR; rw [if_pos rfl]
theorem rdM_zero (M : XM) (g : Int → Int → Int) : rdM M g 0 = M := by
  funext c
  by_cases h : c = 13
  · subst h; rw [rdM_13]; funext j; by_cases e : j = 0
    · subst e; simp
    · rw [if_neg e]
  · by_cases h2 : 14 ≤ c ∧ c ≤ 21
    · rw [rdM_at h2, upw_zero]
    · rw [rdM_ne (by omega)]
theorem rdR_zero (M : XM) (g : Int → Int → Int) : rdR M g 0 = M := by
  funext c
  by_cases h : c = 81
  · subst h; rw [rdR_81]; funext j; by_cases e : j = 19
    · subst e; simp
    · rw [if_neg e]
  · by_cases h2 : 96 ≤ c ∧ c ≤ 103
    · rw [rdR_at h2, upw_zero]
    · rw [rdR_ne h (by omega)]
def lAdd8 (M : XM) (x a b c e f g h : Int) : XM := st (st (st (st (st (st (st (st (st M 14 x a) 15 x b) 16 x c) 17 x e) 18 x f) 19 x g) 20 x h) 21 x (-1)) 13 0 (x + 1)
def rAdd8 (M : XM) (x a b c e f g h : Int) : XM := st (st (st (st (st (st (st (st (st M 96 x a) 97 x b) 98 x c) 99 x e) 100 x f) 101 x g) 102 x h) 103 x (-1)) 81 19 (x + 1)
theorem rdM_succ {M : XM} {g : Int → Int → Int} {n : Int} (hn : 0 ≤ n) : lAdd8 (rdM M g n) (M 13 0 + n) (g n 0) (g n 1) (g n 2) (g n 3) (g n 4) (g n 5) (g n 6) = rdM M g (n + 1) := by
  funext c
  unfold lAdd8
  by_cases h : c < 13 ∨ 21 < c
  · rw [st_ne _ _ _ (by omega), st_ne _ _ _ (by omega), st_ne _ _ _ (by omega), st_ne _ _ _ (by omega), st_ne _ _ _ (by omega), st_ne _ _ _ (by omega), st_ne _ _ _ (by omega), st_ne _ _ _ (by omega), st_ne _ _ _ (by omega), rdM_ne h, rdM_ne h]
  · obtain rfl | rfl | rfl | rfl | rfl | rfl | rfl | rfl | rfl : c = 13 ∨ c = 14 ∨ c = 15 ∨ c = 16 ∨ c = 17 ∨ c = 18 ∨ c = 19 ∨ c = 20 ∨ c = 21 := by omega
    · simp only [st_fn, Nat.reduceEqDiff, ↓reduceIte, reduceIte, Int.reduceEq, if_true, if_false]
      rw [rdM_13, rdM_13]
      funext j
      by_cases e : j = 0
      · rw [if_pos e, if_pos e]; omega
      · simp only [if_neg e]
    all_goals
      simp only [st_fn, Nat.reduceEqDiff, ↓reduceIte, reduceIte, Int.reduceEq, if_true, if_false]
      rw [rdM_at ⟨by omega, by omega⟩, rdM_at ⟨by omega, by omega⟩]
      exact upw_succ hn (by simp)
theorem rdR_succ {M : XM} {g : Int → Int → Int} {n : Int} (hn : 0 ≤ n) : rAdd8 (rdR M g n) (M 81 19 + n) (g n 0) (g n 1) (g n 2) (g n 3) (g n 4) (g n 5) (g n 6) = rdR M g (n + 1) := by
  funext c
  unfold rAdd8
  by_cases h : c ≠ 81 ∧ (c < 96 ∨ 103 < c)
  · have h1 := h.1
    rw [st_ne _ _ _ (by omega), st_ne _ _ _ (by omega), st_ne _ _ _ (by omega), st_ne _ _ _ (by omega), st_ne _ _ _ (by omega), st_ne _ _ _ (by omega), st_ne _ _ _ (by omega), st_ne _ _ _ (by omega), st_ne _ _ _ (by omega), rdR_ne h.1 h.2, rdR_ne h.1 h.2]
  · obtain rfl | rfl | rfl | rfl | rfl | rfl | rfl | rfl | rfl : c = 81 ∨ c = 96 ∨ c = 97 ∨ c = 98 ∨ c = 99 ∨ c = 100 ∨ c = 101 ∨ c = 102 ∨ c = 103 := by omega
    · simp only [st_fn, Nat.reduceEqDiff, ↓reduceIte, reduceIte, Int.reduceEq, if_true, if_false]
      rw [rdR_81, rdR_81]
      funext j
      by_cases e : j = 19
      · rw [if_pos e, if_pos e]; omega
      · simp only [if_neg e]
    all_goals
      simp only [st_fn, Nat.reduceEqDiff, ↓reduceIte, reduceIte, Int.reduceEq, if_true, if_false]
      rw [rdR_at ⟨by omega, by omega⟩, rdR_at ⟨by omega, by omega⟩]
      exact upw_succ hn (by simp)
theorem Ledger_add_yes {a b c e f g h : Int} {M : XM} {Q : Int → XM → Prop} (h0 : 0 ≤ M 13 0) (h1 : M 13 0 < 150) (q : Q (M 13 0) (lAdd8 M (M 13 0) a b c e f g h)) : F_Ledger_add a b c e f g h M Q := by
  unfold F_Ledger_add S_Ledger_add
  simp (disch := omega) only [sSeq, sSet, sInc, sPF, sPA, sPD, sOF, sOA, sX, sIf, sSkip, sRet, sRetB, sRetV, sSw, sSel, eK, eL, eR, eF, eA, eQ, eD, eU, eB, eV, eIf, ePF, eC0, eC1, eC2, eC3, eC4, eC5, eC6, eC7, cB, cZ, cAnd, cOr, cNot, i2l, st_fn, sl_ap, if_true, if_false, ↓reduceIte, reduceIte, Nat.reduceEqDiff, Int.reduceEq, Int.reduceLT, Int.reduceLE, Int.reduceAdd, Int.reduceSub, Int.reduceMul, Int.reduceNeg, and_true, true_and, not_true, not_false_eq_true, true_or, or_true, ne_eq, h0, h1, iAdd_id]
  exact ⟨fun q => by omega, fun _ => q⟩
theorem Ledger_add_no {a b c e f g h : Int} {M : XM} {Q : Int → XM → Prop} (h1 : 150 ≤ M 13 0) (q : Q (-4) M) : F_Ledger_add a b c e f g h M Q := by
  unfold F_Ledger_add S_Ledger_add
  simp (disch := omega) only [sSeq, sSet, sInc, sPF, sPA, sPD, sOF, sOA, sX, sIf, sSkip, sRet, sRetB, sRetV, sSw, sSel, eK, eL, eR, eF, eA, eQ, eD, eU, eB, eV, eIf, ePF, eC0, eC1, eC2, eC3, eC4, eC5, eC6, eC7, cB, cZ, cAnd, cOr, cNot, i2l, st_fn, sl_ap, if_true, if_false, ↓reduceIte, reduceIte, Nat.reduceEqDiff, Int.reduceEq, Int.reduceLT, Int.reduceLE, Int.reduceAdd, Int.reduceSub, Int.reduceMul, Int.reduceNeg, and_true, true_and, not_true, not_false_eq_true, true_or, or_true, ne_eq]
  exact ⟨fun _ => q, fun c => by omega⟩
theorem R_adds_yes {a b c e f g h : Int} {M : XM} {Q : Int → XM → Prop} (h0 : 0 ≤ M 81 19) (h1 : M 81 19 < 150) (q : Q (M 81 19) (rAdd8 M (M 81 19) a b c e f g h)) : F_R_adds a b c e f g h M Q := by
  unfold F_R_adds S_R_adds
  simp (disch := omega) only [sSeq, sSet, sInc, sPF, sPA, sPD, sOF, sOA, sX, sIf, sSkip, sRet, sRetB, sRetV, sSw, sSel, eK, eL, eR, eF, eA, eQ, eD, eU, eB, eV, eIf, ePF, eC0, eC1, eC2, eC3, eC4, eC5, eC6, eC7, cB, cZ, cAnd, cOr, cNot, i2l, st_fn, sl_ap, if_true, if_false, ↓reduceIte, reduceIte, Nat.reduceEqDiff, Int.reduceEq, Int.reduceLT, Int.reduceLE, Int.reduceAdd, Int.reduceSub, Int.reduceMul, Int.reduceNeg, and_true, true_and, not_true, not_false_eq_true, true_or, or_true, ne_eq, h0, h1, iAdd_id, iSub_id]
  rw [show M 81 19 + 1 - 1 = M 81 19 by omega]
  exact q
theorem enter_yes {a b c e f g h : Int} {M : XM} {Q : Int → XM → Prop} (m1 : 0 ≤ M 2 2 ∧ M 2 2 ≤ 24) (m2 : 0 ≤ M 2 6 ∧ M 2 6 ≤ 16) (hv : VE (M 2 6) (M 2 2) a b c e f g h) (q : F_Ledger_add a b c e f g h M Q) : F_M_enter a b c e f g h M Q := by
  obtain ⟨⟨a1, a2⟩, ⟨a3, a4⟩, ⟨a5, a6⟩, ⟨a7, a8⟩, ⟨b1, b2⟩, ⟨b3, b4⟩, ⟨b5, b6⟩⟩ := hv
  obtain ⟨m3, m4⟩ := m1
  obtain ⟨m5, m6⟩ := m2
  unfold F_M_enter S_M_enter
  simp (disch := omega) only [sSeq, sSet, sInc, sPF, sPA, sPD, sOF, sOA, sX, sIf, sSkip, sRet, sRetB, sRetV, sSw, sSel, eK, eL, eR, eF, eA, eQ, eD, eU, eB, eV, eIf, ePF, eC0, eC1, eC2, eC3, eC4, eC5, eC6, eC7, cB, cZ, cAnd, cOr, cNot, i2l, st_fn, sl_ap, if_true, if_false, ↓reduceIte, reduceIte, Nat.reduceEqDiff, Int.reduceEq, Int.reduceLT, Int.reduceLE, Int.reduceAdd, Int.reduceSub, Int.reduceMul, Int.reduceNeg, and_true, true_and, not_true, not_false_eq_true, true_or, or_true, ne_eq, F_Trade_isShop_iff, F_Trade_isThing_iff, F_M_isWeek_iff, F_M_within_iff, b01_ne, l2i_id]
  ((repeat' (first | (with_reducible intro _) | (with_reducible refine And.intro ?_ ?_))) <;> try (exfalso; omega))
  all_goals exact q
theorem enter_no {a b c e f g h : Int} {M : XM} {Q : Int → XM → Prop} (m1 : 0 ≤ M 2 2 ∧ M 2 2 ≤ 24) (m2 : 0 ≤ M 2 6 ∧ M 2 6 ≤ 16) (hv : ¬ VE (M 2 6) (M 2 2) a b c e f g h) (q : Q (-2) M) : F_M_enter a b c e f g h M Q := by
  obtain ⟨m3, m4⟩ := m1
  obtain ⟨m5, m6⟩ := m2
  unfold VE at hv
  unfold F_M_enter S_M_enter
  simp (disch := omega) only [sSeq, sSet, sInc, sPF, sPA, sPD, sOF, sOA, sX, sIf, sSkip, sRet, sRetB, sRetV, sSw, sSel, eK, eL, eR, eF, eA, eQ, eD, eU, eB, eV, eIf, ePF, eC0, eC1, eC2, eC3, eC4, eC5, eC6, eC7, cB, cZ, cAnd, cOr, cNot, i2l, st_fn, sl_ap, if_true, if_false, ↓reduceIte, reduceIte, Nat.reduceEqDiff, Int.reduceEq, Int.reduceLT, Int.reduceLE, Int.reduceAdd, Int.reduceSub, Int.reduceMul, Int.reduceNeg, and_true, true_and, not_true, not_false_eq_true, true_or, or_true, ne_eq, F_Trade_isShop_iff, F_Trade_isThing_iff, F_M_isWeek_iff, F_M_within_iff, b01_ne]
  ((repeat' (first | (with_reducible intro _) | (with_reducible refine And.intro ?_ ?_))) <;> try (exfalso; omega))
  all_goals exact q
theorem R_isSale_yes {a b c e f g h : Int} {M : XM} {Q : Int → XM → Prop} (m1 : 0 ≤ M 81 7 ∧ M 81 7 ≤ 24) (m2 : 0 ≤ M 81 11 ∧ M 81 11 ≤ 16) (hv : VE (M 81 11) (M 81 7) a b c e f g h) (q : Q 1 M) : F_R_isSale a b c e f g h M Q := by
  obtain ⟨⟨a1, a2⟩, ⟨a3, a4⟩, ⟨a5, a6⟩, ⟨a7, a8⟩, ⟨b1, b2⟩, ⟨b3, b4⟩, ⟨b5, b6⟩⟩ := hv
  obtain ⟨m3, m4⟩ := m1
  obtain ⟨m5, m6⟩ := m2
  unfold F_R_isSale S_R_isSale
  simp (disch := omega) only [sSeq, sSet, sInc, sPF, sPA, sPD, sOF, sOA, sX, sIf, sSkip, sRet, sRetB, sRetV, sSw, sSel, eK, eL, eR, eF, eA, eQ, eD, eU, eB, eV, eIf, ePF, eC0, eC1, eC2, eC3, eC4, eC5, eC6, eC7, cB, cZ, cAnd, cOr, cNot, i2l, st_fn, sl_ap, if_true, if_false, ↓reduceIte, reduceIte, Nat.reduceEqDiff, Int.reduceEq, Int.reduceLT, Int.reduceLE, Int.reduceAdd, Int.reduceSub, Int.reduceMul, Int.reduceNeg, and_true, true_and, not_true, not_false_eq_true, true_or, or_true, ne_eq, F_R_isShop_iff, F_R_isThing_iff, F_R_isWeek_iff, F_R_in_iff, b01_ne]
  ((repeat' (first | (with_reducible intro _) | (with_reducible refine And.intro ?_ ?_))) <;> try (exfalso; omega))
  all_goals exact q
theorem R_isSale_no {a b c e f g h : Int} {M : XM} {Q : Int → XM → Prop} (m1 : 0 ≤ M 81 7 ∧ M 81 7 ≤ 24) (m2 : 0 ≤ M 81 11 ∧ M 81 11 ≤ 16) (hv : ¬ VE (M 81 11) (M 81 7) a b c e f g h) (q : Q 0 M) : F_R_isSale a b c e f g h M Q := by
  obtain ⟨m3, m4⟩ := m1
  obtain ⟨m5, m6⟩ := m2
  unfold VE at hv
  unfold F_R_isSale S_R_isSale
  simp (disch := omega) only [sSeq, sSet, sInc, sPF, sPA, sPD, sOF, sOA, sX, sIf, sSkip, sRet, sRetB, sRetV, sSw, sSel, eK, eL, eR, eF, eA, eQ, eD, eU, eB, eV, eIf, ePF, eC0, eC1, eC2, eC3, eC4, eC5, eC6, eC7, cB, cZ, cAnd, cOr, cNot, i2l, st_fn, sl_ap, if_true, if_false, ↓reduceIte, reduceIte, Nat.reduceEqDiff, Int.reduceEq, Int.reduceLT, Int.reduceLE, Int.reduceAdd, Int.reduceSub, Int.reduceMul, Int.reduceNeg, and_true, true_and, not_true, not_false_eq_true, true_or, or_true, ne_eq, F_R_isShop_iff, F_R_isThing_iff, F_R_isWeek_iff, F_R_in_iff, b01_ne]
  ((repeat' (first | (with_reducible intro _) | (with_reducible refine And.intro ?_ ?_))) <;> try (exfalso; omega))
  all_goals exact q
theorem R_item_yes {s k i : Int} {M : XM} {Q : Int → XM → Prop} (h1 : 0 ≤ s ∧ s ≤ 3) (h2 : 0 ≤ k ∧ k ≤ 16) (h3 : 0 ≤ i ∧ i ≤ 6) (q : Q (M 84 (120 * s + (7 * k + i))) M) : F_R_item s k i M Q := by
  obtain ⟨a1, a2⟩ := h1
  obtain ⟨a3, a4⟩ := h2
  obtain ⟨a5, a6⟩ := h3
  unfold F_R_item S_R_item
  simp (disch := omega) only [sSeq, sSet, sInc, sPF, sPA, sPD, sOF, sOA, sX, sIf, sSkip, sRet, sRetB, sRetV, sSw, sSel, eK, eL, eR, eF, eA, eQ, eD, eU, eB, eV, eIf, ePF, eC0, eC1, eC2, eC3, eC4, eC5, eC6, eC7, cB, cZ, cAnd, cOr, cNot, i2l, st_fn, sl_ap, if_true, if_false, ↓reduceIte, reduceIte, Nat.reduceEqDiff, Int.reduceEq, Int.reduceLT, Int.reduceLE, Int.reduceAdd, Int.reduceSub, Int.reduceMul, Int.reduceNeg, and_true, true_and, not_true, not_false_eq_true, true_or, or_true, ne_eq, iAdd_id, iMul_id]
  rw [show 120 * s + (7 * k + i) = 120 * s + 7 * k + i by omega] at q
  exact ⟨by omega, by omega, q⟩
def gi (M : XM) (s k i : Int) : Int := M 84 (120 * s + (7 * k + i))
def VG (M : XM) (ns nt s k : Int) : Prop := VE ns nt (gi M s k 0) (gi M s k 1) (gi M s k 2) (gi M s k 3) (gi M s k 4) (gi M s k 5) (gi M s k 6)
def S_rl : XS := sSeq (sSeq (sSet 4 (eK 0)) (sWhile (cB (fun x y => x ≤ y) (eB iAdd (eL 4) (eK 7)) (eA 79 4 (eL 1))) (sSeq (sSeq (sSet 5 (eC7 F_M_enter (eD 120 (eL 2) (eL 4)) (eD 120 (eL 2) (eB iAdd (eL 4) (eK 1))) (eD 120 (eL 2) (eB iAdd (eL 4) (eK 2))) (eD 120 (eL 2) (eB iAdd (eL 4) (eK 3))) (eD 120 (eL 2) (eB iAdd (eL 4) (eK 4))) (eD 120 (eL 2) (eB iAdd (eL 4) (eK 5))) (eD 120 (eL 2) (eB iAdd (eL 4) (eK 6))))) (sSeq (sIf (cZ (fun x => x < 0) (eL 5)) (sRet (eL 3)) sSkip) (sInc 3 1))) (sInc 4 7)))) (sRet (eL 3))
theorem S_M_read_eq : S_M_read = sSeq (sIf (cNot (cZ (fun x => x ≠ 0) (eC1 F_Sheets_isNumber (eL 1)))) (sRet (eK (-2))) sSkip) (sSeq (sIf (cZ (fun x => x ≠ 0) (eC1 F_Sheets_isLost (eL 1))) (sRet (eC1 F_Sheets_found (eK 1))) sSkip) (sSeq (sSet 2 (eQ 75 4 (eL 1))) (sSeq (sSet 3 (eK 0)) S_rl))) := rfl
theorem M_read_loop {M : XM} {s n : Int} {Q : Int → XM → Prop} {L : XL} (hs : 0 ≤ s ∧ s ≤ 3) (m1 : 0 ≤ M 2 2 ∧ M 2 2 ≤ 24) (m2 : 0 ≤ M 2 6 ∧ M 2 6 ≤ 16) (hl : 0 ≤ M 13 0) (hlen : M 79 s ≤ 120) (row : ∀ i, 0 ≤ i → i < M 79 s → M (75 + s.toNat) i = M 84 (120 * s + i)) (hn : 0 ≤ n) (hle : M 13 0 + n ≤ 150) (hy : ∀ k, 0 ≤ k → k < n → 7 * k + 7 ≤ M 79 s ∧ VG M (M 2 6) (M 2 2) s k) (hno : 7 * n + 7 ≤ M 79 s → M 13 0 + n < 150 → ¬ VG M (M 2 6) (M 2 2) s n) (hQ : Q n (rdM M (gi M s) n)) (hL1 : L 1 = s) (hL2 : L 2 = ((75 : Nat) : Int) + s) (hL3 : L 3 = 0) : S_rl (fun _ _ => False) Q L M := by
  unfold S_rl
  simp only [sSeq, sSet, sInc, sPF, sPA, sPD, sOF, sOA, sX, sIf, sSkip, sRet, sRetB, sRetV, sSw, sSel, eK, eL, eR, eF, eA, eQ, eD, eU, eB, eV, eIf, ePF, eC0, eC1, eC2, eC3, eC4, eC5, eC6, eC7, cB, cZ, cAnd, cOr, cNot, i2l, st_fn, sl_ap, if_true, if_false, ↓reduceIte, reduceIte, Nat.reduceEqDiff, Int.reduceEq, Int.reduceLT, Int.reduceLE, Int.reduceAdd, Int.reduceSub, Int.reduceMul, Int.reduceNeg, and_true, true_and, not_true, not_false_eq_true, true_or, or_true, ne_eq]
  refine while_inv (fun L' N => ∃ k, 0 ≤ k ∧ k ≤ n ∧ L' 1 = s ∧ L' 2 = ((75 : Nat) : Int) + s ∧ L' 3 = k ∧ L' 4 = 7 * k ∧ N = rdM M (gi M s) k) (fun L' _ => (n - L' 3).toNat) ⟨0, by omega, hn, by simp only [sl_ap, st_fn, Nat.reduceEqDiff, ↓reduceIte, reduceIte, Int.reduceEq, if_true, if_false]; exact hL1, by simp only [sl_ap, st_fn, Nat.reduceEqDiff, ↓reduceIte, reduceIte, Int.reduceEq, if_true, if_false]; exact hL2, by simp only [sl_ap, st_fn, Nat.reduceEqDiff, ↓reduceIte, reduceIte, Int.reduceEq, if_true, if_false]; exact hL3, by simp only [sl_ap, st_fn, Nat.reduceEqDiff, ↓reduceIte, reduceIte, Int.reduceEq, if_true, if_false]; rfl, (rdM_zero M _).symm⟩ ?_
  intro L' N ⟨k, k0, k1, b1, b2, b3, b4, b5⟩ Q' hQ'
  subst b5
  obtain ⟨hs0, hs1⟩ := hs
  have r79 : rdM M (gi M s) k 79 = M 79 := rdM_ne (by omega)
  have rr : rdM M (gi M s) k (75 + s.toNat) = M (75 + s.toNat) := rdM_ne (by omega)
  have r2 : rdM M (gi M s) k 2 = M 2 := rdM_ne (by omega)
  have r13 : rdM M (gi M s) k 13 0 = M 13 0 + k := by rw [rdM_13]; rfl
  simp (disch := omega) only [sSeq, sSet, sInc, sPF, sPA, sPD, sOF, sOA, sX, sIf, sSkip, sRet, sRetB, sRetV, sSw, sSel, eK, eL, eR, eF, eA, eQ, eD, eU, eB, eV, eIf, ePF, eC0, eC1, eC2, eC3, eC4, eC5, eC6, eC7, cB, cZ, cAnd, cOr, cNot, i2l, st_fn, sl_ap, if_true, if_false, ↓reduceIte, reduceIte, Nat.reduceEqDiff, Int.reduceEq, Int.reduceLT, Int.reduceLE, Int.reduceAdd, Int.reduceSub, Int.reduceMul, Int.reduceNeg, and_true, true_and, not_true, not_false_eq_true, true_or, or_true, ne_eq, b1, b2, b3, b4, r79, rowN hs0, rr]
  refine ⟨hs0, by omega, fun c => ?_, fun c => ?_⟩
  · by_cases hk17 : k ≤ 17
    · rw [iAdd_id (by omega) (by omega)] at c
      simp (disch := omega) only [iAdd_id]
      have e0 : M (75 + s.toNat) (7 * k) = gi M s k 0 := by rw [row _ (by omega) (by omega)]; unfold gi; rw [show 7 * k + 0 = 7 * k by omega]
      have e1 : M (75 + s.toNat) (7 * k + 1) = gi M s k 1 := row _ (by omega) (by omega)
      have e2 : M (75 + s.toNat) (7 * k + 2) = gi M s k 2 := row _ (by omega) (by omega)
      have e3 : M (75 + s.toNat) (7 * k + 3) = gi M s k 3 := row _ (by omega) (by omega)
      have e4 : M (75 + s.toNat) (7 * k + 4) = gi M s k 4 := row _ (by omega) (by omega)
      have e5 : M (75 + s.toNat) (7 * k + 5) = gi M s k 5 := row _ (by omega) (by omega)
      have e6 : M (75 + s.toNat) (7 * k + 6) = gi M s k 6 := row _ (by omega) (by omega)
      simp only [e0, e1, e2, e3, e4, e5, e6]
      refine ⟨by omega, by omega, by omega, by omega, by omega, by omega, by omega, by omega, by omega, by omega, by omega, by omega, by omega, by omega, ?_⟩
      by_cases hkn : k < n
      · refine enter_yes (by rw [r2]; exact m1) (by rw [r2]; exact m2) (by rw [r2]; exact (hy k k0 hkn).2) (Ledger_add_yes (by rw [r13]; omega) (by rw [r13]; omega) ?_)
        rw [r13, rdM_succ k0]
        refine ⟨fun q => by omega, fun _ => hQ' _ _ ⟨k + 1, by omega, by omega, ?_, ?_, ?_, ?_, rfl⟩ ?_⟩
        · simp only [sl_ap, st_fn, Nat.reduceEqDiff, ↓reduceIte, reduceIte, Int.reduceEq, if_true, if_false]; exact b1
        · simp only [sl_ap, st_fn, Nat.reduceEqDiff, ↓reduceIte, reduceIte, Int.reduceEq, if_true, if_false]; exact b2
        · simp only [sl_ap, st_fn, Nat.reduceEqDiff, ↓reduceIte, reduceIte, Int.reduceEq, if_true, if_false]; try (rw [iAdd_id (by omega) (by omega)])
        · simp only [sl_ap, st_fn, Nat.reduceEqDiff, ↓reduceIte, reduceIte, Int.reduceEq, if_true, if_false]; try (rw [iAdd_id (by omega) (by omega)])
          try omega
        · simp only [sl_ap, st_fn, Nat.reduceEqDiff, ↓reduceIte, reduceIte, Int.reduceEq, if_true, if_false]; try (rw [iAdd_id (by omega) (by omega)])
          omega
      · have hkn : k = n := by omega
        subst hkn
        by_cases hv : VG M (M 2 6) (M 2 2) s k
        · refine enter_yes (by rw [r2]; exact m1) (by rw [r2]; exact m2) (by rw [r2]; exact hv) (Ledger_add_no (by rw [r13]; exact Int.not_lt.mp (fun q => hno (by omega) q hv)) ?_)
          exact ⟨fun _ => hQ, fun q => absurd q (by decide)⟩
        · refine enter_no (by rw [r2]; exact m1) (by rw [r2]; exact m2) (by rw [r2]; exact hv) ?_
          exact ⟨fun _ => hQ, fun q => absurd q (by decide)⟩
    · exfalso
      have := (hy 17 (by omega) (by omega)).1
      omega
  · by_cases hkn : k < n
    · have := (hy k k0 hkn).1
      rw [iAdd_id (by omega) (by omega)] at c
      omega
    · have hkn : k = n := by omega
      subst hkn
      exact hQ
def S_rrl : XS := sSeq (sWhile (cAnd (cAnd (cB (fun x y => x ≤ y) (eB iAdd (eB iMul (eK 7) (eL 2)) (eK 7)) (eA 83 4 (eL 1))) (cB (fun x y => x < y) (eF 81 19) (eK 150))) (cZ (fun x => x ≠ 0) (eC7 F_R_isSale (eC3 F_R_item (eL 1) (eL 2) (eK 0)) (eC3 F_R_item (eL 1) (eL 2) (eK 1)) (eC3 F_R_item (eL 1) (eL 2) (eK 2)) (eC3 F_R_item (eL 1) (eL 2) (eK 3)) (eC3 F_R_item (eL 1) (eL 2) (eK 4)) (eC3 F_R_item (eL 1) (eL 2) (eK 5)) (eC3 F_R_item (eL 1) (eL 2) (eK 6))))) (sSeq (sSet 3 (eC7 F_R_adds (eU l2i (eC3 F_R_item (eL 1) (eL 2) (eK 0))) (eU l2i (eC3 F_R_item (eL 1) (eL 2) (eK 1))) (eU l2i (eC3 F_R_item (eL 1) (eL 2) (eK 2))) (eU l2i (eC3 F_R_item (eL 1) (eL 2) (eK 3))) (eU l2i (eC3 F_R_item (eL 1) (eL 2) (eK 4))) (eU l2i (eC3 F_R_item (eL 1) (eL 2) (eK 5))) (eU l2i (eC3 F_R_item (eL 1) (eL 2) (eK 6))))) (sInc 2 1))) (sRet (eL 2))
theorem S_R_read_eq : S_R_read = sSeq (sIf (cNot (cZ (fun x => x ≠ 0) (eC1 F_R_isSheet (eL 1)))) (sRet (eK (-2))) sSkip) (sSeq (sIf (cZ (fun x => x < 0) (eA 82 4 (eL 1))) (sRet (eC1 F_R_met (eK 1))) sSkip) (sSeq (sSet 2 (eK 0)) S_rrl)) := rfl
theorem R_read_loop {M : XM} {s n : Int} {Q : Int → XM → Prop} {L : XL} (hs : 0 ≤ s ∧ s ≤ 3) (m1 : 0 ≤ M 81 7 ∧ M 81 7 ≤ 24) (m2 : 0 ≤ M 81 11 ∧ M 81 11 ≤ 16) (hl : 0 ≤ M 81 19) (hlen : M 83 s ≤ 120) (hn : 0 ≤ n) (hle : M 81 19 + n ≤ 150) (hy : ∀ k, 0 ≤ k → k < n → 7 * k + 7 ≤ M 83 s ∧ VG M (M 81 11) (M 81 7) s k) (hno : 7 * n + 7 ≤ M 83 s → M 81 19 + n < 150 → ¬ VG M (M 81 11) (M 81 7) s n) (hQ : Q n (rdR M (gi M s) n)) (hL1 : L 1 = s) (hL2 : L 2 = 0) : S_rrl (fun _ _ => False) Q L M := by
  unfold S_rrl
  simp only [sSeq, sSet, sInc, sPF, sPA, sPD, sOF, sOA, sX, sIf, sSkip, sRet, sRetB, sRetV, sSw, sSel, eK, eL, eR, eF, eA, eQ, eD, eU, eB, eV, eIf, ePF, eC0, eC1, eC2, eC3, eC4, eC5, eC6, eC7, cB, cZ, cAnd, cOr, cNot, i2l, st_fn, sl_ap, if_true, if_false, ↓reduceIte, reduceIte, Nat.reduceEqDiff, Int.reduceEq, Int.reduceLT, Int.reduceLE, Int.reduceAdd, Int.reduceSub, Int.reduceMul, Int.reduceNeg, and_true, true_and, not_true, not_false_eq_true, true_or, or_true, ne_eq]
  refine while_inv (fun L' N => ∃ k, 0 ≤ k ∧ k ≤ n ∧ L' 1 = s ∧ L' 2 = k ∧ N = rdR M (gi M s) k) (fun L' _ => (n - L' 2).toNat) ⟨0, by omega, hn, hL1, hL2, (rdR_zero M _).symm⟩ ?_
  intro L' N ⟨k, k0, k1, b1, b2, b5⟩ Q' hQ'
  subst b5
  obtain ⟨hs0, hs1⟩ := hs
  have r83 : rdR M (gi M s) k 83 = M 83 := rdR_ne (by omega) (by omega)
  have r84 : rdR M (gi M s) k 84 = M 84 := rdR_ne (by omega) (by omega)
  have r81 : ∀ j, j ≠ 19 → rdR M (gi M s) k 81 j = M 81 j := fun j hj => by rw [rdR_81]; exact if_neg hj
  have r19 : rdR M (gi M s) k 81 19 = M 81 19 + k := by rw [rdR_81]; rfl
  have r7 := r81 7 (by decide)
  have r11 := r81 11 (by decide)
  have hk17 : k ≤ 17 := by
    by_cases q : k ≤ 17
    · exact q
    · have := (hy 17 (by omega) (by omega)).1
      omega
  simp (disch := omega) only [sSeq, sSet, sInc, sPF, sPA, sPD, sOF, sOA, sX, sIf, sSkip, sRet, sRetB, sRetV, sSw, sSel, eK, eL, eR, eF, eA, eQ, eD, eU, eB, eV, eIf, ePF, eC0, eC1, eC2, eC3, eC4, eC5, eC6, eC7, cB, cZ, cAnd, cOr, cNot, i2l, st_fn, sl_ap, if_true, if_false, ↓reduceIte, reduceIte, Nat.reduceEqDiff, Int.reduceEq, Int.reduceLT, Int.reduceLE, Int.reduceAdd, Int.reduceSub, Int.reduceMul, Int.reduceNeg, and_true, true_and, not_true, not_false_eq_true, true_or, or_true, ne_eq, b1, b2, r83, r19, iMul_id, iAdd_id]
  refine ⟨hs0, by omega, fun c => ⟨fun c2 => ?_, fun c2 => ?_⟩, fun c => ?_⟩
  · have hs' : 0 ≤ s ∧ s ≤ 3 := ⟨hs0, hs1⟩
    have hk' : 0 ≤ k ∧ k ≤ 16 := ⟨k0, by omega⟩
    refine R_item_yes hs' hk' (by omega) (R_item_yes hs' hk' (by omega) (R_item_yes hs' hk' (by omega) (R_item_yes hs' hk' (by omega) (R_item_yes hs' hk' (by omega) (R_item_yes hs' hk' (by omega) (R_item_yes hs' hk' (by omega) ?_))))))
    simp only [r84]
    by_cases hv : VG M (M 81 11) (M 81 7) s k
    · refine R_isSale_yes (by rw [r7]; exact m1) (by rw [r11]; exact m2) (by rw [r7, r11]; exact hv) ?_
      refine ⟨fun _ => ?_, fun q => absurd q (by decide)⟩
      refine R_item_yes hs' hk' (by omega) (R_item_yes hs' hk' (by omega) (R_item_yes hs' hk' (by omega) (R_item_yes hs' hk' (by omega) (R_item_yes hs' hk' (by omega) (R_item_yes hs' hk' (by omega) (R_item_yes hs' hk' (by omega) ?_))))))
      simp only [r84]
      have hkn : k < n := by
        by_cases q : k < n
        · exact q
        · have e : k = n := by omega
          subst e
          exact absurd hv (hno c c2)
      have hv2 := hv
      unfold VG VE gi at hv2
      obtain ⟨⟨a1, a2⟩, ⟨a3, a4⟩, ⟨a5, a6⟩, ⟨a7, a8⟩, ⟨c1, c3⟩, ⟨c4, c5⟩, ⟨c6, c7⟩⟩ := hv2
      rw [l2i_id (by omega) (by omega), l2i_id (by omega) (by omega), l2i_id (by omega) (by omega), l2i_id (by omega) (by omega), l2i_id (by omega) (by omega), l2i_id (by omega) (by omega), l2i_id (by omega) (by omega)]
      refine R_adds_yes (by rw [r19]; omega) (by rw [r19]; omega) ?_
      rw [r19]
      have e := rdR_succ (M := M) (g := gi M s) k0
      unfold gi at e hQ' ⊢
      rw [e]
      refine hQ' _ _ ⟨k + 1, by omega, by omega, ?_, ?_, rfl⟩ ?_
      · simp only [sl_ap, st_fn, Nat.reduceEqDiff, ↓reduceIte, reduceIte, Int.reduceEq, if_true, if_false]; exact b1
      · simp only [sl_ap, st_fn, Nat.reduceEqDiff, ↓reduceIte, reduceIte, Int.reduceEq, if_true, if_false]; try (rw [b2]); try (rw [iAdd_id (by omega) (by omega)])
      · simp only [sl_ap, st_fn, Nat.reduceEqDiff, ↓reduceIte, reduceIte, Int.reduceEq, if_true, if_false]; try (rw [b2]); try (rw [iAdd_id (by omega) (by omega)])
        omega
    · refine R_isSale_no (by rw [r7]; exact m1) (by rw [r11]; exact m2) (by rw [r7, r11]; exact hv) ?_
      refine ⟨fun q => absurd q (by decide), fun _ => ?_⟩
      have hkn : k = n := by
        by_cases q : k < n
        · exact absurd (hy k k0 q).2 hv
        · omega
      subst hkn
      exact hQ
  · have hkn : k = n := by omega
    subst hkn
    exact hQ
  · have hkn : k = n := by
      by_cases q : k < n
      · have := (hy k k0 q).1
        omega
      · omega
    subst hkn
    exact hQ
theorem rdM_it {M : XM} {g : Int → Int → Int} {n : Int} {c : Nat} {i : Int} (h : 14 ≤ c ∧ c ≤ 20) (hi : i = (c : Int) - 14) : rdM M g n c = upw (M c) (M 13 0) n (fun k => g k i) := by
  rw [rdM_at ⟨h.1, by omega⟩]
  congr 1
  funext k
  rw [if_neg (by omega), hi]
theorem rdM_21 {M : XM} {g : Int → Int → Int} {n : Int} : rdM M g n 21 = upw (M 21) (M 13 0) n (fun _ => -1) := by rw [rdM_at ⟨by omega, by omega⟩]; rfl
theorem rdR_it {M : XM} {g : Int → Int → Int} {n : Int} {c : Nat} {i : Int} (h : 96 ≤ c ∧ c ≤ 102) (hi : i = (c : Int) - 96) : rdR M g n c = upw (M c) (M 81 19) n (fun k => g k i) := by
  rw [rdR_at ⟨h.1, by omega⟩]
  congr 1
  funext k
  rw [if_neg (by omega), hi]
theorem rdR_103 {M : XM} {g : Int → Int → Int} {n : Int} : rdR M g n 103 = upw (M 103) (M 81 19) n (fun _ => -1) := by rw [rdR_at ⟨by omega, by omega⟩]; rfl
theorem Inv_rd {Z M : XM} {g : Int → Int → Int} {n : Int} (h : Inv Z M) (hn : 0 ≤ n) (hle : M 81 19 + n ≤ 150) (hy : ∀ k, 0 ≤ k → k < n → VE (M 81 11) (M 81 7) (g k 0) (g k 1) (g k 2) (g k 3) (g k 4) (g k 5) (g k 6)) : Inv Z (rdR (rdM M g n) g n) := by
  obtain ⟨⟨h1, h2, h3, h4, h5, h6, h7, h8, h9, h10, h11, h12, h13, h14⟩, ⟨l1, l2, l3, l4, l5, l6, l7, l8, l9, l10, l11⟩, ⟨s1, s2⟩, ⟨v1, v2, v3, v4, v5, v6⟩, ⟨w1, w2, w3⟩, hF, m1, m2, m3⟩ := id h
  have ne : ∀ c, c ≠ 81 → (c < 13 ∨ 21 < c) → (c < 96 ∨ 103 < c) → rdR (rdM M g n) g n c = M c := fun c a1 a2 a3 => by rw [rdR_ne a1 a3, rdM_ne a2]
  have n81 : rdR (rdM M g n) g n 81 = (fun j => if j = 19 then M 81 19 + n else M 81 j) := by rw [rdR_81, rdM_ne (by omega)]
  have n13 : rdR (rdM M g n) g n 13 = (fun j => if j = 0 then M 13 0 + n else M 13 j) := by rw [rdR_ne (by omega) (by omega), rdM_13]
  have a14 : ∀ (c : Nat) (i : Int), 14 ≤ c ∧ c ≤ 20 → i = (c : Int) - 14 → rdR (rdM M g n) g n c = upw (M c) (M 13 0) n (fun k => g k i) := fun c i b1 b2 => by rw [rdR_ne (by omega) (by omega), rdM_it b1 b2]
  have a21 : rdR (rdM M g n) g n 21 = upw (M 21) (M 13 0) n (fun _ => -1) := by rw [rdR_ne (by omega) (by omega), rdM_21]
  have a96 : ∀ (c : Nat) (i : Int), 96 ≤ c ∧ c ≤ 102 → i = (c : Int) - 96 → rdR (rdM M g n) g n c = upw (M c) (M 81 19) n (fun k => g k i) := fun c i b1 b2 => by rw [rdR_it b1 b2, rdM_ne (by omega), rdM_ne (by omega)]
  have a103 : rdR (rdM M g n) g n 103 = upw (M 103) (M 81 19) n (fun _ => -1) := by rw [rdR_103, rdM_ne (by omega), rdM_ne (by omega)]
  have e14 := a14 14 0 (by omega) (by omega)
  have e15 := a14 15 1 (by omega) (by omega)
  have e16 := a14 16 2 (by omega) (by omega)
  have e17 := a14 17 3 (by omega) (by omega)
  have e18 := a14 18 4 (by omega) (by omega)
  have e19 := a14 19 5 (by omega) (by omega)
  have e20 := a14 20 6 (by omega) (by omega)
  have e96 := a96 96 0 (by omega) (by omega)
  have e97 := a96 97 1 (by omega) (by omega)
  have e98 := a96 98 2 (by omega) (by omega)
  have e99 := a96 99 3 (by omega) (by omega)
  have e100 := a96 100 4 (by omega) (by omega)
  have e101 := a96 101 5 (by omega) (by omega)
  have e102 := a96 102 6 (by omega) (by omega)
  generalize rdR (rdM M g n) g n = N at *
  have k2 := ne 2 (by omega) (by omega) (by omega)
  have k3 := ne 3 (by omega) (by omega) (by omega)
  have k4 := ne 4 (by omega) (by omega) (by omega)
  have k5 := ne 5 (by omega) (by omega) (by omega)
  have k6 := ne 6 (by omega) (by omega) (by omega)
  have k7 := ne 7 (by omega) (by omega) (by omega)
  have k8 := ne 8 (by omega) (by omega) (by omega)
  have k9 := ne 9 (by omega) (by omega) (by omega)
  have k10 := ne 10 (by omega) (by omega) (by omega)
  have k11 := ne 11 (by omega) (by omega) (by omega)
  have k12 := ne 12 (by omega) (by omega) (by omega)
  have k22 := ne 22 (by omega) (by omega) (by omega)
  have k23 := ne 23 (by omega) (by omega) (by omega)
  have k26 := ne 26 (by omega) (by omega) (by omega)
  have k27 := ne 27 (by omega) (by omega) (by omega)
  have k28 := ne 28 (by omega) (by omega) (by omega)
  have k73 := ne 73 (by omega) (by omega) (by omega)
  have k75 := ne 75 (by omega) (by omega) (by omega)
  have k76 := ne 76 (by omega) (by omega) (by omega)
  have k77 := ne 77 (by omega) (by omega) (by omega)
  have k78 := ne 78 (by omega) (by omega) (by omega)
  have k79 := ne 79 (by omega) (by omega) (by omega)
  have k80 := ne 80 (by omega) (by omega) (by omega)
  have k82 := ne 82 (by omega) (by omega) (by omega)
  have k83 := ne 83 (by omega) (by omega) (by omega)
  have k84 := ne 84 (by omega) (by omega) (by omega)
  have k86 := ne 86 (by omega) (by omega) (by omega)
  have k87 := ne 87 (by omega) (by omega) (by omega)
  have k88 := ne 88 (by omega) (by omega) (by omega)
  have k89 := ne 89 (by omega) (by omega) (by omega)
  have k90 := ne 90 (by omega) (by omega) (by omega)
  have k91 := ne 91 (by omega) (by omega) (by omega)
  have k92 := ne 92 (by omega) (by omega) (by omega)
  have k93 := ne 93 (by omega) (by omega) (by omega)
  have k94 := ne 94 (by omega) (by omega) (by omega)
  have k95 := ne 95 (by omega) (by omega) (by omega)
  have k104 := ne 104 (by omega) (by omega) (by omega)
  refine ⟨?_, ?_, ?_, ?_, ?_, ?_, ?_, ?_, ?_⟩
  · unfold DCt
    simp only [k2, k3, k4, k5, k6, k7, k8, k9, k10, k11, k12, k86, k87, k88, k89, k90, k91, k92, k93, k94, k95, n81, st_fn, Nat.reduceEqDiff, ↓reduceIte, reduceIte, Int.reduceEq, if_true, if_false]
    exact h.1
  · unfold DCl
    simp only [e14, e15, e16, e17, e18, e19, e20, a21, e96, e97, e98, e99, e100, e101, e102, a103, n13, n81, st_fn, Nat.reduceEqDiff, ↓reduceIte, reduceIte, Int.reduceEq, if_true, if_false]
    exact ⟨by omega, l2, l3, by rw [l1, l4], by rw [l1, l5], by rw [l1, l6], by rw [l1, l7], by rw [l1, l8], by rw [l1, l9], by rw [l1, l10], by rw [l1, l11]⟩
  · unfold DCs
    simp only [k73, k75, k76, k77, k78, k79, k80, k82, k83, k84, n81, st_fn, Nat.reduceEqDiff, ↓reduceIte, reduceIte, Int.reduceEq, if_true, if_false]
    exact h.2.2.1
  · unfold Vt
    simp only [k86, k87, k88, k89, k90, k91, k92, k93, k94, k95, n81, st_fn, Nat.reduceEqDiff, ↓reduceIte, reduceIte, Int.reduceEq, if_true, if_false]
    exact h.2.2.2.1
  · unfold Vl
    simp only [e96, e97, e98, e99, e100, e101, e102, n81, st_fn, Nat.reduceEqDiff, ↓reduceIte, reduceIte, Int.reduceEq, if_true, if_false]
    refine ⟨by omega, by omega, fun k a b => ?_⟩
    unfold upw
    by_cases q : k < M 81 19
    · simp only [if_neg (show ¬ (M 81 19 ≤ k ∧ k < M 81 19 + n) by omega)]
      exact w3 k a q
    · simp only [if_pos (show (M 81 19 ≤ k ∧ k < M 81 19 + n) by omega)]
      have := hy (k - M 81 19) (by omega) (by omega)
      unfold VE at this
      omega
  · intro k hk
    rw [ne k (by omega) (by omega) (by omega)]
    exact hF k hk
  · simp only [n81, st_fn, Nat.reduceEqDiff, ↓reduceIte, reduceIte, Int.reduceEq, if_true, if_false]; exact m1
  · simp only [n81, st_fn, Nat.reduceEqDiff, ↓reduceIte, reduceIte, Int.reduceEq, if_true, if_false]; exact m2
  · unfold DCr at m3 ⊢
    simp only [k22, k23, k26, k27, k28, k104, n81, st_fn, Nat.reduceEqDiff, ↓reduceIte, reduceIte, Int.reduceEq, if_true, if_false]
    exact m3
theorem ok_read {Z M : XM} (h : Inv Z M) (x1 : Int) : F_M_read x1 M (fun v M1 => F_R_read x1 M1 (fun w M2 => v = w ∧ Inv Z M2)) := by
  obtain ⟨⟨h1, h2, h3, h4, h5, h6, h7, h8, h9, h10, h11, h12, h13, h14⟩, ⟨l1, l2, l3, l4, l5, l6, l7, l8, l9, l10, l11⟩, ⟨s1, s2⟩, ⟨v1, v2, v3, v4, v5, v6⟩, ⟨w1, w2, w3⟩, hF, m1, m2, m3⟩ := id h
  unfold F_M_read
  rw [S_M_read_eq]
  simp only [sSeq, sSet, sInc, sPF, sPA, sPD, sOF, sOA, sX, sIf, sSkip, sRet, sRetB, sRetV, sSw, sSel, eK, eL, eR, eF, eA, eQ, eD, eU, eB, eV, eIf, ePF, eC0, eC1, eC2, eC3, eC4, eC5, eC6, eC7, cB, cZ, cAnd, cOr, cNot, i2l, st_fn, sl_ap, if_true, if_false, ↓reduceIte, reduceIte, Nat.reduceEqDiff, Int.reduceEq, Int.reduceLT, Int.reduceLE, Int.reduceAdd, Int.reduceSub, Int.reduceMul, Int.reduceNeg, and_true, true_and, not_true, not_false_eq_true, true_or, or_true, ne_eq, F_Sheets_isNumber_iff, b01_ne]
  by_cases c : 0 ≤ x1 ∧ x1 ≤ 3
  · refine ⟨fun _ => ?_, fun q => absurd c q⟩
    rw [F_Sheets_isLost_iff c.1 (by omega)]
    rcases sh_at h c.1 c.2 with ⟨a1, a2, a3, a4⟩ | ⟨a1, a2, a3, a4, a5, a6, a7⟩
    · rw [if_pos a2]
      refine ⟨fun _ => ?_, fun q => absurd q (by decide)⟩
      rw [F_Sheets_found_iff]
      have g82 : (st M 73 3 1) 82 = M 82 := st_ne _ _ _ (by decide)
      unfold F_R_read
      rw [S_R_read_eq]
      simp only [sSeq, sSet, sInc, sPF, sPA, sPD, sOF, sOA, sX, sIf, sSkip, sRet, sRetB, sRetV, sSw, sSel, eK, eL, eR, eF, eA, eQ, eD, eU, eB, eV, eIf, ePF, eC0, eC1, eC2, eC3, eC4, eC5, eC6, eC7, cB, cZ, cAnd, cOr, cNot, i2l, st_fn, sl_ap, if_true, if_false, ↓reduceIte, reduceIte, Nat.reduceEqDiff, Int.reduceEq, Int.reduceLT, Int.reduceLE, Int.reduceAdd, Int.reduceSub, Int.reduceMul, Int.reduceNeg, and_true, true_and, not_true, not_false_eq_true, true_or, or_true, ne_eq, F_R_isSheet_iff, b01_ne, g82]
      refine ⟨fun _ => ⟨c.1, by omega, fun _ => ?_, fun q => by omega⟩, fun q => absurd c q⟩
      rw [F_R_met_iff]
      exact ⟨rfl, Inv_late h 1⟩
    · rw [if_neg (by omega)]
      refine ⟨fun q => absurd q (by decide), fun _ => ?_⟩
      obtain ⟨n, n17, hP, hNP⟩ := first_not (fun k : Nat => 7 * (k : Int) + 7 ≤ M 79 x1 ∧ M 13 0 + (k : Int) < 150 ∧ VG M (M 2 6) (M 2 2) x1 (k : Int)) 17 (fun q => by have := q.1; omega)
      have hy : ∀ k : Int, 0 ≤ k → k < (n : Int) → 7 * k + 7 ≤ M 79 x1 ∧ M 13 0 + k < 150 ∧ VG M (M 2 6) (M 2 2) x1 k := fun k q1 q2 => by
        have := hP k.toNat (by omega)
        rw [Int.toNat_of_nonneg q1] at this
        exact this
      have hle : M 13 0 + (n : Int) ≤ 150 := by
        by_cases q : n = 0
        · omega
        · have := (hy ((n : Int) - 1) (by omega) (by omega)).2.1
          omega
      refine ⟨c.1, by omega, M_read_loop (n := (n : Int)) c (by omega) (by omega) (by omega) (by omega) (fun i q1 q2 => a7 i q1 (by omega)) (by omega) hle (fun k q1 q2 => ⟨(hy k q1 q2).1, (hy k q1 q2).2.2⟩) (fun q1 q2 q3 => hNP ⟨q1, q2, q3⟩) ?_ rfl rfl rfl⟩
      have g82 : rdM M (gi M x1) n 82 = M 82 := rdM_ne (by omega)
      have g83 : rdM M (gi M x1) n 83 = M 83 := rdM_ne (by omega)
      have g84 : rdM M (gi M x1) n 84 = M 84 := rdM_ne (by omega)
      have g81 : rdM M (gi M x1) n 81 = M 81 := rdM_ne (by omega)
      have gg : ∀ s, gi (rdM M (gi M x1) n) s = gi M s := fun s => by funext k i; unfold gi; rw [rdM_ne (by omega)]
      unfold F_R_read
      rw [S_R_read_eq]
      simp only [sSeq, sSet, sInc, sPF, sPA, sPD, sOF, sOA, sX, sIf, sSkip, sRet, sRetB, sRetV, sSw, sSel, eK, eL, eR, eF, eA, eQ, eD, eU, eB, eV, eIf, ePF, eC0, eC1, eC2, eC3, eC4, eC5, eC6, eC7, cB, cZ, cAnd, cOr, cNot, i2l, st_fn, sl_ap, if_true, if_false, ↓reduceIte, reduceIte, Nat.reduceEqDiff, Int.reduceEq, Int.reduceLT, Int.reduceLE, Int.reduceAdd, Int.reduceSub, Int.reduceMul, Int.reduceNeg, and_true, true_and, not_true, not_false_eq_true, true_or, or_true, ne_eq, F_R_isSheet_iff, b01_ne, g82]
      refine ⟨fun _ => ⟨c.1, by omega, fun q => by omega, fun _ => ?_⟩, fun q => absurd c q⟩
      refine R_read_loop (n := (n : Int)) c (by rw [g81]; omega) (by rw [g81]; omega) (by rw [g81]; omega) (by rw [g83]; omega) (by omega) (by rw [g81]; omega) (fun k q1 q2 => ?_) (fun q1 q2 q3 => ?_) ⟨rfl, ?_⟩ rfl rfl
      · rw [g83, g81]
        have := hy k q1 q2
        unfold VG
        rw [gg]
        unfold VG at this
        exact ⟨by omega, by rw [← h7, ← h3]; exact this.2.2⟩
      · rw [g83] at q1
        rw [g81] at q2
        unfold VG at q3
        rw [gg, g81, ← h7, ← h3] at q3
        exact hNP ⟨by omega, by omega, q3⟩
      · rw [gg]
        refine Inv_rd h (by omega) (by omega) (fun k q1 q2 => ?_)
        have := (hy k q1 q2).2.2
        unfold VG at this
        rw [h7, h3] at this
        exact this
  · refine ⟨fun q => absurd q c, fun _ => ?_⟩
    unfold F_R_read
    rw [S_R_read_eq]
    simp only [sSeq, sSet, sInc, sPF, sPA, sPD, sOF, sOA, sX, sIf, sSkip, sRet, sRetB, sRetV, sSw, sSel, eK, eL, eR, eF, eA, eQ, eD, eU, eB, eV, eIf, ePF, eC0, eC1, eC2, eC3, eC4, eC5, eC6, eC7, cB, cZ, cAnd, cOr, cNot, i2l, st_fn, sl_ap, if_true, if_false, ↓reduceIte, reduceIte, Nat.reduceEqDiff, Int.reduceEq, Int.reduceLT, Int.reduceLE, Int.reduceAdd, Int.reduceSub, Int.reduceMul, Int.reduceNeg, and_true, true_and, not_true, not_false_eq_true, true_or, or_true, ne_eq, F_R_isSheet_iff, b01_ne]
    exact ⟨fun q => absurd q c, fun _ => h⟩
