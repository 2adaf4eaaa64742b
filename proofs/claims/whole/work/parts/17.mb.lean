/-! ===== rules for loops ===== -/
theorem while_inv {c : XCd} {b : XS} {Qn : XL → XM → Prop} {Qr : Int → XM → Prop} {L : XL} {M : XM} (I : XL → XM → Prop) (μ : XL → XM → Nat) (h0 : I L M) (h : ∀ L M, I L M → ∀ Q : XL → XM → Prop, (∀ L2 M2, I L2 M2 → μ L2 M2 < μ L M → Q L2 M2) → c L M (fun M' => b Q Qr L M') (fun M' => Qn L M')) : sWhile c b Qn Qr L M :=
  ⟨I, μ, h0, fun L M hI => h L M hI _ (fun _ _ h1 h2 => ⟨h1, h2⟩)⟩
theorem while_up {c : XCd} {b : XS} {Qn : XL → XM → Prop} {Qr : Int → XM → Prop} {L : XL} {M : XM} (i : Nat) (lo hi : Int) (J : Int → XL → XM → Prop) (hle : lo ≤ hi) (h0 : L i = lo) (hJ : J lo L M)
    (hc : ∀ x L M (T F : XM → Prop), lo ≤ x → x ≤ hi → L i = x → J x L M → (x < hi → T M) → (¬ x < hi → F M) → c L M T F)
    (hb : ∀ x L M (Q : XL → XM → Prop), lo ≤ x → x < hi → L i = x → J x L M → (∀ L2 M2, L2 i = x + 1 → J (x + 1) L2 M2 → Q L2 M2) → b Q Qr L M)
    (hq : ∀ L M, L i = hi → J hi L M → Qn L M) : sWhile c b Qn Qr L M := by
  refine while_inv (fun L M => lo ≤ L i ∧ L i ≤ hi ∧ J (L i) L M) (fun L _ => (hi - L i).toNat) ⟨by omega, by omega, by rw [h0]; exact hJ⟩ ?_
  intro L M ⟨h1, h2, h3⟩ Q hQ
  refine hc (L i) L M _ _ h1 h2 rfl h3 (fun hx => ?_) (fun hx => ?_)
  · refine hb (L i) L M Q h1 hx rfl h3 (fun L2 M2 e j => hQ L2 M2 ⟨by omega, by omega, by rw [e]; exact j⟩ (by omega))
  · have e : L i = hi := by omega
    exact hq L M e (by rw [← e]; exact h3)
theorem st_st (M : XM) (k : Nat) (j v w : Int) : st (st M k j v) k j w = st M k j w := by
  funext a b
  unfold st
  by_cases h : a = k
  · by_cases h2 : b = j
    · simp [h, h2]
    · simp [h, h2]
  · simp [h]
theorem st_id (M : XM) (k : Nat) (j : Int) : st M k j (M k j) = M := by
  funext a b
  unfold st
  by_cases h : a = k
  · by_cases h2 : b = j
    · simp [h, h2]
    · simp [h, h2]
  · simp [h]
theorem st_id' {M : XM} {k : Nat} {j v : Int} (h : M k j = v) : st M k j v = M := by rw [← h]; exact st_id M k j
theorem wp_ite {P : Prop} [Decidable P] {X Y : Prop} : ((P → X) ∧ (¬P → Y)) ↔ (if P then X else Y) := by by_cases h : P <;> simp [h]
/-! ===== the rules' text, read from a place on ===== -/
def bt (T : Int → Int) (n p : Int) : Int := if 0 ≤ p ∧ p < n then T p else -1
def itmOf (b : Int) : Int := if b = 104 then 0 else if b = 98 then 1 else if b = 114 then 2 else if b = 108 then 3 else if b = 111 then 4 else if b = 99 then 5 else if b = 102 then 6 else if b = 107 then 10 else if b = 116 then 14 else -1
def loOf (i : Int) : Int := if i = 0 then 1 else 0
def hiOf (i : Int) : Int := if i = 0 then 9999 else if i = 1 then 1 else if i < 4 then 51 else if i < 6 then 167 else if i = 14 then 2 else 500
def nd (B : Int → Int) : Nat → Int → Nat
  | 0, _ => 0
  | f + 1, a => if 48 ≤ B a ∧ B a ≤ 57 then nd B f (a + 1) + 1 else 0
def nv (B : Int → Int) : Nat → Int → Int → Int
  | 0, _, v => v
  | f + 1, a, v => if 48 ≤ B a ∧ B a ≤ 57 then nv B f (a + 1) (10 * v + B a - 48) else v
abbrev PR : Type := Int × Int × Int × Int × Int
def p4 (B : Int → Int) (i v e : Int) : PR := if B e = 64 then (if nd B 2 (e + 1) = 0 ∨ 51 < nv B 2 (e + 1) 0 then (e + 1, 0, 0, 0, 0) else (-1, i, v, nv B 2 (e + 1) 0, e + 1 + nd B 2 (e + 1))) else (-1, i, v, 0, e)
def p3 (B : Int → Int) (i b : Int) : PR := if B b = 61 then (if nd B 4 (b + 1) = 0 ∨ nv B 4 (b + 1) 0 < loOf i ∨ hiOf i < nv B 4 (b + 1) 0 then (b + 1, 0, 0, 0, 0) else p4 B i (nv B 4 (b + 1) 0) (b + 1 + nd B 4 (b + 1))) else (b, 0, 0, 0, 0)
def p2 (B : Int → Int) (i a : Int) : PR := if i = 6 ∨ i = 10 then (if 48 ≤ B a ∧ B a ≤ 51 then p3 B (i + (B a - 48)) (a + 1) else (a, 0, 0, 0, 0)) else p3 B i a
def pp (B : Int → Int) (a : Int) : PR := if itmOf (B a) = -1 then (a, 0, 0, 0, 0) else p2 B (itmOf (B a)) (a + 1)
theorem nd_le (B : Int → Int) : ∀ (f : Nat) (a : Int), nd B f a ≤ f
  | 0, _ => Nat.le_refl _
  | f + 1, a => by
    have h := nd_le B f (a + 1)
    have e : nd B (f + 1) a = if 48 ≤ B a ∧ B a ≤ 57 then nd B f (a + 1) + 1 else 0 := rfl
    rw [e]
    split <;> omega
theorem nd_step (B : Int → Int) {f k : Nat} (h : k < f) (p : Int) : nd B (f - k) p = if 48 ≤ B p ∧ B p ≤ 57 then nd B (f - (k + 1)) (p + 1) + 1 else 0 := by
  obtain ⟨m, e⟩ : ∃ m, f - k = m + 1 := ⟨f - k - 1, by omega⟩
  rw [e, show f - (k + 1) = m by omega]
  rfl
theorem nv_step (B : Int → Int) {f k : Nat} (h : k < f) (p v : Int) : nv B (f - k) p v = if 48 ≤ B p ∧ B p ≤ 57 then nv B (f - (k + 1)) (p + 1) (10 * v + B p - 48) else v := by
  obtain ⟨m, e⟩ : ∃ m, f - k = m + 1 := ⟨f - k - 1, by omega⟩
  rw [e, show f - (k + 1) = m by omega]
  rfl
theorem nv_pos (B : Int → Int) : ∀ (f : Nat) (a v : Int), 0 ≤ v → 0 ≤ nv B f a v
  | 0, _, _, h => h
  | f + 1, a, v, h => by
    have e : nv B (f + 1) a v = if 48 ≤ B a ∧ B a ≤ 57 then nv B f (a + 1) (10 * v + B a - 48) else v := rfl
    rw [e]
    split
    · exact nv_pos B f _ _ (by omega)
    · exact h
theorem nd_bt {T : Int → Int} {n : Int} : ∀ (f : Nat) (a : Int), 0 ≤ a → a ≤ n → a + nd (bt T n) f a ≤ n
  | 0, a, _, h => by show a + 0 ≤ n; omega
  | f + 1, a, h0, h => by
    have e : nd (bt T n) (f + 1) a = if 48 ≤ bt T n a ∧ bt T n a ≤ 57 then nd (bt T n) f (a + 1) + 1 else 0 := rfl
    rw [e]
    split
    · rename_i c
      have hn : a < n := by
        apply Int.not_le.mp
        intro hn
        have : bt T n a = -1 := if_neg (by omega)
        omega
      have := nd_bt (T := T) (n := n) f (a + 1) (by omega) (by omega)
      omega
    · omega
theorem nd_ext {B B' : Int → Int} {n : Int} (h : ∀ p, p < n → B' p = B p) : ∀ (f : Nat) (a : Int), a + nd B f a < n → nd B' f a = nd B f a
  | 0, _, _ => rfl
  | f + 1, a, hl => by
    have e : nd B (f + 1) a = if 48 ≤ B a ∧ B a ≤ 57 then nd B f (a + 1) + 1 else 0 := rfl
    have e' : nd B' (f + 1) a = if 48 ≤ B' a ∧ B' a ≤ 57 then nd B' f (a + 1) + 1 else 0 := rfl
    have ha : a < n := by omega
    rw [e', e, h a ha]
    rw [e] at hl
    by_cases c : 48 ≤ B a ∧ B a ≤ 57
    · rw [if_pos c] at hl
      rw [if_pos c, if_pos c, nd_ext h f (a + 1) (by omega)]
    · rw [if_neg c, if_neg c]
theorem nv_ext {B B' : Int → Int} {n : Int} (h : ∀ p, p < n → B' p = B p) : ∀ (f : Nat) (a v : Int), a + nd B f a < n → nv B' f a v = nv B f a v
  | 0, _, _, _ => rfl
  | f + 1, a, v, hl => by
    have e : nd B (f + 1) a = if 48 ≤ B a ∧ B a ≤ 57 then nd B f (a + 1) + 1 else 0 := rfl
    have e1 : nv B (f + 1) a v = if 48 ≤ B a ∧ B a ≤ 57 then nv B f (a + 1) (10 * v + B a - 48) else v := rfl
    have e' : nv B' (f + 1) a v = if 48 ≤ B' a ∧ B' a ≤ 57 then nv B' f (a + 1) (10 * v + B' a - 48) else v := rfl
    have ha : a < n := by omega
    rw [e', e1, h a ha]
    rw [e] at hl
    by_cases c : 48 ≤ B a ∧ B a ≤ 57
    · rw [if_pos c] at hl
      rw [if_pos c, if_pos c, nv_ext h f (a + 1) _ (by omega)]
    · rw [if_neg c, if_neg c]
def okP (r : PR) (n : Int) : Prop := r.1 = -1 ∧ r.2.2.2.2 < n
theorem p4_ext {B B' : Int → Int} {n : Int} (h : ∀ p, p < n → B' p = B p) {i v e : Int} (he : 0 ≤ e) (ho : okP (p4 B i v e) n) : p4 B' i v e = p4 B i v e ∧ e < n := by
  have hn : e < n := by
    unfold p4 okP at ho
    revert ho
    split
    · split
      · intro q; have := q.1; dsimp only at this; omega
      · intro q; have := q.2; dsimp only at this; omega
    · intro q; exact q.2
  refine ⟨?_, hn⟩
  unfold p4 at ho ⊢
  rw [h e hn]
  by_cases c : B e = 64
  · rw [if_pos c] at ho ⊢
    rw [if_pos c]
    by_cases c2 : nd B 2 (e + 1) = 0 ∨ 51 < nv B 2 (e + 1) 0
    · rw [if_pos c2] at ho
      exact absurd ho.1 (by dsimp only; omega)
    · rw [if_neg c2] at ho ⊢
      have hl : e + 1 + nd B 2 (e + 1) < n := ho.2
      rw [nd_ext h 2 (e + 1) hl, nv_ext h 2 (e + 1) 0 hl, if_neg c2]
  · rw [if_neg c, if_neg c]
theorem p3_ext {B B' : Int → Int} {n : Int} (h : ∀ p, p < n → B' p = B p) {i b : Int} (hb : 0 ≤ b) (ho : okP (p3 B i b) n) : p3 B' i b = p3 B i b ∧ b < n := by
  unfold p3 at ho ⊢
  by_cases c : B b = 61
  · rw [if_pos c] at ho
    by_cases c2 : nd B 4 (b + 1) = 0 ∨ nv B 4 (b + 1) 0 < loOf i ∨ hiOf i < nv B 4 (b + 1) 0
    · rw [if_pos c2] at ho
      exact absurd ho.1 (by dsimp only; omega)
    · rw [if_neg c2] at ho
      obtain ⟨h4, hl⟩ := p4_ext h (by omega) ho
      have hb2 : b < n := by omega
      refine ⟨?_, hb2⟩
      rw [h b hb2, if_pos c, if_pos c, nd_ext h 4 (b + 1) hl, nv_ext h 4 (b + 1) 0 hl, if_neg c2, if_neg c2, h4]
  · rw [if_neg c] at ho
    exact absurd ho.1 (by dsimp only; omega)
theorem p2_ext {B B' : Int → Int} {n : Int} (h : ∀ p, p < n → B' p = B p) {i a : Int} (ha : 0 ≤ a) (ho : okP (p2 B i a) n) : p2 B' i a = p2 B i a ∧ a < n := by
  unfold p2 at ho ⊢
  by_cases c : i = 6 ∨ i = 10
  · rw [if_pos c] at ho
    by_cases c2 : 48 ≤ B a ∧ B a ≤ 51
    · rw [if_pos c2] at ho
      obtain ⟨h4, hl⟩ := p3_ext h (by omega) ho
      have ha2 : a < n := by omega
      refine ⟨?_, ha2⟩
      rw [if_pos c, if_pos c, h a ha2, if_pos c2, if_pos c2, h4]
    · rw [if_neg c2] at ho
      exact absurd ho.1 (by dsimp only; omega)
  · rw [if_neg c] at ho
    rw [if_neg c, if_neg c]
    exact p3_ext h ha ho
theorem pp_ext {B B' : Int → Int} {n : Int} (h : ∀ p, p < n → B' p = B p) {a : Int} (ha : 0 ≤ a) (ho : okP (pp B a) n) : pp B' a = pp B a ∧ a < n := by
  unfold pp at ho ⊢
  by_cases c : itmOf (B a) = -1
  · rw [if_pos c] at ho
    exact absurd ho.1 (by dsimp only; omega)
  · rw [if_neg c] at ho
    obtain ⟨h4, hl⟩ := p2_ext h (by omega) ho
    have ha2 : a < n := by omega
    rw [h a ha2, if_neg c, if_neg c]
    exact ⟨h4, ha2⟩
/-! what a part that is read shows -/
def goodI (i v w : Int) : Prop := 0 ≤ i ∧ i ≤ 14 ∧ loOf i ≤ v ∧ v ≤ hiOf i ∧ 0 ≤ w ∧ w ≤ 51
theorem p4_ok {T : Int → Int} {n i v e : Int} (he : 0 ≤ e) (hn : e ≤ n) (h : (p4 (bt T n) i v e).1 = -1) : (p4 (bt T n) i v e).2.1 = i ∧ (p4 (bt T n) i v e).2.2.1 = v ∧ 0 ≤ (p4 (bt T n) i v e).2.2.2.1 ∧ (p4 (bt T n) i v e).2.2.2.1 ≤ 51 ∧ e ≤ (p4 (bt T n) i v e).2.2.2.2 ∧ (p4 (bt T n) i v e).2.2.2.2 ≤ n := by
  unfold p4 at h ⊢
  by_cases c : bt T n e = 64
  · rw [if_pos c] at h ⊢
    by_cases c2 : nd (bt T n) 2 (e + 1) = 0 ∨ 51 < nv (bt T n) 2 (e + 1) 0
    · rw [if_pos c2] at h
      exact absurd h (by dsimp only; omega)
    · rw [if_neg c2]
      have h1 := nv_pos (bt T n) 2 (e + 1) 0 (Int.le_refl 0)
      have hn1 : e < n := by
        apply Int.not_le.mp
        intro hn
        have : bt T n e = -1 := if_neg (by omega)
        omega
      have h2 := nd_bt (T := T) (n := n) 2 (e + 1) (by omega) (by omega)
      dsimp only
      omega
  · rw [if_neg c]
    dsimp only
    omega
theorem bt_lt {T : Int → Int} {n e x : Int} (he : 0 ≤ e) (h : bt T n e = x) (hx : x ≠ -1) : e < n := by
  apply Int.not_le.mp
  intro hn
  have : bt T n e = -1 := if_neg (by omega)
  omega
theorem p3_ok {T : Int → Int} {n i b : Int} (hb : 0 ≤ b) (hi : 0 ≤ i ∧ i ≤ 14) (h : (p3 (bt T n) i b).1 = -1) : goodI (p3 (bt T n) i b).2.1 (p3 (bt T n) i b).2.2.1 (p3 (bt T n) i b).2.2.2.1 ∧ b + 2 ≤ (p3 (bt T n) i b).2.2.2.2 ∧ (p3 (bt T n) i b).2.2.2.2 ≤ n := by
  unfold p3 at h ⊢
  by_cases c : bt T n b = 61
  · rw [if_pos c] at h ⊢
    by_cases c2 : nd (bt T n) 4 (b + 1) = 0 ∨ nv (bt T n) 4 (b + 1) 0 < loOf i ∨ hiOf i < nv (bt T n) 4 (b + 1) 0
    · rw [if_pos c2] at h
      exact absurd h (by dsimp only; omega)
    · rw [if_neg c2] at h ⊢
      have hn1 := bt_lt hb c (by omega)
      have h2 := nd_bt (T := T) (n := n) 4 (b + 1) (by omega) (by omega)
      have h3 := p4_ok (by omega) h2 h
      obtain ⟨e1, e2, e3, e4, e5, e6⟩ := h3
      rw [e1, e2]
      unfold goodI
      omega
  · rw [if_neg c] at h
    exact absurd h (by dsimp only; omega)
theorem itmOf_r (b : Int) : itmOf b = -1 ∨ (0 ≤ itmOf b ∧ itmOf b ≤ 14 ∧ ((itmOf b = 6 ∨ itmOf b = 10) ∨ ¬ (itmOf b = 6 ∨ itmOf b = 10))) := by
  unfold itmOf
  (repeat' split) <;> omega
theorem pp_ok {T : Int → Int} {n a : Int} (ha : 0 ≤ a) (h : (pp (bt T n) a).1 = -1) : goodI (pp (bt T n) a).2.1 (pp (bt T n) a).2.2.1 (pp (bt T n) a).2.2.2.1 ∧ a + 3 ≤ (pp (bt T n) a).2.2.2.2 ∧ (pp (bt T n) a).2.2.2.2 ≤ n := by
  unfold pp at h ⊢
  by_cases c : itmOf (bt T n a) = -1
  · rw [if_pos c] at h
    exact absurd h (by dsimp only; omega)
  · rw [if_neg c] at h ⊢
    have hr := itmOf_r (bt T n a)
    generalize itmOf (bt T n a) = i at *
    unfold p2 at h ⊢
    by_cases c1 : i = 6 ∨ i = 10
    · rw [if_pos c1] at h ⊢
      by_cases c2 : 48 ≤ bt T n (a + 1) ∧ bt T n (a + 1) ≤ 51
      · rw [if_pos c2] at h ⊢
        have := p3_ok (T := T) (n := n) (by omega) (by omega) h
        exact ⟨this.1, by omega, this.2.2⟩
      · rw [if_neg c2] at h
        exact absurd h (by dsimp only; omega)
    · rw [if_neg c1] at h ⊢
      have := p3_ok (T := T) (n := n) (by omega) (by omega) h
      exact ⟨this.1, by omega, this.2.2⟩
theorem p4_f {T : Int → Int} {n i v e : Int} (he : 0 ≤ e) (hn : e ≤ n) : (p4 (bt T n) i v e).1 = -1 ∨ (0 ≤ (p4 (bt T n) i v e).1 ∧ (p4 (bt T n) i v e).1 ≤ n) := by
  unfold p4
  by_cases c : bt T n e = 64
  · have hn1 := bt_lt he c (by omega)
    rw [if_pos c]
    split
    · exact Or.inr ⟨by dsimp only; omega, by dsimp only; omega⟩
    · exact Or.inl rfl
  · rw [if_neg c]
    exact Or.inl rfl
theorem p3_f {T : Int → Int} {n i b : Int} (hb : 0 ≤ b) (hn : b ≤ n) : (p3 (bt T n) i b).1 = -1 ∨ (0 ≤ (p3 (bt T n) i b).1 ∧ (p3 (bt T n) i b).1 ≤ n) := by
  unfold p3
  by_cases c : bt T n b = 61
  · have hn1 := bt_lt hb c (by omega)
    rw [if_pos c]
    split
    · exact Or.inr ⟨by dsimp only; omega, by dsimp only; omega⟩
    · exact p4_f (by omega) (nd_bt (T := T) (n := n) 4 (b + 1) (by omega) (by omega))
  · rw [if_neg c]
    exact Or.inr ⟨hb, hn⟩
theorem pp_f {T : Int → Int} {n a : Int} (ha : 0 ≤ a) (hn : a ≤ n) : (pp (bt T n) a).1 = -1 ∨ (0 ≤ (pp (bt T n) a).1 ∧ (pp (bt T n) a).1 ≤ n) := by
  unfold pp
  by_cases c : itmOf (bt T n a) = -1
  · rw [if_pos c]
    exact Or.inr ⟨ha, hn⟩
  · rw [if_neg c]
    have hn1 : a < n := by
      apply Int.not_le.mp
      intro hn
      have : bt T n a = -1 := if_neg (by omega)
      rw [this] at c
      exact c (by decide)
    generalize itmOf (bt T n a) = i at *
    unfold p2
    by_cases c1 : i = 6 ∨ i = 10
    · rw [if_pos c1]
      by_cases c2 : 48 ≤ bt T n (a + 1) ∧ bt T n (a + 1) ≤ 51
      · rw [if_pos c2]
        have : a + 1 < n := bt_lt (x := bt T n (a + 1)) (by omega) rfl (by omega)
        exact p3_f (by omega) (by omega)
      · rw [if_neg c2]
        exact Or.inr ⟨by dsimp only; omega, by dsimp only; omega⟩
    · rw [if_neg c1]
      exact p3_f (by omega) (by omega)
/-! the class's state of the text, told by the reference's text -/
def Rpt (u tx it nu fr rt : Int → Int) (ty : Int) : Prop :=
  u 1 = ty ∧ 0 ≤ ty ∧ ty ≤ 200 ∧ (∀ i, 0 ≤ i → i < ty → tx i = rt i ∧ 0 ≤ rt i ∧ rt i ≤ 255) ∧ 0 ≤ u 8 ∧ 4 * u 8 ≤ u 9 ∧ u 9 ≤ ty ∧
  (∃ pos : Int → Int, pos 0 = 0 ∧ pos (u 8) = u 9 ∧ ∀ k, 0 ≤ k → k < u 8 → 0 ≤ pos k ∧ pos (k + 1) ≤ ty ∧ pp (bt rt ty) (pos k) = (-1, it k, nu k, fr k, pos (k + 1) - 1) ∧ bt rt ty (pos (k + 1) - 1) = 59) ∧
  ((u 2 = -1 ∧ pp (bt rt ty) (u 9) = (-1, it (u 8), nu (u 8), fr (u 8), ty)) ∨ (0 ≤ u 2 ∧ (((pp (bt rt ty) (u 9)).1 = u 2) ∨ ((pp (bt rt ty) (u 9)).1 = -1 ∧ (pp (bt rt ty) (u 9)).2.2.2.2 = u 2 ∧ u 2 < ty ∧ bt rt ty (u 2) ≠ 59))))
def DCr (M : XM) : Prop := Rpt (M 22) (M 23) (M 26) (M 27) (M 28) (M 104) (M 81 31)
/-! ===== the maths: what the F_ say, in numbers ===== -/
theorem st_fn (M : XM) (k : Nat) (j v : Int) (a : Nat) : st M k j v a = if a = k then (fun b => if b = j then v else M k b) else M a := by
  unfold st
  by_cases h : a = k
  · rw [if_pos h]
  · rw [if_neg h]
theorem sl_ap (L : XL) (i : Nat) (v : Int) (a : Nat) : sl L i v a = if a = i then v else L a := rfl
theorem iAdd_id {x y : Int} (h1 : -2147483648 ≤ x + y) (h2 : x + y < 2147483648) : iAdd x y = x + y := x32_id ⟨h1, h2⟩
theorem iSub_id {x y : Int} (h1 : -2147483648 ≤ x - y) (h2 : x - y < 2147483648) : iSub x y = x - y := x32_id ⟨h1, h2⟩
theorem iMul_id {x y : Int} (h1 : -2147483648 ≤ x * y) (h2 : x * y < 2147483648) : iMul x y = x * y := x32_id ⟨h1, h2⟩
theorem lAdd_id {x y : Int} (h1 : -9223372036854775808 ≤ x + y) (h2 : x + y < 9223372036854775808) : lAdd x y = x + y := x64_id ⟨h1, h2⟩
theorem lSub_id {x y : Int} (h1 : -9223372036854775808 ≤ x - y) (h2 : x - y < 9223372036854775808) : lSub x y = x - y := x64_id ⟨h1, h2⟩
theorem lMul_id {x y : Int} (h1 : -9223372036854775808 ≤ x * y) (h2 : x * y < 9223372036854775808) : lMul x y = x * y := x64_id ⟨h1, h2⟩
theorem b01_ne (P : Prop) [Decidable P] : ((if P then (1 : Int) else 0) ≠ 0) ↔ P := by by_cases h : P <;> simp [h]
theorem b01_eq (P : Prop) [Decidable P] : ((if P then (1 : Int) else 0) = 0) ↔ ¬ P := by by_cases h : P <;> simp [h]
theorem b01_or (P : Prop) [Decidable P] : ((if P then (1 : Int) else 0) = 0 ∨ (if P then (1 : Int) else 0) = 1) ↔ True := by by_cases h : P <;> simp [h]
theorem wp_and {A P X Y : Prop} : ((A → (P → Y) ∧ (¬P → X)) ∧ (¬A → X)) ↔ ((A ∧ P → Y) ∧ (¬(A ∧ P) → X)) :=
  ⟨fun h => ⟨fun q => (h.1 q.1).1 q.2, fun q => by
    by_cases a : A
    · exact (h.1 a).2 fun p => q ⟨a, p⟩
    · exact h.2 a⟩, fun h => ⟨fun a => ⟨fun p => h.1 ⟨a, p⟩, fun p => h.2 fun q => p q.2⟩, fun a => h.2 fun q => a q.1⟩⟩
theorem wp_or {A P X Y : Prop} : ((A → X) ∧ (¬A → (P → X) ∧ (¬P → Y))) ↔ ((A ∨ P → X) ∧ (¬(A ∨ P) → Y)) :=
  ⟨fun h => ⟨fun q => by
    by_cases a : A
    · exact h.1 a
    · exact (h.2 a).1 (q.resolve_left a), fun q => (h.2 fun a => q (Or.inl a)).2 fun p => q (Or.inr p)⟩, fun h => ⟨fun a => h.1 (Or.inl a), fun a => ⟨fun p => h.1 (Or.inr p), fun p => h.2 fun q => q.elim a p⟩⟩⟩
/-! the data: d has the reference's numbers. DC: the class's cells hold it; DR: the reference's do; V: it is as the acts leave it -/
def emptiesTo (e : Int → Int) : Nat → Int
  | 0 => 0
  | n + 1 => emptiesTo e n + if e (n : Int) = -1 then 0 else 1
def DCt (M d : XM) : Prop := M 2 0 = d 81 5 ∧ M 3 = d 86 ∧ M 2 2 = d 81 7 ∧ M 4 = d 87 ∧ M 5 = d 88 ∧ M 6 = d 89 ∧ M 2 6 = d 81 11 ∧ M 7 = d 90 ∧ M 8 = d 91 ∧ M 9 = d 92 ∧ M 10 = d 93 ∧ M 11 = d 94 ∧ M 12 = d 95 ∧ M 2 12 = emptiesTo (d 95) 832
def DCl (M d : XM) : Prop := M 13 0 = d 81 19 ∧ M 13 1 = d 81 18 ∧ M 13 2 = d 81 28 ∧ M 14 = d 96 ∧ M 15 = d 97 ∧ M 16 = d 98 ∧ M 17 = d 99 ∧ M 18 = d 100 ∧ M 19 = d 101 ∧ M 20 = d 102 ∧ M 21 = d 103
def Vt (d : XM) : Prop := (0 ≤ d 81 5 ∧ d 81 5 ≤ 12) ∧ (0 ≤ d 81 7 ∧ d 81 7 ≤ 24) ∧ (0 ≤ d 81 11 ∧ d 81 11 ≤ 16) ∧ (∀ t, 0 ≤ t → t < d 81 5 → 0 ≤ d 86 t ∧ d 86 t ≤ 51) ∧ (∀ t, 0 ≤ t → t < d 81 7 → 0 ≤ d 87 t ∧ d 87 t < d 81 5 ∧ 0 ≤ d 88 t ∧ d 88 t ≤ 3 ∧ 0 ≤ d 89 t ∧ d 89 t ≤ 1000000) ∧ (∀ s, 0 ≤ s → s < d 81 11 → 0 ≤ d 90 s ∧ d 90 s ≤ 3 ∧ 1 ≤ d 91 s ∧ d 91 s ≤ 100 ∧ 0 ≤ d 92 s ∧ d 92 s ≤ d 93 s ∧ d 93 s ≤ 51 ∧ 0 ≤ d 94 s ∧ d 94 s ≤ 1000)
def Vl (d : XM) : Prop := (0 ≤ d 81 19 ∧ d 81 19 ≤ 150) ∧ (0 ≤ d 81 18 ∧ d 81 18 ≤ 51) ∧ (∀ k, 0 ≤ k → k < d 81 19 → 0 ≤ d 96 k ∧ d 96 k < d 81 11 ∧ 0 ≤ d 97 k ∧ d 97 k < d 81 7 ∧ 0 ≤ d 98 k ∧ d 98 k ≤ 51 ∧ 0 ≤ d 99 k ∧ d 99 k ≤ 167 ∧ 1 ≤ d 100 k ∧ d 100 k ≤ 100000 ∧ 0 ≤ d 101 k ∧ d 101 k ≤ 3 ∧ d 98 k ≤ d 102 k ∧ d 102 k ≤ 51)
def SheetsRel (r0 r1 r2 r3 len mo m s it : Int → Int) : Prop := ∀ q, 0 ≤ q → q ≤ 3 → (m q = -1 ∧ len q = -1 ∧ 0 ≤ s q ∧ s q ≤ 120) ∨ (0 ≤ m q ∧ m q ≤ 3 ∧ 0 ≤ s q ∧ s q ≤ 120 ∧ len q = s q ∧ mo q = m q ∧ ∀ i, 0 ≤ i → i < s q → (if q = 0 then r0 else if q = 1 then r1 else if q = 2 then r2 else r3) i = it (120 * q + i))
def DCs (M d : XM) : Prop := M 73 3 = d 81 4 ∧ SheetsRel (M 75) (M 76) (M 77) (M 78) (M 79) (M 80) (d 82) (d 83) (d 84)
def FW (Z M : XM) : Prop := ∀ k, (41 ≤ k ∧ k ≤ 66) ∨ 1000 ≤ k → M k = Z k
def Inv (Z M : XM) : Prop := DCt M M ∧ DCl M M ∧ DCs M M ∧ Vt M ∧ Vl M ∧ FW Z M ∧ M 81 28 = -1 ∧ M 81 29 = -1 ∧ DCr M
/-! tests -/
theorem F_M_within_iff {a b c : Int} {M : XM} {Q : Int → XM → Prop} : F_M_within a b c M Q ↔ Q (if b ≤ a ∧ a ≤ c then 1 else 0) M := by
  unfold F_M_within S_M_within
  simp only [sSeq, sSet, sInc, sPF, sPA, sPD, sOF, sOA, sX, sIf, sSkip, sRet, sRetB, sRetV, sSw, sSel, eK, eL, eR, eF, eA, eQ, eD, eU, eB, eV, eIf, ePF, eC0, eC1, eC2, eC3, eC4, eC5, eC6, eC7, cB, cZ, cAnd, cOr, cNot, i2l, st_fn, sl_ap, if_true, if_false, ↓reduceIte, reduceIte, Nat.reduceEqDiff, Int.reduceEq, Int.reduceLT, Int.reduceLE, Int.reduceAdd, Int.reduceSub, Int.reduceMul, Int.reduceNeg, and_true, true_and, not_true, not_false_eq_true, true_or, or_true, ne_eq]
  by_cases h1 : b ≤ a <;> by_cases h2 : a ≤ c <;> simp [h1, h2]
theorem F_R_in_iff {a b c : Int} {M : XM} {Q : Int → XM → Prop} : F_R_in a b c M Q ↔ Q (if b ≤ a ∧ a ≤ c then 1 else 0) M := by
  unfold F_R_in S_R_in
  simp only [sSeq, sSet, sInc, sPF, sPA, sPD, sOF, sOA, sX, sIf, sSkip, sRet, sRetB, sRetV, sSw, sSel, eK, eL, eR, eF, eA, eQ, eD, eU, eB, eV, eIf, ePF, eC0, eC1, eC2, eC3, eC4, eC5, eC6, eC7, cB, cZ, cAnd, cOr, cNot, i2l, st_fn, sl_ap, if_true, if_false, ↓reduceIte, reduceIte, Nat.reduceEqDiff, Int.reduceEq, Int.reduceLT, Int.reduceLE, Int.reduceAdd, Int.reduceSub, Int.reduceMul, Int.reduceNeg, and_true, true_and, not_true, not_false_eq_true, true_or, or_true, ne_eq]
  by_cases h1 : b ≤ a <;> by_cases h2 : a ≤ c <;> simp [h1, h2]
theorem F_M_isWeek_iff {a : Int} {M : XM} {Q : Int → XM → Prop} : F_M_isWeek a M Q ↔ Q (if 0 ≤ a ∧ a ≤ 51 then 1 else 0) M := by
  unfold F_M_isWeek S_M_isWeek
  simp only [sSeq, sSet, sInc, sPF, sPA, sPD, sOF, sOA, sX, sIf, sSkip, sRet, sRetB, sRetV, sSw, sSel, eK, eL, eR, eF, eA, eQ, eD, eU, eB, eV, eIf, ePF, eC0, eC1, eC2, eC3, eC4, eC5, eC6, eC7, cB, cZ, cAnd, cOr, cNot, i2l, st_fn, sl_ap, if_true, if_false, ↓reduceIte, reduceIte, Nat.reduceEqDiff, Int.reduceEq, Int.reduceLT, Int.reduceLE, Int.reduceAdd, Int.reduceSub, Int.reduceMul, Int.reduceNeg, and_true, true_and, not_true, not_false_eq_true, true_or, or_true, ne_eq, F_M_within_iff, b01_or]
theorem F_R_isWeek_iff {a : Int} {M : XM} {Q : Int → XM → Prop} : F_R_isWeek a M Q ↔ Q (if 0 ≤ a ∧ a ≤ 51 then 1 else 0) M := by
  unfold F_R_isWeek S_R_isWeek
  simp only [sSeq, sSet, sInc, sPF, sPA, sPD, sOF, sOA, sX, sIf, sSkip, sRet, sRetB, sRetV, sSw, sSel, eK, eL, eR, eF, eA, eQ, eD, eU, eB, eV, eIf, ePF, eC0, eC1, eC2, eC3, eC4, eC5, eC6, eC7, cB, cZ, cAnd, cOr, cNot, i2l, st_fn, sl_ap, if_true, if_false, ↓reduceIte, reduceIte, Nat.reduceEqDiff, Int.reduceEq, Int.reduceLT, Int.reduceLE, Int.reduceAdd, Int.reduceSub, Int.reduceMul, Int.reduceNeg, and_true, true_and, not_true, not_false_eq_true, true_or, or_true, ne_eq, F_R_in_iff, b01_or]
theorem F_Trade_isTitle_iff {a : Int} {M : XM} {Q : Int → XM → Prop} (h1 : 0 ≤ M 2 0) (h2 : M 2 0 ≤ 12) : F_Trade_isTitle a M Q ↔ Q (if 0 ≤ a ∧ a < M 2 0 then 1 else 0) M := by
  unfold F_Trade_isTitle S_Trade_isTitle
  simp (disch := omega) only [sSeq, sSet, sInc, sPF, sPA, sPD, sOF, sOA, sX, sIf, sSkip, sRet, sRetB, sRetV, sSw, sSel, eK, eL, eR, eF, eA, eQ, eD, eU, eB, eV, eIf, ePF, eC0, eC1, eC2, eC3, eC4, eC5, eC6, eC7, cB, cZ, cAnd, cOr, cNot, i2l, st_fn, sl_ap, if_true, if_false, ↓reduceIte, reduceIte, Nat.reduceEqDiff, Int.reduceEq, Int.reduceLT, Int.reduceLE, Int.reduceAdd, Int.reduceSub, Int.reduceMul, Int.reduceNeg, and_true, true_and, not_true, not_false_eq_true, true_or, or_true, ne_eq, F_M_within_iff, b01_or, iSub_id, Int.le_sub_one_iff]
theorem F_Trade_isThing_iff {a : Int} {M : XM} {Q : Int → XM → Prop} (h1 : 0 ≤ M 2 2) (h2 : M 2 2 ≤ 24) : F_Trade_isThing a M Q ↔ Q (if 0 ≤ a ∧ a < M 2 2 then 1 else 0) M := by
  unfold F_Trade_isThing S_Trade_isThing
  simp (disch := omega) only [sSeq, sSet, sInc, sPF, sPA, sPD, sOF, sOA, sX, sIf, sSkip, sRet, sRetB, sRetV, sSw, sSel, eK, eL, eR, eF, eA, eQ, eD, eU, eB, eV, eIf, ePF, eC0, eC1, eC2, eC3, eC4, eC5, eC6, eC7, cB, cZ, cAnd, cOr, cNot, i2l, st_fn, sl_ap, if_true, if_false, ↓reduceIte, reduceIte, Nat.reduceEqDiff, Int.reduceEq, Int.reduceLT, Int.reduceLE, Int.reduceAdd, Int.reduceSub, Int.reduceMul, Int.reduceNeg, and_true, true_and, not_true, not_false_eq_true, true_or, or_true, ne_eq, F_M_within_iff, b01_or, iSub_id, Int.le_sub_one_iff]
theorem F_Trade_isShop_iff {a : Int} {M : XM} {Q : Int → XM → Prop} (h1 : 0 ≤ M 2 6) (h2 : M 2 6 ≤ 16) : F_Trade_isShop a M Q ↔ Q (if 0 ≤ a ∧ a < M 2 6 then 1 else 0) M := by
  unfold F_Trade_isShop S_Trade_isShop
  simp (disch := omega) only [sSeq, sSet, sInc, sPF, sPA, sPD, sOF, sOA, sX, sIf, sSkip, sRet, sRetB, sRetV, sSw, sSel, eK, eL, eR, eF, eA, eQ, eD, eU, eB, eV, eIf, ePF, eC0, eC1, eC2, eC3, eC4, eC5, eC6, eC7, cB, cZ, cAnd, cOr, cNot, i2l, st_fn, sl_ap, if_true, if_false, ↓reduceIte, reduceIte, Nat.reduceEqDiff, Int.reduceEq, Int.reduceLT, Int.reduceLE, Int.reduceAdd, Int.reduceSub, Int.reduceMul, Int.reduceNeg, and_true, true_and, not_true, not_false_eq_true, true_or, or_true, ne_eq, F_M_within_iff, b01_or, iSub_id, Int.le_sub_one_iff]
theorem F_Ledger_isSale_iff {a : Int} {M : XM} {Q : Int → XM → Prop} (h1 : 0 ≤ M 13 0) (h2 : M 13 0 ≤ 150) : F_Ledger_isSale a M Q ↔ Q (if 0 ≤ a ∧ a < M 13 0 then 1 else 0) M := by
  unfold F_Ledger_isSale S_Ledger_isSale
  simp (disch := omega) only [sSeq, sSet, sInc, sPF, sPA, sPD, sOF, sOA, sX, sIf, sSkip, sRet, sRetB, sRetV, sSw, sSel, eK, eL, eR, eF, eA, eQ, eD, eU, eB, eV, eIf, ePF, eC0, eC1, eC2, eC3, eC4, eC5, eC6, eC7, cB, cZ, cAnd, cOr, cNot, i2l, st_fn, sl_ap, if_true, if_false, ↓reduceIte, reduceIte, Nat.reduceEqDiff, Int.reduceEq, Int.reduceLT, Int.reduceLE, Int.reduceAdd, Int.reduceSub, Int.reduceMul, Int.reduceNeg, and_true, true_and, not_true, not_false_eq_true, true_or, or_true, ne_eq, F_M_within_iff, b01_or, iSub_id, Int.le_sub_one_iff]
theorem F_R_isTitle_iff {a : Int} {M : XM} {Q : Int → XM → Prop} (h1 : 0 ≤ M 81 5) (h2 : M 81 5 ≤ 12) : F_R_isTitle a M Q ↔ Q (if 0 ≤ a ∧ a < M 81 5 then 1 else 0) M := by
  unfold F_R_isTitle S_R_isTitle
  simp (disch := omega) only [sSeq, sSet, sInc, sPF, sPA, sPD, sOF, sOA, sX, sIf, sSkip, sRet, sRetB, sRetV, sSw, sSel, eK, eL, eR, eF, eA, eQ, eD, eU, eB, eV, eIf, ePF, eC0, eC1, eC2, eC3, eC4, eC5, eC6, eC7, cB, cZ, cAnd, cOr, cNot, i2l, st_fn, sl_ap, if_true, if_false, ↓reduceIte, reduceIte, Nat.reduceEqDiff, Int.reduceEq, Int.reduceLT, Int.reduceLE, Int.reduceAdd, Int.reduceSub, Int.reduceMul, Int.reduceNeg, and_true, true_and, not_true, not_false_eq_true, true_or, or_true, ne_eq, F_R_in_iff, b01_or, iSub_id, Int.le_sub_one_iff]
theorem F_R_isThing_iff {a : Int} {M : XM} {Q : Int → XM → Prop} (h1 : 0 ≤ M 81 7) (h2 : M 81 7 ≤ 24) : F_R_isThing a M Q ↔ Q (if 0 ≤ a ∧ a < M 81 7 then 1 else 0) M := by
  unfold F_R_isThing S_R_isThing
  simp (disch := omega) only [sSeq, sSet, sInc, sPF, sPA, sPD, sOF, sOA, sX, sIf, sSkip, sRet, sRetB, sRetV, sSw, sSel, eK, eL, eR, eF, eA, eQ, eD, eU, eB, eV, eIf, ePF, eC0, eC1, eC2, eC3, eC4, eC5, eC6, eC7, cB, cZ, cAnd, cOr, cNot, i2l, st_fn, sl_ap, if_true, if_false, ↓reduceIte, reduceIte, Nat.reduceEqDiff, Int.reduceEq, Int.reduceLT, Int.reduceLE, Int.reduceAdd, Int.reduceSub, Int.reduceMul, Int.reduceNeg, and_true, true_and, not_true, not_false_eq_true, true_or, or_true, ne_eq, F_R_in_iff, b01_or, iSub_id, Int.le_sub_one_iff]
theorem F_R_isShop_iff {a : Int} {M : XM} {Q : Int → XM → Prop} (h1 : 0 ≤ M 81 11) (h2 : M 81 11 ≤ 16) : F_R_isShop a M Q ↔ Q (if 0 ≤ a ∧ a < M 81 11 then 1 else 0) M := by
  unfold F_R_isShop S_R_isShop
  simp (disch := omega) only [sSeq, sSet, sInc, sPF, sPA, sPD, sOF, sOA, sX, sIf, sSkip, sRet, sRetB, sRetV, sSw, sSel, eK, eL, eR, eF, eA, eQ, eD, eU, eB, eV, eIf, ePF, eC0, eC1, eC2, eC3, eC4, eC5, eC6, eC7, cB, cZ, cAnd, cOr, cNot, i2l, st_fn, sl_ap, if_true, if_false, ↓reduceIte, reduceIte, Nat.reduceEqDiff, Int.reduceEq, Int.reduceLT, Int.reduceLE, Int.reduceAdd, Int.reduceSub, Int.reduceMul, Int.reduceNeg, and_true, true_and, not_true, not_false_eq_true, true_or, or_true, ne_eq, F_R_in_iff, b01_or, iSub_id, Int.le_sub_one_iff]
theorem F_R_hasSale_iff {a : Int} {M : XM} {Q : Int → XM → Prop} (h1 : 0 ≤ M 81 19) (h2 : M 81 19 ≤ 150) : F_R_hasSale a M Q ↔ Q (if 0 ≤ a ∧ a < M 81 19 then 1 else 0) M := by
  unfold F_R_hasSale S_R_hasSale
  simp (disch := omega) only [sSeq, sSet, sInc, sPF, sPA, sPD, sOF, sOA, sX, sIf, sSkip, sRet, sRetB, sRetV, sSw, sSel, eK, eL, eR, eF, eA, eQ, eD, eU, eB, eV, eIf, ePF, eC0, eC1, eC2, eC3, eC4, eC5, eC6, eC7, cB, cZ, cAnd, cOr, cNot, i2l, st_fn, sl_ap, if_true, if_false, ↓reduceIte, reduceIte, Nat.reduceEqDiff, Int.reduceEq, Int.reduceLT, Int.reduceLE, Int.reduceAdd, Int.reduceSub, Int.reduceMul, Int.reduceNeg, and_true, true_and, not_true, not_false_eq_true, true_or, or_true, ne_eq, F_R_in_iff, b01_or, iSub_id, Int.le_sub_one_iff]
/-! the acts that only set down -/
set_option maxHeartbeats 1000000 in
theorem ok_title {Z M : XM} (h : Inv Z M) (x1 : Int) : F_M_title x1 M (fun v M1 => F_R_title x1 M1 (fun w M2 => v = w ∧ Inv Z M2)) := by
  obtain ⟨⟨h1, h2, h3, h4, h5, h6, h7, h8, h9, h10, h11, h12, h13, h14⟩, ⟨l1, l2, l3, l4, l5, l6, l7, l8, l9, l10, l11⟩, ⟨s1, s2⟩, ⟨v1, v2, v3, v4, v5, v6⟩, ⟨w1, w2, w3⟩, hF, m1, m2, m3⟩ := id h
  unfold F_M_title S_M_title F_Trade_addTitle S_Trade_addTitle F_R_title S_R_title
  simp (disch := first | omega | (simp only [st_fn, Nat.reduceEqDiff, ↓reduceIte, reduceIte, Int.reduceEq, if_true, if_false]; omega)) only [sSeq, sSet, sInc, sPF, sPA, sPD, sOF, sOA, sX, sIf, sSkip, sRet, sRetB, sRetV, sSw, sSel, eK, eL, eR, eF, eA, eQ, eD, eU, eB, eV, eIf, ePF, eC0, eC1, eC2, eC3, eC4, eC5, eC6, eC7, cB, cZ, cAnd, cOr, cNot, i2l, st_fn, sl_ap, if_true, if_false, ↓reduceIte, reduceIte, Nat.reduceEqDiff, Int.reduceEq, Int.reduceLT, Int.reduceLE, Int.reduceAdd, Int.reduceSub, Int.reduceMul, Int.reduceNeg, and_true, true_and, not_true, not_false_eq_true, true_or, or_true, ne_eq, F_M_isWeek_iff, F_R_isWeek_iff, F_M_within_iff, F_R_in_iff, F_Trade_isTitle_iff, F_Trade_isThing_iff, F_Trade_isShop_iff, F_Ledger_isSale_iff, F_R_isTitle_iff, F_R_isThing_iff, F_R_isShop_iff, F_R_hasSale_iff, b01_ne, iAdd_id, iSub_id, h1, h2, h3, h4, h5, h6, h7, h8, h9, h10, h11, h12, h13, h14, l1, l2, l3, l4, l5, l6, l7, l8, l9, l10, l11, s1]
  repeat' (first | (with_reducible intro _) | (with_reducible refine And.intro ?_ ?_))
  all_goals first
    | exact h
    | omega
    | (exfalso; omega)
    | skip
  all_goals (
    refine ⟨?_, ?_, ?_, ?_, ?_, ?_, ?_, ?_, ?_⟩
    · unfold DCt
      simp only [st_fn, Nat.reduceEqDiff, ↓reduceIte, reduceIte, Int.reduceEq, if_true, if_false, true_and, and_true, and_self, h1, h2, h3, h4, h5, h6, h7, h8, h9, h10, h11, h12, h13, h14, l1, l2, l3, l4, l5, l6, l7, l8, l9, l10, l11, s1]
    · unfold DCl
      simp only [st_fn, Nat.reduceEqDiff, ↓reduceIte, reduceIte, Int.reduceEq, if_true, if_false, true_and, and_true, and_self, h1, h2, h3, h4, h5, h6, h7, h8, h9, h10, h11, h12, h13, h14, l1, l2, l3, l4, l5, l6, l7, l8, l9, l10, l11, s1]
    · unfold DCs
      simp only [st_fn, Nat.reduceEqDiff, ↓reduceIte, reduceIte, Int.reduceEq, if_true, if_false, true_and, and_true, and_self, h1, h2, h3, h4, h5, h6, h7, h8, h9, h10, h11, h12, h13, h14, l1, l2, l3, l4, l5, l6, l7, l8, l9, l10, l11, s1]
      exact s2
    · unfold Vt
      simp only [st_fn, Nat.reduceEqDiff, ↓reduceIte, reduceIte, Int.reduceEq, if_true, if_false, true_and, and_true, and_self, h1, h2, h3, h4, h5, h6, h7, h8, h9, h10, h11, h12, h13, h14, l1, l2, l3, l4, l5, l6, l7, l8, l9, l10, l11, s1]
      exact ⟨by omega, by omega, by omega, fun t a b => by have e := v4 t a; (repeat' split) <;> omega, fun t a b => by have e := v5 t a; (repeat' split) <;> omega, fun t a b => by have e := v6 t a; (repeat' split) <;> omega⟩
    · unfold Vl
      simp only [st_fn, Nat.reduceEqDiff, ↓reduceIte, reduceIte, Int.reduceEq, if_true, if_false, true_and, and_true, and_self, h1, h2, h3, h4, h5, h6, h7, h8, h9, h10, h11, h12, h13, h14, l1, l2, l3, l4, l5, l6, l7, l8, l9, l10, l11, s1]
      exact ⟨by omega, by omega, fun t a b => by have e := w3 t a; (repeat' split) <;> omega⟩
    · intro k hk
      simp only [st_fn]
      repeat rw [if_neg (by omega)]
      exact hF k hk
    · simp only [st_fn, Nat.reduceEqDiff, ↓reduceIte, reduceIte, Int.reduceEq, if_true, if_false, true_and, and_true, and_self]
      exact m1
    · simp only [st_fn, Nat.reduceEqDiff, ↓reduceIte, reduceIte, Int.reduceEq, if_true, if_false, true_and, and_true, and_self]
      exact m2
    · unfold DCr at m3 ⊢
      simp only [st_fn, Nat.reduceEqDiff, ↓reduceIte, reduceIte, Int.reduceEq, if_true, if_false, true_and, and_true, and_self]
      exact m3)
set_option maxHeartbeats 1000000 in
theorem ok_thing {Z M : XM} (h : Inv Z M) (x1 x2 x3 : Int) : F_M_thing x1 x2 x3 M (fun v M1 => F_R_thing x1 x2 x3 M1 (fun w M2 => v = w ∧ Inv Z M2)) := by
  obtain ⟨⟨h1, h2, h3, h4, h5, h6, h7, h8, h9, h10, h11, h12, h13, h14⟩, ⟨l1, l2, l3, l4, l5, l6, l7, l8, l9, l10, l11⟩, ⟨s1, s2⟩, ⟨v1, v2, v3, v4, v5, v6⟩, ⟨w1, w2, w3⟩, hF, m1, m2, m3⟩ := id h
  unfold F_M_thing S_M_thing F_Trade_addThing S_Trade_addThing F_R_thing S_R_thing
  simp (disch := first | omega | (simp only [st_fn, Nat.reduceEqDiff, ↓reduceIte, reduceIte, Int.reduceEq, if_true, if_false]; omega)) only [sSeq, sSet, sInc, sPF, sPA, sPD, sOF, sOA, sX, sIf, sSkip, sRet, sRetB, sRetV, sSw, sSel, eK, eL, eR, eF, eA, eQ, eD, eU, eB, eV, eIf, ePF, eC0, eC1, eC2, eC3, eC4, eC5, eC6, eC7, cB, cZ, cAnd, cOr, cNot, i2l, st_fn, sl_ap, if_true, if_false, ↓reduceIte, reduceIte, Nat.reduceEqDiff, Int.reduceEq, Int.reduceLT, Int.reduceLE, Int.reduceAdd, Int.reduceSub, Int.reduceMul, Int.reduceNeg, and_true, true_and, not_true, not_false_eq_true, true_or, or_true, ne_eq, F_M_isWeek_iff, F_R_isWeek_iff, F_M_within_iff, F_R_in_iff, F_Trade_isTitle_iff, F_Trade_isThing_iff, F_Trade_isShop_iff, F_Ledger_isSale_iff, F_R_isTitle_iff, F_R_isThing_iff, F_R_isShop_iff, F_R_hasSale_iff, b01_ne, iAdd_id, iSub_id, h1, h2, h3, h4, h5, h6, h7, h8, h9, h10, h11, h12, h13, h14, l1, l2, l3, l4, l5, l6, l7, l8, l9, l10, l11, s1]
  repeat' (first | (with_reducible intro _) | (with_reducible refine And.intro ?_ ?_))
  all_goals first
    | exact h
    | omega
    | (exfalso; omega)
    | skip
  all_goals (
    refine ⟨?_, ?_, ?_, ?_, ?_, ?_, ?_, ?_, ?_⟩
    · unfold DCt
      simp only [st_fn, Nat.reduceEqDiff, ↓reduceIte, reduceIte, Int.reduceEq, if_true, if_false, true_and, and_true, and_self, h1, h2, h3, h4, h5, h6, h7, h8, h9, h10, h11, h12, h13, h14, l1, l2, l3, l4, l5, l6, l7, l8, l9, l10, l11, s1]
    · unfold DCl
      simp only [st_fn, Nat.reduceEqDiff, ↓reduceIte, reduceIte, Int.reduceEq, if_true, if_false, true_and, and_true, and_self, h1, h2, h3, h4, h5, h6, h7, h8, h9, h10, h11, h12, h13, h14, l1, l2, l3, l4, l5, l6, l7, l8, l9, l10, l11, s1]
    · unfold DCs
      simp only [st_fn, Nat.reduceEqDiff, ↓reduceIte, reduceIte, Int.reduceEq, if_true, if_false, true_and, and_true, and_self, h1, h2, h3, h4, h5, h6, h7, h8, h9, h10, h11, h12, h13, h14, l1, l2, l3, l4, l5, l6, l7, l8, l9, l10, l11, s1]
      exact s2
    · unfold Vt
      simp only [st_fn, Nat.reduceEqDiff, ↓reduceIte, reduceIte, Int.reduceEq, if_true, if_false, true_and, and_true, and_self, h1, h2, h3, h4, h5, h6, h7, h8, h9, h10, h11, h12, h13, h14, l1, l2, l3, l4, l5, l6, l7, l8, l9, l10, l11, s1]
      exact ⟨by omega, by omega, by omega, fun t a b => by have e := v4 t a; (repeat' split) <;> omega, fun t a b => by have e := v5 t a; (repeat' split) <;> omega, fun t a b => by have e := v6 t a; (repeat' split) <;> omega⟩
    · unfold Vl
      simp only [st_fn, Nat.reduceEqDiff, ↓reduceIte, reduceIte, Int.reduceEq, if_true, if_false, true_and, and_true, and_self, h1, h2, h3, h4, h5, h6, h7, h8, h9, h10, h11, h12, h13, h14, l1, l2, l3, l4, l5, l6, l7, l8, l9, l10, l11, s1]
      exact ⟨by omega, by omega, fun t a b => by have e := w3 t a; (repeat' split) <;> omega⟩
    · intro k hk
      simp only [st_fn]
      repeat rw [if_neg (by omega)]
      exact hF k hk
    · simp only [st_fn, Nat.reduceEqDiff, ↓reduceIte, reduceIte, Int.reduceEq, if_true, if_false, true_and, and_true, and_self]
      exact m1
    · simp only [st_fn, Nat.reduceEqDiff, ↓reduceIte, reduceIte, Int.reduceEq, if_true, if_false, true_and, and_true, and_self]
      exact m2
    · unfold DCr at m3 ⊢
      simp only [st_fn, Nat.reduceEqDiff, ↓reduceIte, reduceIte, Int.reduceEq, if_true, if_false, true_and, and_true, and_self]
      exact m3)
set_option maxHeartbeats 1000000 in
theorem ok_shop {Z M : XM} (h : Inv Z M) (x1 x2 x3 x4 : Int) : F_M_shop x1 x2 x3 x4 M (fun v M1 => F_R_shop x1 x2 x3 x4 M1 (fun w M2 => v = w ∧ Inv Z M2)) := by
  obtain ⟨⟨h1, h2, h3, h4, h5, h6, h7, h8, h9, h10, h11, h12, h13, h14⟩, ⟨l1, l2, l3, l4, l5, l6, l7, l8, l9, l10, l11⟩, ⟨s1, s2⟩, ⟨v1, v2, v3, v4, v5, v6⟩, ⟨w1, w2, w3⟩, hF, m1, m2, m3⟩ := id h
  unfold F_M_shop S_M_shop F_Trade_addShop S_Trade_addShop F_R_shop S_R_shop
  simp (disch := first | omega | (simp only [st_fn, Nat.reduceEqDiff, ↓reduceIte, reduceIte, Int.reduceEq, if_true, if_false]; omega)) only [sSeq, sSet, sInc, sPF, sPA, sPD, sOF, sOA, sX, sIf, sSkip, sRet, sRetB, sRetV, sSw, sSel, eK, eL, eR, eF, eA, eQ, eD, eU, eB, eV, eIf, ePF, eC0, eC1, eC2, eC3, eC4, eC5, eC6, eC7, cB, cZ, cAnd, cOr, cNot, i2l, st_fn, sl_ap, if_true, if_false, ↓reduceIte, reduceIte, Nat.reduceEqDiff, Int.reduceEq, Int.reduceLT, Int.reduceLE, Int.reduceAdd, Int.reduceSub, Int.reduceMul, Int.reduceNeg, and_true, true_and, not_true, not_false_eq_true, true_or, or_true, ne_eq, F_M_isWeek_iff, F_R_isWeek_iff, F_M_within_iff, F_R_in_iff, F_Trade_isTitle_iff, F_Trade_isThing_iff, F_Trade_isShop_iff, F_Ledger_isSale_iff, F_R_isTitle_iff, F_R_isThing_iff, F_R_isShop_iff, F_R_hasSale_iff, b01_ne, iAdd_id, iSub_id, h1, h2, h3, h4, h5, h6, h7, h8, h9, h10, h11, h12, h13, h14, l1, l2, l3, l4, l5, l6, l7, l8, l9, l10, l11, s1]
  repeat' (first | (with_reducible intro _) | (with_reducible refine And.intro ?_ ?_))
  all_goals first
    | exact h
    | omega
    | (exfalso; omega)
    | skip
  all_goals (
    refine ⟨?_, ?_, ?_, ?_, ?_, ?_, ?_, ?_, ?_⟩
    · unfold DCt
      simp only [st_fn, Nat.reduceEqDiff, ↓reduceIte, reduceIte, Int.reduceEq, if_true, if_false, true_and, and_true, and_self, h1, h2, h3, h4, h5, h6, h7, h8, h9, h10, h11, h12, h13, h14, l1, l2, l3, l4, l5, l6, l7, l8, l9, l10, l11, s1]
    · unfold DCl
      simp only [st_fn, Nat.reduceEqDiff, ↓reduceIte, reduceIte, Int.reduceEq, if_true, if_false, true_and, and_true, and_self, h1, h2, h3, h4, h5, h6, h7, h8, h9, h10, h11, h12, h13, h14, l1, l2, l3, l4, l5, l6, l7, l8, l9, l10, l11, s1]
    · unfold DCs
      simp only [st_fn, Nat.reduceEqDiff, ↓reduceIte, reduceIte, Int.reduceEq, if_true, if_false, true_and, and_true, and_self, h1, h2, h3, h4, h5, h6, h7, h8, h9, h10, h11, h12, h13, h14, l1, l2, l3, l4, l5, l6, l7, l8, l9, l10, l11, s1]
      exact s2
    · unfold Vt
      simp only [st_fn, Nat.reduceEqDiff, ↓reduceIte, reduceIte, Int.reduceEq, if_true, if_false, true_and, and_true, and_self, h1, h2, h3, h4, h5, h6, h7, h8, h9, h10, h11, h12, h13, h14, l1, l2, l3, l4, l5, l6, l7, l8, l9, l10, l11, s1]
      exact ⟨by omega, by omega, by omega, fun t a b => by have e := v4 t a; (repeat' split) <;> omega, fun t a b => by have e := v5 t a; (repeat' split) <;> omega, fun t a b => by have e := v6 t a; (repeat' split) <;> omega⟩
    · unfold Vl
      simp only [st_fn, Nat.reduceEqDiff, ↓reduceIte, reduceIte, Int.reduceEq, if_true, if_false, true_and, and_true, and_self, h1, h2, h3, h4, h5, h6, h7, h8, h9, h10, h11, h12, h13, h14, l1, l2, l3, l4, l5, l6, l7, l8, l9, l10, l11, s1]
      exact ⟨by omega, by omega, fun t a b => by have e := w3 t a; (repeat' split) <;> omega⟩
    · intro k hk
      simp only [st_fn]
      repeat rw [if_neg (by omega)]
      exact hF k hk
    · simp only [st_fn, Nat.reduceEqDiff, ↓reduceIte, reduceIte, Int.reduceEq, if_true, if_false, true_and, and_true, and_self]
      exact m1
    · simp only [st_fn, Nat.reduceEqDiff, ↓reduceIte, reduceIte, Int.reduceEq, if_true, if_false, true_and, and_true, and_self]
      exact m2
    · unfold DCr at m3 ⊢
      simp only [st_fn, Nat.reduceEqDiff, ↓reduceIte, reduceIte, Int.reduceEq, if_true, if_false, true_and, and_true, and_self]
      exact m3)
set_option maxHeartbeats 1000000 in
theorem ok_coins {Z M : XM} (h : Inv Z M) (x1 x2 : Int) : F_M_coins x1 x2 M (fun v M1 => F_R_coins x1 x2 M1 (fun w M2 => v = w ∧ Inv Z M2)) := by
  obtain ⟨⟨h1, h2, h3, h4, h5, h6, h7, h8, h9, h10, h11, h12, h13, h14⟩, ⟨l1, l2, l3, l4, l5, l6, l7, l8, l9, l10, l11⟩, ⟨s1, s2⟩, ⟨v1, v2, v3, v4, v5, v6⟩, ⟨w1, w2, w3⟩, hF, m1, m2, m3⟩ := id h
  unfold F_M_coins S_M_coins  F_R_coins S_R_coins
  simp (disch := first | omega | (simp only [st_fn, Nat.reduceEqDiff, ↓reduceIte, reduceIte, Int.reduceEq, if_true, if_false]; omega)) only [sSeq, sSet, sInc, sPF, sPA, sPD, sOF, sOA, sX, sIf, sSkip, sRet, sRetB, sRetV, sSw, sSel, eK, eL, eR, eF, eA, eQ, eD, eU, eB, eV, eIf, ePF, eC0, eC1, eC2, eC3, eC4, eC5, eC6, eC7, cB, cZ, cAnd, cOr, cNot, i2l, st_fn, sl_ap, if_true, if_false, ↓reduceIte, reduceIte, Nat.reduceEqDiff, Int.reduceEq, Int.reduceLT, Int.reduceLE, Int.reduceAdd, Int.reduceSub, Int.reduceMul, Int.reduceNeg, and_true, true_and, not_true, not_false_eq_true, true_or, or_true, ne_eq, F_M_isWeek_iff, F_R_isWeek_iff, F_M_within_iff, F_R_in_iff, F_Trade_isTitle_iff, F_Trade_isThing_iff, F_Trade_isShop_iff, F_Ledger_isSale_iff, F_R_isTitle_iff, F_R_isThing_iff, F_R_isShop_iff, F_R_hasSale_iff, b01_ne, iAdd_id, iSub_id, h1, h2, h3, h4, h5, h6, h7, h8, h9, h10, h11, h12, h13, h14, l1, l2, l3, l4, l5, l6, l7, l8, l9, l10, l11, s1]
  repeat' (first | (with_reducible intro _) | (with_reducible refine And.intro ?_ ?_))
  all_goals first
    | exact h
    | omega
    | (exfalso; omega)
    | skip
  all_goals (
    refine ⟨?_, ?_, ?_, ?_, ?_, ?_, ?_, ?_, ?_⟩
    · unfold DCt
      simp only [st_fn, Nat.reduceEqDiff, ↓reduceIte, reduceIte, Int.reduceEq, if_true, if_false, true_and, and_true, and_self, h1, h2, h3, h4, h5, h6, h7, h8, h9, h10, h11, h12, h13, h14, l1, l2, l3, l4, l5, l6, l7, l8, l9, l10, l11, s1]
    · unfold DCl
      simp only [st_fn, Nat.reduceEqDiff, ↓reduceIte, reduceIte, Int.reduceEq, if_true, if_false, true_and, and_true, and_self, h1, h2, h3, h4, h5, h6, h7, h8, h9, h10, h11, h12, h13, h14, l1, l2, l3, l4, l5, l6, l7, l8, l9, l10, l11, s1]
    · unfold DCs
      simp only [st_fn, Nat.reduceEqDiff, ↓reduceIte, reduceIte, Int.reduceEq, if_true, if_false, true_and, and_true, and_self, h1, h2, h3, h4, h5, h6, h7, h8, h9, h10, h11, h12, h13, h14, l1, l2, l3, l4, l5, l6, l7, l8, l9, l10, l11, s1]
      exact s2
    · unfold Vt
      simp only [st_fn, Nat.reduceEqDiff, ↓reduceIte, reduceIte, Int.reduceEq, if_true, if_false, true_and, and_true, and_self, h1, h2, h3, h4, h5, h6, h7, h8, h9, h10, h11, h12, h13, h14, l1, l2, l3, l4, l5, l6, l7, l8, l9, l10, l11, s1]
      exact ⟨by omega, by omega, by omega, fun t a b => by have e := v4 t a; (repeat' split) <;> omega, fun t a b => by have e := v5 t a; (repeat' split) <;> omega, fun t a b => by have e := v6 t a; (repeat' split) <;> omega⟩
    · unfold Vl
      simp only [st_fn, Nat.reduceEqDiff, ↓reduceIte, reduceIte, Int.reduceEq, if_true, if_false, true_and, and_true, and_self, h1, h2, h3, h4, h5, h6, h7, h8, h9, h10, h11, h12, h13, h14, l1, l2, l3, l4, l5, l6, l7, l8, l9, l10, l11, s1]
      exact ⟨by omega, by omega, fun t a b => by have e := w3 t a; (repeat' split) <;> omega⟩
    · intro k hk
      simp only [st_fn]
      repeat rw [if_neg (by omega)]
      exact hF k hk
    · simp only [st_fn, Nat.reduceEqDiff, ↓reduceIte, reduceIte, Int.reduceEq, if_true, if_false, true_and, and_true, and_self]
      exact m1
    · simp only [st_fn, Nat.reduceEqDiff, ↓reduceIte, reduceIte, Int.reduceEq, if_true, if_false, true_and, and_true, and_self]
      exact m2
    · unfold DCr at m3 ⊢
      simp only [st_fn, Nat.reduceEqDiff, ↓reduceIte, reduceIte, Int.reduceEq, if_true, if_false, true_and, and_true, and_self]
      exact m3)
set_option maxHeartbeats 1000000 in
theorem ok_strike {Z M : XM} (h : Inv Z M) (x1 x2 : Int) : F_M_strike x1 x2 M (fun v M1 => F_R_strike x1 x2 M1 (fun w M2 => v = w ∧ Inv Z M2)) := by
  obtain ⟨⟨h1, h2, h3, h4, h5, h6, h7, h8, h9, h10, h11, h12, h13, h14⟩, ⟨l1, l2, l3, l4, l5, l6, l7, l8, l9, l10, l11⟩, ⟨s1, s2⟩, ⟨v1, v2, v3, v4, v5, v6⟩, ⟨w1, w2, w3⟩, hF, m1, m2, m3⟩ := id h
  unfold F_M_strike S_M_strike  F_R_strike S_R_strike
  simp (disch := first | omega | (simp only [st_fn, Nat.reduceEqDiff, ↓reduceIte, reduceIte, Int.reduceEq, if_true, if_false]; omega)) only [sSeq, sSet, sInc, sPF, sPA, sPD, sOF, sOA, sX, sIf, sSkip, sRet, sRetB, sRetV, sSw, sSel, eK, eL, eR, eF, eA, eQ, eD, eU, eB, eV, eIf, ePF, eC0, eC1, eC2, eC3, eC4, eC5, eC6, eC7, cB, cZ, cAnd, cOr, cNot, i2l, st_fn, sl_ap, if_true, if_false, ↓reduceIte, reduceIte, Nat.reduceEqDiff, Int.reduceEq, Int.reduceLT, Int.reduceLE, Int.reduceAdd, Int.reduceSub, Int.reduceMul, Int.reduceNeg, and_true, true_and, not_true, not_false_eq_true, true_or, or_true, ne_eq, F_M_isWeek_iff, F_R_isWeek_iff, F_M_within_iff, F_R_in_iff, F_Trade_isTitle_iff, F_Trade_isThing_iff, F_Trade_isShop_iff, F_Ledger_isSale_iff, F_R_isTitle_iff, F_R_isThing_iff, F_R_isShop_iff, F_R_hasSale_iff, b01_ne, iAdd_id, iSub_id, h1, h2, h3, h4, h5, h6, h7, h8, h9, h10, h11, h12, h13, h14, l1, l2, l3, l4, l5, l6, l7, l8, l9, l10, l11, s1]
  repeat' (first | (with_reducible intro _) | (with_reducible refine And.intro ?_ ?_))
  all_goals first
    | exact h
    | omega
    | (exfalso; omega)
    | skip
  all_goals (
    refine ⟨?_, ?_, ?_, ?_, ?_, ?_, ?_, ?_, ?_⟩
    · unfold DCt
      simp only [st_fn, Nat.reduceEqDiff, ↓reduceIte, reduceIte, Int.reduceEq, if_true, if_false, true_and, and_true, and_self, h1, h2, h3, h4, h5, h6, h7, h8, h9, h10, h11, h12, h13, h14, l1, l2, l3, l4, l5, l6, l7, l8, l9, l10, l11, s1]
    · unfold DCl
      simp only [st_fn, Nat.reduceEqDiff, ↓reduceIte, reduceIte, Int.reduceEq, if_true, if_false, true_and, and_true, and_self, h1, h2, h3, h4, h5, h6, h7, h8, h9, h10, h11, h12, h13, h14, l1, l2, l3, l4, l5, l6, l7, l8, l9, l10, l11, s1]
    · unfold DCs
      simp only [st_fn, Nat.reduceEqDiff, ↓reduceIte, reduceIte, Int.reduceEq, if_true, if_false, true_and, and_true, and_self, h1, h2, h3, h4, h5, h6, h7, h8, h9, h10, h11, h12, h13, h14, l1, l2, l3, l4, l5, l6, l7, l8, l9, l10, l11, s1]
      exact s2
    · unfold Vt
      simp only [st_fn, Nat.reduceEqDiff, ↓reduceIte, reduceIte, Int.reduceEq, if_true, if_false, true_and, and_true, and_self, h1, h2, h3, h4, h5, h6, h7, h8, h9, h10, h11, h12, h13, h14, l1, l2, l3, l4, l5, l6, l7, l8, l9, l10, l11, s1]
      exact ⟨by omega, by omega, by omega, fun t a b => by have e := v4 t a; (repeat' split) <;> omega, fun t a b => by have e := v5 t a; (repeat' split) <;> omega, fun t a b => by have e := v6 t a; (repeat' split) <;> omega⟩
    · unfold Vl
      simp only [st_fn, Nat.reduceEqDiff, ↓reduceIte, reduceIte, Int.reduceEq, if_true, if_false, true_and, and_true, and_self, h1, h2, h3, h4, h5, h6, h7, h8, h9, h10, h11, h12, h13, h14, l1, l2, l3, l4, l5, l6, l7, l8, l9, l10, l11, s1]
      exact ⟨by omega, by omega, fun t a b => by have e := w3 t a; (repeat' split) <;> omega⟩
    · intro k hk
      simp only [st_fn]
      repeat rw [if_neg (by omega)]
      exact hF k hk
    · simp only [st_fn, Nat.reduceEqDiff, ↓reduceIte, reduceIte, Int.reduceEq, if_true, if_false, true_and, and_true, and_self]
      exact m1
    · simp only [st_fn, Nat.reduceEqDiff, ↓reduceIte, reduceIte, Int.reduceEq, if_true, if_false, true_and, and_true, and_self]
      exact m2
    · unfold DCr at m3 ⊢
      simp only [st_fn, Nat.reduceEqDiff, ↓reduceIte, reduceIte, Int.reduceEq, if_true, if_false, true_and, and_true, and_self]
      exact m3)
set_option maxHeartbeats 1000000 in
theorem ok_back {Z M : XM} (h : Inv Z M) (x1 : Int) : F_M_back x1 M (fun v M1 => F_R_back x1 M1 (fun w M2 => v = w ∧ Inv Z M2)) := by
  obtain ⟨⟨h1, h2, h3, h4, h5, h6, h7, h8, h9, h10, h11, h12, h13, h14⟩, ⟨l1, l2, l3, l4, l5, l6, l7, l8, l9, l10, l11⟩, ⟨s1, s2⟩, ⟨v1, v2, v3, v4, v5, v6⟩, ⟨w1, w2, w3⟩, hF, m1, m2, m3⟩ := id h
  unfold F_M_back S_M_back  F_R_back S_R_back
  simp (disch := first | omega | (simp only [st_fn, Nat.reduceEqDiff, ↓reduceIte, reduceIte, Int.reduceEq, if_true, if_false]; omega)) only [sSeq, sSet, sInc, sPF, sPA, sPD, sOF, sOA, sX, sIf, sSkip, sRet, sRetB, sRetV, sSw, sSel, eK, eL, eR, eF, eA, eQ, eD, eU, eB, eV, eIf, ePF, eC0, eC1, eC2, eC3, eC4, eC5, eC6, eC7, cB, cZ, cAnd, cOr, cNot, i2l, st_fn, sl_ap, if_true, if_false, ↓reduceIte, reduceIte, Nat.reduceEqDiff, Int.reduceEq, Int.reduceLT, Int.reduceLE, Int.reduceAdd, Int.reduceSub, Int.reduceMul, Int.reduceNeg, and_true, true_and, not_true, not_false_eq_true, true_or, or_true, ne_eq, F_M_isWeek_iff, F_R_isWeek_iff, F_M_within_iff, F_R_in_iff, F_Trade_isTitle_iff, F_Trade_isThing_iff, F_Trade_isShop_iff, F_Ledger_isSale_iff, F_R_isTitle_iff, F_R_isThing_iff, F_R_isShop_iff, F_R_hasSale_iff, b01_ne, iAdd_id, iSub_id, h1, h2, h3, h4, h5, h6, h7, h8, h9, h10, h11, h12, h13, h14, l1, l2, l3, l4, l5, l6, l7, l8, l9, l10, l11, s1]
  repeat' (first | (with_reducible intro _) | (with_reducible refine And.intro ?_ ?_))
  all_goals first
    | exact h
    | omega
    | (exfalso; omega)
    | skip
  all_goals (
    refine ⟨?_, ?_, ?_, ?_, ?_, ?_, ?_, ?_, ?_⟩
    · unfold DCt
      simp only [st_fn, Nat.reduceEqDiff, ↓reduceIte, reduceIte, Int.reduceEq, if_true, if_false, true_and, and_true, and_self, h1, h2, h3, h4, h5, h6, h7, h8, h9, h10, h11, h12, h13, h14, l1, l2, l3, l4, l5, l6, l7, l8, l9, l10, l11, s1]
    · unfold DCl
      simp only [st_fn, Nat.reduceEqDiff, ↓reduceIte, reduceIte, Int.reduceEq, if_true, if_false, true_and, and_true, and_self, h1, h2, h3, h4, h5, h6, h7, h8, h9, h10, h11, h12, h13, h14, l1, l2, l3, l4, l5, l6, l7, l8, l9, l10, l11, s1]
    · unfold DCs
      simp only [st_fn, Nat.reduceEqDiff, ↓reduceIte, reduceIte, Int.reduceEq, if_true, if_false, true_and, and_true, and_self, h1, h2, h3, h4, h5, h6, h7, h8, h9, h10, h11, h12, h13, h14, l1, l2, l3, l4, l5, l6, l7, l8, l9, l10, l11, s1]
      exact s2
    · unfold Vt
      simp only [st_fn, Nat.reduceEqDiff, ↓reduceIte, reduceIte, Int.reduceEq, if_true, if_false, true_and, and_true, and_self, h1, h2, h3, h4, h5, h6, h7, h8, h9, h10, h11, h12, h13, h14, l1, l2, l3, l4, l5, l6, l7, l8, l9, l10, l11, s1]
      exact ⟨by omega, by omega, by omega, fun t a b => by have e := v4 t a; (repeat' split) <;> omega, fun t a b => by have e := v5 t a; (repeat' split) <;> omega, fun t a b => by have e := v6 t a; (repeat' split) <;> omega⟩
    · unfold Vl
      simp only [st_fn, Nat.reduceEqDiff, ↓reduceIte, reduceIte, Int.reduceEq, if_true, if_false, true_and, and_true, and_self, h1, h2, h3, h4, h5, h6, h7, h8, h9, h10, h11, h12, h13, h14, l1, l2, l3, l4, l5, l6, l7, l8, l9, l10, l11, s1]
      exact ⟨by omega, by omega, fun t a b => by have e := w3 t a; (repeat' split) <;> omega⟩
    · intro k hk
      simp only [st_fn]
      repeat rw [if_neg (by omega)]
      exact hF k hk
    · simp only [st_fn, Nat.reduceEqDiff, ↓reduceIte, reduceIte, Int.reduceEq, if_true, if_false, true_and, and_true, and_self]
      exact m1
    · simp only [st_fn, Nat.reduceEqDiff, ↓reduceIte, reduceIte, Int.reduceEq, if_true, if_false, true_and, and_true, and_self]
      exact m2
    · unfold DCr at m3 ⊢
      simp only [st_fn, Nat.reduceEqDiff, ↓reduceIte, reduceIte, Int.reduceEq, if_true, if_false, true_and, and_true, and_self]
      exact m3)
set_option maxHeartbeats 1000000 in
theorem ok_asOf {Z M : XM} (h : Inv Z M) (x1 : Int) : F_M_asOf x1 M (fun v M1 => F_R_asOf x1 M1 (fun w M2 => v = w ∧ Inv Z M2)) := by
  obtain ⟨⟨h1, h2, h3, h4, h5, h6, h7, h8, h9, h10, h11, h12, h13, h14⟩, ⟨l1, l2, l3, l4, l5, l6, l7, l8, l9, l10, l11⟩, ⟨s1, s2⟩, ⟨v1, v2, v3, v4, v5, v6⟩, ⟨w1, w2, w3⟩, hF, m1, m2, m3⟩ := id h
  unfold F_M_asOf S_M_asOf  F_R_asOf S_R_asOf
  simp (disch := first | omega | (simp only [st_fn, Nat.reduceEqDiff, ↓reduceIte, reduceIte, Int.reduceEq, if_true, if_false]; omega)) only [sSeq, sSet, sInc, sPF, sPA, sPD, sOF, sOA, sX, sIf, sSkip, sRet, sRetB, sRetV, sSw, sSel, eK, eL, eR, eF, eA, eQ, eD, eU, eB, eV, eIf, ePF, eC0, eC1, eC2, eC3, eC4, eC5, eC6, eC7, cB, cZ, cAnd, cOr, cNot, i2l, st_fn, sl_ap, if_true, if_false, ↓reduceIte, reduceIte, Nat.reduceEqDiff, Int.reduceEq, Int.reduceLT, Int.reduceLE, Int.reduceAdd, Int.reduceSub, Int.reduceMul, Int.reduceNeg, and_true, true_and, not_true, not_false_eq_true, true_or, or_true, ne_eq, F_M_isWeek_iff, F_R_isWeek_iff, F_M_within_iff, F_R_in_iff, F_Trade_isTitle_iff, F_Trade_isThing_iff, F_Trade_isShop_iff, F_Ledger_isSale_iff, F_R_isTitle_iff, F_R_isThing_iff, F_R_isShop_iff, F_R_hasSale_iff, b01_ne, iAdd_id, iSub_id, h1, h2, h3, h4, h5, h6, h7, h8, h9, h10, h11, h12, h13, h14, l1, l2, l3, l4, l5, l6, l7, l8, l9, l10, l11, s1]
  repeat' (first | (with_reducible intro _) | (with_reducible refine And.intro ?_ ?_))
  all_goals first
    | exact h
    | omega
    | (exfalso; omega)
    | skip
  all_goals (
    refine ⟨?_, ?_, ?_, ?_, ?_, ?_, ?_, ?_, ?_⟩
    · unfold DCt
      simp only [st_fn, Nat.reduceEqDiff, ↓reduceIte, reduceIte, Int.reduceEq, if_true, if_false, true_and, and_true, and_self, h1, h2, h3, h4, h5, h6, h7, h8, h9, h10, h11, h12, h13, h14, l1, l2, l3, l4, l5, l6, l7, l8, l9, l10, l11, s1]
    · unfold DCl
      simp only [st_fn, Nat.reduceEqDiff, ↓reduceIte, reduceIte, Int.reduceEq, if_true, if_false, true_and, and_true, and_self, h1, h2, h3, h4, h5, h6, h7, h8, h9, h10, h11, h12, h13, h14, l1, l2, l3, l4, l5, l6, l7, l8, l9, l10, l11, s1]
    · unfold DCs
      simp only [st_fn, Nat.reduceEqDiff, ↓reduceIte, reduceIte, Int.reduceEq, if_true, if_false, true_and, and_true, and_self, h1, h2, h3, h4, h5, h6, h7, h8, h9, h10, h11, h12, h13, h14, l1, l2, l3, l4, l5, l6, l7, l8, l9, l10, l11, s1]
      exact s2
    · unfold Vt
      simp only [st_fn, Nat.reduceEqDiff, ↓reduceIte, reduceIte, Int.reduceEq, if_true, if_false, true_and, and_true, and_self, h1, h2, h3, h4, h5, h6, h7, h8, h9, h10, h11, h12, h13, h14, l1, l2, l3, l4, l5, l6, l7, l8, l9, l10, l11, s1]
      exact ⟨by omega, by omega, by omega, fun t a b => by have e := v4 t a; (repeat' split) <;> omega, fun t a b => by have e := v5 t a; (repeat' split) <;> omega, fun t a b => by have e := v6 t a; (repeat' split) <;> omega⟩
    · unfold Vl
      simp only [st_fn, Nat.reduceEqDiff, ↓reduceIte, reduceIte, Int.reduceEq, if_true, if_false, true_and, and_true, and_self, h1, h2, h3, h4, h5, h6, h7, h8, h9, h10, h11, h12, h13, h14, l1, l2, l3, l4, l5, l6, l7, l8, l9, l10, l11, s1]
      exact ⟨by omega, by omega, fun t a b => by have e := w3 t a; (repeat' split) <;> omega⟩
    · intro k hk
      simp only [st_fn]
      repeat rw [if_neg (by omega)]
      exact hF k hk
    · simp only [st_fn, Nat.reduceEqDiff, ↓reduceIte, reduceIte, Int.reduceEq, if_true, if_false, true_and, and_true, and_self]
      exact m1
    · simp only [st_fn, Nat.reduceEqDiff, ↓reduceIte, reduceIte, Int.reduceEq, if_true, if_false, true_and, and_true, and_self]
      exact m2
    · unfold DCr at m3 ⊢
      simp only [st_fn, Nat.reduceEqDiff, ↓reduceIte, reduceIte, Int.reduceEq, if_true, if_false, true_and, and_true, and_self]
      exact m3)
