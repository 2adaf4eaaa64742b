/-! ===== ask: sets of those offered, and sets of shops ===== -/
def gc (b : Int → Bool) : Nat → Nat
  | 0 => 0
  | n + 1 => if b (n : Int) = true then gc b n + 1 else gc b n
def ga (b : Int → Bool) : Nat → Int → Int
  | 0 => fun _ => 0
  | n + 1 => if b (n : Int) = true then upx (ga b n) ((gc b n : Nat) : Int) (n : Int) else ga b n
theorem gc_le (b : Int → Bool) : ∀ n : Nat, gc b n ≤ n
  | 0 => Nat.le_refl 0
  | n + 1 => by
    have := gc_le b n
    unfold gc
    split <;> omega
theorem gc_mono (b : Int → Bool) : ∀ {n m : Nat}, n ≤ m → gc b n ≤ gc b m := by
  intro n m h
  induction m with
  | zero => rw [show n = 0 by omega]; exact Nat.le_refl _
  | succ m ih =>
    by_cases c : n = m + 1
    · rw [c]; exact Nat.le_refl _
    · have := ih (by omega)
      show gc b n ≤ gc b (m + 1)
      have e : gc b (m + 1) = if b (m : Int) = true then gc b m + 1 else gc b m := rfl
      rw [e]
      split <;> omega
theorem gc_s {b : Int → Bool} {s : Nat} (h : b (s : Int) = true) : gc b (s + 1) = gc b s + 1 := by
  show (if b (s : Int) = true then gc b s + 1 else gc b s) = _
  rw [if_pos h]
theorem gc_n {b : Int → Bool} {s : Nat} (h : ¬ b (s : Int) = true) : gc b (s + 1) = gc b s := by
  show (if b (s : Int) = true then gc b s + 1 else gc b s) = _
  rw [if_neg h]
theorem gc_lt {b : Int → Bool} {s n : Nat} (h : b (s : Int) = true) (hs : s < n) : gc b s < gc b n := by
  have := gc_mono b (show s + 1 ≤ n by omega)
  rw [gc_s h] at this
  omega
theorem ga_s {b : Int → Bool} {s : Nat} (h : b (s : Int) = true) : ga b (s + 1) = upx (ga b s) ((gc b s : Nat) : Int) (s : Int) := by
  show (if b (s : Int) = true then upx (ga b s) ((gc b s : Nat) : Int) (s : Int) else ga b s) = _
  rw [if_pos h]
theorem ga_n {b : Int → Bool} {s : Nat} (h : ¬ b (s : Int) = true) : ga b (s + 1) = ga b s := by
  show (if b (s : Int) = true then upx (ga b s) ((gc b s : Nat) : Int) (s : Int) else ga b s) = _
  rw [if_neg h]
theorem ga_r (b : Int → Bool) : ∀ n : Nat, ∀ i, 0 ≤ i → i < (gc b n : Int) → 0 ≤ ga b n i ∧ ga b n i < (n : Int) ∧ b (ga b n i) = true
  | 0, i, h0, h1 => by exact absurd h1 (by show ¬ i < ((0 : Nat) : Int); omega)
  | n + 1, i, h0, h1 => by
    by_cases c : b (n : Int) = true
    · rw [gc_s c] at h1
      rw [ga_s c, upx_ap]
      by_cases e : i = ((gc b n : Nat) : Int)
      · rw [if_pos e]; exact ⟨by omega, by omega, c⟩
      · rw [if_neg e]
        have := ga_r b n i h0 (by omega)
        exact ⟨this.1, by omega, this.2.2⟩
    · rw [gc_n c] at h1
      rw [ga_n c]
      have := ga_r b n i h0 h1
      exact ⟨this.1, by omega, this.2.2⟩
def ps (p : Nat → Bool) : Nat → Nat
  | 0 => 0
  | n + 1 => ps p n + (if p n = true then 2 ^ n else 0)
theorem ps_s (p : Nat → Bool) (n : Nat) : ps p (n + 1) = ps p n + (if p n = true then 2 ^ n else 0) := rfl
theorem ps_lt (p : Nat → Bool) : ∀ n, ps p n < 2 ^ n
  | 0 => Nat.lt_of_lt_of_le Nat.zero_lt_one (Nat.le_refl _)
  | n + 1 => by
    have := ps_lt p n
    rw [ps_s, Nat.pow_succ]
    split <;> omega
theorem ps_congr {p q : Nat → Bool} : ∀ {n : Nat}, (∀ s, s < n → p s = q s) → ps p n = ps q n
  | 0, _ => rfl
  | n + 1, h => by rw [ps_s, ps_s, ps_congr (fun s hs => h s (by omega)), h n (by omega)]
theorem ps_le {p q : Nat → Bool} : ∀ {n : Nat}, (∀ s, s < n → p s = true → q s = true) → ps p n ≤ ps q n
  | 0, _ => Nat.le_refl _
  | n + 1, h => by
    have ih := ps_le (p := p) (q := q) (n := n) (fun s hs => h s (by omega))
    have hn := h n (by omega)
    rw [ps_s, ps_s]
    by_cases c : p n = true
    · rw [if_pos c, if_pos (hn c)]; omega
    · rw [if_neg c]; omega
theorem bi_low {x q c i : Nat} (h : i < c) : bi (x + 2 ^ c * q) i = bi x i := by
  obtain ⟨m, rfl⟩ : ∃ m, c = i + 1 + m := ⟨c - (i + 1), by omega⟩
  unfold bi
  rw [Nat.pow_add, Nat.pow_succ, show 2 ^ i * 2 * 2 ^ m * q = 2 ^ i * (2 * (2 ^ m * q)) by simp only [Nat.mul_assoc], Nat.add_mul_div_left _ _ (Nat.two_pow_pos i)]
  omega
theorem bi_mod {Y c i : Nat} (h : i < c) : bi (Y % 2 ^ c) i = bi Y i := by
  have e := Nat.mod_add_div Y (2 ^ c)
  have := bi_low (x := Y % 2 ^ c) (q := Y / 2 ^ c) h
  rw [e] at this
  exact this.symm
theorem bi_hi {x n i : Nat} (h : x < 2 ^ n) (hi : n ≤ i) : bi x i = 0 := by
  unfold bi
  rw [Nat.div_eq_of_lt (Nat.lt_of_lt_of_le h (Nat.pow_le_pow_right (by omega) hi))]
theorem bi_top {x n : Nat} (h : x < 2 ^ n) : bi (x + 2 ^ n) n = 1 := by
  unfold bi
  rw [Nat.add_div_right _ (Nat.two_pow_pos n), Nat.div_eq_of_lt h]
theorem ps_bi (p : Nat → Bool) : ∀ {n s : Nat}, s < n → bi (ps p n) s = if p s = true then 1 else 0
  | 0, s, h => absurd h (by omega)
  | n + 1, s, h => by
    rw [ps_s]
    by_cases c : s = n
    · subst c
      by_cases q : p s = true
      · rw [if_pos q, if_pos q]; exact bi_top (ps_lt p s)
      · rw [if_neg q, if_neg q]; exact bi_hi (ps_lt p s) (Nat.le_refl _)
    · have ih := ps_bi p (n := n) (s := s) (by omega)
      by_cases q : p n = true
      · rw [if_pos q, ← ih]
        have := bi_low (x := ps p n) (q := 1) (show s < n by omega)
        rw [Nat.mul_one] at this
        exact this
      · rw [if_neg q]; exact ih
theorem ps_self {X : Nat} : ∀ n, ps (fun s => decide (bi X s = 1)) n = X % 2 ^ n
  | 0 => by show 0 = X % 1; omega
  | n + 1 => by
    rw [ps_s, ps_self n, Nat.mod_pow_succ]
    show X % 2 ^ n + _ = X % 2 ^ n + 2 ^ n * bi X n
    rcases bi_lt X n with h | h
    · rw [h, if_neg (by decide), Nat.mul_zero]
    · rw [h, if_pos (by decide), Nat.mul_one]
theorem ps_sS (f : Int → Int) (p : Nat → Bool) (n : Nat) : sS f (ps p n) n = sumN (fun j => if p j.toNat = true then f j else 0) n := by
  unfold sS
  refine sumN_congr fun k h1 h2 => ?_
  rw [ps_bi p (show k.toNat < n by omega)]
  by_cases c : p k.toNat = true
  · rw [if_pos c, if_pos c, if_pos rfl]
  · rw [if_neg c, if_neg c, if_neg (by omega)]
/-! the set of shops that a set of those offered means -/
def phi (b : Int → Bool) (Y : Nat) (n : Nat) : Nat := ps (fun s => b (s : Int) && decide (bi Y (gc b s) = 1)) n
theorem phi_s (b : Int → Bool) (Y n : Nat) : phi b Y (n + 1) = phi b Y n + (if (b (n : Int) && decide (bi Y (gc b n) = 1)) = true then 2 ^ n else 0) := rfl
theorem phi_mod (b : Int → Bool) (Y n : Nat) : phi b (Y % 2 ^ gc b n) n = phi b Y n := by
  refine ps_congr fun s hs => ?_
  by_cases c : b (s : Int) = true
  · rw [bi_mod (gc_lt c hs)]
  · simp [c]
theorem phi_low {b : Int → Bool} {Y q n : Nat} : phi b (Y + 2 ^ gc b n * q) n = phi b Y n := by
  refine ps_congr fun s hs => ?_
  by_cases c : b (s : Int) = true
  · rw [bi_low (gc_lt c hs)]
  · simp [c]
theorem phi_mono (b : Int → Bool) : ∀ (n : Nat) {Y1 Y2 : Nat}, Y1 < 2 ^ gc b n → Y2 < 2 ^ gc b n → Y1 ≤ Y2 → phi b Y1 n ≤ phi b Y2 n
  | 0, _, _, _, _, _ => Nat.le_refl 0
  | n + 1, Y1, Y2, h1, h2, h => by
    rw [phi_s, phi_s]
    by_cases c : b (n : Int) = true
    · rw [gc_s c, Nat.pow_succ] at h1 h2
      have m1 := phi_mod b Y1 n
      have m2 := phi_mod b Y2 n
      have p := Nat.two_pow_pos (gc b n)
      have r1 := Nat.mod_lt Y1 p
      have r2 := Nat.mod_lt Y2 p
      have l1 := ps_lt (fun s => b (s : Int) && decide (bi Y1 (gc b s) = 1)) n
      have ih := phi_mono b n r1 r2
      rw [m1, m2] at ih
      have d1 := Nat.mod_add_div Y1 (2 ^ gc b n)
      have d2 := Nat.mod_add_div Y2 (2 ^ gc b n)
      have t1 : Y1 / 2 ^ gc b n < 2 := Nat.div_lt_of_lt_mul h1
      have t2 : Y2 / 2 ^ gc b n < 2 := Nat.div_lt_of_lt_mul h2
      have b1 : bi Y1 (gc b n) = Y1 / 2 ^ gc b n := Nat.mod_eq_of_lt t1
      have b2 : bi Y2 (gc b n) = Y2 / 2 ^ gc b n := Nat.mod_eq_of_lt t2
      rw [c, b1, b2]
      simp only [Bool.true_and, decide_eq_true_eq]
      generalize Y1 / 2 ^ gc b n = q1 at *
      generalize Y2 / 2 ^ gc b n = q2 at *
      obtain rfl | rfl : q1 = 0 ∨ q1 = 1 := by omega
      · obtain rfl | rfl : q2 = 0 ∨ q2 = 1 := by omega
        · rw [if_neg (by decide)]
          have := ih (by omega)
          omega
        · rw [if_neg (by decide), if_pos rfl]
          have : phi b Y1 n < 2 ^ n := l1
          omega
      · obtain rfl | rfl : q2 = 0 ∨ q2 = 1 := by omega
        · exfalso
          rw [Nat.mul_zero] at d2
          rw [Nat.mul_one] at d1
          omega
        · rw [if_pos rfl]
          rw [Nat.mul_one] at d1 d2
          have := ih (by omega)
          omega
    · rw [gc_n c] at h1 h2
      have ih := phi_mono b n h1 h2 h
      simp only [Bool.not_eq_true] at c
      rw [c]
      simp only [Bool.false_and]
      simpa using ih
theorem phi_onto (b : Int → Bool) (X : Nat) : ∀ n, ∃ Y, Y < 2 ^ gc b n ∧ phi b Y n = ps (fun s => b (s : Int) && decide (bi X s = 1)) n
  | 0 => ⟨0, Nat.two_pow_pos _, rfl⟩
  | n + 1 => by
    obtain ⟨Y, h1, h2⟩ := phi_onto b X n
    by_cases c : b (n : Int) = true
    · rw [gc_s c]
      by_cases q : bi X n = 1
      · refine ⟨Y + 2 ^ gc b n * 1, by rw [Nat.pow_succ]; omega, ?_⟩
        rw [phi_s, ps_s, phi_low, h2, Nat.mul_one, bi_top h1, q]
      · refine ⟨Y, by rw [Nat.pow_succ]; omega, ?_⟩
        rw [phi_s, ps_s, h2, bi_hi h1 (Nat.le_refl _)]
        simp [q]
    · rw [gc_n c]
      refine ⟨Y, h1, ?_⟩
      rw [phi_s, ps_s, h2]
      simp [c]
theorem phi_sum (b : Int → Bool) (f : Int → Int) (Y : Nat) : ∀ n, sS f (phi b Y n) n = sS (fun i => f (ga b n i)) Y (gc b n) := by
  intro n
  unfold phi
  rw [ps_sS]
  induction n with
  | zero => rfl
  | succ n ih =>
    show sumN _ n + (if (b ((((n : Nat) : Int).toNat : Nat) : Int) && decide (bi Y (gc b ((n : Int)).toNat) = 1)) = true then f (n : Int) else 0) = _
    rw [ih, Int.toNat_natCast]
    by_cases c : b (n : Int) = true
    · rw [gc_s c, ga_s c]
      have hl : sS (fun i => f (ga b n i)) Y (gc b n) = sS (fun i => f (upx (ga b n) ((gc b n : Nat) : Int) (n : Int) i)) Y (gc b n) := by
        unfold sS
        refine sumN_congr fun k h1 h2 => ?_
        show _ = if bi Y k.toNat = 1 then f (upx (ga b n) ((gc b n : Nat) : Int) (n : Int) k) else 0
        rw [upx_ap, if_neg (show ¬ k = ((gc b n : Nat) : Int) by omega)]
      rw [hl]
      show _ = sS (fun i => f (upx (ga b n) ((gc b n : Nat) : Int) (n : Int) i)) Y (gc b n) + (if bi Y (((gc b n : Nat) : Int)).toNat = 1 then f (upx (ga b n) ((gc b n : Nat) : Int) (n : Int) ((gc b n : Nat) : Int)) else 0)
      rw [Int.toNat_natCast, upx_ap, if_pos rfl, c]
      simp only [Bool.true_and, decide_eq_true_eq]
    · rw [gc_n c, ga_n c]
      simp [c]
theorem sS_mod {f : Int → Int} {X n : Nat} (h : X < 2 ^ n) : sS f X n = sumN (fun j => if decide (bi X j.toNat = 1) = true then f j else 0) n := by
  have := ps_sS f (fun s => decide (bi X s = 1)) n
  rw [ps_self n, Nat.mod_eq_of_lt h] at this
  exact this
theorem sumN_le {f g : Int → Int} : ∀ {n : Nat}, (∀ k, 0 ≤ k → k < (n : Int) → f k ≤ g k) → sumN f n ≤ sumN g n
  | 0, _ => Int.le_refl _
  | n + 1, h => by
    have ih := sumN_le (f := f) (g := g) (n := n) fun k h1 h2 => h k h1 (by omega)
    have hn := h (n : Int) (by omega) (by omega)
    show sumN f n + f n ≤ sumN g n + g n
    omega
theorem sumN_nn1 {f : Int → Int} : ∀ {n : Nat}, (∀ k, 0 ≤ k → k < (n : Int) → 0 ≤ f k) → ∀ s : Nat, s < n → f (s : Int) ≤ sumN f n
  | 0, _, s, hs => absurd hs (by omega)
  | n + 1, h, s, hs => by
    have hn := h (n : Int) (by omega) (by omega)
    show f s ≤ sumN f n + f n
    by_cases c : s = n
    · subst c
      have := sumN_le (f := fun _ => 0) (g := f) (n := s) fun k h1 h2 => h k h1 (by omega)
      have e : ∀ m : Nat, sumN (fun _ => 0) m = 0 := fun m => by
        induction m with
        | zero => rfl
        | succ m ih => show sumN (fun _ => 0) m + 0 = 0; omega
      rw [e] at this
      omega
    · have := sumN_nn1 (f := f) (n := n) (fun k h1 h2 => h k h1 (by omega)) s (by omega)
      omega
/-! the best of those counted up -/
def bB (P : Nat → Bool) (wt ct : Nat → Int) : Nat → Nat
  | 0 => 0
  | b + 1 => if P (b + 1) = true ∧ (wt (bB P wt ct b) < wt (b + 1) ∨ (wt (b + 1) = wt (bB P wt ct b) ∧ ct (b + 1) < ct (bB P wt ct b))) then b + 1 else bB P wt ct b
theorem bB_s (P : Nat → Bool) (wt ct : Nat → Int) (b : Nat) : bB P wt ct (b + 1) = if P (b + 1) = true ∧ (wt (bB P wt ct b) < wt (b + 1) ∨ (wt (b + 1) = wt (bB P wt ct b) ∧ ct (b + 1) < ct (bB P wt ct b))) then b + 1 else bB P wt ct b := rfl
def btr (wt ct : Nat → Int) (c Y : Nat) : Prop := wt Y < wt c ∨ (wt Y = wt c ∧ (ct c < ct Y ∨ (ct c = ct Y ∧ c ≤ Y)))
theorem bB_ok {P : Nat → Bool} {wt ct : Nat → Int} (h0 : P 0 = true) : ∀ b, bB P wt ct b ≤ b ∧ P (bB P wt ct b) = true ∧ ∀ Y, Y ≤ b → P Y = true → btr wt ct (bB P wt ct b) Y
  | 0 => ⟨Nat.le_refl 0, h0, fun Y hY _ => by
    have e : Y = 0 := by omega
    subst e
    exact Or.inr ⟨rfl, Or.inr ⟨rfl, Nat.le_refl _⟩⟩⟩
  | b + 1 => by
    obtain ⟨i1, i2, i3⟩ := bB_ok (wt := wt) (ct := ct) h0 b
    rw [bB_s]
    by_cases c : P (b + 1) = true ∧ (wt (bB P wt ct b) < wt (b + 1) ∨ (wt (b + 1) = wt (bB P wt ct b) ∧ ct (b + 1) < ct (bB P wt ct b)))
    · rw [if_pos c]
      refine ⟨Nat.le_refl _, c.1, fun Y hY hP => ?_⟩
      have c2 := c.2
      by_cases e : Y = b + 1
      · subst e
        exact Or.inr ⟨rfl, Or.inr ⟨rfl, Nat.le_refl _⟩⟩
      · have := i3 Y (by omega) hP
        unfold btr at this ⊢
        generalize bB P wt ct b = z at *
        omega
    · rw [if_neg c]
      refine ⟨by omega, i2, fun Y hY hP => ?_⟩
      by_cases e : Y = b + 1
      · subst e
        have c2 : ¬ (wt (bB P wt ct b) < wt (b + 1) ∨ (wt (b + 1) = wt (bB P wt ct b) ∧ ct (b + 1) < ct (bB P wt ct b))) := fun q => c ⟨hP, q⟩
        unfold btr
        generalize bB P wt ct b = z at *
        omega
      · exact i3 Y (by omega) hP
theorem btr_anti {wt ct : Nat → Int} {c X : Nat} (h1 : btr wt ct c X) (h2 : btr wt ct X c) : c = X := by
  unfold btr at h1 h2
  omega
def wS (b : Int → Bool) (f : Int → Int) (N Y : Nat) : Int := sS (fun i => f (ga b N i)) Y (gc b N)
def subB (m : Int → Bool) (N X : Nat) : Bool := decide (∀ s : Nat, s < N → bi X s = 1 → m (s : Int) = true)
def chC (b : Int → Bool) (f p : Int → Int) (purse : Int) (N : Nat) (Y : Nat) : Nat := bB (fun Y => decide (wS b p N Y ≤ purse)) (wS b f N) (wS b p N) Y
def chR (m : Int → Bool) (f p : Int → Int) (purse : Int) (N : Nat) (X : Nat) : Nat := bB (fun X => subB m N X && decide (sS p X N ≤ purse)) (fun X => sS f X N) (fun X => sS p X N) X
theorem sS_zero (f : Int → Int) (n : Nat) : sS f 0 n = 0 := by
  induction n with
  | zero => rfl
  | succ n ih =>
    show sS f 0 n + (if bi 0 ((n : Int)).toNat = 1 then f n else 0) = 0
    rw [ih, if_neg (by unfold bi; simp)]
    rfl
theorem ask_same {m b : Int → Bool} {f p : Int → Int} {purse : Int} {N : Nat} (hb : ∀ s : Nat, s < N → (b (s : Int) = true ↔ m (s : Int) = true ∧ 0 < f (s : Int) ∧ p (s : Int) ≤ purse)) (hf : ∀ s : Nat, s < N → 0 ≤ f (s : Int)) (hp : ∀ s : Nat, s < N → 0 ≤ p (s : Int)) (h0 : 0 ≤ purse) : phi b (chC b f p purse N (2 ^ gc b N - 1)) N = chR m f p purse N (2 ^ N - 1) := by
  have k1 := bB_ok (P := fun Y => decide (wS b p N Y ≤ purse)) (wt := wS b f N) (ct := wS b p N) (by simp only [decide_eq_true_eq]; unfold wS; rw [sS_zero]; exact h0) (2 ^ gc b N - 1)
  have k2 := bB_ok (P := fun X => subB m N X && decide (sS p X N ≤ purse)) (wt := fun X => sS f X N) (ct := fun X => sS p X N) (by
    simp only [Bool.and_eq_true, decide_eq_true_eq, sS_zero]
    refine ⟨?_, h0⟩
    unfold subB
    rw [decide_eq_true_eq]
    intro s _ q
    unfold bi at q
    simp at q) (2 ^ N - 1)
  have g1 : ∀ Y, sS f (phi b Y N) N = wS b f N Y := fun Y => phi_sum b f Y N
  have g2 : ∀ Y, sS p (phi b Y N) N = wS b p N Y := fun Y => phi_sum b p Y N
  show phi b (bB (fun Y => decide (wS b p N Y ≤ purse)) (wS b f N) (wS b p N) (2 ^ gc b N - 1)) N = bB (fun X => subB m N X && decide (sS p X N ≤ purse)) (fun X => sS f X N) (fun X => sS p X N) (2 ^ N - 1)
  generalize bB (fun Y => decide (wS b p N Y ≤ purse)) (wS b f N) (wS b p N) (2 ^ gc b N - 1) = cY at *
  generalize bB (fun X => subB m N X && decide (sS p X N ≤ purse)) (fun X => sS f X N) (fun X => sS p X N) (2 ^ N - 1) = cX at *
  obtain ⟨a1, a2, a3⟩ := k1
  obtain ⟨c1, c2, c3⟩ := k2
  have pN := Nat.two_pow_pos N
  have pg := Nat.two_pow_pos (gc b N)
  simp only [Bool.and_eq_true, decide_eq_true_eq] at a2 c2
  have hlt : phi b cY N < 2 ^ N := ps_lt _ N
  refine btr_anti (wt := fun X => sS f X N) (ct := fun X => sS p X N) ?_ ?_
  · obtain ⟨Y, y1, y2⟩ := phi_onto b cX N
    have hcx : cX < 2 ^ N := by omega
    have hsub := c2.1
    unfold subB at hsub
    rw [decide_eq_true_eq] at hsub
    -- a shop in cX costs no more than the purse
    have hcost : ∀ s : Nat, s < N → bi cX s = 1 → p (s : Int) ≤ purse := fun s hs hb1 => by
      have h := sumN_nn1 (f := fun j => if bi cX j.toNat = 1 then p j else 0) (n := N) (fun k q1 q2 => by
        have := hp k.toNat (by omega)
        rw [Int.toNat_of_nonneg q1] at this
        show 0 ≤ if bi cX k.toNat = 1 then p k else 0
        split
        · exact this
        · omega) s hs
      have h' : (if bi cX ((s : Int)).toNat = 1 then p (s : Int) else 0) ≤ sS p cX N := h
      rw [Int.toNat_natCast, if_pos hb1] at h'
      omega
    have eW : sS f cX N = wS b f N Y := by
      rw [← g1, y2, ps_sS]
      unfold sS
      refine sumN_congr fun k q1 q2 => ?_
      have hk := hb k.toNat (by omega)
      have hfk := hf k.toNat (by omega)
      have hck := hcost k.toNat (by omega)
      have hsk := hsub k.toNat (by omega)
      rw [Int.toNat_of_nonneg q1] at hk hfk hck hsk ⊢
      by_cases q : bi cX k.toNat = 1
      · rw [if_pos q]
        by_cases z : b k = true
        · rw [if_pos (by simp [z, q])]
        · rw [if_neg (by simp [z])]
          have z2 : ¬ (m k = true ∧ 0 < f k ∧ p k ≤ purse) := fun w => z (hk.mpr w)
          have := hck q
          by_cases z3 : 0 < f k
          · exact absurd ⟨hsk q, z3, this⟩ z2
          · omega
      · rw [if_neg q, if_neg (by simp [q])]
    have eC : wS b p N Y ≤ sS p cX N := by
      rw [← g2, y2, ps_sS]
      unfold sS
      refine sumN_le fun k q1 q2 => ?_
      have hpk := hp k.toNat (by omega)
      rw [Int.toNat_of_nonneg q1] at hpk ⊢
      by_cases q : bi cX k.toNat = 1
      · rw [if_pos q]
        split
        · exact Int.le_refl _
        · exact hpk
      · rw [if_neg q, if_neg (by simp [q])]
        exact Int.le_refl _
    have eL : phi b Y N ≤ cX := by
      have e2 : ps (fun s => decide (bi cX s = 1)) N = cX := by rw [ps_self, Nat.mod_eq_of_lt hcx]
      rw [y2]
      refine Nat.le_trans (ps_le (q := fun s => decide (bi cX s = 1)) fun s _ hs => ?_) (Nat.le_of_eq e2)
      simp only [Bool.and_eq_true] at hs
      exact hs.2
    have hb3 := a3 Y (by omega) (by simp only [decide_eq_true_eq]; omega)
    have hm : cY ≤ Y → phi b cY N ≤ phi b Y N := phi_mono b N (by omega) y1
    unfold btr at hb3 ⊢
    simp only [g1, g2]
    rw [eW]
    omega
  · refine c3 (phi b cY N) (by omega) ?_
    simp only [Bool.and_eq_true, decide_eq_true_eq]
    refine ⟨?_, by rw [g2]; exact a2⟩
    unfold subB
    rw [decide_eq_true_eq]
    intro s hs q
    unfold phi at q
    rw [ps_bi _ hs] at q
    by_cases z : b (s : Int) = true
    · exact ((hb s hs).mp z).1
    · rw [if_neg (by simp [z])] at q
      exact absurd q (by decide)
/-! the bits set down one by one -/
theorem phi_next (b : Int → Bool) (N Y i : Nat) : ∀ k m : Nat, m + k = N → gc b m = i → i < gc b N → ∃ m', m ≤ m' ∧ m' < N ∧ b (m' : Int) = true ∧ gc b m' = i ∧ phi b Y m' = phi b Y m
  | 0, m, h, e, l => by exfalso; rw [show m = N by omega] at e; omega
  | k + 1, m, h, e, l => by
    by_cases c : b (m : Int) = true
    · exact ⟨m, Nat.le_refl _, by omega, c, e, rfl⟩
    · obtain ⟨m', h1, h2, h3, h4, h5⟩ := phi_next b N Y i k (m + 1) (by omega) (by rw [gc_n c]; exact e) l
      refine ⟨m', by omega, h2, h3, h4, h5.trans ?_⟩
      rw [phi_s]
      simp [c]
theorem phi_rest (b : Int → Bool) (N Y : Nat) : ∀ k m : Nat, m + k = N → gc b m = gc b N → phi b Y N = phi b Y m
  | 0, m, h, _ => by rw [show m = N by omega]
  | k + 1, m, h, e => by
    have hm := gc_mono b (show m + 1 ≤ N by omega)
    have c : ¬ b (m : Int) = true := fun c => by
      rw [gc_s c] at hm
      omega
    rw [phi_rest b N Y k (m + 1) (by omega) (by rw [gc_n c]; exact e), phi_s]
    simp [c]
theorem ga_at (b : Int → Bool) : ∀ (N m : Nat), m < N → b (m : Int) = true → ga b N ((gc b m : Nat) : Int) = (m : Int)
  | 0, m, h, _ => absurd h (by omega)
  | N + 1, m, h, c => by
    by_cases e : m = N
    · subst e
      rw [ga_s c, upx_ap, if_pos rfl]
    · have ih := ga_at b N m (by omega) c
      have hl := gc_lt c (show m < N by omega)
      by_cases q : b (N : Int) = true
      · rw [ga_s q, upx_ap, if_neg (by omega)]
        exact ih
      · rw [ga_n q]
        exact ih
