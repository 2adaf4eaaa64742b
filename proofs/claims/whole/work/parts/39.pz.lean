/-! ===== sets as bits, counted up ===== -/
def bi (n i : Nat) : Nat := n / 2 ^ i % 2
theorem bi_lt (n i : Nat) : bi n i = 0 ∨ bi n i = 1 := by unfold bi; omega
def sS (f : Int → Int) (set : Nat) (n : Nat) : Int := sumN (fun j => if bi set j.toNat = 1 then f j else 0) n
def mix (f : Int → Int) (set i : Nat) (n : Nat) : Int := sumN (fun j => if bi (if j < (i : Int) then set else set - 1) j.toNat = 1 then f j else 0) n
theorem mix_0 (f : Int → Int) (set n : Nat) : mix f set 0 n = sS f (set - 1) n := by
  unfold mix sS
  refine sumN_congr fun k h1 _ => ?_
  rw [if_neg (show ¬ k < ((0 : Nat) : Int) by omega)]
theorem mix_n (f : Int → Int) (set n : Nat) : mix f set n n = sS f set n := by
  unfold mix sS
  refine sumN_congr fun k h1 h2 => ?_
  rw [if_pos h2]
theorem sumN_chg {f g : Int → Int} {i : Nat} (h : ∀ k, 0 ≤ k → k ≠ (i : Int) → f k = g k) : ∀ {n : Nat}, i < n → sumN f n = sumN g n + f i - g i
  | 0, hn => absurd hn (by omega)
  | n + 1, hn => by
    show sumN f n + f n = sumN g n + g n + f i - g i
    by_cases c : i = n
    · subst c
      rw [sumN_congr (g := g) (fun k h1 h2 => h k h1 (by omega))]
      omega
    · rw [sumN_chg h (show i < n by omega), h n (by omega) (by omega)]
      omega
theorem mix_s (f : Int → Int) (set : Nat) {i n : Nat} (hi : i < n) : mix f set (i + 1) n = mix f set i n + (if bi set i = 1 then f i else 0) - (if bi (set - 1) i = 1 then f i else 0) := by
  unfold mix
  rw [sumN_chg (i := i) (g := fun j => if bi (if j < (i : Int) then set else set - 1) j.toNat = 1 then f j else 0) (fun k h1 h2 => ?_) hi]
  · rw [if_pos (show (i : Int) < ((i + 1 : Nat) : Int) by omega), if_neg (show ¬ (i : Int) < (i : Int) by omega), show ((i : Int)).toNat = i by omega]
  · by_cases c : k < (i : Int)
    · rw [if_pos c, if_pos (show k < ((i + 1 : Nat) : Int) by omega)]
    · rw [if_neg c, if_neg (show ¬ k < ((i + 1 : Nat) : Int) by omega)]
theorem bi_xor (a b i : Nat) : bi (a ^^^ b) i = 1 ↔ ¬ bi a i = bi b i := by
  have h : ∀ n, bi n i = 1 ↔ Nat.testBit n i = true := fun n => by
    rw [Nat.testBit_eq_decide_div_mod_eq]
    unfold bi
    simp
  rw [h, Nat.testBit_xor]
  have ha := h a
  have hb := h b
  have la := bi_lt a i
  have lb := bi_lt b i
  cases ca : Nat.testBit a i <;> cases cb : Nat.testBit b i <;> simp [ca, cb] at ha hb ⊢ <;> omega
theorem bi_same {set i : Nat} (hs : 1 ≤ set) (h : bi set i = bi (set - 1) i) {j : Nat} (hj : i ≤ j) : bi set j = bi (set - 1) j := by
  have h1 : (set - 1) / 2 ^ i ≤ set / 2 ^ i := Nat.div_le_div_right (by omega)
  have h2 : set / 2 ^ i ≤ (set - 1) / 2 ^ i + 1 := by
    rw [← Nat.add_div_right _ (Nat.two_pow_pos i)]
    exact Nat.div_le_div_right (by have := Nat.two_pow_pos i; omega)
  have e : set / 2 ^ i = (set - 1) / 2 ^ i := by
    unfold bi at h
    omega
  obtain ⟨k, rfl⟩ : ∃ k, j = i + k := ⟨j - i, by omega⟩
  unfold bi
  rw [Nat.pow_add, ← Nat.div_div_eq_div_mul, ← Nat.div_div_eq_div_mul, e]
theorem mix_end (f : Int → Int) {set i n : Nat} (hs : 1 ≤ set) (h : bi set i = bi (set - 1) i) : mix f set i n = sS f set n := by
  unfold mix sS
  refine sumN_congr fun k h1 h2 => ?_
  by_cases c : k < (i : Int)
  · rw [if_pos c]
  · rw [if_neg c, bi_same hs h (show i ≤ k.toNat by omega)]
theorem sS_0 (f : Int → Int) : ∀ n : Nat, sS f 0 n = 0
  | 0 => rfl
  | n + 1 => by
    have ih := sS_0 f n
    show sS f 0 n + (if bi 0 ((n : Int)).toNat = 1 then f n else 0) = 0
    rw [ih]
    have : bi 0 ((n : Int)).toNat = 0 := by unfold bi; simp
    rw [this]
    rfl
theorem sS_bd {f : Int → Int} {B : Int} {set n : Nat} (hB : 0 ≤ B) (h : ∀ k, 0 ≤ k → k < (n : Int) → 0 ≤ f k ∧ f k ≤ B) : 0 ≤ sS f set n ∧ sS f set n ≤ B * n := by
  induction n with
  | zero => exact ⟨Int.le_refl 0, by show (0 : Int) ≤ B * 0; omega⟩
  | succ n ih =>
    have ih := ih fun k h1 h2 => h k h1 (by omega)
    have hn := h n (by omega) (by omega)
    have e : sS f set (n + 1) = sS f set n + (if bi set ((n : Int)).toNat = 1 then f n else 0) := rfl
    have e2 : B * ((n + 1 : Nat) : Int) = B * n + B := by rw [Int.natCast_add, Int.mul_add]; simp
    rw [e, e2]
    split <;> omega
theorem mix_bd {f : Int → Int} {B : Int} {set i n : Nat} (hB : 0 ≤ B) (h : ∀ k, 0 ≤ k → k < (n : Int) → 0 ≤ f k ∧ f k ≤ B) : 0 ≤ mix f set i n ∧ mix f set i n ≤ B * n := by
  induction n with
  | zero => exact ⟨Int.le_refl 0, by show (0 : Int) ≤ B * 0; omega⟩
  | succ n ih =>
    have ih := ih fun k h1 h2 => h k h1 (by omega)
    have hn := h n (by omega) (by omega)
    have e : mix f set i (n + 1) = mix f set i n + (if bi (if (n : Int) < (i : Int) then set else set - 1) ((n : Int)).toNat = 1 then f n else 0) := rfl
    have e2 : B * ((n + 1 : Nat) : Int) = B * n + B := by rw [Int.natCast_add, Int.mul_add]; simp
    rw [e, e2]
    by_cases c : bi (if (n : Int) < (i : Int) then set else set - 1) ((n : Int)).toNat = 1
    · rw [if_pos c]; omega
    · rw [if_neg c]; omega
theorem bi_full : ∀ n : Fin 17, ∀ i : Fin 17, i.val < n.val → bi (2 ^ n.val - 1) i.val = 1 := by decide +kernel
theorem sS_full (f : Int → Int) {n : Nat} (h : n ≤ 16) : sS f (2 ^ n - 1) n = sumN f n := by
  unfold sS
  refine sumN_congr fun k h1 h2 => ?_
  have := bi_full ⟨n, by omega⟩ ⟨k.toNat, by omega⟩ (show k.toNat < n by omega)
  dsimp only at this
  rw [if_pos this]
theorem pow16 {n : Nat} (h : n ≤ 16) : 2 ^ n ≤ 65536 := Nat.pow_le_pow_right (by omega) h
/-! ===== doubts: spec ===== -/
def gvB (d : XM) (th k : Int) : Bool := decide (d 97 k = th ∧ kn d k ∧ (d 101 k = 0 ∨ d 101 k = 2))
def nvB (d : XM) (k : Int) : Bool := decide (¬ opn d (d 98 k) (d 96 k) ∨ d 98 k < d 86 (d 87 (d 97 k)))
def oc (d : XM) (th : Int) : Nat → Nat
  | 0 => 0
  | n + 1 => if gvB d th (n : Int) = true ∧ nvB d (n : Int) = false then oc d th n + 1 else oc d th n
def nc (d : XM) (th : Int) : Nat → Nat
  | 0 => 0
  | n + 1 => if gvB d th (n : Int) = true ∧ nvB d (n : Int) = true then nc d th n + 1 else nc d th n
def oa (d : XM) (th : Int) : Nat → Int → Int
  | 0 => fun _ => 0
  | n + 1 => if gvB d th (n : Int) = true ∧ nvB d (n : Int) = false then upx (oa d th n) ((oc d th n : Nat) : Int) (n : Int) else oa d th n
def al (d : XM) (th : Int) : Nat → Int
  | 0 => 0
  | n + 1 => if gvB d th (n : Int) = true ∧ nvB d (n : Int) = false then al d th n + d 100 (n : Int) else al d th n
theorem o_succ (d : XM) (th : Int) {x : Int} (h : 0 ≤ x) : oc d th (x + 1).toNat = (if gvB d th x = true ∧ nvB d x = false then oc d th x.toNat + 1 else oc d th x.toNat) ∧ nc d th (x + 1).toNat = (if gvB d th x = true ∧ nvB d x = true then nc d th x.toNat + 1 else nc d th x.toNat) ∧ oa d th (x + 1).toNat = (if gvB d th x = true ∧ nvB d x = false then upx (oa d th x.toNat) ((oc d th x.toNat : Nat) : Int) x else oa d th x.toNat) ∧ al d th (x + 1).toNat = (if gvB d th x = true ∧ nvB d x = false then al d th x.toNat + d 100 x else al d th x.toNat) := by
  have e1 : ((x.toNat : Nat) : Int) = x := by omega
  rw [show (x + 1).toNat = x.toNat + 1 by omega]
  refine ⟨?_, ?_, ?_, ?_⟩
  · show (if gvB d th ((x.toNat : Nat) : Int) = true ∧ nvB d ((x.toNat : Nat) : Int) = false then oc d th x.toNat + 1 else oc d th x.toNat) = _
    rw [e1]
  · show (if gvB d th ((x.toNat : Nat) : Int) = true ∧ nvB d ((x.toNat : Nat) : Int) = true then nc d th x.toNat + 1 else nc d th x.toNat) = _
    rw [e1]
  · show (if gvB d th ((x.toNat : Nat) : Int) = true ∧ nvB d ((x.toNat : Nat) : Int) = false then upx (oa d th x.toNat) ((oc d th x.toNat : Nat) : Int) ((x.toNat : Nat) : Int) else oa d th x.toNat) = _
    rw [e1]
  · show (if gvB d th ((x.toNat : Nat) : Int) = true ∧ nvB d ((x.toNat : Nat) : Int) = false then al d th x.toNat + d 100 ((x.toNat : Nat) : Int) else al d th x.toNat) = _
    rw [e1]
theorem oc_le (d : XM) (th : Int) : ∀ n : Nat, oc d th n ≤ n
  | 0 => Nat.le_refl 0
  | n + 1 => by
    have ih := oc_le d th n
    have e : oc d th (n + 1) = if gvB d th (n : Int) = true ∧ nvB d (n : Int) = false then oc d th n + 1 else oc d th n := rfl
    rw [e]
    split <;> omega
theorem nc_le (d : XM) (th : Int) : ∀ n : Nat, nc d th n ≤ n
  | 0 => Nat.le_refl 0
  | n + 1 => by
    have ih := nc_le d th n
    have e : nc d th (n + 1) = if gvB d th (n : Int) = true ∧ nvB d (n : Int) = true then nc d th n + 1 else nc d th n := rfl
    rw [e]
    split <;> omega
theorem oc_mono (d : XM) (th : Int) : ∀ {n m : Nat}, n ≤ m → oc d th n ≤ oc d th m
  | n, 0, h => by rw [show n = 0 by omega]; exact Nat.le_refl _
  | n, m + 1, h => by
    by_cases c : n = m + 1
    · rw [c]; exact Nat.le_refl _
    · have ih := oc_mono d th (show n ≤ m by omega)
      have e : oc d th (m + 1) = if gvB d th (m : Int) = true ∧ nvB d (m : Int) = false then oc d th m + 1 else oc d th m := rfl
      rw [e]
      split <;> omega
theorem oa_r (d : XM) (th : Int) : ∀ n : Nat, ∀ i, 0 ≤ i → i < (oc d th n : Int) → 0 ≤ oa d th n i ∧ oa d th n i < (n : Int)
  | 0, i, h1, h2 => absurd h2 (by show ¬ i < ((0 : Nat) : Int); omega)
  | n + 1, i, h1, h2 => by
    have e : oc d th (n + 1) = if gvB d th (n : Int) = true ∧ nvB d (n : Int) = false then oc d th n + 1 else oc d th n := rfl
    have e2 : oa d th (n + 1) = if gvB d th (n : Int) = true ∧ nvB d (n : Int) = false then upx (oa d th n) ((oc d th n : Nat) : Int) (n : Int) else oa d th n := rfl
    have ih := oa_r d th n i h1
    rw [e] at h2
    rw [e2]
    by_cases c : gvB d th (n : Int) = true ∧ nvB d (n : Int) = false
    · rw [if_pos c] at h2 ⊢
      rw [upx_ap]
      by_cases ci : i = ((oc d th n : Nat) : Int)
      · rw [if_pos ci]
        omega
      · rw [if_neg ci]
        have := ih (by omega)
        omega
    · rw [if_neg c] at h2 ⊢
      have := ih h2
      omega
theorem al_sum (d : XM) (th : Int) : ∀ n : Nat, al d th n = sumN (fun i => d 100 (oa d th n i)) (oc d th n)
  | 0 => rfl
  | n + 1 => by
    have ih := al_sum d th n
    have e : oc d th (n + 1) = if gvB d th (n : Int) = true ∧ nvB d (n : Int) = false then oc d th n + 1 else oc d th n := rfl
    have e2 : oa d th (n + 1) = if gvB d th (n : Int) = true ∧ nvB d (n : Int) = false then upx (oa d th n) ((oc d th n : Nat) : Int) (n : Int) else oa d th n := rfl
    have e3 : al d th (n + 1) = if gvB d th (n : Int) = true ∧ nvB d (n : Int) = false then al d th n + d 100 (n : Int) else al d th n := rfl
    rw [e, e2, e3]
    by_cases c : gvB d th (n : Int) = true ∧ nvB d (n : Int) = false
    · rw [if_pos c, if_pos c, if_pos c, ih]
      show _ = sumN (fun i => d 100 (upx (oa d th n) ((oc d th n : Nat) : Int) (n : Int) i)) (oc d th n) + d 100 (upx (oa d th n) ((oc d th n : Nat) : Int) (n : Int) ((oc d th n : Nat) : Int))
      rw [upx_ap, if_pos rfl]
      congr 1
      refine sumN_congr fun k h1 h2 => ?_
      rw [upx_ap, if_neg (by omega)]
    · rw [if_neg c, if_neg c, if_neg c, ih]
def OCt (d : XM) (th : Int) : Nat := oc d th (d 81 19).toNat
def OAt (d : XM) (th : Int) : Int → Int := oa d th (d 81 19).toNat
def NCt (d : XM) (th : Int) : Nat := nc d th (d 81 19).toNat
def EX (d : XM) (th : Int) : Int := al d th (d 81 19).toNat - d 89 th
def mk (d : XM) (th i : Int) : Int := d 100 (OAt d th i)
def rF (d : XM) (th : Int) : Nat → Int × Int
  | 0 => (-1, 0)
  | b + 1 => if EX d th ≤ sS (mk d th) b (OCt d th) ∧ ((rF d th b).1 = -1 ∨ PC b < PC (rF d th b).1.toNat ∨ (PC b = PC (rF d th b).1.toNat ∧ sS (mk d th) b (OCt d th) < (rF d th b).2)) then ((b : Int), sS (mk d th) b (OCt d th)) else rF d th b
theorem rF_succ (d : XM) (th : Int) (b : Nat) : rF d th (b + 1) = if EX d th ≤ sS (mk d th) b (OCt d th) ∧ ((rF d th b).1 = -1 ∨ PC b < PC (rF d th b).1.toNat ∨ (PC b = PC (rF d th b).1.toNat ∧ sS (mk d th) b (OCt d th) < (rF d th b).2)) then ((b : Int), sS (mk d th) b (OCt d th)) else rF d th b := rfl
theorem rF_r (d : XM) (th : Int) : ∀ b : Nat, (rF d th b).1 = -1 ∨ (0 ≤ (rF d th b).1 ∧ (rF d th b).1 < (b : Int))
  | 0 => Or.inl rfl
  | b + 1 => by
    have ih := rF_r d th b
    rw [rF_succ]
    split
    · right
      dsimp only
      omega
    · omega
theorem mk_r {d : XM} (hB : Base d) (th : Int) : ∀ i, 0 ≤ i → i < (OCt d th : Int) → 0 ≤ mk d th i ∧ mk d th i ≤ 100000 ∧ 0 ≤ OAt d th i ∧ OAt d th i < d 81 19 := by
  intro i h1 h2
  have h := oa_r d th (d 81 19).toNat i h1 h2
  have hs := hB.2.2.2.1.1
  have g := hB.2.2.2.1.2.2 (OAt d th i) h.1 (by unfold OAt; omega)
  unfold mk
  have h3 : 0 ≤ OAt d th i ∧ OAt d th i < (((d 81 19).toNat : Nat) : Int) := h
  omega
theorem PC_0 : PC 0 = 0 := by decide
theorem PC_pos {n : Nat} (h : n < 16777216) (h0 : n ≠ 0) : 0 < PC n := by
  have := PC_step h h0
  omega
/-- with nothing too much, nobody is doubted -/
theorem rF_low {d : XM} {th : Int} (hx : EX d th ≤ 0) : ∀ b : Nat, b < 16777216 → rF d th (b + 1) = (0, 0)
  | 0, _ => by
    rw [rF_succ, sS_0, if_pos ⟨hx, Or.inl rfl⟩]
    rfl
  | b + 1, h => by
    rw [rF_succ, rF_low hx b (by omega)]
    have hp := PC_pos h (by omega)
    rw [if_neg]
    intro q
    have q2 := q.2
    dsimp only at q2
    rw [show ((0 : Int)).toNat = 0 from rfl, PC_0] at q2
    omega
/-- somebody is found -/
theorem rF_some {d : XM} (hB : Base d) {th : Int} (ht : 0 ≤ th ∧ th < d 81 7) (hn : OCt d th ≤ 12) : (rF d th (2 ^ OCt d th)).1 ≠ -1 := by
  have hp := Nat.two_pow_pos (OCt d th)
  obtain ⟨m, hm⟩ : ∃ m, 2 ^ OCt d th = m + 1 := ⟨2 ^ OCt d th - 1, by omega⟩
  have g := hB.2.2.1.2.2.2.2.1 th ht.1 ht.2
  rw [hm, rF_succ]
  have hs := sS_full (mk d th) (show OCt d th ≤ 16 by omega)
  rw [hm, show m + 1 - 1 = m by omega] at hs
  have ha : al d th (d 81 19).toNat = sumN (mk d th) (OCt d th) := al_sum d th _
  have he : EX d th ≤ sS (mk d th) m (OCt d th) := by
    rw [hs]
    unfold EX
    omega
  by_cases c : (rF d th m).1 = -1
  · rw [if_pos ⟨he, Or.inl c⟩]
    dsimp only
    omega
  · split
    · dsimp only
      omega
    · exact c
theorem PC_nn : ∀ n : Fin 13, ∀ h l : Fin 64, 64 * h.val + l.val < 2 ^ n.val → PC (64 * h.val + l.val) ≤ n.val := by decide +kernel
theorem PC_n {n b : Nat} (hn : n ≤ 12) (hb : b < 2 ^ n) : PC b ≤ n := by
  have h4 : 2 ^ n ≤ 2 ^ 12 := Nat.pow_le_pow_right (by omega) hn
  have h5 : (2 : Nat) ^ 12 = 4096 := rfl
  have := PC_nn ⟨n, by omega⟩ ⟨b / 64, by omega⟩ ⟨b % 64, by omega⟩
  dsimp only at this
  rw [show 64 * (b / 64) + b % 64 = b by omega] at this
  exact this hb
