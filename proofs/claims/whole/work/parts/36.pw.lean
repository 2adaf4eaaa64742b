/-! ===== bits ===== -/
theorem oN (n : Nat) : (Int32.ofInt (n : Int)).toBitVec = BitVec.ofNat 32 n := by
  rw [Int32.toBitVec_ofInt, BitVec.ofInt_natCast]
theorem iAnd_n {n m : Nat} (hn : n < 2147483648) : iAnd (n : Int) (m : Int) = ((n &&& m : Nat) : Int) := by
  have h : Int32.ofInt (n : Int) &&& Int32.ofInt (m : Int) = Int32.ofInt ((n &&& m : Nat) : Int) := by
    apply Int32.toBitVec_inj.1
    rw [Int32.toBitVec_and, oN, oN, oN]
    apply BitVec.eq_of_getLsbD_eq
    intro i hi
    simp [hi]
  have hl : n &&& m ≤ n := Nat.and_le_left
  unfold iAnd
  rw [h, xt32i ⟨by omega, by omega⟩]
theorem iOr_n {n m : Nat} (hn : n < 2147483648) (hm : m < 2147483648) : iOr (n : Int) (m : Int) = ((n ||| m : Nat) : Int) := by
  have h : Int32.ofInt (n : Int) ||| Int32.ofInt (m : Int) = Int32.ofInt ((n ||| m : Nat) : Int) := by
    apply Int32.toBitVec_inj.1
    rw [Int32.toBitVec_or, oN, oN, oN]
    apply BitVec.eq_of_getLsbD_eq
    intro i hi
    simp [hi]
  have hl : n ||| m < 2 ^ 31 := Nat.or_lt_two_pow hn hm
  unfold iOr
  rw [h, xt32i ⟨by omega, by omega⟩]
theorem iXor_n {n m : Nat} (hn : n < 2147483648) (hm : m < 2147483648) : iXor (n : Int) (m : Int) = ((n ^^^ m : Nat) : Int) := by
  have h : Int32.ofInt (n : Int) ^^^ Int32.ofInt (m : Int) = Int32.ofInt ((n ^^^ m : Nat) : Int) := by
    apply Int32.toBitVec_inj.1
    rw [Int32.toBitVec_xor, oN, oN, oN]
    apply BitVec.eq_of_getLsbD_eq
    intro i hi
    simp [hi]
  have hl : n ^^^ m < 2 ^ 31 := Nat.xor_lt_two_pow hn hm
  unfold iXor
  rw [h, xt32i ⟨by omega, by omega⟩]
theorem sh_l : ∀ k : Fin 32, ((Int32.ofInt ((k.val : Nat) : Int) &&& 31).toBitVec.smod 32).toNat = k.val := by decide +kernel
theorem iShr_n {n k : Nat} (hn : n < 2147483648) (hk : k < 32) : iShr (n : Int) (k : Int) = ((n / 2 ^ k : Nat) : Int) := by
  have hm : (BitVec.ofNat 32 n).msb = false := by
    rw [BitVec.msb_eq_decide]
    simp
    omega
  have h : Int32.ofInt (n : Int) >>> (Int32.ofInt (k : Int) &&& 31) = Int32.ofInt ((n / 2 ^ k : Nat) : Int) := by
    apply Int32.toBitVec_inj.1
    rw [Int32.toBitVec_shiftRight, oN, oN]
    show (BitVec.ofNat 32 n).sshiftRight ((Int32.ofInt (k : Int) &&& 31).toBitVec.smod 32).toNat = _
    rw [sh_l ⟨k, hk⟩, BitVec.sshiftRight_eq_of_msb_false hm]
    apply BitVec.eq_of_toNat_eq
    rw [BitVec.toNat_ushiftRight, BitVec.toNat_ofNat, BitVec.toNat_ofNat, Nat.shiftRight_eq_div_pow, Nat.mod_eq_of_lt (show n < 2 ^ 32 by omega), Nat.mod_eq_of_lt (Nat.lt_of_le_of_lt (Nat.div_le_self _ _) (show n < 2 ^ 32 by omega))]
  have hl : n / 2 ^ k ≤ n := Nat.div_le_self _ _
  unfold iShr
  rw [h]
  generalize n / 2 ^ k = q at hl ⊢
  rw [xt32i ⟨by omega, by omega⟩]
theorem ush_l : ∀ k : Fin 32, (((Int32.ofInt ((k.val : Nat) : Int)).toUInt32 &&& Int32.toUInt32 31).toBitVec % 32).toNat = k.val := by decide +kernel
theorem iUshr_n {n k : Nat} (hn : n < 2147483648) (hk : k < 32) : iUshr (n : Int) (k : Int) = ((n / 2 ^ k : Nat) : Int) := by
  have h : ((Int32.ofInt (n : Int)).toUInt32 >>> ((Int32.ofInt (k : Int)).toUInt32 &&& Int32.toUInt32 31)).toInt32 = Int32.ofInt ((n / 2 ^ k : Nat) : Int) := by
    apply Int32.toBitVec_inj.1
    rw [oN]
    show ((Int32.ofInt (n : Int)).toUInt32 >>> ((Int32.ofInt (k : Int)).toUInt32 &&& Int32.toUInt32 31)).toBitVec = _
    rw [UInt32.toBitVec_shiftRight]
    show (Int32.ofInt (n : Int)).toBitVec >>> (((Int32.ofInt (k : Int)).toUInt32 &&& Int32.toUInt32 31).toBitVec % 32).toNat = _
    rw [ush_l ⟨k, hk⟩, oN]
    apply BitVec.eq_of_toNat_eq
    rw [BitVec.toNat_ushiftRight, BitVec.toNat_ofNat, BitVec.toNat_ofNat, Nat.shiftRight_eq_div_pow, Nat.mod_eq_of_lt (show n < 2 ^ 32 by omega), Nat.mod_eq_of_lt (Nat.lt_of_le_of_lt (Nat.div_le_self _ _) (show n < 2 ^ 32 by omega))]
  have hl : n / 2 ^ k ≤ n := Nat.div_le_self _ _
  unfold iUshr
  rw [h]
  generalize n / 2 ^ k = q at hl ⊢
  rw [xt32i ⟨by omega, by omega⟩]
theorem iShl_1 : ∀ k : Fin 31, iShl 1 ((k.val : Nat) : Int) = ((2 ^ k.val : Nat) : Int) := by decide +kernel
theorem iShl_n {k : Nat} (hk : k < 31) : iShl 1 (k : Int) = ((2 ^ k : Nat) : Int) := iShl_1 ⟨k, hk⟩
theorem bit_n {n k : Nat} (hn : n < 2147483648) (hk : k < 32) : iAnd (iShr (n : Int) (k : Int)) 1 = ((n / 2 ^ k % 2 : Nat) : Int) := by
  have hl : n / 2 ^ k ≤ n := Nat.div_le_self _ _
  rw [iShr_n hn hk, show (1 : Int) = ((1 : Nat) : Int) from rfl, iAnd_n (by omega), Nat.and_one_is_mod]
/-! how many bits are 1, by bytes -/
def byt (x : Nat) : Nat := x % 2 + x / 2 % 2 + x / 4 % 2 + x / 8 % 2 + x / 16 % 2 + x / 32 % 2 + x / 64 % 2 + x / 128 % 2
def PC (n : Nat) : Nat := byt (n % 256) + byt (n / 256 % 256) + byt (n / 65536)
theorem and_bl {a b c e : Nat} (hb : b < 256) (he : e < 256) : (256 * a + b) &&& (256 * c + e) = 256 * (a &&& c) + (b &&& e) := by
  have h1 : b &&& e < 256 := Nat.lt_of_le_of_lt Nat.and_le_left hb
  have e1 : (256 * a + b) = 2 ^ 8 * a + b := rfl
  have e2 : (256 * c + e) = 2 ^ 8 * c + e := rfl
  have e3 : 256 * (a &&& c) + (b &&& e) = 2 ^ 8 * (a &&& c) + (b &&& e) := rfl
  rw [e1, e2, e3]
  apply Nat.eq_of_testBit_eq
  intro i
  rw [Nat.testBit_and, Nat.testBit_two_pow_mul_add _ hb, Nat.testBit_two_pow_mul_add _ he, Nat.testBit_two_pow_mul_add _ h1]
  split
  · rw [Nat.testBit_and]
  · rw [Nat.testBit_and]
theorem and_3 {a b c a' b' c' : Nat} (ha : a < 256) (hb : b < 256) (ha' : a' < 256) (hb' : b' < 256) : (65536 * c + 256 * b + a) &&& (65536 * c' + 256 * b' + a') = 65536 * (c &&& c') + 256 * (b &&& b') + (a &&& a') := by
  rw [show 65536 * c + 256 * b + a = 256 * (256 * c + b) + a by omega, show 65536 * c' + 256 * b' + a' = 256 * (256 * c' + b') + a' by omega, and_bl ha ha', and_bl hb hb']
  omega
def bu (x : Nat) : Nat := x - ((x / 2) &&& 85)
def bv (x : Nat) : Nat := (bu x &&& 51) + ((bu x / 4) &&& 51)
theorem by_1 : ∀ x : Fin 256, ∀ y : Fin 2, ((y.val * 128 + x.val / 2) &&& 85) = ((x.val / 2) &&& 85) ∧ ((x.val / 2) &&& 85) ≤ x.val := by decide +kernel
theorem by_2 : ∀ x : Fin 256, ∀ y : Fin 4, ((y.val * 64 + bu x.val / 4) &&& 51) = ((bu x.val / 4) &&& 51) ∧ bu x.val < 256 := by decide +kernel
theorem by_3 : ∀ x : Fin 256, bv x.val ≤ 68 ∧ bv x.val % 16 ≤ 4 ∧ (∀ y : Fin 5, ((bv x.val + y.val * 16 + bv x.val / 16) &&& 15) = byt x.val) ∧ byt x.val ≤ 8 := by decide +kernel
theorem by_k : ∀ x : Fin 256, x.val ≠ 0 → byt (x.val &&& (x.val - 1)) + 1 = byt x.val ∧ (x.val &&& (x.val - 1)) < 256 := by decide +kernel
theorem by_s : ∀ x : Fin 256, (x.val &&& x.val) = x.val := by decide +kernel
theorem PC_le {n : Nat} (h : n < 16777216) : PC n ≤ 24 := by
  have h1 := (by_3 ⟨n % 256, by omega⟩).2.2.2
  have h2 := (by_3 ⟨n / 256 % 256, by omega⟩).2.2.2
  have h3 := (by_3 ⟨n / 65536, by omega⟩).2.2.2
  unfold PC
  dsimp only at h1 h2 h3
  omega
theorem JI_bitCount_iff {n : Nat} {M : XM} {Q : Int → XM → Prop} (h : n < 16777216) : F_JI_bitCount (n : Int) M Q ↔ Q ((PC n : Nat) : Int) M := by
  unfold F_JI_bitCount S_JI_bitCount
  simp only [sSeq, sSet, sInc, sPF, sPA, sPD, sOF, sOA, sX, sIf, sSkip, sRet, sRetB, sRetV, sSw, sSel, eK, eL, eR, eF, eA, eQ, eD, eU, eB, eV, eIf, ePF, eC0, eC1, eC2, eC3, eC4, eC5, eC6, eC7, cB, cZ, cAnd, cOr, cNot, i2l, st_fn, sl_ap, if_true, if_false, ↓reduceIte, reduceIte, Nat.reduceEqDiff, Int.reduceEq, Int.reduceLT, Int.reduceLE, Int.reduceAdd, Int.reduceSub, Int.reduceMul, Int.reduceNeg, and_true, true_and, not_true, not_false_eq_true, true_or, or_true, ne_eq]
  obtain ⟨a, b, c, ha, hb, hc, rfl⟩ : ∃ a b c : Nat, a < 256 ∧ b < 256 ∧ c < 256 ∧ n = 65536 * c + 256 * b + a := ⟨n % 256, n / 256 % 256, n / 65536, by omega, by omega, by omega, by omega⟩
  have k1 : ∀ k : Nat, ((k : Nat) : Int) = (k : Int) := fun _ => rfl
  have h1a := by_1 ⟨a, ha⟩ ⟨b % 2, by omega⟩
  have h1b := by_1 ⟨b, hb⟩ ⟨c % 2, by omega⟩
  have h1c := by_1 ⟨c, hc⟩ ⟨0, by omega⟩
  have h2a := by_2 ⟨a, ha⟩ ⟨bu b % 4, by omega⟩
  have h2b := by_2 ⟨b, hb⟩ ⟨bu c % 4, by omega⟩
  have h2c := by_2 ⟨c, hc⟩ ⟨0, by omega⟩
  have h3a := by_3 ⟨a, ha⟩
  have h3b := by_3 ⟨b, hb⟩
  have h3c := by_3 ⟨c, hc⟩
  dsimp only at h1a h1b h1c h2a h2b h2c h3a h3b h3c
  have q1 : iSub (((65536 * c + 256 * b + a : Nat)) : Int) (iAnd (iUshr ((65536 * c + 256 * b + a : Nat) : Int) 1) 1431655765) = ((65536 * bu c + 256 * bu b + bu a : Nat) : Int) := by
    rw [show (1 : Int) = ((1 : Nat) : Int) from rfl, iUshr_n (by omega) (by omega), show (1431655765 : Int) = ((65536 * 21845 + 256 * 85 + 85 : Nat) : Int) from rfl, iAnd_n (by omega)]
    rw [show (65536 * c + 256 * b + a) / 2 ^ 1 = 65536 * (c / 2) + 256 * (c % 2 * 128 + b / 2) + (b % 2 * 128 + a / 2) by omega, and_3 (by omega) (by omega) (by omega) (by omega), h1a.1, h1b.1]
    have e : ((c / 2) &&& 21845) = ((c / 2) &&& 85) := by
      have := (by decide +kernel : ∀ x : Fin 256, ((x.val / 2) &&& 21845) = ((x.val / 2) &&& 85)) ⟨c, hc⟩
      exact this
    rw [e]
    unfold bu
    rw [iSub_id (by omega) (by omega)]
    omega
  have q2 : iAdd (iAnd ((65536 * bu c + 256 * bu b + bu a : Nat) : Int) 858993459) (iAnd (iUshr ((65536 * bu c + 256 * bu b + bu a : Nat) : Int) 2) 858993459) = ((65536 * bv c + 256 * bv b + bv a : Nat) : Int) := by
    rw [show (2 : Int) = ((2 : Nat) : Int) from rfl, iUshr_n (by omega) (by omega), show (858993459 : Int) = ((65536 * 13107 + 256 * 51 + 51 : Nat) : Int) from rfl, iAnd_n (by omega), iAnd_n (by omega)]
    rw [show (65536 * bu c + 256 * bu b + bu a) / 2 ^ 2 = 65536 * (bu c / 4) + 256 * (bu c % 4 * 64 + bu b / 4) + (bu b % 4 * 64 + bu a / 4) by omega, and_3 (by omega) (by omega) (by omega) (by omega), and_3 (by omega) (by omega) (by omega) (by omega), h2a.1, h2b.1]
    have e : (bu c &&& 13107) = (bu c &&& 51) ∧ ((bu c / 4) &&& 13107) = ((bu c / 4) &&& 51) := by
      have := (by decide +kernel : ∀ x : Fin 256, (bu x.val &&& 13107) = (bu x.val &&& 51) ∧ ((bu x.val / 4) &&& 13107) = ((bu x.val / 4) &&& 51)) ⟨c, hc⟩
      exact this
    rw [e.1, e.2]
    unfold bv at h3a h3b h3c ⊢
    rw [iAdd_id (by omega) (by omega)]
    omega
  have q3 : iAnd (iAdd ((65536 * bv c + 256 * bv b + bv a : Nat) : Int) (iUshr ((65536 * bv c + 256 * bv b + bv a : Nat) : Int) 4)) 252645135 = ((65536 * byt c + 256 * byt b + byt a : Nat) : Int) := by
    rw [show (4 : Int) = ((4 : Nat) : Int) from rfl, iUshr_n (by omega) (by omega)]
    rw [show (65536 * bv c + 256 * bv b + bv a) / 2 ^ 4 = 65536 * (bv c / 16) + 256 * (bv c % 16 * 16 + bv b / 16) + (bv b % 16 * 16 + bv a / 16) by omega]
    rw [iAdd_id (by omega) (by omega), show (((65536 * bv c + 256 * bv b + bv a : Nat) : Int) + ((65536 * (bv c / 16) + 256 * (bv c % 16 * 16 + bv b / 16) + (bv b % 16 * 16 + bv a / 16) : Nat) : Int)) = ((65536 * (bv c + bv c / 16) + 256 * (bv b + bv c % 16 * 16 + bv b / 16) + (bv a + bv b % 16 * 16 + bv a / 16) : Nat) : Int) by omega, show (252645135 : Int) = ((65536 * 3855 + 256 * 15 + 15 : Nat) : Int) from rfl, iAnd_n (by omega), and_3 (by omega) (by omega) (by omega) (by omega)]
    have ea := h3a.2.2.1 ⟨bv b % 16, by omega⟩
    have eb := h3b.2.2.1 ⟨bv c % 16, by omega⟩
    have ec := h3c.2.2.1 ⟨0, by omega⟩
    dsimp only at ea eb ec
    have e : ((bv c + bv c / 16) &&& 3855) = ((bv c + 0 * 16 + bv c / 16) &&& 15) := by
      have := (by decide +kernel : ∀ x : Fin 256, ((bv x.val + bv x.val / 16) &&& 3855) = ((bv x.val + 0 * 16 + bv x.val / 16) &&& 15)) ⟨c, hc⟩
      exact this
    rw [ea, eb, e, ec]
  have q4 : iAdd ((65536 * byt c + 256 * byt b + byt a : Nat) : Int) (iUshr ((65536 * byt c + 256 * byt b + byt a : Nat) : Int) 8) = ((65536 * byt c + 256 * (byt b + byt c) + (byt a + byt b) : Nat) : Int) := by
    rw [show (8 : Int) = ((8 : Nat) : Int) from rfl, iUshr_n (by omega) (by omega), show (65536 * byt c + 256 * byt b + byt a) / 2 ^ 8 = 256 * byt c + byt b by omega, iAdd_id (by omega) (by omega)]
    omega
  have q5 : iAdd ((65536 * byt c + 256 * (byt b + byt c) + (byt a + byt b) : Nat) : Int) (iUshr ((65536 * byt c + 256 * (byt b + byt c) + (byt a + byt b) : Nat) : Int) 16) = ((65536 * byt c + 256 * (byt b + byt c) + (byt a + byt b + byt c) : Nat) : Int) := by
    rw [show (16 : Int) = ((16 : Nat) : Int) from rfl, iUshr_n (by omega) (by omega), show (65536 * byt c + 256 * (byt b + byt c) + (byt a + byt b)) / 2 ^ 16 = byt c by omega, iAdd_id (by omega) (by omega)]
    omega
  have q6 : iAnd ((65536 * byt c + 256 * (byt b + byt c) + (byt a + byt b + byt c) : Nat) : Int) 63 = ((PC (65536 * c + 256 * b + a) : Nat) : Int) := by
    rw [show (63 : Int) = ((63 : Nat) : Int) from rfl, iAnd_n (by omega), show (63 : Nat) = 2 ^ 6 - 1 from rfl, Nat.and_two_pow_sub_one_eq_mod]
    unfold PC
    rw [show (65536 * c + 256 * b + a) % 256 = a by omega, show (65536 * c + 256 * b + a) / 256 % 256 = b by omega, show (65536 * c + 256 * b + a) / 65536 = c by omega]
    omega
  rw [q1, q2, q3, q4, q5, q6]
theorem PC_step {n : Nat} (h : n < 16777216) (h0 : n ≠ 0) : PC (n &&& (n - 1)) + 1 = PC n ∧ (n &&& (n - 1)) < 16777216 := by
  have hlt : n &&& (n - 1) < 16777216 := Nat.lt_of_le_of_lt Nat.and_le_left h
  refine ⟨?_, hlt⟩
  obtain ⟨a, b, c, ha, hb, hc, rfl⟩ : ∃ a b c : Nat, a < 256 ∧ b < 256 ∧ c < 256 ∧ n = 65536 * c + 256 * b + a := ⟨n % 256, n / 256 % 256, n / 65536, by omega, by omega, by omega, by omega⟩
  have sa := by_s ⟨a, ha⟩
  have sb := by_s ⟨b, hb⟩
  have sc := by_s ⟨c, hc⟩
  have ka := by_k ⟨a, ha⟩
  have kb := by_k ⟨b, hb⟩
  have kc := by_k ⟨c, hc⟩
  dsimp only at sa sb sc ka kb kc
  have pc : ∀ x y z : Nat, x < 256 → y < 256 → PC (65536 * z + 256 * y + x) = byt x + byt y + byt z := by
    intro x y z hx hy
    unfold PC
    rw [show (65536 * z + 256 * y + x) % 256 = x by omega, show (65536 * z + 256 * y + x) / 256 % 256 = y by omega, show (65536 * z + 256 * y + x) / 65536 = z by omega]
  rw [pc a b c ha hb]
  by_cases ca : a = 0
  · by_cases cb : b = 0
    · have cc : c ≠ 0 := by omega
      subst ca cb
      rw [show 65536 * c + 256 * 0 + 0 - 1 = 65536 * (c - 1) + 256 * 255 + 255 by omega, and_3 (by omega) (by omega) (by omega) (by omega), pc _ _ _ (by simp) (by simp)]
      have := kc cc
      simp only [Nat.zero_and]
      omega
    · subst ca
      rw [show 65536 * c + 256 * b + 0 - 1 = 65536 * c + 256 * (b - 1) + 255 by omega, and_3 (by omega) (by omega) (by omega) (by omega), sc]
      have := kb cb
      rw [pc _ _ _ (by simp) this.2]
      simp only [Nat.zero_and]
      omega
  · rw [show 65536 * c + 256 * b + a - 1 = 65536 * c + 256 * b + (a - 1) by omega, and_3 (by omega) (by omega) (by omega) (by omega), sc, sb]
    have := ka ca
    rw [pc _ _ _ this.2 hb]
    omega
theorem R_ones_ok {n : Nat} {M : XM} {Q : Int → XM → Prop} (h : n < 16777216) (hQ : Q ((PC n : Nat) : Int) M) : F_R_ones (n : Int) M Q := by
  unfold F_R_ones S_R_ones
  simp only [sSeq, sSet, sInc, sPF, sPA, sPD, sOF, sOA, sX, sIf, sSkip, sRet, sRetB, sRetV, sSw, sSel, eK, eL, eR, eF, eA, eQ, eD, eU, eB, eV, eIf, ePF, eC0, eC1, eC2, eC3, eC4, eC5, eC6, eC7, cB, cZ, cAnd, cOr, cNot, i2l, st_fn, sl_ap, if_true, if_false, ↓reduceIte, reduceIte, Nat.reduceEqDiff, Int.reduceEq, Int.reduceLT, Int.reduceLE, Int.reduceAdd, Int.reduceSub, Int.reduceMul, Int.reduceNeg, and_true, true_and, not_true, not_false_eq_true, true_or, or_true, ne_eq]
  refine while_inv (fun L M' => M' = M ∧ ∃ k : Nat, k < 16777216 ∧ L 2 = (k : Int) ∧ L 1 + ((PC k : Nat) : Int) = ((PC n : Nat) : Int) ∧ 0 ≤ L 1) (fun L _ => PC (L 2).toNat) ⟨rfl, n, h, rfl, by simp only [sl_ap, st_fn, Nat.reduceEqDiff, ↓reduceIte, reduceIte, Int.reduceEq, if_true, if_false]; omega, by simp only [sl_ap, st_fn, Nat.reduceEqDiff, ↓reduceIte, reduceIte, Int.reduceEq, if_true, if_false]; omega⟩ ?_
  intro L M' ⟨k1, k, k2, k3, k4, k5⟩ Q' hQ'
  subst k1
  simp only [sSeq, sSet, sInc, sPF, sPA, sPD, sOF, sOA, sX, sIf, sSkip, sRet, sRetB, sRetV, sSw, sSel, eK, eL, eR, eF, eA, eQ, eD, eU, eB, eV, eIf, ePF, eC0, eC1, eC2, eC3, eC4, eC5, eC6, eC7, cB, cZ, cAnd, cOr, cNot, i2l, st_fn, sl_ap, if_true, if_false, ↓reduceIte, reduceIte, Nat.reduceEqDiff, Int.reduceEq, Int.reduceLT, Int.reduceLE, Int.reduceAdd, Int.reduceSub, Int.reduceMul, Int.reduceNeg, and_true, true_and, not_true, not_false_eq_true, true_or, or_true, ne_eq, k3]
  refine ⟨fun c => ?_, fun c => ?_⟩
  · have c0 : k ≠ 0 := by omega
    have hp := PC_step k2 c0
    have hle := PC_le h
    rw [iSub_id (by omega) (by omega), show (k : Int) - 1 = ((k - 1 : Nat) : Int) by omega, iAnd_n (by omega), iAdd_id (by omega) (by omega)]
    refine hQ' _ _ ⟨rfl, k &&& (k - 1), hp.2, ?_, ?_, ?_⟩ ?_
    · simp only [sl_ap, st_fn, Nat.reduceEqDiff, ↓reduceIte, reduceIte, Int.reduceEq, if_true, if_false]
    · simp only [sl_ap, st_fn, Nat.reduceEqDiff, ↓reduceIte, reduceIte, Int.reduceEq, if_true, if_false]
      omega
    · simp only [sl_ap, st_fn, Nat.reduceEqDiff, ↓reduceIte, reduceIte, Int.reduceEq, if_true, if_false]
      omega
    · simp only [sl_ap, st_fn, Nat.reduceEqDiff, ↓reduceIte, reduceIte, Int.reduceEq, if_true, if_false, k3]
      rw [show (((k &&& (k - 1) : Nat) : Int)).toNat = k &&& (k - 1) by omega, show ((k : Int)).toNat = k by omega]
      omega
  · have c0 : k = 0 := by omega
    subst c0
    have : PC 0 = 0 := by decide
    rw [this] at k4
    rw [show L 1 = ((PC n : Nat) : Int) by omega]
    exact hQ
