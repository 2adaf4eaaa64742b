/-! ===== fields, arrays, statics ===== -/
theorem xidx {j : Int} {n : Nat} (h0 : 0 ≤ j) (h1 : j < n) (hn : n < 2147483648) : vp_in (Int32.ofInt j) n ∧ (Int32.ofInt j).toNatClampNeg = j.toNat ∧ ((j.toNat : Nat) : Int) = j := by
  have hr : r32 j := by unfold r32; omega
  have e : (Int32.ofInt j).toNatClampNeg = j.toNat := by
    show (Int32.ofInt j).toInt.toNat = _
    rw [xt32i hr]
  refine ⟨vp_in_iff.mpr ?_, e, by omega⟩
  rw [xt32i hr]
  exact ⟨h0, h1⟩
theorem GG.getf {θ : XΘ} {own : String} {cc : ByteArray} {nn : Nat} {rm : Nat × Nat} {ret : Option FieldType} (h : Fx θ own cc nn rm ret) {Γ : XG} {pc : Nat} {L : XL} {t : XT} {M : XM} {κ k j ix ci N : Nat} {C ref : String} {T : u_T} {fs : XW → (Int → Int) → List Value} (zf : (Int → Int) → Int) (hk : k < xN) (hc : vwCl[ci]? = some (C, T, N)) (hcell : ∀ ω f, xcell ω k f = .inr (ci, fs ω f)) (hv : ∀ ω f, (fs ω f)[j]? = some (x_val ω κ (zf f))) (hwf : ∀ M, xwM M → x_wf κ (zf (M k))) (hj : j < N) (hlink : Cond.fieldLink own ix ref (T j).2.1 (T j).2.2.1 ∈ xT) (hsame : (T j).1 = ref) (hin : ∀ w ∈ u_ws C T N, w ∈ xT) (d : decode cc pc = .ok (.getfield ix, 3)) {z : Int} (kk : GG θ Γ (pc + 3) L ((κ, zf (M k)) :: t) M) : GG θ Γ pc L ((k + 4, z) :: t) M := by
  obtain ⟨p, l, e, R, s, m, args, below, meth, c, Qf, ω, M0, nL, nc, ns, fin⟩ := θ
  obtain ⟨hx, hb, hml, hown, hts, hK, hE, hr1, hr2, hr3, hr4, hret, hnn⟩ := h
  intro hG hS hM hM0 H locs ls hP hSv hl
  refine va_get (Ts := xT) (D := ω.1) hx hb hts hin hown hK.1 hP k (by rw [xworld_get ω M hk, hcell]) hc j hj (hts _ hlink) (fun x hx2 => by rw [hsame] at hx2; exact hx2) (hv ω (M k)) d ?_
  exact kk hG (xwS_cons (hwf M hM) (xwS_tl hS)) hM hM0 H locs ls hP hSv hl
theorem GG.putf {θ : XΘ} {own : String} {cc : ByteArray} {nn : Nat} {rm : Nat × Nat} {ret : Option FieldType} (h : Fx θ own cc nn rm ret) {Γ : XG} {pc : Nat} {L : XL} {t : XT} {M : XM} {k j ix ci N : Nat} {C ref : String} {T : u_T} {fs : XW → (Int → Int) → List Value} (hk : k < xN) (hlg : xlong k = false) (hc : vwCl[ci]? = some (C, T, N)) (hcell : ∀ ω f, xcell ω k f = .inr (ci, fs ω f)) (hset : ∀ ω f v, (fs ω f).set j (.int (Int32.ofInt v)) = fs ω (fun b => if b = (j : Int) then v else f b)) (hlen : ∀ ω f, j < (fs ω f).length) (hj : j < N) (hlink : Cond.fieldLink own ix ref (T j).2.1 (T j).2.2.1 ∈ xT) (hsame : (T j).1 = ref) (hfin : (T j).2.2.2 = false) (ty0 : Nat → FieldType) (hty : ∀ k, k < N → parseFieldDescriptor (T k).2.2.1 = some (ty0 k)) (hint : ty0 j = .int) (hnm : ∀ a, a < N → ∀ b, b < N → a ≠ b → (T a).2.1 ≠ (T b).2.1) (hin : ∀ w ∈ u_ws C T N, w ∈ xT) (d : decode cc pc = .ok (.putfield ix, 3)) {z v : Int} (kk : GG θ Γ (pc + 3) L t (st M k j v)) : GG θ Γ pc L ((0, v) :: (k + 4, z) :: t) M := by
  obtain ⟨p, l, e, R, s, m, args, below, meth, c, Qf, ω, M0, nL, nc, ns, fin⟩ := θ
  obtain ⟨hx, hb, hml, hown, hts, hK, hE, hr1, hr2, hr3, hr4, hret, hnn⟩ := h
  intro hG hS hM hM0 H locs ls hP hSv hl
  have hd : parseFieldDescriptor (T j).2.2.1 = some .int := by rw [hty j hj, hint]
  refine va_put (Ts := xT) (D := ω.1) (ty := .int) (v := .int (Int32.ofInt v)) hx hb hts hin ty0 hty hnm hown hK.1 hP (xworld_D hK.2.2 M) hSv k (by rw [xworld_get ω M hk, hcell]) hc j hj (hts _ hlink) (fun x hx2 => by rw [hsame] at hx2; exact hx2) hfin hd rfl rfl (hlen ω (M k)) d (fun H1 locs1 hP1 hD1 hS1 => ?_)
  have hv : r32 v := xwS_hd hS
  rw [xworld_set ω M (st M k j v) hk (by rw [hset, st_self, hcell]) (fun a ha => st_ne M j v ha)] at hP1
  exact kk hG (xwS_tl (xwS_tl hS)) (xwM_st hM (by rw [hlg]; exact hv)) (xSame_st hM0 hk j v) H1 locs1 ls hP1 hS1 hl
theorem xw_aI {ω : XW} {M : XM} {k n : Nat} (hk : k < xN) (hcell : ∀ ω f, xcell ω k f = xaI ω n f) : (xworld ω M)[k]? = some (ω.2.1 k, .inl (ω.2.2.1, n, .inl (fun i => Int32.ofInt (M k (i : Int))))) := by
  rw [xworld_get ω M hk, hcell]
  rfl
theorem xw_aJ {ω : XW} {M : XM} {k n : Nat} (hk : k < xN) (hcell : ∀ ω f, xcell ω k f = xaJ ω n f) : (xworld ω M)[k]? = some (ω.2.1 k, .inl (ω.2.2.2.1, n, .inr (.inl (fun i => Int64.ofInt (M k (i : Int)))))) := by
  rw [xworld_get ω M hk, hcell]
  rfl
theorem GG.iald {θ : XΘ} {own : String} {cc : ByteArray} {nn : Nat} {rm : Nat × Nat} {ret : Option FieldType} (h : Fx θ own cc nn rm ret) {Γ : XG} {pc : Nat} {L : XL} {t : XT} {M : XM} {k n : Nat} (hk : k < xN) (hcell : ∀ ω f, xcell ω k f = xaI ω n f) (hlg : xlong k = false) (hn : n < 2147483648) (d : decode cc pc = .ok (.iaload, 1)) {j z : Int} (h0 : 0 ≤ j) (h1 : j < n) (kk : GG θ Γ (pc + 1) L ((0, M k j) :: t) M) : GG θ Γ pc L ((0, j) :: (k + 4, z) :: t) M := by
  obtain ⟨p, l, e, R, s, m, args, below, meth, c, Qf, ω, M0, nL, nc, ns, fin⟩ := θ
  obtain ⟨hx, hb, hml, hown, hts, hK, hE, hr1, hr2, hr3, hr4, hret, hnn⟩ := h
  intro hG hS hM hM0 H locs ls hP hSv hl
  obtain ⟨g1, g2, g3⟩ := xidx h0 h1 hn
  refine va_iald (D := ω.1) hx hb hK.1 hP k 0 (xw_aI hk hcell) rfl g1 d ?_
  rw [g2, g3]
  exact kk hG (xwS_cons (xwM32 hM hlg j) (xwS_tl (xwS_tl hS))) hM hM0 H locs ls hP hSv hl
theorem GG.lald {θ : XΘ} {own : String} {cc : ByteArray} {nn : Nat} {rm : Nat × Nat} {ret : Option FieldType} (h : Fx θ own cc nn rm ret) {Γ : XG} {pc : Nat} {L : XL} {t : XT} {M : XM} {k n : Nat} (hk : k < xN) (hcell : ∀ ω f, xcell ω k f = xaJ ω n f) (hlg : xlong k = true) (hn : n < 2147483648) (d : decode cc pc = .ok (.laload, 1)) {j z : Int} {κ : Nat} (hκ : ∀ ω, x_val ω κ z = .ref (ω.2.1 k)) (h0 : 0 ≤ j) (h1 : j < n) (kk : GG θ Γ (pc + 1) L ((1, M k j) :: t) M) : GG θ Γ pc L ((0, j) :: (κ, z) :: t) M := by
  obtain ⟨p, l, e, R, s, m, args, below, meth, c, Qf, ω, M0, nL, nc, ns, fin⟩ := θ
  obtain ⟨hx, hb, hml, hown, hts, hK, hE, hr1, hr2, hr3, hr4, hret, hnn⟩ := h
  intro hG hS hM hM0 H locs ls hP hSv hl
  obtain ⟨g1, g2, g3⟩ := xidx h0 h1 hn
  rw [show xsv ω ((0, j) :: (κ, z) :: t) = .int (Int32.ofInt j) :: x_val ω κ z :: xsv ω t from rfl, hκ ω]
  refine va_lald (D := ω.1) hx hb hK.1 hP k 1 (xw_aJ hk hcell) rfl g1 d ?_
  rw [g2, g3]
  exact kk hG (xwS_cons (xwM64 hM hlg j) (xwS_tl (xwS_tl hS))) hM hM0 H locs ls hP hSv hl
theorem xupdI (f : Int → Int) {j : Int} (h0 : 0 ≤ j) (v : Int) : upd (fun i : Nat => Int32.ofInt (f (i : Int))) j.toNat (Int32.ofInt v) = fun i : Nat => Int32.ofInt (if (i : Int) = j then v else f (i : Int)) := by
  funext i
  unfold upd
  by_cases e : i = j.toNat
  · have e2 : (i : Int) = j := by omega
    rw [if_pos e, if_pos e2]
  · have e2 : ¬ (i : Int) = j := by omega
    rw [if_neg e, if_neg e2]
theorem xupdJ (f : Int → Int) {j : Int} (h0 : 0 ≤ j) (v : Int) : vp_updL (fun i : Nat => Int64.ofInt (f (i : Int))) j.toNat (Int64.ofInt v) = fun i : Nat => Int64.ofInt (if (i : Int) = j then v else f (i : Int)) := by
  funext i
  unfold vp_updL
  by_cases e : i = j.toNat
  · have e2 : (i : Int) = j := by omega
    rw [if_pos e, if_pos e2]
  · have e2 : ¬ (i : Int) = j := by omega
    rw [if_neg e, if_neg e2]
theorem GG.iast {θ : XΘ} {own : String} {cc : ByteArray} {nn : Nat} {rm : Nat × Nat} {ret : Option FieldType} (h : Fx θ own cc nn rm ret) {Γ : XG} {pc : Nat} {L : XL} {t : XT} {M : XM} {k n : Nat} (hk : k < xN) (hcell : ∀ ω f, xcell ω k f = xaI ω n f) (hlg : xlong k = false) (hn : n < 2147483648) (d : decode cc pc = .ok (.iastore, 1)) {j z v : Int} (h0 : 0 ≤ j) (h1 : j < n) (kk : GG θ Γ (pc + 1) L t (st M k j v)) : GG θ Γ pc L ((0, v) :: (0, j) :: (k + 4, z) :: t) M := by
  obtain ⟨p, l, e, R, s, m, args, below, meth, c, Qf, ω, M0, nL, nc, ns, fin⟩ := θ
  obtain ⟨hx, hb, hml, hown, hts, hK, hE, hr1, hr2, hr3, hr4, hret, hnn⟩ := h
  intro hG hS hM hM0 H locs ls hP hSv hl
  obtain ⟨g1, g2, g3⟩ := xidx h0 h1 hn
  refine va_iast (D := ω.1) hx hb hK.1 hP (xworld_D hK.2.2 M) hSv k 0 (xw_aI hk hcell) rfl g1 d (fun H1 locs1 hP1 hD1 hS1 => ?_)
  have hv : r32 v := xwS_hd hS
  rw [g2, xupdI _ h0, xworld_set ω M (st M k j v) hk (by rw [st_self, hcell]; rfl) (fun a ha => st_ne M j v ha)] at hP1
  exact kk hG (xwS_tl (xwS_tl (xwS_tl hS))) (xwM_st hM (by rw [hlg]; exact hv)) (xSame_st hM0 hk j v) H1 locs1 ls hP1 hS1 hl
theorem GG.last {θ : XΘ} {own : String} {cc : ByteArray} {nn : Nat} {rm : Nat × Nat} {ret : Option FieldType} (h : Fx θ own cc nn rm ret) {Γ : XG} {pc : Nat} {L : XL} {t : XT} {M : XM} {k n : Nat} (hk : k < xN) (hcell : ∀ ω f, xcell ω k f = xaJ ω n f) (hlg : xlong k = true) (hn : n < 2147483648) (d : decode cc pc = .ok (.lastore, 1)) {j z v : Int} {κ : Nat} (hκ : ∀ ω, x_val ω κ z = .ref (ω.2.1 k)) (h0 : 0 ≤ j) (h1 : j < n) (kk : GG θ Γ (pc + 1) L t (st M k j v)) : GG θ Γ pc L ((1, v) :: (0, j) :: (κ, z) :: t) M := by
  obtain ⟨p, l, e, R, s, m, args, below, meth, c, Qf, ω, M0, nL, nc, ns, fin⟩ := θ
  obtain ⟨hx, hb, hml, hown, hts, hK, hE, hr1, hr2, hr3, hr4, hret, hnn⟩ := h
  intro hG hS hM hM0 H locs ls hP hSv hl
  obtain ⟨g1, g2, g3⟩ := xidx h0 h1 hn
  rw [show xsv ω ((1, v) :: (0, j) :: (κ, z) :: t) = .long (Int64.ofInt v) :: .int (Int32.ofInt j) :: x_val ω κ z :: xsv ω t from rfl, hκ ω]
  refine va_last (D := ω.1) hx hb hK.1 hP (xworld_D hK.2.2 M) hSv k 1 (xw_aJ hk hcell) rfl g1 d (fun H1 locs1 hP1 hD1 hS1 => ?_)
  have hv : r64 v := xwS_hd hS
  rw [g2, xupdJ _ h0, xworld_set ω M (st M k j v) hk (by rw [st_self, hcell]; rfl) (fun a ha => st_ne M j v ha)] at hP1
  exact kk hG (xwS_tl (xwS_tl (xwS_tl hS))) (xwM_st hM (by rw [hlg, if_pos rfl]; exact hv)) (xSame_st hM0 hk j v) H1 locs1 ls hP1 hS1 hl
/-- a row out of a long[][]: s-th of the n rows that stand from the cell c0 on -/
theorem GG.aald {θ : XΘ} {own : String} {cc : ByteArray} {nn : Nat} {rm : Nat × Nat} {ret : Option FieldType} (h : Fx θ own cc nn rm ret) {Γ : XG} {pc : Nat} {L : XL} {t : XT} {M : XM} {k n c0 κ : Nat} (hk : k < xN) (hcell : ∀ ω f, xcell ω k f = xaQ ω n c0) (hn : n < 2147483648) (hκ : ∀ ω (z : Int), x_val ω κ z = .ref (ω.2.1 z.toNat)) (hwf : ∀ j : Int, 0 ≤ j → j < n → x_wf κ ((c0 : Int) + j)) (d : decode cc pc = .ok (.aaload, 1)) {j z : Int} (h0 : 0 ≤ j) (h1 : j < n) (kk : GG θ Γ (pc + 1) L ((κ, (c0 : Int) + j) :: t) M) : GG θ Γ pc L ((0, j) :: (k + 4, z) :: t) M := by
  obtain ⟨p, l, e, R, s, m, args, below, meth, c, Qf, ω, M0, nL, nc, ns, fin⟩ := θ
  obtain ⟨hx, hb, hml, hown, hts, hK, hE, hr1, hr2, hr3, hr4, hret, hnn⟩ := h
  intro hG hS hM hM0 H locs ls hP hSv hl
  obtain ⟨g1, g2, g3⟩ := xidx h0 h1 hn
  have hlt : (Int32.ofInt j).toNatClampNeg < n := by rw [g2]; omega
  have ha : (xworld ω M)[k]? = some (ω.2.1 k, .inl (ω.2.2.2.2, n, .inr (.inr (.inr (.inr (fun i => if i < n then some (ω.2.1 (c0 + i)) else none)))))) := by
    rw [xworld_get ω M hk, hcell]
    rfl
  have hkk := kk hG (xwS_cons (hwf j h0 h1) (xwS_tl (xwS_tl hS))) hM hM0 H locs ls hP hSv hl
  refine W.aald (v := .ref (ω.2.1 (c0 + j.toNat))) (ty := .array .long) hx hb (hP k _ ha) ((hK.1.2 2 _ rfl).1 n (fun i => va_rf (if i < n then some (ω.2.1 (c0 + i)) else none))) rfl (fun q => by cases q) (by show ¬ (_ < 0 ∨ (arrV _ _ _).slots.size ≤ _); rw [arrV_size]; exact g1) (by show (arrV _ _ _).slots[_]? = _; rw [arrV_read _ _ hlt, g2]; dsimp only; rw [if_pos (show j.toNat < n by omega)]; rfl) rfl rfl d ?_
  rw [show xsv ω ((κ, (c0 : Int) + j) :: t) = x_val ω κ ((c0 : Int) + j) :: xsv ω t from rfl, hκ, show ((c0 : Int) + j).toNat = c0 + j.toNat by omega] at hkk
  exact hkk
theorem GG.gets1 {θ : XΘ} {own : String} {cc : ByteArray} {nn : Nat} {rm : Nat × Nat} {ret : Option FieldType} (h : Fx θ own cc nn rm ret) {Γ : XG} {pc : Nat} {L : XL} {t : XT} {M : XM} {n : String} {k ix : Nat} (hsel : ∀ ω M U H, xE ω M U H → xE1 ω M n k U H) (hlink : Cond.fieldLink own ix "MostSold$Rules" n "[I" ∈ xT) (d : decode cc pc = .ok (.getstatic ix, 3)) (kk : GG θ Γ (pc + 3) L ((k + 4, 0) :: t) M) : GG θ Γ pc L t M := by
  obtain ⟨p, l, e, R, s, m, args, below, meth, c, Qf, ω, M0, nL, nc, ns, fin⟩ := θ
  obtain ⟨hx, hb, hml, hown, hts, hK, hE, hr1, hr2, hr3, hr4, hret, hnn⟩ := h
  intro hG hS hM hM0 H locs ls hP hSv hl
  refine va_gets hx hb (hsel _ _ _ _ hE).1 hSv hown (hts _ hlink) (fun _ q => q) d ?_
  exact kk hG (xwS_cons trivial hS) hM hM0 H locs ls hP hSv hl
theorem GG.ialdE {θ : XΘ} {own : String} {cc : ByteArray} {nn : Nat} {rm : Nat × Nat} {ret : Option FieldType} (h : Fx θ own cc nn rm ret) {Γ : XG} {pc : Nat} {L : XL} {t : XT} {M : XM} {n : String} {k : Nat} (hsel : ∀ ω M U H, xE ω M U H → xE1 ω M n k U H) (hk : xN ≤ k) (hlg : xlong k = false) (d : decode cc pc = .ok (.iaload, 1)) {j z : Int} (h0 : 0 ≤ j) (h1 : j < 15) (kk : GG θ Γ (pc + 1) L ((0, M k j) :: t) M) : GG θ Γ pc L ((0, j) :: (k + 4, z) :: t) M := by
  obtain ⟨p, l, e, R, s, m, args, below, meth, c, Qf, ω, M0, nL, nc, ns, fin⟩ := θ
  obtain ⟨hx, hb, hml, hown, hts, hK, hE, hr1, hr2, hr3, hr4, hret, hnn⟩ := h
  intro hG hS hM hM0 H locs ls hP hSv hl
  obtain ⟨g1, g2, g3⟩ := xidx (n := 15) h0 (by omega) (by decide)
  refine va_ti hx hb (hsel _ _ _ _ hE).2 hSv g1 (v := .int (Int32.ofInt (M k j))) (by rw [g2, g3, hM0 k hk]) d ?_
  exact kk hG (xwS_cons (xwM32 hM hlg j) (xwS_tl (xwS_tl hS))) hM hM0 H locs ls hP hSv hl
/-! ===== Math, arraycopy ===== -/
theorem xmin32 {x y : Int} (hx : r32 x) (hy : r32 y) : (if Int32.ofInt y < Int32.ofInt x then Int32.ofInt y else Int32.ofInt x) = Int32.ofInt (if y < x then y else x) := by
  have := xlt32 hy hx
  by_cases c : y < x
  · rw [if_pos c, if_pos (this.mpr c)]
  · rw [if_neg c, if_neg (fun q => c (this.mp q))]
theorem xmin64 {x y : Int} (hx : r64 x) (hy : r64 y) : (if Int64.ofInt y < Int64.ofInt x then Int64.ofInt y else Int64.ofInt x) = Int64.ofInt (if y < x then y else x) := by
  have := xlt64 hy hx
  by_cases c : y < x
  · rw [if_pos c, if_pos (this.mpr c)]
  · rw [if_neg c, if_neg (fun q => c (this.mp q))]
theorem xmax64 {x y : Int} (hx : r64 x) (hy : r64 y) : (if Int64.ofInt y < Int64.ofInt x then Int64.ofInt x else Int64.ofInt y) = Int64.ofInt (if y < x then x else y) := by
  have := xlt64 hy hx
  by_cases c : y < x
  · rw [if_pos c, if_pos (this.mpr c)]
  · rw [if_neg c, if_neg (fun q => c (this.mp q))]
theorem GG.mmini {θ : XΘ} {own : String} {cc : ByteArray} {nn : Nat} {rm : Nat × Nat} {ret : Option FieldType} (h : Fx θ own cc nn rm ret) {Γ : XG} {pc : Nat} {L : XL} {t : XT} {M : XM} {ix : Nat} (h1 : Cond.methodLink own ix Lib.Math.min.name ∈ xT) (h2 : Cond.static Lib.Math.min.name ∈ xT) (h3 : Cond.initialized "java/lang/Math" ∈ xT) (h4 : Cond.code Lib.Math.min.name Lib.Math.min.code 2 (some .int) ∈ xT) (hf : 1 ≤ rm.1) (hl : xsum t + 13 ≤ rm.2) (d : decode cc pc = .ok (.invokestatic ix, 3)) {x y : Int} (kk : GG θ Γ (pc + 3) L ((0, if y < x then y else x) :: t) M) : GG θ Γ pc L ((0, y) :: (0, x) :: t) M := by
  obtain ⟨p, l, e, R, s, m, args, below, meth, c, Qf, ω, M0, nL, nc, ns, fin⟩ := θ
  obtain ⟨hx, hb, hml, hown, hts, hK, hE, hr1, hr2, hr3, hr4, hret, hnn⟩ := h
  intro hG hS hM hM0 H locs ls hP hSv hl2
  have hs := xsum_eq ω t
  refine va_mmin hx hb (hml.trans hl2.1.symm) hown (hts _ h1) (hts _ h2) (hts _ h3) (hts _ h4) (by omega) (by rw [show List.map (fun q => x_val ω q.1 q.2) t = xsv ω t from rfl, hs]; omega) hr3 hr4 d ?_
  rw [xmin32 (xwS_hd (xwS_tl hS)) (xwS_hd hS)]
  refine kk hG (xwS_cons ?_ (xwS_tl (xwS_tl hS))) hM hM0 H locs ls hP hSv hl2
  show r32 _
  split
  · exact xwS_hd hS
  · exact xwS_hd (xwS_tl hS)
theorem GG.mminl {θ : XΘ} {own : String} {cc : ByteArray} {nn : Nat} {rm : Nat × Nat} {ret : Option FieldType} (h : Fx θ own cc nn rm ret) {Γ : XG} {pc : Nat} {L : XL} {t : XT} {M : XM} {ix : Nat} (h1 : Cond.methodLink own ix Lib.MathLoose.min_long.x ∈ xT) (h2 : Cond.static Lib.MathLoose.min_long.x ∈ xT) (h3 : Cond.initialized "java/lang/Math" ∈ xT) (h4 : Cond.code Lib.MathLoose.min_long.x Lib.MathLoose.min_long.code 4 (some .long) ∈ xT) (hf : 1 ≤ rm.1) (hl : xsum t + 15 ≤ rm.2) (d : decode cc pc = .ok (.invokestatic ix, 3)) {x y : Int} (kk : GG θ Γ (pc + 3) L ((1, if y < x then y else x) :: t) M) : GG θ Γ pc L ((1, y) :: (1, x) :: t) M := by
  obtain ⟨p, l, e, R, s, m, args, below, meth, c, Qf, ω, M0, nL, nc, ns, fin⟩ := θ
  obtain ⟨hx, hb, hml, hown, hts, hK, hE, hr1, hr2, hr3, hr4, hret, hnn⟩ := h
  intro hG hS hM hM0 H locs ls hP hSv hl2
  have hs := xsum_eq ω t
  refine va_mmin_long hx hb (hml.trans hl2.1.symm) hown (hts _ h1) (hts _ h2) (hts _ h3) (hts _ h4) (by omega) (by rw [show List.map (fun q => x_val ω q.1 q.2) t = xsv ω t from rfl, hs]; omega) hr3 hr4 d ?_
  rw [xmin64 (xwS_hd (xwS_tl hS)) (xwS_hd hS)]
  refine kk hG (xwS_cons ?_ (xwS_tl (xwS_tl hS))) hM hM0 H locs ls hP hSv hl2
  show r64 _
  split
  · exact xwS_hd hS
  · exact xwS_hd (xwS_tl hS)
theorem GG.mmaxl {θ : XΘ} {own : String} {cc : ByteArray} {nn : Nat} {rm : Nat × Nat} {ret : Option FieldType} (h : Fx θ own cc nn rm ret) {Γ : XG} {pc : Nat} {L : XL} {t : XT} {M : XM} {ix : Nat} (h1 : Cond.methodLink own ix Lib.MathLoose.max_long.x ∈ xT) (h2 : Cond.static Lib.MathLoose.max_long.x ∈ xT) (h3 : Cond.initialized "java/lang/Math" ∈ xT) (h4 : Cond.code Lib.MathLoose.max_long.x Lib.MathLoose.max_long.code 4 (some .long) ∈ xT) (hf : 1 ≤ rm.1) (hl : xsum t + 15 ≤ rm.2) (d : decode cc pc = .ok (.invokestatic ix, 3)) {x y : Int} (kk : GG θ Γ (pc + 3) L ((1, if y < x then x else y) :: t) M) : GG θ Γ pc L ((1, y) :: (1, x) :: t) M := by
  obtain ⟨p, l, e, R, s, m, args, below, meth, c, Qf, ω, M0, nL, nc, ns, fin⟩ := θ
  obtain ⟨hx, hb, hml, hown, hts, hK, hE, hr1, hr2, hr3, hr4, hret, hnn⟩ := h
  intro hG hS hM hM0 H locs ls hP hSv hl2
  have hs := xsum_eq ω t
  refine va_mmax_long hx hb (hml.trans hl2.1.symm) hown (hts _ h1) (hts _ h2) (hts _ h3) (hts _ h4) (by omega) (by rw [show List.map (fun q => x_val ω q.1 q.2) t = xsv ω t from rfl, hs]; omega) hr3 hr4 d ?_
  rw [xmax64 (xwS_hd (xwS_tl hS)) (xwS_hd hS)]
  refine kk hG (xwS_cons ?_ (xwS_tl (xwS_tl hS))) hM hM0 H locs ls hP hSv hl2
  show r64 _
  split
  · exact xwS_hd (xwS_tl hS)
  · exact xwS_hd hS
/-- the cells behind a copy of n items from place i of the cell a to place j of the cell b -/
def cpy (M : XM) (a : Nat) (i : Int) (b : Nat) (j n : Int) : XM := fun k => if k = b then (fun x => if j ≤ x ∧ x < j + n then M a (i + (x - j)) else M b x) else M k
theorem GG.copyl {θ : XΘ} {own : String} {cc : ByteArray} {nn : Nat} {rm : Nat × Nat} {ret : Option FieldType} (h : Fx θ own cc nn rm ret) {Γ : XG} {pc : Nat} {L : XL} {t : XT} {M : XM} {ix : Nat} (h1 : Cond.methodLink own ix arraycopyName ∈ xT) (h2 : Cond.native arraycopyName ∈ xT) (h3 : Cond.static arraycopyName ∈ xT) (h4 : Cond.initialized "java/lang/System" ∈ xT) (hf : 1 ≤ rm.1) (hl : xsum t + (nativeFrameWords "java/lang/System" "arraycopy" 5 + 11) ≤ rm.2) (d : decode cc pc = .ok (.invokestatic ix, 3)) {a i b j n : Int} (ha : 75 ≤ a ∧ a < 79) (hb2 : 75 ≤ b ∧ b < 79) (hi : 0 ≤ i) (hj : 0 ≤ j) (hn : 0 ≤ n) (hin : i + n ≤ 120) (hjn : j + n ≤ 120) (kk : GG θ Γ (pc + 3) L t (cpy M a.toNat i b.toNat j n)) : GG θ Γ pc L ((0, n) :: (0, j) :: (2, b) :: (0, i) :: (2, a) :: t) M := by
  obtain ⟨p, l, e, R, s, m, args, below, meth, c, Qf, ω, M0, nL, nc, ns, fin⟩ := θ
  obtain ⟨hx, hb, hml, hown, hts, hK, hE, hr1, hr2, hr3, hr4, hret, hnn⟩ := h
  intro hG hS hM hM0 H locs ls hP hSv hl2
  have hs := xsum_eq ω t
  have q : ∀ x : Int, 0 ≤ x → x ≤ 120 → ¬ Int32.ofInt x < 0 ∧ (Int32.ofInt x).toNatClampNeg = x.toNat := fun x g0 g1 => by
    have hr : r32 x := by unfold r32; omega
    refine ⟨fun z => ?_, by show (Int32.ofInt x).toInt.toNat = _; rw [xt32i hr]⟩
    have := (xlt32 hr xz32).mp z
    omega
  obtain ⟨i1, i2⟩ := q i hi (by omega)
  obtain ⟨j1, j2⟩ := q j hj (by omega)
  obtain ⟨n1, n2⟩ := q n hn (by omega)
  have ra := xrowS ω a.toNat (by omega) (by omega)
  have rb := xrowS ω b.toNat (by omega) (by omega)
  have hka : a.toNat < xN := by show _ < 120; omega
  have hkb : b.toNat < xN := by show _ < 120; omega
  have hwa : (xworld ω M)[a.toNat]? = some (ω.2.1 a.toNat, .inl (ω.2.2.2.1, 120, .inr (.inl (fun i => Int64.ofInt (M a.toNat (i : Int)))))) := by
    rw [xworld_get ω M hka, (ra _).1]
    rfl
  have hwb : (xworld ω M)[b.toNat]? = some (ω.2.1 b.toNat, .inl (ω.2.2.2.1, 120, .inr (.inl (fun i => Int64.ofInt (M b.toNat (i : Int)))))) := by
    rw [xworld_get ω M hkb, (rb _).1]
    rfl
  refine va_copyl (D := ω.1) hx hb (hml.trans hl2.1.symm) hown (hts _ h1) (hts _ h2) (hts _ h3) (hts _ h4) hK.1 hP (xworld_D hK.2.2 M) hSv a.toNat b.toNat 1 1 hwa hwb rfl rfl rfl i1 j1 n1 (by rw [i2, n2]; omega) (by rw [j2, n2]; omega) (fun _ _ => rfl) (by omega) (by rw [show List.map (fun q => x_val ω q.1 q.2) t = xsv ω t from rfl, hs]; omega) d (fun H1 locs1 hP1 hD1 hS1 => ?_)
  have e : (fun x : Nat => Int64.ofInt (cpy M a.toNat i b.toNat j n b.toNat (x : Int))) = va_cpy (fun i => Int64.ofInt (M a.toNat (i : Int))) (fun i => Int64.ofInt (M b.toNat (i : Int))) i.toNat j.toNat n.toNat := by
    funext x
    unfold cpy va_cpy
    rw [if_pos rfl]
    by_cases c1 : j.toNat ≤ x ∧ x < j.toNat + n.toNat
    · have c2 : j ≤ (x : Int) ∧ (x : Int) < j + n := by omega
      rw [if_pos c1, if_pos c2]
      congr 2
      omega
    · have c2 : ¬ (j ≤ (x : Int) ∧ (x : Int) < j + n) := by omega
      rw [if_neg c1, if_neg c2]
  rw [i2, j2, n2, ← e, xworld_set ω M (cpy M a.toNat i b.toNat j n) hkb (by rw [(rb _).1]; rfl) (fun x hx9 => by unfold cpy; rw [if_neg hx9])] at hP1
  refine kk hG (xwS_tl (xwS_tl (xwS_tl (xwS_tl (xwS_tl hS))))) ?_ ?_ H1 locs1 ls hP1 hS1 hl2
  · intro k x
    unfold cpy
    by_cases hkb2 : k = b.toNat
    · subst hkb2
      rw [if_pos rfl, if_pos (rb (fun _ => 0)).2]
      split
      · exact xwM64 hM (ra (fun _ => 0)).2 _
      · exact xwM64 hM (rb (fun _ => 0)).2 _
    · rw [if_neg hkb2]
      exact hM k x
  · intro k hk
    unfold cpy
    rw [if_neg (by omega)]
    exact hM0 k hk
