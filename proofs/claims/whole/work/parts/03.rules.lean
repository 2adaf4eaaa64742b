/-! ===== a row an instruction ===== -/
theorem GG.iadd {θ : XΘ} {own : String} {cc : ByteArray} {nn : Nat} {rm : Nat × Nat} {ret : Option FieldType} (h : Fx θ own cc nn rm ret) {Γ : XG} {pc : Nat} {L : XL} {t : XT} {M : XM} {x y : Int} (d : decode cc pc = .ok (.iadd, 1)) (k : GG θ Γ (pc + 1) L ((0, iAdd x y) :: t) M) : GG θ Γ pc L ((0, y) :: (0, x) :: t) M := by
  obtain ⟨p, l, e, R, s, m, args, below, meth, c, Qf, ω, M0, nL, nc, ns, fin⟩ := θ
  obtain ⟨hx, hb, hml, hown, hts, hK, hE, hr1, hr2, hr3, hr4, hret, hnn⟩ := h
  intro hG hS hM hM0 H locs ls hP hSv hl
  refine lv_iadd hx hb d ?_
  rw [← oAdd _ _]
  exact k hG (xwS_cons (x32_r _) (xwS_tl (xwS_tl hS))) hM hM0 H locs ls hP hSv hl
theorem GG.isub {θ : XΘ} {own : String} {cc : ByteArray} {nn : Nat} {rm : Nat × Nat} {ret : Option FieldType} (h : Fx θ own cc nn rm ret) {Γ : XG} {pc : Nat} {L : XL} {t : XT} {M : XM} {x y : Int} (d : decode cc pc = .ok (.isub, 1)) (k : GG θ Γ (pc + 1) L ((0, iSub x y) :: t) M) : GG θ Γ pc L ((0, y) :: (0, x) :: t) M := by
  obtain ⟨p, l, e, R, s, m, args, below, meth, c, Qf, ω, M0, nL, nc, ns, fin⟩ := θ
  obtain ⟨hx, hb, hml, hown, hts, hK, hE, hr1, hr2, hr3, hr4, hret, hnn⟩ := h
  intro hG hS hM hM0 H locs ls hP hSv hl
  refine lv_isub hx hb d ?_
  rw [← oSub _ _]
  exact k hG (xwS_cons (x32_r _) (xwS_tl (xwS_tl hS))) hM hM0 H locs ls hP hSv hl
theorem GG.imul {θ : XΘ} {own : String} {cc : ByteArray} {nn : Nat} {rm : Nat × Nat} {ret : Option FieldType} (h : Fx θ own cc nn rm ret) {Γ : XG} {pc : Nat} {L : XL} {t : XT} {M : XM} {x y : Int} (d : decode cc pc = .ok (.imul, 1)) (k : GG θ Γ (pc + 1) L ((0, iMul x y) :: t) M) : GG θ Γ pc L ((0, y) :: (0, x) :: t) M := by
  obtain ⟨p, l, e, R, s, m, args, below, meth, c, Qf, ω, M0, nL, nc, ns, fin⟩ := θ
  obtain ⟨hx, hb, hml, hown, hts, hK, hE, hr1, hr2, hr3, hr4, hret, hnn⟩ := h
  intro hG hS hM hM0 H locs ls hP hSv hl
  refine lv_imul hx hb d ?_
  rw [← oMul _ _]
  exact k hG (xwS_cons (x32_r _) (xwS_tl (xwS_tl hS))) hM hM0 H locs ls hP hSv hl
theorem GG.iand {θ : XΘ} {own : String} {cc : ByteArray} {nn : Nat} {rm : Nat × Nat} {ret : Option FieldType} (h : Fx θ own cc nn rm ret) {Γ : XG} {pc : Nat} {L : XL} {t : XT} {M : XM} {x y : Int} (d : decode cc pc = .ok (.iand, 1)) (k : GG θ Γ (pc + 1) L ((0, iAnd x y) :: t) M) : GG θ Γ pc L ((0, y) :: (0, x) :: t) M := by
  obtain ⟨p, l, e, R, s, m, args, below, meth, c, Qf, ω, M0, nL, nc, ns, fin⟩ := θ
  obtain ⟨hx, hb, hml, hown, hts, hK, hE, hr1, hr2, hr3, hr4, hret, hnn⟩ := h
  intro hG hS hM hM0 H locs ls hP hSv hl
  refine lv_iand hx hb d ?_
  rw [← oAnd _ _]
  exact k hG (xwS_cons (xr32 _) (xwS_tl (xwS_tl hS))) hM hM0 H locs ls hP hSv hl
theorem GG.ior {θ : XΘ} {own : String} {cc : ByteArray} {nn : Nat} {rm : Nat × Nat} {ret : Option FieldType} (h : Fx θ own cc nn rm ret) {Γ : XG} {pc : Nat} {L : XL} {t : XT} {M : XM} {x y : Int} (d : decode cc pc = .ok (.ior, 1)) (k : GG θ Γ (pc + 1) L ((0, iOr x y) :: t) M) : GG θ Γ pc L ((0, y) :: (0, x) :: t) M := by
  obtain ⟨p, l, e, R, s, m, args, below, meth, c, Qf, ω, M0, nL, nc, ns, fin⟩ := θ
  obtain ⟨hx, hb, hml, hown, hts, hK, hE, hr1, hr2, hr3, hr4, hret, hnn⟩ := h
  intro hG hS hM hM0 H locs ls hP hSv hl
  refine lv_ior hx hb d ?_
  rw [← oOr _ _]
  exact k hG (xwS_cons (xr32 _) (xwS_tl (xwS_tl hS))) hM hM0 H locs ls hP hSv hl
theorem GG.ixor {θ : XΘ} {own : String} {cc : ByteArray} {nn : Nat} {rm : Nat × Nat} {ret : Option FieldType} (h : Fx θ own cc nn rm ret) {Γ : XG} {pc : Nat} {L : XL} {t : XT} {M : XM} {x y : Int} (d : decode cc pc = .ok (.ixor, 1)) (k : GG θ Γ (pc + 1) L ((0, iXor x y) :: t) M) : GG θ Γ pc L ((0, y) :: (0, x) :: t) M := by
  obtain ⟨p, l, e, R, s, m, args, below, meth, c, Qf, ω, M0, nL, nc, ns, fin⟩ := θ
  obtain ⟨hx, hb, hml, hown, hts, hK, hE, hr1, hr2, hr3, hr4, hret, hnn⟩ := h
  intro hG hS hM hM0 H locs ls hP hSv hl
  refine lv_ixor hx hb d ?_
  rw [← oXor _ _]
  exact k hG (xwS_cons (xr32 _) (xwS_tl (xwS_tl hS))) hM hM0 H locs ls hP hSv hl
theorem GG.ishl {θ : XΘ} {own : String} {cc : ByteArray} {nn : Nat} {rm : Nat × Nat} {ret : Option FieldType} (h : Fx θ own cc nn rm ret) {Γ : XG} {pc : Nat} {L : XL} {t : XT} {M : XM} {x y : Int} (d : decode cc pc = .ok (.ishl, 1)) (k : GG θ Γ (pc + 1) L ((0, iShl x y) :: t) M) : GG θ Γ pc L ((0, y) :: (0, x) :: t) M := by
  obtain ⟨p, l, e, R, s, m, args, below, meth, c, Qf, ω, M0, nL, nc, ns, fin⟩ := θ
  obtain ⟨hx, hb, hml, hown, hts, hK, hE, hr1, hr2, hr3, hr4, hret, hnn⟩ := h
  intro hG hS hM hM0 H locs ls hP hSv hl
  refine lv_ishl hx hb d ?_
  rw [← oShl _ _]
  exact k hG (xwS_cons (xr32 _) (xwS_tl (xwS_tl hS))) hM hM0 H locs ls hP hSv hl
theorem GG.ishr {θ : XΘ} {own : String} {cc : ByteArray} {nn : Nat} {rm : Nat × Nat} {ret : Option FieldType} (h : Fx θ own cc nn rm ret) {Γ : XG} {pc : Nat} {L : XL} {t : XT} {M : XM} {x y : Int} (d : decode cc pc = .ok (.ishr, 1)) (k : GG θ Γ (pc + 1) L ((0, iShr x y) :: t) M) : GG θ Γ pc L ((0, y) :: (0, x) :: t) M := by
  obtain ⟨p, l, e, R, s, m, args, below, meth, c, Qf, ω, M0, nL, nc, ns, fin⟩ := θ
  obtain ⟨hx, hb, hml, hown, hts, hK, hE, hr1, hr2, hr3, hr4, hret, hnn⟩ := h
  intro hG hS hM hM0 H locs ls hP hSv hl
  refine lv_ishr hx hb d ?_
  rw [← oShr _ _]
  exact k hG (xwS_cons (xr32 _) (xwS_tl (xwS_tl hS))) hM hM0 H locs ls hP hSv hl
theorem GG.iushr {θ : XΘ} {own : String} {cc : ByteArray} {nn : Nat} {rm : Nat × Nat} {ret : Option FieldType} (h : Fx θ own cc nn rm ret) {Γ : XG} {pc : Nat} {L : XL} {t : XT} {M : XM} {x y : Int} (d : decode cc pc = .ok (.iushr, 1)) (k : GG θ Γ (pc + 1) L ((0, iUshr x y) :: t) M) : GG θ Γ pc L ((0, y) :: (0, x) :: t) M := by
  obtain ⟨p, l, e, R, s, m, args, below, meth, c, Qf, ω, M0, nL, nc, ns, fin⟩ := θ
  obtain ⟨hx, hb, hml, hown, hts, hK, hE, hr1, hr2, hr3, hr4, hret, hnn⟩ := h
  intro hG hS hM hM0 H locs ls hP hSv hl
  refine lv_iushr hx hb d (oUshr x y).symm ?_
  exact k hG (xwS_cons (xr32 _) (xwS_tl (xwS_tl hS))) hM hM0 H locs ls hP hSv hl
theorem GG.idiv {θ : XΘ} {own : String} {cc : ByteArray} {nn : Nat} {rm : Nat × Nat} {ret : Option FieldType} (h : Fx θ own cc nn rm ret) {Γ : XG} {pc : Nat} {L : XL} {t : XT} {M : XM} {x y : Int} (hne : y ≠ 0) (d : decode cc pc = .ok (.idiv, 1)) (k : GG θ Γ (pc + 1) L ((0, iDiv x y) :: t) M) : GG θ Γ pc L ((0, y) :: (0, x) :: t) M := by
  obtain ⟨p, l, e, R, s, m, args, below, meth, c, Qf, ω, M0, nL, nc, ns, fin⟩ := θ
  obtain ⟨hx, hb, hml, hown, hts, hK, hE, hr1, hr2, hr3, hr4, hret, hnn⟩ := h
  intro hG hS hM hM0 H locs ls hP hSv hl
  refine lv_idiv hx hb d (fun q => hne ((xeq32 (xwS_hd hS) xz32).mp q)) ?_
  rw [← oDiv (xwS_hd (xwS_tl hS)) (xwS_hd hS)]
  exact k hG (xwS_cons (x32_r _) (xwS_tl (xwS_tl hS))) hM hM0 H locs ls hP hSv hl
theorem GG.irem {θ : XΘ} {own : String} {cc : ByteArray} {nn : Nat} {rm : Nat × Nat} {ret : Option FieldType} (h : Fx θ own cc nn rm ret) {Γ : XG} {pc : Nat} {L : XL} {t : XT} {M : XM} {x y : Int} (hne : y ≠ 0) (d : decode cc pc = .ok (.irem, 1)) (k : GG θ Γ (pc + 1) L ((0, iRem x y) :: t) M) : GG θ Γ pc L ((0, y) :: (0, x) :: t) M := by
  obtain ⟨p, l, e, R, s, m, args, below, meth, c, Qf, ω, M0, nL, nc, ns, fin⟩ := θ
  obtain ⟨hx, hb, hml, hown, hts, hK, hE, hr1, hr2, hr3, hr4, hret, hnn⟩ := h
  intro hG hS hM hM0 H locs ls hP hSv hl
  refine lv_irem hx hb d (fun q => hne ((xeq32 (xwS_hd hS) xz32).mp q)) ?_
  rw [← oRem (xwS_hd (xwS_tl hS)) (xwS_hd hS)]
  exact k hG (xwS_cons (x32_r _) (xwS_tl (xwS_tl hS))) hM hM0 H locs ls hP hSv hl
theorem GG.ladd {θ : XΘ} {own : String} {cc : ByteArray} {nn : Nat} {rm : Nat × Nat} {ret : Option FieldType} (h : Fx θ own cc nn rm ret) {Γ : XG} {pc : Nat} {L : XL} {t : XT} {M : XM} {x y : Int} (d : decode cc pc = .ok (.ladd, 1)) (k : GG θ Γ (pc + 1) L ((1, lAdd x y) :: t) M) : GG θ Γ pc L ((1, y) :: (1, x) :: t) M := by
  obtain ⟨p, l, e, R, s, m, args, below, meth, c, Qf, ω, M0, nL, nc, ns, fin⟩ := θ
  obtain ⟨hx, hb, hml, hown, hts, hK, hE, hr1, hr2, hr3, hr4, hret, hnn⟩ := h
  intro hG hS hM hM0 H locs ls hP hSv hl
  refine lv_ladd hx hb d ?_
  rw [← oLAdd _ _]
  exact k hG (xwS_cons (x64_r _) (xwS_tl (xwS_tl hS))) hM hM0 H locs ls hP hSv hl
theorem GG.lsub {θ : XΘ} {own : String} {cc : ByteArray} {nn : Nat} {rm : Nat × Nat} {ret : Option FieldType} (h : Fx θ own cc nn rm ret) {Γ : XG} {pc : Nat} {L : XL} {t : XT} {M : XM} {x y : Int} (d : decode cc pc = .ok (.lsub, 1)) (k : GG θ Γ (pc + 1) L ((1, lSub x y) :: t) M) : GG θ Γ pc L ((1, y) :: (1, x) :: t) M := by
  obtain ⟨p, l, e, R, s, m, args, below, meth, c, Qf, ω, M0, nL, nc, ns, fin⟩ := θ
  obtain ⟨hx, hb, hml, hown, hts, hK, hE, hr1, hr2, hr3, hr4, hret, hnn⟩ := h
  intro hG hS hM hM0 H locs ls hP hSv hl
  refine lv_lsub hx hb d ?_
  rw [← oLSub _ _]
  exact k hG (xwS_cons (x64_r _) (xwS_tl (xwS_tl hS))) hM hM0 H locs ls hP hSv hl
theorem GG.lmul {θ : XΘ} {own : String} {cc : ByteArray} {nn : Nat} {rm : Nat × Nat} {ret : Option FieldType} (h : Fx θ own cc nn rm ret) {Γ : XG} {pc : Nat} {L : XL} {t : XT} {M : XM} {x y : Int} (d : decode cc pc = .ok (.lmul, 1)) (k : GG θ Γ (pc + 1) L ((1, lMul x y) :: t) M) : GG θ Γ pc L ((1, y) :: (1, x) :: t) M := by
  obtain ⟨p, l, e, R, s, m, args, below, meth, c, Qf, ω, M0, nL, nc, ns, fin⟩ := θ
  obtain ⟨hx, hb, hml, hown, hts, hK, hE, hr1, hr2, hr3, hr4, hret, hnn⟩ := h
  intro hG hS hM hM0 H locs ls hP hSv hl
  refine lv_lmul hx hb d ?_
  rw [← oLMul _ _]
  exact k hG (xwS_cons (x64_r _) (xwS_tl (xwS_tl hS))) hM hM0 H locs ls hP hSv hl
theorem GG.land {θ : XΘ} {own : String} {cc : ByteArray} {nn : Nat} {rm : Nat × Nat} {ret : Option FieldType} (h : Fx θ own cc nn rm ret) {Γ : XG} {pc : Nat} {L : XL} {t : XT} {M : XM} {x y : Int} (d : decode cc pc = .ok (.land, 1)) (k : GG θ Γ (pc + 1) L ((1, lAnd x y) :: t) M) : GG θ Γ pc L ((1, y) :: (1, x) :: t) M := by
  obtain ⟨p, l, e, R, s, m, args, below, meth, c, Qf, ω, M0, nL, nc, ns, fin⟩ := θ
  obtain ⟨hx, hb, hml, hown, hts, hK, hE, hr1, hr2, hr3, hr4, hret, hnn⟩ := h
  intro hG hS hM hM0 H locs ls hP hSv hl
  refine lv_land hx hb d ?_
  rw [← oLAnd _ _]
  exact k hG (xwS_cons (xr64 _) (xwS_tl (xwS_tl hS))) hM hM0 H locs ls hP hSv hl
theorem GG.lor {θ : XΘ} {own : String} {cc : ByteArray} {nn : Nat} {rm : Nat × Nat} {ret : Option FieldType} (h : Fx θ own cc nn rm ret) {Γ : XG} {pc : Nat} {L : XL} {t : XT} {M : XM} {x y : Int} (d : decode cc pc = .ok (.lor, 1)) (k : GG θ Γ (pc + 1) L ((1, lOr x y) :: t) M) : GG θ Γ pc L ((1, y) :: (1, x) :: t) M := by
  obtain ⟨p, l, e, R, s, m, args, below, meth, c, Qf, ω, M0, nL, nc, ns, fin⟩ := θ
  obtain ⟨hx, hb, hml, hown, hts, hK, hE, hr1, hr2, hr3, hr4, hret, hnn⟩ := h
  intro hG hS hM hM0 H locs ls hP hSv hl
  refine lv_lor hx hb d ?_
  rw [← oLOr _ _]
  exact k hG (xwS_cons (xr64 _) (xwS_tl (xwS_tl hS))) hM hM0 H locs ls hP hSv hl
theorem GG.ldiv {θ : XΘ} {own : String} {cc : ByteArray} {nn : Nat} {rm : Nat × Nat} {ret : Option FieldType} (h : Fx θ own cc nn rm ret) {Γ : XG} {pc : Nat} {L : XL} {t : XT} {M : XM} {x y : Int} (hne : y ≠ 0) (d : decode cc pc = .ok (.ldiv, 1)) (k : GG θ Γ (pc + 1) L ((1, lDiv x y) :: t) M) : GG θ Γ pc L ((1, y) :: (1, x) :: t) M := by
  obtain ⟨p, l, e, R, s, m, args, below, meth, c, Qf, ω, M0, nL, nc, ns, fin⟩ := θ
  obtain ⟨hx, hb, hml, hown, hts, hK, hE, hr1, hr2, hr3, hr4, hret, hnn⟩ := h
  intro hG hS hM hM0 H locs ls hP hSv hl
  refine lv_ldiv hx hb d (fun q => hne ((xeq64 (xwS_hd hS) xz64).mp q)) ?_
  rw [← oLDiv (xwS_hd (xwS_tl hS)) (xwS_hd hS)]
  exact k hG (xwS_cons (x64_r _) (xwS_tl (xwS_tl hS))) hM hM0 H locs ls hP hSv hl
theorem GG.lshl {θ : XΘ} {own : String} {cc : ByteArray} {nn : Nat} {rm : Nat × Nat} {ret : Option FieldType} (h : Fx θ own cc nn rm ret) {Γ : XG} {pc : Nat} {L : XL} {t : XT} {M : XM} {x y : Int} (d : decode cc pc = .ok (.lshl, 1)) (k : GG θ Γ (pc + 1) L ((1, lShl x y) :: t) M) : GG θ Γ pc L ((0, y) :: (1, x) :: t) M := by
  obtain ⟨p, l, e, R, s, m, args, below, meth, c, Qf, ω, M0, nL, nc, ns, fin⟩ := θ
  obtain ⟨hx, hb, hml, hown, hts, hK, hE, hr1, hr2, hr3, hr4, hret, hnn⟩ := h
  intro hG hS hM hM0 H locs ls hP hSv hl
  refine lv_lshl hx hb d (oLShl x y).symm ?_
  exact k hG (xwS_cons (xr64 _) (xwS_tl (xwS_tl hS))) hM hM0 H locs ls hP hSv hl
theorem GG.ineg {θ : XΘ} {own : String} {cc : ByteArray} {nn : Nat} {rm : Nat × Nat} {ret : Option FieldType} (h : Fx θ own cc nn rm ret) {Γ : XG} {pc : Nat} {L : XL} {t : XT} {M : XM} {x : Int} (d : decode cc pc = .ok (.ineg, 1)) (k : GG θ Γ (pc + 1) L ((0, iNeg x) :: t) M) : GG θ Γ pc L ((0, x) :: t) M := by
  obtain ⟨p, l, e, R, s, m, args, below, meth, c, Qf, ω, M0, nL, nc, ns, fin⟩ := θ
  obtain ⟨hx, hb, hml, hown, hts, hK, hE, hr1, hr2, hr3, hr4, hret, hnn⟩ := h
  intro hG hS hM hM0 H locs ls hP hSv hl
  refine lv_ineg hx hb d ?_
  rw [← oNeg]
  exact k hG (xwS_cons (x32_r _) (xwS_tl hS)) hM hM0 H locs ls hP hSv hl
theorem GG.lneg {θ : XΘ} {own : String} {cc : ByteArray} {nn : Nat} {rm : Nat × Nat} {ret : Option FieldType} (h : Fx θ own cc nn rm ret) {Γ : XG} {pc : Nat} {L : XL} {t : XT} {M : XM} {x : Int} (d : decode cc pc = .ok (.lneg, 1)) (k : GG θ Γ (pc + 1) L ((1, lNeg x) :: t) M) : GG θ Γ pc L ((1, x) :: t) M := by
  obtain ⟨p, l, e, R, s, m, args, below, meth, c, Qf, ω, M0, nL, nc, ns, fin⟩ := θ
  obtain ⟨hx, hb, hml, hown, hts, hK, hE, hr1, hr2, hr3, hr4, hret, hnn⟩ := h
  intro hG hS hM hM0 H locs ls hP hSv hl
  refine lv_lneg hx hb d ?_
  rw [← oLNeg]
  exact k hG (xwS_cons (x64_r _) (xwS_tl hS)) hM hM0 H locs ls hP hSv hl
theorem GG.i2l {θ : XΘ} {own : String} {cc : ByteArray} {nn : Nat} {rm : Nat × Nat} {ret : Option FieldType} (h : Fx θ own cc nn rm ret) {Γ : XG} {pc : Nat} {L : XL} {t : XT} {M : XM} {x : Int} (d : decode cc pc = .ok (.i2l, 1)) (k : GG θ Γ (pc + 1) L ((1, i2l x) :: t) M) : GG θ Γ pc L ((0, x) :: t) M := by
  obtain ⟨p, l, e, R, s, m, args, below, meth, c, Qf, ω, M0, nL, nc, ns, fin⟩ := θ
  obtain ⟨hx, hb, hml, hown, hts, hK, hE, hr1, hr2, hr3, hr4, hret, hnn⟩ := h
  intro hG hS hM hM0 H locs ls hP hSv hl
  refine lv_i2l hx hb d (o2l (xwS_hd hS)).symm ?_
  exact k hG (xwS_cons (r32_64 (xwS_hd hS)) (xwS_tl hS)) hM hM0 H locs ls hP hSv hl
theorem GG.l2i {θ : XΘ} {own : String} {cc : ByteArray} {nn : Nat} {rm : Nat × Nat} {ret : Option FieldType} (h : Fx θ own cc nn rm ret) {Γ : XG} {pc : Nat} {L : XL} {t : XT} {M : XM} {x : Int} (d : decode cc pc = .ok (.l2i, 1)) (k : GG θ Γ (pc + 1) L ((0, l2i x) :: t) M) : GG θ Γ pc L ((1, x) :: t) M := by
  obtain ⟨p, l, e, R, s, m, args, below, meth, c, Qf, ω, M0, nL, nc, ns, fin⟩ := θ
  obtain ⟨hx, hb, hml, hown, hts, hK, hE, hr1, hr2, hr3, hr4, hret, hnn⟩ := h
  intro hG hS hM hM0 H locs ls hP hSv hl
  refine lv_l2i hx hb d (oL2i (xwS_hd hS)).symm ?_
  exact k hG (xwS_cons (x32_r _) (xwS_tl hS)) hM hM0 H locs ls hP hSv hl
theorem GG.i2b {θ : XΘ} {own : String} {cc : ByteArray} {nn : Nat} {rm : Nat × Nat} {ret : Option FieldType} (h : Fx θ own cc nn rm ret) {Γ : XG} {pc : Nat} {L : XL} {t : XT} {M : XM} {x : Int} (d : decode cc pc = .ok (.i2b, 1)) (k : GG θ Γ (pc + 1) L ((0, i2b x) :: t) M) : GG θ Γ pc L ((0, x) :: t) M := by
  obtain ⟨p, l, e, R, s, m, args, below, meth, c, Qf, ω, M0, nL, nc, ns, fin⟩ := θ
  obtain ⟨hx, hb, hml, hown, hts, hK, hE, hr1, hr2, hr3, hr4, hret, hnn⟩ := h
  intro hG hS hM hM0 H locs ls hP hSv hl
  refine lv_i2b hx hb d (o2b x).symm ?_
  exact k hG (xwS_cons (xr32 _) (xwS_tl hS)) hM hM0 H locs ls hP hSv hl
theorem GG.i2s {θ : XΘ} {own : String} {cc : ByteArray} {nn : Nat} {rm : Nat × Nat} {ret : Option FieldType} (h : Fx θ own cc nn rm ret) {Γ : XG} {pc : Nat} {L : XL} {t : XT} {M : XM} {x : Int} (d : decode cc pc = .ok (.i2s, 1)) (k : GG θ Γ (pc + 1) L ((0, i2s x) :: t) M) : GG θ Γ pc L ((0, x) :: t) M := by
  obtain ⟨p, l, e, R, s, m, args, below, meth, c, Qf, ω, M0, nL, nc, ns, fin⟩ := θ
  obtain ⟨hx, hb, hml, hown, hts, hK, hE, hr1, hr2, hr3, hr4, hret, hnn⟩ := h
  intro hG hS hM hM0 H locs ls hP hSv hl
  refine lv_i2s hx hb d (o2s x).symm ?_
  exact k hG (xwS_cons (xr32 _) (xwS_tl hS)) hM hM0 H locs ls hP hSv hl
theorem GG.iconst {θ : XΘ} {own : String} {cc : ByteArray} {nn : Nat} {rm : Nat × Nat} {ret : Option FieldType} (h : Fx θ own cc nn rm ret) {Γ : XG} {pc : Nat} {L : XL} {t : XT} {M : XM} {n z : Int} (d : decode cc pc = .ok (.iconst n, 1)) (hz : Int32.ofInt n = Int32.ofInt z) (hr : r32 z) (k : GG θ Γ (pc + 1) L ((0, z) :: t) M) : GG θ Γ pc L t M := by
  obtain ⟨p, l, e, R, s, m, args, below, meth, c, Qf, ω, M0, nL, nc, ns, fin⟩ := θ
  obtain ⟨hx, hb, hml, hown, hts, hK, hE, hr1, hr2, hr3, hr4, hret, hnn⟩ := h
  intro hG hS hM hM0 H locs ls hP hSv hl
  refine lv_iconst hx hb d hz ?_
  exact k hG (xwS_cons (hr) hS) hM hM0 H locs ls hP hSv hl
theorem GG.bipush {θ : XΘ} {own : String} {cc : ByteArray} {nn : Nat} {rm : Nat × Nat} {ret : Option FieldType} (h : Fx θ own cc nn rm ret) {Γ : XG} {pc : Nat} {L : XL} {t : XT} {M : XM} {n z : Int} (d : decode cc pc = .ok (.bipush n, 2)) (hz : (Int8.ofInt n).toInt32 = Int32.ofInt z) (hr : r32 z) (k : GG θ Γ (pc + 2) L ((0, z) :: t) M) : GG θ Γ pc L t M := by
  obtain ⟨p, l, e, R, s, m, args, below, meth, c, Qf, ω, M0, nL, nc, ns, fin⟩ := θ
  obtain ⟨hx, hb, hml, hown, hts, hK, hE, hr1, hr2, hr3, hr4, hret, hnn⟩ := h
  intro hG hS hM hM0 H locs ls hP hSv hl
  refine lv_bipush hx hb d hz ?_
  exact k hG (xwS_cons (hr) hS) hM hM0 H locs ls hP hSv hl
theorem GG.sipush {θ : XΘ} {own : String} {cc : ByteArray} {nn : Nat} {rm : Nat × Nat} {ret : Option FieldType} (h : Fx θ own cc nn rm ret) {Γ : XG} {pc : Nat} {L : XL} {t : XT} {M : XM} {n z : Int} (d : decode cc pc = .ok (.sipush n, 3)) (hz : (Int16.ofInt n).toInt32 = Int32.ofInt z) (hr : r32 z) (k : GG θ Γ (pc + 3) L ((0, z) :: t) M) : GG θ Γ pc L t M := by
  obtain ⟨p, l, e, R, s, m, args, below, meth, c, Qf, ω, M0, nL, nc, ns, fin⟩ := θ
  obtain ⟨hx, hb, hml, hown, hts, hK, hE, hr1, hr2, hr3, hr4, hret, hnn⟩ := h
  intro hG hS hM hM0 H locs ls hP hSv hl
  refine lv_sipush hx hb d hz ?_
  exact k hG (xwS_cons (hr) hS) hM hM0 H locs ls hP hSv hl
theorem GG.lconst {θ : XΘ} {own : String} {cc : ByteArray} {nn : Nat} {rm : Nat × Nat} {ret : Option FieldType} (h : Fx θ own cc nn rm ret) {Γ : XG} {pc : Nat} {L : XL} {t : XT} {M : XM} {n : Fin 2} {z : Int} (d : decode cc pc = .ok (.lconst n, 1)) (hz : Int64.ofNat (n : Nat) = Int64.ofInt z) (hr : r64 z) (k : GG θ Γ (pc + 1) L ((1, z) :: t) M) : GG θ Γ pc L t M := by
  obtain ⟨p, l, e, R, s, m, args, below, meth, c, Qf, ω, M0, nL, nc, ns, fin⟩ := θ
  obtain ⟨hx, hb, hml, hown, hts, hK, hE, hr1, hr2, hr3, hr4, hret, hnn⟩ := h
  intro hG hS hM hM0 H locs ls hP hSv hl
  refine lv_lconst hx hb d hz ?_
  exact k hG (xwS_cons (hr) hS) hM hM0 H locs ls hP hSv hl
theorem GG.ldc2 {θ : XΘ} {own : String} {cc : ByteArray} {nn : Nat} {rm : Nat × Nat} {ret : Option FieldType} (h : Fx θ own cc nn rm ret) {Γ : XG} {pc : Nat} {L : XL} {t : XT} {M : XM} {n : Nat} {v : Int64} {z : Int} (d : decode cc pc = .ok (.ldc2_w n, 3)) (hw : Cond.constantLong own n v ∈ xT) (hz : v = Int64.ofInt z) (hr : r64 z) (k : GG θ Γ (pc + 3) L ((1, z) :: t) M) : GG θ Γ pc L t M := by
  obtain ⟨p, l, e, R, s, m, args, below, meth, c, Qf, ω, M0, nL, nc, ns, fin⟩ := θ
  obtain ⟨hx, hb, hml, hown, hts, hK, hE, hr1, hr2, hr3, hr4, hret, hnn⟩ := h
  intro hG hS hM hM0 H locs ls hP hSv hl
  refine lv_ldc2 hx hb hown (hts _ hw) d ?_
  rw [hz]
  exact k hG (xwS_cons (hr) hS) hM hM0 H locs ls hP hSv hl
theorem GG.ldcw {θ : XΘ} {own : String} {cc : ByteArray} {nn : Nat} {rm : Nat × Nat} {ret : Option FieldType} (h : Fx θ own cc nn rm ret) {Γ : XG} {pc : Nat} {L : XL} {t : XT} {M : XM} {n : Nat} {v : Int32} {z : Int} (d : decode cc pc = .ok (.ldc_w n, 3)) (hw : Cond.constant own n v ∈ xT) (hz : v = Int32.ofInt z) (hr : r32 z) (k : GG θ Γ (pc + 3) L ((0, z) :: t) M) : GG θ Γ pc L t M := by
  obtain ⟨p, l, e, R, s, m, args, below, meth, c, Qf, ω, M0, nL, nc, ns, fin⟩ := θ
  obtain ⟨hx, hb, hml, hown, hts, hK, hE, hr1, hr2, hr3, hr4, hret, hnn⟩ := h
  intro hG hS hM hM0 H locs ls hP hSv hl
  refine lv_ldcw hx hb hown (hts _ hw) d ?_
  rw [hz]
  exact k hG (xwS_cons (hr) hS) hM hM0 H locs ls hP hSv hl
theorem xlv_at {ω : XW} {Γ : XG} {L : XL} {ls : Array Slot} {nL i κ : Nat} (hl : lv_has ls nL (xlv ω Γ L)) (hg : (i, κ) ∈ Γ) : ls[i]? = some (.val (x_val ω κ (L i))) := hl.2.2 (i, x_val ω κ (L i)) (List.mem_map.mpr ⟨(i, κ), hg, rfl⟩)
theorem GG.iload_n {θ : XΘ} {own : String} {cc : ByteArray} {nn : Nat} {rm : Nat × Nat} {ret : Option FieldType} (h : Fx θ own cc nn rm ret) {Γ : XG} {pc : Nat} {L : XL} {t : XT} {M : XM}  {j : Fin 4} {i : Nat} (d : decode cc pc = .ok (.iload_n j, 1)) (hi : (j : Nat) = i) (hg : (i, 0) ∈ Γ) (k : GG θ Γ (pc + 1) L ((0, L i) :: t) M) : GG θ Γ pc L t M := by
  obtain ⟨p, l, e, R, s, m, args, below, meth, c, Qf, ω, M0, nL, nc, ns, fin⟩ := θ
  obtain ⟨hx, hb, hml, hown, hts, hK, hE, hr1, hr2, hr3, hr4, hret, hnn⟩ := h
  intro hG hS hM hM0 H locs ls hP hSv hl
  refine lv_iload_n hx hb d hi (xlv_at hl hg) ?_
  exact k hG (xwS_cons (hG _ hg) hS) hM hM0 H locs ls hP hSv hl
theorem GG.iload {θ : XΘ} {own : String} {cc : ByteArray} {nn : Nat} {rm : Nat × Nat} {ret : Option FieldType} (h : Fx θ own cc nn rm ret) {Γ : XG} {pc : Nat} {L : XL} {t : XT} {M : XM}  {i : Nat} (d : decode cc pc = .ok (.iload i, 2)) (hg : (i, 0) ∈ Γ) (k : GG θ Γ (pc + 2) L ((0, L i) :: t) M) : GG θ Γ pc L t M := by
  obtain ⟨p, l, e, R, s, m, args, below, meth, c, Qf, ω, M0, nL, nc, ns, fin⟩ := θ
  obtain ⟨hx, hb, hml, hown, hts, hK, hE, hr1, hr2, hr3, hr4, hret, hnn⟩ := h
  intro hG hS hM hM0 H locs ls hP hSv hl
  refine lv_iload hx hb d (xlv_at hl hg) ?_
  exact k hG (xwS_cons (hG _ hg) hS) hM hM0 H locs ls hP hSv hl
theorem GG.lload_n {θ : XΘ} {own : String} {cc : ByteArray} {nn : Nat} {rm : Nat × Nat} {ret : Option FieldType} (h : Fx θ own cc nn rm ret) {Γ : XG} {pc : Nat} {L : XL} {t : XT} {M : XM}  {j : Fin 4} {i : Nat} (d : decode cc pc = .ok (.lload_n j, 1)) (hi : (j : Nat) = i) (hg : (i, 1) ∈ Γ) (k : GG θ Γ (pc + 1) L ((1, L i) :: t) M) : GG θ Γ pc L t M := by
  obtain ⟨p, l, e, R, s, m, args, below, meth, c, Qf, ω, M0, nL, nc, ns, fin⟩ := θ
  obtain ⟨hx, hb, hml, hown, hts, hK, hE, hr1, hr2, hr3, hr4, hret, hnn⟩ := h
  intro hG hS hM hM0 H locs ls hP hSv hl
  refine lv_lload_n hx hb d hi (xlv_at hl hg) ?_
  exact k hG (xwS_cons (hG _ hg) hS) hM hM0 H locs ls hP hSv hl
theorem GG.lload {θ : XΘ} {own : String} {cc : ByteArray} {nn : Nat} {rm : Nat × Nat} {ret : Option FieldType} (h : Fx θ own cc nn rm ret) {Γ : XG} {pc : Nat} {L : XL} {t : XT} {M : XM}  {i : Nat} (d : decode cc pc = .ok (.lload i, 2)) (hg : (i, 1) ∈ Γ) (k : GG θ Γ (pc + 2) L ((1, L i) :: t) M) : GG θ Γ pc L t M := by
  obtain ⟨p, l, e, R, s, m, args, below, meth, c, Qf, ω, M0, nL, nc, ns, fin⟩ := θ
  obtain ⟨hx, hb, hml, hown, hts, hK, hE, hr1, hr2, hr3, hr4, hret, hnn⟩ := h
  intro hG hS hM hM0 H locs ls hP hSv hl
  refine lv_lload hx hb d (xlv_at hl hg) ?_
  exact k hG (xwS_cons (hG _ hg) hS) hM hM0 H locs ls hP hSv hl
theorem GG.aload_n {θ : XΘ} {own : String} {cc : ByteArray} {nn : Nat} {rm : Nat × Nat} {ret : Option FieldType} (h : Fx θ own cc nn rm ret) {Γ : XG} {pc : Nat} {L : XL} {t : XT} {M : XM} {κ : Nat} (hκ : 2 ≤ κ) {j : Fin 4} {i : Nat} (d : decode cc pc = .ok (.aload_n j, 1)) (hi : (j : Nat) = i) (hg : (i, κ) ∈ Γ) (k : GG θ Γ (pc + 1) L ((κ, L i) :: t) M) : GG θ Γ pc L t M := by
  obtain ⟨p, l, e, R, s, m, args, below, meth, c, Qf, ω, M0, nL, nc, ns, fin⟩ := θ
  obtain ⟨hx, hb, hml, hown, hts, hK, hE, hr1, hr2, hr3, hr4, hret, hnn⟩ := h
  intro hG hS hM hM0 H locs ls hP hSv hl
  obtain ⟨x, hxv⟩ : ∃ x : Nat, x_val ω κ (L i) = .ref x := by
    match κ, hκ with
    | 2, _ => exact ⟨_, rfl⟩
    | 3, _ => exact ⟨_, rfl⟩
    | j + 4, _ => exact ⟨_, rfl⟩
  have hv := xlv_at hl hg
  rw [hxv] at hv
  refine lv_aload_n hx hb d hi hv ?_
  have hk := k hG (xwS_cons (hG _ hg) hS) hM hM0 H locs ls hP hSv hl
  rw [show xsv ω ((κ, L i) :: t) = x_val ω κ (L i) :: xsv ω t from rfl, hxv] at hk
  exact hk
theorem GG.aload {θ : XΘ} {own : String} {cc : ByteArray} {nn : Nat} {rm : Nat × Nat} {ret : Option FieldType} (h : Fx θ own cc nn rm ret) {Γ : XG} {pc : Nat} {L : XL} {t : XT} {M : XM} {κ : Nat} (hκ : 2 ≤ κ) {i : Nat} (d : decode cc pc = .ok (.aload i, 2)) (hg : (i, κ) ∈ Γ) (k : GG θ Γ (pc + 2) L ((κ, L i) :: t) M) : GG θ Γ pc L t M := by
  obtain ⟨p, l, e, R, s, m, args, below, meth, c, Qf, ω, M0, nL, nc, ns, fin⟩ := θ
  obtain ⟨hx, hb, hml, hown, hts, hK, hE, hr1, hr2, hr3, hr4, hret, hnn⟩ := h
  intro hG hS hM hM0 H locs ls hP hSv hl
  obtain ⟨x, hxv⟩ : ∃ x : Nat, x_val ω κ (L i) = .ref x := by
    match κ, hκ with
    | 2, _ => exact ⟨_, rfl⟩
    | 3, _ => exact ⟨_, rfl⟩
    | j + 4, _ => exact ⟨_, rfl⟩
  have hv := xlv_at hl hg
  rw [hxv] at hv
  refine lv_aload hx hb d hv ?_
  have hk := k hG (xwS_cons (hG _ hg) hS) hM hM0 H locs ls hP hSv hl
  rw [show xsv ω ((κ, L i) :: t) = x_val ω κ (L i) :: xsv ω t from rfl, hxv] at hk
  exact hk
theorem GG.sref {θ : XΘ} {Γ : XG} {pc : Nat} {L : XL} {t : XT} {M : XM} {j : Nat} {z z2 : Int} (k : GG θ Γ pc L ((j + 4, z) :: t) M) : GG θ Γ pc L ((j + 4, z2) :: t) M := by
  obtain ⟨p, l, e, R, s, m, args, below, meth, c, Qf, ω, M0, nL, nc, ns, fin⟩ := θ
  intro hG hS hM hM0 H locs ls hP hSv hl
  exact k hG (xwS_cons trivial (xwS_tl hS)) hM hM0 H locs ls hP hSv hl
/-- the kinds of the locals behind a store -/
def xst1 (i κ : Nat) (Γ : XG) : XG := (i, κ) :: Γ.filter (fun q => !(q.1 == i) && !(q.1 + 1 == i && x_cat q.2 == 2))
def xst2 (i κ : Nat) (Γ : XG) : XG := (i, κ) :: Γ.filter (fun q => !(q.1 == i) && (!(q.1 == i + 1) && !(q.1 + 1 == i && x_cat q.2 == 2)))
theorem xlv_filter (ω : XW) (Γ : XG) (L : XL) (i : Nat) (v : Int) (f : Nat → Nat → Bool) (hf : ∀ a c, f a c = true → a ≠ i) : (xlv ω Γ L).filter (fun q => f q.1 q.2.category) = xlv ω (Γ.filter (fun q => f q.1 (x_cat q.2))) (sl L i v) := by
  unfold xlv
  rw [List.filter_map]
  have e : ((fun q : Nat × Value => f q.1 q.2.category) ∘ fun q : Nat × Nat => (q.1, x_val ω q.2 (L q.1))) = fun q => f q.1 (x_cat q.2) := by
    funext q
    show f q.1 (x_val ω q.2 (L q.1)).category = _
    rw [x_val_cat]
  rw [e]
  refine List.map_congr_left fun q hq => ?_
  have h1 := hf _ _ (List.mem_filter.mp hq).2
  unfold sl
  rw [if_neg h1]
theorem xst1_lv (ω : XW) (Γ : XG) (L : XL) (i κ : Nat) (v : Int) : (i, x_val ω κ v) :: (xlv ω Γ L).filter (fun q => !(q.1 == i) && !(q.1 + 1 == i && q.2.category == 2)) = xlv ω (xst1 i κ Γ) (sl L i v) := by
  rw [xlv_filter ω Γ L i v (fun a c => !(a == i) && !(a + 1 == i && c == 2)) (fun a c h => by simp at h; exact h.1)]
  unfold xst1 xlv
  rw [List.map_cons]
  congr 1
  simp [sl]
theorem xst2_lv (ω : XW) (Γ : XG) (L : XL) (i κ : Nat) (v : Int) : (i, x_val ω κ v) :: (xlv ω Γ L).filter (fun q => !(q.1 == i) && (!(q.1 == i + 1) && !(q.1 + 1 == i && q.2.category == 2))) = xlv ω (xst2 i κ Γ) (sl L i v) := by
  rw [xlv_filter ω Γ L i v (fun a c => !(a == i) && (!(a == i + 1) && !(a + 1 == i && c == 2))) (fun a c h => by simp at h; exact h.1)]
  unfold xst2 xlv
  rw [List.map_cons]
  congr 1
  simp [sl]
theorem xst1_wf {Γ : XG} {L : XL} {i κ : Nat} {v : Int} (h : xwG Γ L) (hv : x_wf κ v) : xwG (xst1 i κ Γ) (sl L i v) := fun q hq => by
  rcases List.mem_cons.mp hq with rfl | hq
  · simpa [sl] using hv
  · have h1 := List.mem_filter.mp hq
    have h2 : q.1 ≠ i := by have := h1.2; simp at this; exact this.1
    have h3 := h q h1.1
    unfold sl
    rwa [if_neg h2]
theorem xst2_wf {Γ : XG} {L : XL} {i κ : Nat} {v : Int} (h : xwG Γ L) (hv : x_wf κ v) : xwG (xst2 i κ Γ) (sl L i v) := fun q hq => by
  rcases List.mem_cons.mp hq with rfl | hq
  · simpa [sl] using hv
  · have h1 := List.mem_filter.mp hq
    have h2 : q.1 ≠ i := by have := h1.2; simp at this; exact this.1
    have h3 := h q h1.1
    unfold sl
    rwa [if_neg h2]
theorem GG.istore_n {θ : XΘ} {own : String} {cc : ByteArray} {nn : Nat} {rm : Nat × Nat} {ret : Option FieldType} (h : Fx θ own cc nn rm ret) {Γ : XG} {pc : Nat} {L : XL} {t : XT} {M : XM} {z : Int} {j : Fin 4} {i : Nat} (d : decode cc pc = .ok (.istore_n j, 1)) (hi : (j : Nat) = i) (hn : i < nn) (k : GG θ (xst1 i 0 Γ) (pc + 1) (sl L i z) t M) : GG θ Γ pc L ((0, z) :: t) M := by
  obtain ⟨p, l, e, R, s, m, args, below, meth, c, Qf, ω, M0, nL, nc, ns, fin⟩ := θ
  obtain ⟨hx, hb, hml, hown, hts, hK, hE, hr1, hr2, hr3, hr4, hret, hnn⟩ := h
  intro hG hS hM hM0 H locs ls hP hSv hl
  refine lv_istore_n hx hb d hi hl (by rw [hnn]; exact hn) (xst1_lv ω Γ L i 0 z) (fun ls2 hl2 => ?_)
  exact k (xst1_wf hG (xwS_hd hS)) (xwS_tl hS) hM hM0 H locs ls2 hP hSv hl2
theorem GG.istore {θ : XΘ} {own : String} {cc : ByteArray} {nn : Nat} {rm : Nat × Nat} {ret : Option FieldType} (h : Fx θ own cc nn rm ret) {Γ : XG} {pc : Nat} {L : XL} {t : XT} {M : XM} {z : Int} {i : Nat} (d : decode cc pc = .ok (.istore i, 2)) (hn : i < nn) (k : GG θ (xst1 i 0 Γ) (pc + 2) (sl L i z) t M) : GG θ Γ pc L ((0, z) :: t) M := by
  obtain ⟨p, l, e, R, s, m, args, below, meth, c, Qf, ω, M0, nL, nc, ns, fin⟩ := θ
  obtain ⟨hx, hb, hml, hown, hts, hK, hE, hr1, hr2, hr3, hr4, hret, hnn⟩ := h
  intro hG hS hM hM0 H locs ls hP hSv hl
  refine lv_istore hx hb d hl (by rw [hnn]; exact hn) (xst1_lv ω Γ L i 0 z) (fun ls2 hl2 => ?_)
  exact k (xst1_wf hG (xwS_hd hS)) (xwS_tl hS) hM hM0 H locs ls2 hP hSv hl2
theorem GG.lstore_n {θ : XΘ} {own : String} {cc : ByteArray} {nn : Nat} {rm : Nat × Nat} {ret : Option FieldType} (h : Fx θ own cc nn rm ret) {Γ : XG} {pc : Nat} {L : XL} {t : XT} {M : XM} {z : Int} {j : Fin 4} {i : Nat} (d : decode cc pc = .ok (.lstore_n j, 1)) (hi : (j : Nat) = i) (hn : i + 1 < nn) (k : GG θ (xst2 i 1 Γ) (pc + 1) (sl L i z) t M) : GG θ Γ pc L ((1, z) :: t) M := by
  obtain ⟨p, l, e, R, s, m, args, below, meth, c, Qf, ω, M0, nL, nc, ns, fin⟩ := θ
  obtain ⟨hx, hb, hml, hown, hts, hK, hE, hr1, hr2, hr3, hr4, hret, hnn⟩ := h
  intro hG hS hM hM0 H locs ls hP hSv hl
  refine lv_lstore_n hx hb d hi hl (by rw [hnn]; exact hn) (xst2_lv ω Γ L i 1 z) (fun ls2 hl2 => ?_)
  exact k (xst2_wf hG (xwS_hd hS)) (xwS_tl hS) hM hM0 H locs ls2 hP hSv hl2
theorem GG.lstore {θ : XΘ} {own : String} {cc : ByteArray} {nn : Nat} {rm : Nat × Nat} {ret : Option FieldType} (h : Fx θ own cc nn rm ret) {Γ : XG} {pc : Nat} {L : XL} {t : XT} {M : XM} {z : Int} {i : Nat} (d : decode cc pc = .ok (.lstore i, 2)) (hn : i + 1 < nn) (k : GG θ (xst2 i 1 Γ) (pc + 2) (sl L i z) t M) : GG θ Γ pc L ((1, z) :: t) M := by
  obtain ⟨p, l, e, R, s, m, args, below, meth, c, Qf, ω, M0, nL, nc, ns, fin⟩ := θ
  obtain ⟨hx, hb, hml, hown, hts, hK, hE, hr1, hr2, hr3, hr4, hret, hnn⟩ := h
  intro hG hS hM hM0 H locs ls hP hSv hl
  refine lv_lstore hx hb d hl (by rw [hnn]; exact hn) (xst2_lv ω Γ L i 1 z) (fun ls2 hl2 => ?_)
  exact k (xst2_wf hG (xwS_hd hS)) (xwS_tl hS) hM hM0 H locs ls2 hP hSv hl2
theorem GG.astore_n {θ : XΘ} {own : String} {cc : ByteArray} {nn : Nat} {rm : Nat × Nat} {ret : Option FieldType} (h : Fx θ own cc nn rm ret) {Γ : XG} {pc : Nat} {L : XL} {t : XT} {M : XM} {z : Int} {κ : Nat} (hκ : 2 ≤ κ) {j : Fin 4} {i : Nat} (d : decode cc pc = .ok (.astore_n j, 1)) (hi : (j : Nat) = i) (hn : i < nn) (k : GG θ (xst1 i κ Γ) (pc + 1) (sl L i z) t M) : GG θ Γ pc L ((κ, z) :: t) M := by
  obtain ⟨p, l, e, R, s, m, args, below, meth, c, Qf, ω, M0, nL, nc, ns, fin⟩ := θ
  obtain ⟨hx, hb, hml, hown, hts, hK, hE, hr1, hr2, hr3, hr4, hret, hnn⟩ := h
  intro hG hS hM hM0 H locs ls hP hSv hl
  obtain ⟨x, hxv⟩ : ∃ x : Nat, x_val ω κ z = .ref x := by
    match κ, hκ with
    | 2, _ => exact ⟨_, rfl⟩
    | 3, _ => exact ⟨_, rfl⟩
    | j + 4, _ => exact ⟨_, rfl⟩
  rw [show xsv ω ((κ, z) :: t) = x_val ω κ z :: xsv ω t from rfl, hxv]
  refine lv_astore_n (lv' := xlv ω (xst1 i κ Γ) (sl L i z)) hx hb d hi hl (by rw [hnn]; exact hn) (by rw [← hxv]; exact xst1_lv ω Γ L i κ z) (fun ls2 hl2 => ?_)
  exact k (xst1_wf hG (xwS_hd hS)) (xwS_tl hS) hM hM0 H locs ls2 hP hSv hl2
theorem GG.astore {θ : XΘ} {own : String} {cc : ByteArray} {nn : Nat} {rm : Nat × Nat} {ret : Option FieldType} (h : Fx θ own cc nn rm ret) {Γ : XG} {pc : Nat} {L : XL} {t : XT} {M : XM} {z : Int} {κ : Nat} (hκ : 2 ≤ κ) {i : Nat} (d : decode cc pc = .ok (.astore i, 2)) (hn : i < nn) (k : GG θ (xst1 i κ Γ) (pc + 2) (sl L i z) t M) : GG θ Γ pc L ((κ, z) :: t) M := by
  obtain ⟨p, l, e, R, s, m, args, below, meth, c, Qf, ω, M0, nL, nc, ns, fin⟩ := θ
  obtain ⟨hx, hb, hml, hown, hts, hK, hE, hr1, hr2, hr3, hr4, hret, hnn⟩ := h
  intro hG hS hM hM0 H locs ls hP hSv hl
  obtain ⟨x, hxv⟩ : ∃ x : Nat, x_val ω κ z = .ref x := by
    match κ, hκ with
    | 2, _ => exact ⟨_, rfl⟩
    | 3, _ => exact ⟨_, rfl⟩
    | j + 4, _ => exact ⟨_, rfl⟩
  rw [show xsv ω ((κ, z) :: t) = x_val ω κ z :: xsv ω t from rfl, hxv]
  refine lv_astore (lv' := xlv ω (xst1 i κ Γ) (sl L i z)) hx hb d hl (by rw [hnn]; exact hn) (by rw [← hxv]; exact xst1_lv ω Γ L i κ z) (fun ls2 hl2 => ?_)
  exact k (xst1_wf hG (xwS_hd hS)) (xwS_tl hS) hM hM0 H locs ls2 hP hSv hl2
theorem GG.iinc {θ : XΘ} {own : String} {cc : ByteArray} {nn : Nat} {rm : Nat × Nat} {ret : Option FieldType} (h : Fx θ own cc nn rm ret) {Γ : XG} {pc : Nat} {L : XL} {t : XT} {M : XM} {i : Nat} {n : Int} (d : decode cc pc = .ok (.iinc i n, 3)) (hg : (i, 0) ∈ Γ) (k : GG θ (xst1 i 0 Γ) (pc + 3) (sl L i (iAdd (L i) n)) t M) : GG θ Γ pc L t M := by
  obtain ⟨p, l, e, R, s, m, args, below, meth, c, Qf, ω, M0, nL, nc, ns, fin⟩ := θ
  obtain ⟨hx, hb, hml, hown, hts, hK, hE, hr1, hr2, hr3, hr4, hret, hnn⟩ := h
  intro hG hS hM hM0 H locs ls hP hSv hl
  have h1 := xlv_at hl hg
  have hlt : i < nL := by rw [← hl.1]; exact (Array.getElem?_eq_some_iff.mp h1).1
  obtain ⟨kk, hkk⟩ := List.getElem?_of_mem (List.mem_map.mpr ⟨(i, 0), hg, rfl⟩ : (i, x_val ω 0 (L i)) ∈ xlv ω Γ L)
  refine lv_iinc (v := Int32.ofInt (iAdd (L i) n)) hx hb d hl hkk (by rw [oAdd]) hlt (xst1_lv ω Γ L i 0 _) (fun ls2 hl2 => ?_)
  exact k (xst1_wf hG (x32_r _)) hS hM hM0 H locs ls2 hP hSv hl2
theorem GG.weak {θ : XΘ} {Γ Γ2 : XG} {pc : Nat} {L : XL} {t : XT} {M : XM} (hs : ∀ q ∈ Γ2, q ∈ Γ) (k : GG θ Γ2 pc L t M) : GG θ Γ pc L t M := by
  obtain ⟨p, l, e, R, s, m, args, below, meth, c, Qf, ω, M0, nL, nc, ns, fin⟩ := θ
  intro hG hS hM hM0 H locs ls hP hSv hl
  refine k (fun q hq => hG q (hs q hq)) hS hM hM0 H locs ls hP hSv ⟨hl.1, hl.2.1, fun q hq => ?_⟩
  obtain ⟨r, hr, rfl⟩ := List.mem_map.mp hq
  exact hl.2.2 _ (List.mem_map.mpr ⟨r, hs r hr, rfl⟩)
theorem GG.dup {θ : XΘ} {own : String} {cc : ByteArray} {nn : Nat} {rm : Nat × Nat} {ret : Option FieldType} (h : Fx θ own cc nn rm ret) {Γ : XG} {pc : Nat} {L : XL} {t : XT} {M : XM} {κ : Nat} {z : Int} (hκ : κ ≠ 1) (d : decode cc pc = .ok (.dup, 1)) (k : GG θ Γ (pc + 1) L ((κ, z) :: (κ, z) :: t) M) : GG θ Γ pc L ((κ, z) :: t) M := by
  obtain ⟨p, l, e, R, s, m, args, below, meth, c, Qf, ω, M0, nL, nc, ns, fin⟩ := θ
  obtain ⟨hx, hb, hml, hown, hts, hK, hE, hr1, hr2, hr3, hr4, hret, hnn⟩ := h
  intro hG hS hM hM0 H locs ls hP hSv hl
  refine lv_dup (va := x_val ω κ z) hx hb d (by rw [x_val_cat]; unfold x_cat; rw [if_neg hκ]) ?_
  exact k hG (xwS_cons (xwS_hd hS) hS) hM hM0 H locs ls hP hSv hl
theorem GG.dup_x1 {θ : XΘ} {own : String} {cc : ByteArray} {nn : Nat} {rm : Nat × Nat} {ret : Option FieldType} (h : Fx θ own cc nn rm ret) {Γ : XG} {pc : Nat} {L : XL} {t : XT} {M : XM} {κ κ2 : Nat} {z z2 : Int} (hκ : κ ≠ 1) (hκ2 : κ2 ≠ 1) (d : decode cc pc = .ok (.dup_x1, 1)) (k : GG θ Γ (pc + 1) L ((κ, z) :: (κ2, z2) :: (κ, z) :: t) M) : GG θ Γ pc L ((κ, z) :: (κ2, z2) :: t) M := by
  obtain ⟨p, l, e, R, s, m, args, below, meth, c, Qf, ω, M0, nL, nc, ns, fin⟩ := θ
  obtain ⟨hx, hb, hml, hown, hts, hK, hE, hr1, hr2, hr3, hr4, hret, hnn⟩ := h
  intro hG hS hM hM0 H locs ls hP hSv hl
  refine lv_dup_x1 (va := x_val ω κ z) (vb := x_val ω κ2 z2) hx hb d (by rw [x_val_cat]; unfold x_cat; rw [if_neg hκ]) (by rw [x_val_cat]; unfold x_cat; rw [if_neg hκ2]) ?_
  exact k hG (xwS_cons (xwS_hd hS) (xwS_cons (xwS_hd (xwS_tl hS)) (xwS_cons (xwS_hd hS) (xwS_tl (xwS_tl hS))))) hM hM0 H locs ls hP hSv hl
theorem GG.dup2 {θ : XΘ} {own : String} {cc : ByteArray} {nn : Nat} {rm : Nat × Nat} {ret : Option FieldType} (h : Fx θ own cc nn rm ret) {Γ : XG} {pc : Nat} {L : XL} {t : XT} {M : XM} {κ κ2 : Nat} {z z2 : Int} (hκ : κ ≠ 1) (hκ2 : κ2 ≠ 1) (d : decode cc pc = .ok (.dup2, 1)) (k : GG θ Γ (pc + 1) L ((κ, z) :: (κ2, z2) :: (κ, z) :: (κ2, z2) :: t) M) : GG θ Γ pc L ((κ, z) :: (κ2, z2) :: t) M := by
  obtain ⟨p, l, e, R, s, m, args, below, meth, c, Qf, ω, M0, nL, nc, ns, fin⟩ := θ
  obtain ⟨hx, hb, hml, hown, hts, hK, hE, hr1, hr2, hr3, hr4, hret, hnn⟩ := h
  intro hG hS hM hM0 H locs ls hP hSv hl
  refine lv_dup2_11 (va := x_val ω κ z) (vb := x_val ω κ2 z2) hx hb d (by rw [x_val_cat]; unfold x_cat; rw [if_neg hκ]) (by rw [x_val_cat]; unfold x_cat; rw [if_neg hκ2]) ?_
  exact k hG (xwS_cons (xwS_hd hS) (xwS_cons (xwS_hd (xwS_tl hS)) hS)) hM hM0 H locs ls hP hSv hl
theorem GG.pop {θ : XΘ} {own : String} {cc : ByteArray} {nn : Nat} {rm : Nat × Nat} {ret : Option FieldType} (h : Fx θ own cc nn rm ret) {Γ : XG} {pc : Nat} {L : XL} {t : XT} {M : XM} {κ : Nat} {z : Int} (hκ : κ ≠ 1) (d : decode cc pc = .ok (.pop, 1)) (k : GG θ Γ (pc + 1) L (t) M) : GG θ Γ pc L ((κ, z) :: t) M := by
  obtain ⟨p, l, e, R, s, m, args, below, meth, c, Qf, ω, M0, nL, nc, ns, fin⟩ := θ
  obtain ⟨hx, hb, hml, hown, hts, hK, hE, hr1, hr2, hr3, hr4, hret, hnn⟩ := h
  intro hG hS hM hM0 H locs ls hP hSv hl
  refine lv_pop (va := x_val ω κ z) hx hb d (by rw [x_val_cat]; unfold x_cat; rw [if_neg hκ]) ?_
  exact k hG (xwS_tl hS) hM hM0 H locs ls hP hSv hl
theorem GG.goto {θ : XΘ} {own : String} {cc : ByteArray} {nn : Nat} {rm : Nat × Nat} {ret : Option FieldType} (h : Fx θ own cc nn rm ret) {Γ : XG} {pc : Nat} {L : XL} {t : XT} {M : XM} {off : Int} {tgt : Nat} (d : decode cc pc = .ok (.goto off, 3)) (ht : (pc : Int) + off = (tgt : Int)) (k : GG θ Γ tgt L t M) : GG θ Γ pc L t M := by
  obtain ⟨p, l, e, R, s, m, args, below, meth, c, Qf, ω, M0, nL, nc, ns, fin⟩ := θ
  obtain ⟨hx, hb, hml, hown, hts, hK, hE, hr1, hr2, hr3, hr4, hret, hnn⟩ := h
  intro hG hS hM hM0 H locs ls hP hSv hl
  refine lv_goto hx hb d ht ?_
  exact k hG hS hM hM0 H locs ls hP hSv hl
theorem GG.icmp_eq {θ : XΘ} {own : String} {cc : ByteArray} {nn : Nat} {rm : Nat × Nat} {ret : Option FieldType} (h : Fx θ own cc nn rm ret) {Γ : XG} {pc : Nat} {L : XL} {t : XT} {M : XM} {x y : Int} {off : Int} {tgt : Nat} (d : decode cc pc = .ok (.if_icmp .eq off, 3)) (ht : (pc : Int) + off = (tgt : Int)) (kt : x = y → GG θ Γ tgt L t M) (kf : ¬ (x = y) → GG θ Γ (pc + 3) L t M) : GG θ Γ pc L ((0, y) :: (0, x) :: t) M := by
  obtain ⟨p, l, e, R, s, m, args, below, meth, c, Qf, ω, M0, nL, nc, ns, fin⟩ := θ
  obtain ⟨hx, hb, hml, hown, hts, hK, hE, hr1, hr2, hr3, hr4, hret, hnn⟩ := h
  intro hG hS hM hM0 H locs ls hP hSv hl
  have hi := (xeq32 (xwS_hd (xwS_tl hS)) (xwS_hd hS))
  refine lv_icmp_eq hx hb d ht (fun q => ?_) (fun q => ?_)
  · exact kt (hi.mp q) hG (xwS_tl (xwS_tl hS)) hM hM0 H locs ls hP hSv hl
  · exact kf (fun r => q (hi.mpr r)) hG (xwS_tl (xwS_tl hS)) hM hM0 H locs ls hP hSv hl
theorem GG.if_eq {θ : XΘ} {own : String} {cc : ByteArray} {nn : Nat} {rm : Nat × Nat} {ret : Option FieldType} (h : Fx θ own cc nn rm ret) {Γ : XG} {pc : Nat} {L : XL} {t : XT} {M : XM} {x : Int} {off : Int} {tgt : Nat} (d : decode cc pc = .ok (.ifCond .eq off, 3)) (ht : (pc : Int) + off = (tgt : Int)) (kt : x = 0 → GG θ Γ tgt L t M) (kf : ¬ (x = 0) → GG θ Γ (pc + 3) L t M) : GG θ Γ pc L ((0, x) :: t) M := by
  obtain ⟨p, l, e, R, s, m, args, below, meth, c, Qf, ω, M0, nL, nc, ns, fin⟩ := θ
  obtain ⟨hx, hb, hml, hown, hts, hK, hE, hr1, hr2, hr3, hr4, hret, hnn⟩ := h
  intro hG hS hM hM0 H locs ls hP hSv hl
  have hi := (xeq32 (xwS_hd hS) (xz32))
  refine lv_if_eq hx hb d ht (fun q => ?_) (fun q => ?_)
  · exact kt (hi.mp q) hG (xwS_tl hS) hM hM0 H locs ls hP hSv hl
  · exact kf (fun r => q (hi.mpr r)) hG (xwS_tl hS) hM hM0 H locs ls hP hSv hl
theorem GG.icmp_ne {θ : XΘ} {own : String} {cc : ByteArray} {nn : Nat} {rm : Nat × Nat} {ret : Option FieldType} (h : Fx θ own cc nn rm ret) {Γ : XG} {pc : Nat} {L : XL} {t : XT} {M : XM} {x y : Int} {off : Int} {tgt : Nat} (d : decode cc pc = .ok (.if_icmp .ne off, 3)) (ht : (pc : Int) + off = (tgt : Int)) (kt : x ≠ y → GG θ Γ tgt L t M) (kf : ¬ (x ≠ y) → GG θ Γ (pc + 3) L t M) : GG θ Γ pc L ((0, y) :: (0, x) :: t) M := by
  obtain ⟨p, l, e, R, s, m, args, below, meth, c, Qf, ω, M0, nL, nc, ns, fin⟩ := θ
  obtain ⟨hx, hb, hml, hown, hts, hK, hE, hr1, hr2, hr3, hr4, hret, hnn⟩ := h
  intro hG hS hM hM0 H locs ls hP hSv hl
  have hi := (not_congr (xeq32 (xwS_hd (xwS_tl hS)) (xwS_hd hS)))
  refine lv_icmp_ne hx hb d ht (fun q => ?_) (fun q => ?_)
  · exact kt (hi.mp q) hG (xwS_tl (xwS_tl hS)) hM hM0 H locs ls hP hSv hl
  · exact kf (fun r => hi.mpr r q) hG (xwS_tl (xwS_tl hS)) hM hM0 H locs ls hP hSv hl
theorem GG.if_ne {θ : XΘ} {own : String} {cc : ByteArray} {nn : Nat} {rm : Nat × Nat} {ret : Option FieldType} (h : Fx θ own cc nn rm ret) {Γ : XG} {pc : Nat} {L : XL} {t : XT} {M : XM} {x : Int} {off : Int} {tgt : Nat} (d : decode cc pc = .ok (.ifCond .ne off, 3)) (ht : (pc : Int) + off = (tgt : Int)) (kt : x ≠ 0 → GG θ Γ tgt L t M) (kf : ¬ (x ≠ 0) → GG θ Γ (pc + 3) L t M) : GG θ Γ pc L ((0, x) :: t) M := by
  obtain ⟨p, l, e, R, s, m, args, below, meth, c, Qf, ω, M0, nL, nc, ns, fin⟩ := θ
  obtain ⟨hx, hb, hml, hown, hts, hK, hE, hr1, hr2, hr3, hr4, hret, hnn⟩ := h
  intro hG hS hM hM0 H locs ls hP hSv hl
  have hi := (not_congr (xeq32 (xwS_hd hS) (xz32)))
  refine lv_if_ne hx hb d ht (fun q => ?_) (fun q => ?_)
  · exact kt (hi.mp q) hG (xwS_tl hS) hM hM0 H locs ls hP hSv hl
  · exact kf (fun r => hi.mpr r q) hG (xwS_tl hS) hM hM0 H locs ls hP hSv hl
theorem GG.icmp_lt {θ : XΘ} {own : String} {cc : ByteArray} {nn : Nat} {rm : Nat × Nat} {ret : Option FieldType} (h : Fx θ own cc nn rm ret) {Γ : XG} {pc : Nat} {L : XL} {t : XT} {M : XM} {x y : Int} {off : Int} {tgt : Nat} (d : decode cc pc = .ok (.if_icmp .lt off, 3)) (ht : (pc : Int) + off = (tgt : Int)) (kt : x < y → GG θ Γ tgt L t M) (kf : ¬ (x < y) → GG θ Γ (pc + 3) L t M) : GG θ Γ pc L ((0, y) :: (0, x) :: t) M := by
  obtain ⟨p, l, e, R, s, m, args, below, meth, c, Qf, ω, M0, nL, nc, ns, fin⟩ := θ
  obtain ⟨hx, hb, hml, hown, hts, hK, hE, hr1, hr2, hr3, hr4, hret, hnn⟩ := h
  intro hG hS hM hM0 H locs ls hP hSv hl
  have hi := (xlt32 (xwS_hd (xwS_tl hS)) (xwS_hd hS))
  refine lv_icmp_lt hx hb d ht (fun q => ?_) (fun q => ?_)
  · exact kt (hi.mp q) hG (xwS_tl (xwS_tl hS)) hM hM0 H locs ls hP hSv hl
  · exact kf (fun r => q (hi.mpr r)) hG (xwS_tl (xwS_tl hS)) hM hM0 H locs ls hP hSv hl
theorem GG.if_lt {θ : XΘ} {own : String} {cc : ByteArray} {nn : Nat} {rm : Nat × Nat} {ret : Option FieldType} (h : Fx θ own cc nn rm ret) {Γ : XG} {pc : Nat} {L : XL} {t : XT} {M : XM} {x : Int} {off : Int} {tgt : Nat} (d : decode cc pc = .ok (.ifCond .lt off, 3)) (ht : (pc : Int) + off = (tgt : Int)) (kt : x < 0 → GG θ Γ tgt L t M) (kf : ¬ (x < 0) → GG θ Γ (pc + 3) L t M) : GG θ Γ pc L ((0, x) :: t) M := by
  obtain ⟨p, l, e, R, s, m, args, below, meth, c, Qf, ω, M0, nL, nc, ns, fin⟩ := θ
  obtain ⟨hx, hb, hml, hown, hts, hK, hE, hr1, hr2, hr3, hr4, hret, hnn⟩ := h
  intro hG hS hM hM0 H locs ls hP hSv hl
  have hi := (xlt32 (xwS_hd hS) (xz32))
  refine lv_if_lt hx hb d ht (fun q => ?_) (fun q => ?_)
  · exact kt (hi.mp q) hG (xwS_tl hS) hM hM0 H locs ls hP hSv hl
  · exact kf (fun r => q (hi.mpr r)) hG (xwS_tl hS) hM hM0 H locs ls hP hSv hl
theorem GG.icmp_ge {θ : XΘ} {own : String} {cc : ByteArray} {nn : Nat} {rm : Nat × Nat} {ret : Option FieldType} (h : Fx θ own cc nn rm ret) {Γ : XG} {pc : Nat} {L : XL} {t : XT} {M : XM} {x y : Int} {off : Int} {tgt : Nat} (d : decode cc pc = .ok (.if_icmp .ge off, 3)) (ht : (pc : Int) + off = (tgt : Int)) (kt : y ≤ x → GG θ Γ tgt L t M) (kf : ¬ (y ≤ x) → GG θ Γ (pc + 3) L t M) : GG θ Γ pc L ((0, y) :: (0, x) :: t) M := by
  obtain ⟨p, l, e, R, s, m, args, below, meth, c, Qf, ω, M0, nL, nc, ns, fin⟩ := θ
  obtain ⟨hx, hb, hml, hown, hts, hK, hE, hr1, hr2, hr3, hr4, hret, hnn⟩ := h
  intro hG hS hM hM0 H locs ls hP hSv hl
  have hi := (xle32 (xwS_hd hS) (xwS_hd (xwS_tl hS)))
  refine lv_icmp_ge hx hb d ht (fun q => ?_) (fun q => ?_)
  · exact kt (hi.mp q) hG (xwS_tl (xwS_tl hS)) hM hM0 H locs ls hP hSv hl
  · exact kf (fun r => q (hi.mpr r)) hG (xwS_tl (xwS_tl hS)) hM hM0 H locs ls hP hSv hl
theorem GG.if_ge {θ : XΘ} {own : String} {cc : ByteArray} {nn : Nat} {rm : Nat × Nat} {ret : Option FieldType} (h : Fx θ own cc nn rm ret) {Γ : XG} {pc : Nat} {L : XL} {t : XT} {M : XM} {x : Int} {off : Int} {tgt : Nat} (d : decode cc pc = .ok (.ifCond .ge off, 3)) (ht : (pc : Int) + off = (tgt : Int)) (kt : 0 ≤ x → GG θ Γ tgt L t M) (kf : ¬ (0 ≤ x) → GG θ Γ (pc + 3) L t M) : GG θ Γ pc L ((0, x) :: t) M := by
  obtain ⟨p, l, e, R, s, m, args, below, meth, c, Qf, ω, M0, nL, nc, ns, fin⟩ := θ
  obtain ⟨hx, hb, hml, hown, hts, hK, hE, hr1, hr2, hr3, hr4, hret, hnn⟩ := h
  intro hG hS hM hM0 H locs ls hP hSv hl
  have hi := (xle32 (xz32) (xwS_hd hS))
  refine lv_if_ge hx hb d ht (fun q => ?_) (fun q => ?_)
  · exact kt (hi.mp q) hG (xwS_tl hS) hM hM0 H locs ls hP hSv hl
  · exact kf (fun r => q (hi.mpr r)) hG (xwS_tl hS) hM hM0 H locs ls hP hSv hl
theorem GG.icmp_gt {θ : XΘ} {own : String} {cc : ByteArray} {nn : Nat} {rm : Nat × Nat} {ret : Option FieldType} (h : Fx θ own cc nn rm ret) {Γ : XG} {pc : Nat} {L : XL} {t : XT} {M : XM} {x y : Int} {off : Int} {tgt : Nat} (d : decode cc pc = .ok (.if_icmp .gt off, 3)) (ht : (pc : Int) + off = (tgt : Int)) (kt : y < x → GG θ Γ tgt L t M) (kf : ¬ (y < x) → GG θ Γ (pc + 3) L t M) : GG θ Γ pc L ((0, y) :: (0, x) :: t) M := by
  obtain ⟨p, l, e, R, s, m, args, below, meth, c, Qf, ω, M0, nL, nc, ns, fin⟩ := θ
  obtain ⟨hx, hb, hml, hown, hts, hK, hE, hr1, hr2, hr3, hr4, hret, hnn⟩ := h
  intro hG hS hM hM0 H locs ls hP hSv hl
  have hi := (xlt32 (xwS_hd hS) (xwS_hd (xwS_tl hS)))
  refine lv_icmp_gt hx hb d ht (fun q => ?_) (fun q => ?_)
  · exact kt (hi.mp q) hG (xwS_tl (xwS_tl hS)) hM hM0 H locs ls hP hSv hl
  · exact kf (fun r => q (hi.mpr r)) hG (xwS_tl (xwS_tl hS)) hM hM0 H locs ls hP hSv hl
theorem GG.if_gt {θ : XΘ} {own : String} {cc : ByteArray} {nn : Nat} {rm : Nat × Nat} {ret : Option FieldType} (h : Fx θ own cc nn rm ret) {Γ : XG} {pc : Nat} {L : XL} {t : XT} {M : XM} {x : Int} {off : Int} {tgt : Nat} (d : decode cc pc = .ok (.ifCond .gt off, 3)) (ht : (pc : Int) + off = (tgt : Int)) (kt : 0 < x → GG θ Γ tgt L t M) (kf : ¬ (0 < x) → GG θ Γ (pc + 3) L t M) : GG θ Γ pc L ((0, x) :: t) M := by
  obtain ⟨p, l, e, R, s, m, args, below, meth, c, Qf, ω, M0, nL, nc, ns, fin⟩ := θ
  obtain ⟨hx, hb, hml, hown, hts, hK, hE, hr1, hr2, hr3, hr4, hret, hnn⟩ := h
  intro hG hS hM hM0 H locs ls hP hSv hl
  have hi := (xlt32 (xz32) (xwS_hd hS))
  refine lv_if_gt hx hb d ht (fun q => ?_) (fun q => ?_)
  · exact kt (hi.mp q) hG (xwS_tl hS) hM hM0 H locs ls hP hSv hl
  · exact kf (fun r => q (hi.mpr r)) hG (xwS_tl hS) hM hM0 H locs ls hP hSv hl
theorem GG.icmp_le {θ : XΘ} {own : String} {cc : ByteArray} {nn : Nat} {rm : Nat × Nat} {ret : Option FieldType} (h : Fx θ own cc nn rm ret) {Γ : XG} {pc : Nat} {L : XL} {t : XT} {M : XM} {x y : Int} {off : Int} {tgt : Nat} (d : decode cc pc = .ok (.if_icmp .le off, 3)) (ht : (pc : Int) + off = (tgt : Int)) (kt : x ≤ y → GG θ Γ tgt L t M) (kf : ¬ (x ≤ y) → GG θ Γ (pc + 3) L t M) : GG θ Γ pc L ((0, y) :: (0, x) :: t) M := by
  obtain ⟨p, l, e, R, s, m, args, below, meth, c, Qf, ω, M0, nL, nc, ns, fin⟩ := θ
  obtain ⟨hx, hb, hml, hown, hts, hK, hE, hr1, hr2, hr3, hr4, hret, hnn⟩ := h
  intro hG hS hM hM0 H locs ls hP hSv hl
  have hi := (xle32 (xwS_hd (xwS_tl hS)) (xwS_hd hS))
  refine lv_icmp_le hx hb d ht (fun q => ?_) (fun q => ?_)
  · exact kt (hi.mp q) hG (xwS_tl (xwS_tl hS)) hM hM0 H locs ls hP hSv hl
  · exact kf (fun r => q (hi.mpr r)) hG (xwS_tl (xwS_tl hS)) hM hM0 H locs ls hP hSv hl
theorem GG.if_le {θ : XΘ} {own : String} {cc : ByteArray} {nn : Nat} {rm : Nat × Nat} {ret : Option FieldType} (h : Fx θ own cc nn rm ret) {Γ : XG} {pc : Nat} {L : XL} {t : XT} {M : XM} {x : Int} {off : Int} {tgt : Nat} (d : decode cc pc = .ok (.ifCond .le off, 3)) (ht : (pc : Int) + off = (tgt : Int)) (kt : x ≤ 0 → GG θ Γ tgt L t M) (kf : ¬ (x ≤ 0) → GG θ Γ (pc + 3) L t M) : GG θ Γ pc L ((0, x) :: t) M := by
  obtain ⟨p, l, e, R, s, m, args, below, meth, c, Qf, ω, M0, nL, nc, ns, fin⟩ := θ
  obtain ⟨hx, hb, hml, hown, hts, hK, hE, hr1, hr2, hr3, hr4, hret, hnn⟩ := h
  intro hG hS hM hM0 H locs ls hP hSv hl
  have hi := (xle32 (xwS_hd hS) (xz32))
  refine lv_if_le hx hb d ht (fun q => ?_) (fun q => ?_)
  · exact kt (hi.mp q) hG (xwS_tl hS) hM hM0 H locs ls hP hSv hl
  · exact kf (fun r => q (hi.mpr r)) hG (xwS_tl hS) hM hM0 H locs ls hP hSv hl
def lCmp (x y : Int) : Int := if x < y then -1 else if x = y then 0 else 1
theorem oLcmp {x y : Int} (hx : r64 x) (hy : r64 y) : Int32.ofInt (lCmp x y) = lg_cmp (Int64.ofInt x) (Int64.ofInt y) := by
  have h1 := xlt64 hx hy
  have h2 := xlt64 hy hx
  have h3 := xeq64 hx hy
  unfold lCmp lg_cmp
  by_cases a : x < y
  · have a1 := h1.mpr a
    have a3 : ¬ Int64.ofInt y < Int64.ofInt x := fun q => by have := h2.mp q; omega
    have a4 : ¬ Int64.ofInt x = Int64.ofInt y := fun q => by have := h3.mp q; omega
    simp [a, a3, a4]
  · have a2 : ¬ Int64.ofInt x < Int64.ofInt y := fun q => a (h1.mp q)
    by_cases b : x = y
    · subst b; simp
    · have b2 : ¬ Int64.ofInt x = Int64.ofInt y := fun q => b (h3.mp q)
      have b3 : Int64.ofInt y < Int64.ofInt x := h2.mpr (by omega)
      simp [a, b, b3]
theorem lCmp_r (x y : Int) : r32 (lCmp x y) := by
  unfold lCmp r32
  split
  · omega
  · split <;> omega
theorem GG.lcmp {θ : XΘ} {own : String} {cc : ByteArray} {nn : Nat} {rm : Nat × Nat} {ret : Option FieldType} (h : Fx θ own cc nn rm ret) {Γ : XG} {pc : Nat} {L : XL} {t : XT} {M : XM} {x y : Int} (d : decode cc pc = .ok (.lcmp, 1)) (k : GG θ Γ (pc + 1) L ((0, lCmp x y) :: t) M) : GG θ Γ pc L ((1, y) :: (1, x) :: t) M := by
  obtain ⟨p, l, e, R, s, m, args, below, meth, c, Qf, ω, M0, nL, nc, ns, fin⟩ := θ
  obtain ⟨hx, hb, hml, hown, hts, hK, hE, hr1, hr2, hr3, hr4, hret, hnn⟩ := h
  intro hG hS hM hM0 H locs ls hP hSv hl
  refine W.lcmp hx hb d ?_
  rw [← oLcmp (xwS_hd (xwS_tl hS)) (xwS_hd hS)]
  exact k hG (xwS_cons (lCmp_r _ _) (xwS_tl (xwS_tl hS))) hM hM0 H locs ls hP hSv hl
theorem lCmp_eq {x y : Int} : lCmp x y = 0 ↔ x = y := by unfold lCmp; split <;> (try split) <;> omega
theorem lCmp_lt {x y : Int} : lCmp x y < 0 ↔ x < y := by unfold lCmp; split <;> (try split) <;> omega
theorem lCmp_gt {x y : Int} : 0 < lCmp x y ↔ y < x := by unfold lCmp; split <;> (try split) <;> omega
theorem lCmp_le {x y : Int} : lCmp x y ≤ 0 ↔ x ≤ y := by unfold lCmp; split <;> (try split) <;> omega
theorem lCmp_ge {x y : Int} : 0 ≤ lCmp x y ↔ y ≤ x := by unfold lCmp; split <;> (try split) <;> omega
