/-! ===== a method's contract, and calls ===== -/
def XB (ω : XW) (M : XM) (a : XT) (U : State) : Prop := xwS a ∧ xwM M ∧ xK ω U ∧ xE ω M U U.heap ∧ va_P ω.1 vwCl (xworld ω M) U.heap
def xrv (ret : Option FieldType) (v : Int) : Option Value := match ret with
  | some .long => some (.long (Int64.ofInt v))
  | none => none
  | _ => some (.int (Int32.ofInt v))
def xrr (ret : Option FieldType) (v : Int) : Prop := match ret with
  | some .long => r64 v
  | none => v = 0
  | _ => r32 v
def xpush (ret : Option FieldType) (v : Int) (t : XT) : XT := match ret with
  | some .long => (1, v) :: t
  | none => t
  | _ => (0, v) :: t
theorem xpush_sv (ω : XW) (ret : Option FieldType) (v : Int) (t : XT) : xsv ω (xpush ret v t) = (xrv ret v).toList ++ xsv ω t := by
  unfold xpush xrv
  split <;> rfl
theorem xpush_wf {ret : Option FieldType} {v : Int} {t : XT} (h : xrr ret v) (ht : xwS t) : xwS (xpush ret v t) := by
  unfold xrr at h
  unfold xpush
  split at h <;> first | exact xwS_cons h ht | exact ht
def XQ (ω : XW) (ret : Option FieldType) (M0 : XM) (Q : Int → XM → Prop) : Array Value → State → Outcome → State → Prop := fun _ s oc t => (∃ (v : Int) (M' : XM), oc = .returned (xrv ret v) ∧ xrr ret v ∧ Q v M' ∧ xwM M' ∧ xSame M0 M' ∧ xK ω t ∧ va_P ω.1 vwCl (xworld ω M') t.heap) ∧ va_F (xA ω) s t
def XC (l : Launch) (ω : XW) (y : MethodName) (b : ByteArray) (n : Nat) (ret : Option FieldType) (rm : Nat × Nat) (a : XT) (M : XM) (Q : Int → XM → Prop) : Prop :=
  Met l y (Cond.code y b n ret :: xT) ({ frames := rm.1, cells := 0, slots := 0, locals := rm.2 } : Room) (va_Pc (xsv ω a) (XB ω M a)) (XQ ω ret M Q) 0 0 (xA ω)
theorem XB_blind (ω : XW) (M : XM) (a : XT) : FrameBlind (va_Pc (xsv ω a) (XB ω M a)) := fun v U g mk q => ⟨q.1, q.2.1, q.2.2.1, ⟨va_K.moved (u := U) (U := U.calling g mk v) (Vm.Alike.refl U.vm) q.2.2.2.1.1, xNs_same (u := U) (U := U.calling g mk v) rfl q.2.2.2.1.2.1, q.2.2.2.1.2.2⟩, xE_moved (u := U) (U := U.calling g mk v) (Vm.Alike.refl U.vm) q.2.2.2.2.1, q.2.2.2.2.2⟩
theorem xws_pay {args : Array Value} {s : State} {y : MethodName} {b : ByteArray} {n : Nat} {ret : Option FieldType} (hts : ∀ w ∈ xT, w.before args s = true) (hc : Cond.code y b n ret ∈ xT) : ∀ w ∈ (Cond.code y b n ret :: xT), ∀ (a' : Array Value) (U : State), s.WarmedH U.vm → w.before a' U = true := fun w hw a' U hW => by
  have hw2 : w ∈ xT := by
    rcases List.mem_cons.mp hw with rfl | h
    · exact hc
    · exact h
  exact word_at hW (xT_good w hw2).2 (hts w hw2)
theorem xsv_app (ω : XW) (a b : XT) : xsv ω (a ++ b) = xsv ω a ++ xsv ω b := List.map_append
theorem xsv_rev (ω : XW) (a : XT) : xsv ω a.reverse = (xsv ω a).reverse := List.map_reverse
/-- what comes back from a call, at the caller -/
theorem xback {p : Program} {l : Launch} {e : Env} {R : Room} {s : State} {m : MethodId} {args : Array Value} {below : List Frame} {meth : Method} {c : Code} {Qf : State → Prop} {ω : XW} {M0 M : XM} {nL nc ns pc : Nat} {fin : Int → XM → Prop} {ret : Option FieldType} {Q : Int → XM → Prop} {Γ : XG} {L : XL} {t : XT} {H : Heap} {locs : List Loc} {ls : Array Slot} {a : Array Value}
    (kk : ∀ (v : Int) (M' : XM), xrr ret v → Q v M' → GG (p, l, e, R, s, m, args, below, meth, c, Qf, ω, M0, nL, nc, ns, fin) Γ (pc + 3) L (xpush ret v t) M')
    (hG : xwG Γ L) (hS : xwS t) (hM0 : xSame M0 M) (hSv : va_S (xA ω) s.heap H locs) (hl : lv_has ls nL (xlv ω Γ L)) {st0 : List Value}
    (hr : va_Run p l e R s m args below meth c H locs nc ns 0 0 (F0 m pc ls st0) (xsv ω t) (XQ ω ret M Q a) (xA ω)) : W p l e R s m args below meth c H locs nc ns Qf (F0 m pc ls st0) := by
  intro T hT X
  obtain ⟨v, st₀, t2, T', L2, h0, X', hL, e1, e2, ⟨⟨r, M', hv, hrr, hq, hwM, hsm, hK, hP⟩, hz, hk⟩, step⟩ := hr T hT X
  cases hv
  rw [h0] at hz hk
  have hsame : xSame M0 M' := fun k hk2 => (hsm k hk2).trans (hM0 k hk2)
  obtain ⟨t3, a1, b1⟩ := kk r M' hrr hq hG (xpush_wf hrr hS) hwM hsame T'.heap (locs ++ L2) ls (by rw [e1]; exact hP)
    ⟨Nat.le_trans hSv.1 (by rw [e1]; exact hz), fun q h1 h2 => by rw [e1, hk q (Nat.lt_of_lt_of_le h1 hSv.1) h2]; exact hSv.2.1 q h1 h2, fun q hq2 => by
      rcases List.mem_append.mp hq2 with h | h
      · exact hSv.2.2 q h
      · exact hL q h⟩ hl T' rfl X'
  rw [xpush_sv] at a1
  exact ⟨t3, step t3 a1, b1⟩
theorem xB_at {p : Program} {l : Launch} {e : Env} {R : Room} {s : State} {M0 M : XM} {ω : XW} {H : Heap} {locs : List Loc} {a : XT} (ha : xwS a) (hM : xwM M) (hM0 : xSame M0 M) (hK : xK ω s) (hE : xE ω M0 s s.heap) (hP : va_P ω.1 vwCl (xworld ω M) H) (hSv : va_S (xA ω) s.heap H locs) {U : State} (hU : U.heap = H) (hW : s.WarmedH U.vm) : va_Pc (xsv ω a) (XB ω M a) (xsv ω a).toArray U :=
  ⟨rfl, ha, hM, xK_warm hW hK, by rw [hU]; exact xE_mem (xE_kept (xE_moved hW.alike hE) (fun q h1 h2 => hSv.2.1 q h1 h2)) hM0, by rw [hU]; exact hP⟩
theorem GG.cv {θ : XΘ} {own : String} {cc : ByteArray} {nn : Nat} {rm : Nat × Nat} {rc : Option FieldType} (h : Fx θ own cc nn rm rc) {Γ : XG} {pc : Nat} {L : XL} {t : XT} {M : XM} {y : MethodName} {b : ByteArray} {n k ci ix : Nat} {ret : Option FieldType} {rmy : Nat × Nat} {Q : Int → XM → Prop} {C : vw_C} {fs : XW → (Int → Int) → List Value} (as : XT) (hk : k < xN) (hC : vwCl[ci]? = some C) (hCy : C.1 = y.cls) (hcell : ∀ ω f, xcell ω k f = .inr (ci, fs ω f)) (hw1 : Cond.methodLink own ix y ∈ xT) (hw2 : Cond.instanceMethod y ∈ xT) (hw3 : Cond.selects y.cls y y ∈ xT) (hw4 : Cond.code y b n ret ∈ xT) (hw5 : Cond.initialized y.cls ∈ xT) (hy : y.cls ≠ "java/lang/invoke/MethodHandle" ∧ y.cls ≠ "java/lang/invoke/VarHandle") (hlen : (parseMethodDescriptor y.desc).map (fun d => d.parameters.length) = some as.length) (hfr : rmy.1 + 1 ≤ rm.1) (hlo : xsum t + (n + 11) + rmy.2 ≤ rm.2)
    (hM : ∀ l ω, XC l ω y b n ret rmy ((k + 4, 0) :: as) M Q) (d : decode cc pc = .ok (.invokevirtual ix, 3)) (kk : ∀ (v : Int) (M' : XM), xrr ret v → Q v M' → GG θ Γ (pc + 3) L (xpush ret v t) M') {z : Int} : GG θ Γ pc L (as.reverse ++ (k + 4, z) :: t) M := by
  obtain ⟨p, l, e, R, s, m, args, below, meth, c, Qf, ω, M0, nL, nc, ns, fin⟩ := θ
  obtain ⟨hx, hb, hml, hown, hts, hK, hE, hr1, hr2, hr3, hr4, hret, hnn⟩ := h
  intro hG hS hM1 hM0 H locs ls hP hSv hl
  have hSt : xwS t := fun q hq => hS q (List.mem_append_right _ (List.mem_cons_of_mem _ hq))
  have hSa : xwS ((k + 4, 0) :: as) := xwS_cons trivial (fun q hq => hS q (List.mem_append_left _ (List.mem_reverse.mpr hq)))
  have hKb : Back l R p e below s args y 3 (xsum t) (PreOf R 0 0 (va_Pc (xsv ω ((k + 4, 0) :: as)) (XB ω M ((k + 4, 0) :: as)))) (PostOf (XQ ω ret M Q) 0 0 (xA ω)) :=
    back_of (bytes := b) (maxL := n) (ret := ret) (hM l ω) (XB_blind ω M _) rfl rfl (Nat.le_trans hfr hr1) (Nat.le_trans hlo hr2) (xws_pay hts hw4) List.mem_cons_self (fun a' U hW => word_at hW (xT_good _ hw5).2 (hts _ hw5))
  have hcw : (xworld ω M)[k]? = some (ω.2.1 k, .inr (ci, fs ω (M k))) := by rw [xworld_get ω M hk, hcell]
  obtain ⟨cellB, q1, q2, q3⟩ := va_recv hK.1 hP hC hcw
  rw [hCy] at q3
  refine xback (Γ := Γ) (L := L) kk hG hSt hM0 hSv hl (a := (xsv ω ((k + 4, 0) :: as)).toArray) ?_
  intro T hT X
  obtain ⟨v, vm₁, ⟨U', l2, c2, s2⟩, hW₁, X', ⟨g', mk, t2, L2, e1, e2, hq, h1, hL, h2, h3⟩, step⟩ := callV X hx (C := y.cls) (bytes := b) (maxL := n) (ret := ret) hown (hts _ hw1) (hts _ hw2) (hts _ hw3) (hts _ hw4) hy hKb (by rw [hT]; exact q1) q2 q3 (g := F0 m pc ls (xsv ω (as.reverse ++ (k + 4, z) :: t))) rfl (hl.1.trans hml.symm) (argsL := xsv ω as) (rest := xsv ω t)
    (fun sig h9 => by rw [h9] at hlen; have h8 : sig.parameters.length = as.length := Option.some.inj hlen; rw [h8]; exact List.length_map _) (by show xsv ω _ = _; rw [xsv_app, xsv_rev]; rfl) (by show 2 * 0 + _ ≤ _; rw [xsum_eq]; omega) (by rw [hb]; exact d)
    (fun vm₁ hW₁ => ⟨hr3, hr4, xB_at (l := l) (p := p) (e := e) (R := R) hSa hM1 hM0 hK hE hP hSv hT hW₁⟩)
  dsimp only [Pt.U, Pt.locs, Pt.cells, Pt.slots] at X' e1 e2 h1 h2 h3 step
  subst h1; subst h2; subst h3
  exact ⟨v, (T.setVm vm₁).calling g' mk (Value.ref (ω.2.1 k) :: xsv ω as).toArray, t2, U', L2, hT, X', hL, e1, e2, hq, step⟩
theorem GG.cs {θ : XΘ} {own : String} {cc : ByteArray} {nn : Nat} {rm : Nat × Nat} {rc : Option FieldType} (h : Fx θ own cc nn rm rc) {Γ : XG} {pc : Nat} {L : XL} {t : XT} {M : XM} {y : MethodName} {b : ByteArray} {n ix : Nat} {ret : Option FieldType} {rmy : Nat × Nat} {Q : Int → XM → Prop} (as : XT) (hw1 : Cond.methodLink own ix y ∈ xT) (hw2 : Cond.static y ∈ xT) (hw4 : Cond.code y b n ret ∈ xT) (hw5 : Cond.initialized y.cls ∈ xT) (hy : y.cls ≠ "java/lang/invoke/MethodHandle" ∧ y.cls ≠ "java/lang/invoke/VarHandle") (hlen : (parseMethodDescriptor y.desc).map (fun d => d.parameters.length) = some as.length) (hfr : rmy.1 + 1 ≤ rm.1) (hlo : xsum t + (n + 11) + rmy.2 ≤ rm.2)
    (hM : ∀ l ω, XC l ω y b n ret rmy as M Q) (d : decode cc pc = .ok (.invokestatic ix, 3)) (kk : ∀ (v : Int) (M' : XM), xrr ret v → Q v M' → GG θ Γ (pc + 3) L (xpush ret v t) M') : GG θ Γ pc L (as.reverse ++ t) M := by
  obtain ⟨p, l, e, R, s, m, args, below, meth, c, Qf, ω, M0, nL, nc, ns, fin⟩ := θ
  obtain ⟨hx, hb, hml, hown, hts, hK, hE, hr1, hr2, hr3, hr4, hret, hnn⟩ := h
  intro hG hS hM1 hM0 H locs ls hP hSv hl
  have hSt : xwS t := fun q hq => hS q (List.mem_append_right _ hq)
  have hSa : xwS as := fun q hq => hS q (List.mem_append_left _ (List.mem_reverse.mpr hq))
  have hKb : Back l R p e below s args y 3 (xsum t) (PreOf R 0 0 (va_Pc (xsv ω as) (XB ω M as))) (PostOf (XQ ω ret M Q) 0 0 (xA ω)) :=
    back_of (bytes := b) (maxL := n) (ret := ret) (hM l ω) (XB_blind ω M _) rfl rfl (Nat.le_trans hfr hr1) (Nat.le_trans hlo hr2) (xws_pay hts hw4) List.mem_cons_self (fun a' U hW => word_at hW (xT_good _ hw5).2 (hts _ hw5))
  refine xback (Γ := Γ) (L := L) kk hG hSt hM0 hSv hl (a := (xsv ω as).toArray) ?_
  intro T hT X
  obtain ⟨v, vm₁, ⟨U', l2, c2, s2⟩, hW₁, X', ⟨g', mk, t2, L2, e1, e2, hq, h1, hL, h2, h3⟩, step⟩ := callS X hx (bytes := b) (maxL := n) (ret := ret) hown (hts _ hw1) (hts _ hw2) (hts _ hw5) (hts _ hw4) hy hKb (g := F0 m pc ls (xsv ω (as.reverse ++ t))) rfl (hl.1.trans hml.symm) (argsL := xsv ω as) (rest := xsv ω t)
    (fun sig h9 => by rw [h9] at hlen; have h8 : sig.parameters.length = as.length := Option.some.inj hlen; rw [h8]; exact List.length_map _) (by show xsv ω _ = _; rw [xsv_app, xsv_rev]) (by show 2 * 0 + _ ≤ _; rw [xsum_eq]; omega) (by rw [hb]; exact d)
    (fun vm₁ hW₁ => ⟨hr3, hr4, xB_at (l := l) (p := p) (e := e) (R := R) hSa hM1 hM0 hK hE hP hSv hT hW₁⟩)
  dsimp only [Pt.U, Pt.locs, Pt.cells, Pt.slots] at X' e1 e2 h1 h2 h3 step
  subst h1; subst h2; subst h3
  exact ⟨v, (T.setVm vm₁).calling g' mk (xsv ω as).toArray, t2, U', L2, hT, X', hL, e1, e2, hq, step⟩
theorem GG.cn {θ : XΘ} {own : String} {cc : ByteArray} {nn : Nat} {rm : Nat × Nat} {rc : Option FieldType} (h : Fx θ own cc nn rm rc) {Γ : XG} {pc : Nat} {L : XL} {t : XT} {M : XM} {y : MethodName} {b : ByteArray} {n ix : Nat} {host : String} {ret : Option FieldType} {rmy : Nat × Nat} {Q : Int → XM → Prop} (as : XT) (hw1 : Cond.methodLinkNest own ix y host ∈ xNest) (hw2 : Cond.static y ∈ xT) (hw4 : Cond.code y b n ret ∈ xT) (hw5 : Cond.initialized y.cls ∈ xT) (hy : y.cls ≠ "java/lang/invoke/MethodHandle" ∧ y.cls ≠ "java/lang/invoke/VarHandle") (hlen : (parseMethodDescriptor y.desc).map (fun d => d.parameters.length) = some as.length) (hfr : rmy.1 + 1 ≤ rm.1) (hlo : xsum t + (n + 11) + rmy.2 ≤ rm.2)
    (hM : ∀ l ω, XC l ω y b n ret rmy as M Q) (d : decode cc pc = .ok (.invokestatic ix, 3)) (kk : ∀ (v : Int) (M' : XM), xrr ret v → Q v M' → GG θ Γ (pc + 3) L (xpush ret v t) M') : GG θ Γ pc L (as.reverse ++ t) M := by
  obtain ⟨p, l, e, R, s, m, args, below, meth, c, Qf, ω, M0, nL, nc, ns, fin⟩ := θ
  obtain ⟨hx, hb, hml, hown, hts, hK, hE, hr1, hr2, hr3, hr4, hret, hnn⟩ := h
  intro hG hS hM1 hM0 H locs ls hP hSv hl
  have hSt : xwS t := fun q hq => hS q (List.mem_append_right _ hq)
  have hSa : xwS as := fun q hq => hS q (List.mem_append_left _ (List.mem_reverse.mpr hq))
  have hKb : Back l R p e below s args y 3 (xsum t) (PreOf R 0 0 (va_Pc (xsv ω as) (XB ω M as))) (PostOf (XQ ω ret M Q) 0 0 (xA ω)) :=
    back_of (bytes := b) (maxL := n) (ret := ret) (hM l ω) (XB_blind ω M _) rfl rfl (Nat.le_trans hfr hr1) (Nat.le_trans hlo hr2) (xws_pay hts hw4) List.mem_cons_self (fun a' U hW => word_at hW (xT_good _ hw5).2 (hts _ hw5))
  refine xback (Γ := Γ) (L := L) kk hG hSt hM0 hSv hl (a := (xsv ω as).toArray) ?_
  intro T hT X
  obtain ⟨v, vm₁, ⟨U', l2, c2, s2⟩, hW₁, X', ⟨g', mk, t2, L2, e1, e2, hq, h1, hL, h2, h3⟩, step⟩ := va_callSN X hx (bytes := b) (maxL := n) (ret := ret) hown (va_Nw.use rfl (hK.2.1 _ hw1)) (hts _ hw2) (hts _ hw5) (hts _ hw4) hy hKb (g := F0 m pc ls (xsv ω (as.reverse ++ t))) rfl (hl.1.trans hml.symm) (argsL := xsv ω as) (rest := xsv ω t)
    (fun sig h9 => by rw [h9] at hlen; have h8 : sig.parameters.length = as.length := Option.some.inj hlen; rw [h8]; exact List.length_map _) (by show xsv ω _ = _; rw [xsv_app, xsv_rev]) (by show 2 * 0 + _ ≤ _; rw [xsum_eq]; omega) (by rw [hb]; exact d)
    (fun vm₁ hW₁ => ⟨hr3, hr4, xB_at (l := l) (p := p) (e := e) (R := R) hSa hM1 hM0 hK hE hP hSv hT hW₁⟩)
  dsimp only [Pt.U, Pt.locs, Pt.cells, Pt.slots] at X' e1 e2 h1 h2 h3 step
  subst h1; subst h2; subst h3
  exact ⟨v, (T.setVm vm₁).calling g' mk (xsv ω as).toArray, t2, U', L2, hT, X', hL, e1, e2, hq, step⟩
/-- a method's contract out of the walk of its body -/
theorem XC.mk {l : Launch} {ω : XW} {y : MethodName} {b : ByteArray} {n : Nat} {ret : Option FieldType} {rm : Nat × Nat} {a : XT} {M : XM} {Q : Int → XM → Prop} {own : String} (hy : plainName y.cls = true) (hown : y.cls = own) (hret : ret = none ∨ ret = some .int ∨ ret = some .long ∨ ret = some .boolean) (Γ0 : XG) (L0 : XL) (hL : ∀ ω, lv_args 0 (xsv ω a) = xlv ω Γ0 L0) (hn : ∀ ω, (lg_sl (xsv ω a)).length ≤ n) (hΓ : xwS a → xwG Γ0 L0)
    (body : ∀ θ : XΘ, Fx θ own b n rm ret → (∀ v M', Q v M' → XR θ v M') → GG θ Γ0 0 L0 [] M) : XC l ω y b n ret rm a M Q := by
  unfold XC
  refine Met.ofW (cc := b) (maxL := n) (ret := ret) hy rfl ?_
  intro p e s m args below meth c s₁ B hml hv
  obtain ⟨rfl, ha, hM, hK, hE, hP⟩ := hv
  have hx := B.exec
  have hb := B.bytes
  have hr := B.returns
  have hts := atoms_spec (ws := Cond.code y b n ret :: xT) B.pre
  have hown2 : s.vm.findClass own = some m.cls := by rw [← hown]; exact findClass_of_methodNamed B.named
  have hlocks := B.notSynchronized
  have hl := lv_entry (xsv ω a) (n := n) (hn ω)
  rw [lg_entry_eq]
  generalize (lg_sl (xsv ω a) ++ List.replicate (n - (lg_sl (xsv ω a)).length) Slot.unset).toArray = ls at hl ⊢
  rw [hL ω] at hl
  have hDone : ∀ (H : Heap) (locs : List Loc) (v : Int) (M' : XM), xrr ret v → Q v M' → xwM M' → xSame M M' → va_P ω.1 vwCl (xworld ω M') H → va_S (xA ω) s.heap H locs → ∀ t : State, t.heap = H → s.WarmedH t.vm → XQ ω ret M Q (xsv ω a).toArray s (.returned (xrv ret v)) t := fun H locs v M' h1 h2 h3 h4 h5 h6 t ht hW =>
    ⟨⟨v, M', rfl, h1, h2, h3, h4, xK_warm hW hK, by rw [ht]; exact h5⟩, h6.F ht⟩
  have hR : XRet (p, l, e, (headSpec (Cond.code y b n ret :: xT) ({ frames := rm.1, cells := 0, slots := 0, locals := rm.2 } : Room)).room, s, m, (xsv ω a).toArray, below, meth, c, MQ below (XQ ω ret M Q) (xsv ω a).toArray s 0 0 (xA ω), ω, M, n, 0, 0, Q) b ret := by
    rcases hret with rfl | rfl | rfl | rfl
    · intro Γ pc L M' hd hq hG hS hM1 hM0 H locs ls2 hP2 hSv hl2
      exact W.vret hx hb hr (hDone H locs 0 M' rfl hq hM1 hM0 hP2 hSv) hSv.2.2 hd
    · intro Γ pc L v M' hd hq hG hS hM1 hM0 H locs ls2 hP2 hSv hl2
      exact W.iret (v := Int32.ofInt v) hx hb hr (hDone H locs v M' (xwS_hd hS) hq hM1 hM0 hP2 hSv) hSv.2.2 hd
    · intro Γ pc L v M' hd hq hG hS hM1 hM0 H locs ls2 hP2 hSv hl2
      exact W.lret (v := Int64.ofInt v) hx hb hr (hDone H locs v M' (xwS_hd hS) hq hM1 hM0 hP2 hSv) hSv.2.2 hd
    · intro Γ pc L v M' hd hv hq hG hS hM1 hM0 H locs ls2 hP2 hSv hl2
      refine W.zret (v := Int32.ofInt v) (ty := .boolean) hx hb hr ?_ (hDone H locs v M' (xwS_hd hS) hq hM1 hM0 hP2 hSv) hSv.2.2 hd
      rcases hv with rfl | rfl <;> rfl
  exact body (p, l, e, _, s, m, (xsv ω a).toArray, below, meth, c, MQ below (XQ ω ret M Q) (xsv ω a).toArray s 0 0 (xA ω), ω, M, n, 0, 0, Q) ⟨hx, hb, hml, hown2, fun w hw => hts w (List.mem_cons_of_mem _ hw), hK, hE, Nat.le_refl _, Nat.le_refl _, Nat.le_refl _, Nat.le_refl _, hR, rfl⟩ (fun _ _ h => h) (hΓ ha) (fun q hq => by cases hq) hM (fun _ _ => rfl) s.heap [] ls hP va_S.rf hl
