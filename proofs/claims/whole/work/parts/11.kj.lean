/-! ===== constructors: the world as a list that grows; addresses from the heap's size on ===== -/
def xAO (U : State) : Prop := (Cond.arrayOver (.array .long)).before #[] U = true
theorem xAO_moved {u U : State} (hvm : u.vm.Alike U.vm) (h : xAO u) : xAO U := arrayOver_alikeB hvm h
abbrev XZ : Type := Program × Launch × Env × Room × State × MethodId × Array Value × List Frame × Method × Code × (State → Prop) × va_G × (Nat → Prop) × (ClassId × ClassId × ClassId) × Nat
def ktys (c : ClassId × ClassId × ClassId) : List (ClassId × FieldType) := [(c.1, .int), (c.2.1, .long), (c.2.2, .array .long)]
def KJ (ζ : XZ) (ws : va_W) (lv : List (Nat × Value)) (pc : Nat) (sv : List Value) (nc ns sz : Nat) : Prop := match ζ with
  | (p, l, e, R, s, m, args, below, meth, c, Qf, D, A, _, nL) => ∀ (H : Heap) (locs : List Loc) (ls : Array Slot), H.size = sz → va_P D vwCl ws H → va_D A ws → va_S A s.heap H locs → lv_has ls nL lv → W p l e R s m args below meth c H locs nc ns Qf (F0 m pc ls sv)
def KF (ζ : XZ) (own : String) (cc : ByteArray) (nn : Nat) (rm : Nat × Nat) (rc : Nat × Nat) (ini : Bool) (k : ClassId × ClassId × ClassId) (D : va_G) : Prop := match ζ with
  | (p, l, e, R, s, m, args, below, meth, c, Qf, D2, A, k2, nL) => p.tables.exec = Jvm.exec ∧ c.code = cc ∧ c.maxLocals = nL ∧ nL = nn ∧ s.vm.findClass own = some m.cls ∧ (∀ w ∈ xT, w.before args s = true) ∧ D2 = D ∧ k2 = k ∧ va_K D vwCl (ktys k) s ∧ xAO s ∧ (∀ q, s.heap.size ≤ q → A q) ∧ rm.1 ≤ R.frames ∧ rm.2 ≤ R.locals ∧ rc.1 ≤ R.cells ∧ rc.2 ≤ R.slots ∧ (ini = true → meth.name = "<init>")
theorem KJ.alo {ζ : XZ} {own : String} {cc : ByteArray} {nn : Nat} {rm rc : Nat × Nat} {ini : Bool} {kc : ClassId × ClassId × ClassId} {D : va_G} (h : KF ζ own cc nn rm rc ini kc D) {ws : va_W} {lv : List (Nat × Value)} {pc : Nat} {sv : List Value} {nc ns sz : Nat} {j : Fin 4} {i x q : Nat} (d : decode cc pc = .ok (.aload_n j, 1)) (hi : (j : Nat) = i) (hl : lv[q]? = some (i, .ref x)) (k : KJ ζ ws lv (pc + 1) (.ref x :: sv) nc ns sz) : KJ ζ ws lv pc sv nc ns sz := by
  obtain ⟨p, l, e, R, s, m, args, below, meth, c, Qf, D2, A, k2, nL⟩ := ζ
  obtain ⟨hx, hb, hml, hnn, hown, hts, rfl, rfl, hK, hO, hA, hr1, hr2, hr3, hr4, hini⟩ := h
  intro H locs ls hz hP hD hS hlv
  exact lv_aload_n hx hb d hi (lv_at hlv q hl) (k H locs ls hz hP hD hS hlv)
theorem KJ.ilo {ζ : XZ} {own : String} {cc : ByteArray} {nn : Nat} {rm rc : Nat × Nat} {ini : Bool} {kc : ClassId × ClassId × ClassId} {D : va_G} (h : KF ζ own cc nn rm rc ini kc D) {ws : va_W} {lv : List (Nat × Value)} {pc : Nat} {sv : List Value} {nc ns sz : Nat} {j : Fin 4} {i q : Nat} {x : Int32} (d : decode cc pc = .ok (.iload_n j, 1)) (hi : (j : Nat) = i) (hl : lv[q]? = some (i, .int x)) (k : KJ ζ ws lv (pc + 1) (.int x :: sv) nc ns sz) : KJ ζ ws lv pc sv nc ns sz := by
  obtain ⟨p, l, e, R, s, m, args, below, meth, c, Qf, D2, A, k2, nL⟩ := ζ
  obtain ⟨hx, hb, hml, hnn, hown, hts, rfl, rfl, hK, hO, hA, hr1, hr2, hr3, hr4, hini⟩ := h
  intro H locs ls hz hP hD hS hlv
  exact lv_iload_n hx hb d hi (lv_at hlv q hl) (k H locs ls hz hP hD hS hlv)
theorem KJ.ilo4 {ζ : XZ} {own : String} {cc : ByteArray} {nn : Nat} {rm rc : Nat × Nat} {ini : Bool} {kc : ClassId × ClassId × ClassId} {D : va_G} (h : KF ζ own cc nn rm rc ini kc D) {ws : va_W} {lv : List (Nat × Value)} {pc : Nat} {sv : List Value} {nc ns sz : Nat} {i q : Nat} {x : Int32} (d : decode cc pc = .ok (.iload i, 2)) (hl : lv[q]? = some (i, .int x)) (k : KJ ζ ws lv (pc + 2) (.int x :: sv) nc ns sz) : KJ ζ ws lv pc sv nc ns sz := by
  obtain ⟨p, l, e, R, s, m, args, below, meth, c, Qf, D2, A, k2, nL⟩ := ζ
  obtain ⟨hx, hb, hml, hnn, hown, hts, rfl, rfl, hK, hO, hA, hr1, hr2, hr3, hr4, hini⟩ := h
  intro H locs ls hz hP hD hS hlv
  exact lv_iload hx hb d (lv_at hlv q hl) (k H locs ls hz hP hD hS hlv)
theorem KJ.ic {ζ : XZ} {own : String} {cc : ByteArray} {nn : Nat} {rm rc : Nat × Nat} {ini : Bool} {kc : ClassId × ClassId × ClassId} {D : va_G} (h : KF ζ own cc nn rm rc ini kc D) {ws : va_W} {lv : List (Nat × Value)} {pc : Nat} {sv : List Value} {nc ns sz : Nat} {n : Int} {v : Int32} (d : decode cc pc = .ok (.iconst n, 1)) (hv : Int32.ofInt n = v) (k : KJ ζ ws lv (pc + 1) (.int v :: sv) nc ns sz) : KJ ζ ws lv pc sv nc ns sz := by
  obtain ⟨p, l, e, R, s, m, args, below, meth, c, Qf, D2, A, k2, nL⟩ := ζ
  obtain ⟨hx, hb, -⟩ := h
  intro H locs ls hz hP hD hS hlv
  exact lv_iconst hx hb d hv (k H locs ls hz hP hD hS hlv)
theorem KJ.bi {ζ : XZ} {own : String} {cc : ByteArray} {nn : Nat} {rm rc : Nat × Nat} {ini : Bool} {kc : ClassId × ClassId × ClassId} {D : va_G} (h : KF ζ own cc nn rm rc ini kc D) {ws : va_W} {lv : List (Nat × Value)} {pc : Nat} {sv : List Value} {nc ns sz : Nat} {n : Int} {v : Int32} (d : decode cc pc = .ok (.bipush n, 2)) (hv : (Int8.ofInt n).toInt32 = v) (k : KJ ζ ws lv (pc + 2) (.int v :: sv) nc ns sz) : KJ ζ ws lv pc sv nc ns sz := by
  obtain ⟨p, l, e, R, s, m, args, below, meth, c, Qf, D2, A, k2, nL⟩ := ζ
  obtain ⟨hx, hb, -⟩ := h
  intro H locs ls hz hP hD hS hlv
  exact lv_bipush hx hb d hv (k H locs ls hz hP hD hS hlv)
theorem KJ.si {ζ : XZ} {own : String} {cc : ByteArray} {nn : Nat} {rm rc : Nat × Nat} {ini : Bool} {kc : ClassId × ClassId × ClassId} {D : va_G} (h : KF ζ own cc nn rm rc ini kc D) {ws : va_W} {lv : List (Nat × Value)} {pc : Nat} {sv : List Value} {nc ns sz : Nat} {n : Int} {v : Int32} (d : decode cc pc = .ok (.sipush n, 3)) (hv : (Int16.ofInt n).toInt32 = v) (k : KJ ζ ws lv (pc + 3) (.int v :: sv) nc ns sz) : KJ ζ ws lv pc sv nc ns sz := by
  obtain ⟨p, l, e, R, s, m, args, below, meth, c, Qf, D2, A, k2, nL⟩ := ζ
  obtain ⟨hx, hb, -⟩ := h
  intro H locs ls hz hP hD hS hlv
  exact lv_sipush hx hb d hv (k H locs ls hz hP hD hS hlv)
theorem KJ.lc {ζ : XZ} {own : String} {cc : ByteArray} {nn : Nat} {rm rc : Nat × Nat} {ini : Bool} {kc : ClassId × ClassId × ClassId} {D : va_G} (h : KF ζ own cc nn rm rc ini kc D) {ws : va_W} {lv : List (Nat × Value)} {pc : Nat} {sv : List Value} {nc ns sz : Nat} {n : Fin 2} {v : Int64} (d : decode cc pc = .ok (.lconst n, 1)) (hv : Int64.ofNat (n : Nat) = v) (k : KJ ζ ws lv (pc + 1) (.long v :: sv) nc ns sz) : KJ ζ ws lv pc sv nc ns sz := by
  obtain ⟨p, l, e, R, s, m, args, below, meth, c, Qf, D2, A, k2, nL⟩ := ζ
  obtain ⟨hx, hb, -⟩ := h
  intro H locs ls hz hP hD hS hlv
  exact lv_lconst hx hb d hv (k H locs ls hz hP hD hS hlv)
theorem KJ.isub {ζ : XZ} {own : String} {cc : ByteArray} {nn : Nat} {rm rc : Nat × Nat} {ini : Bool} {kc : ClassId × ClassId × ClassId} {D : va_G} (h : KF ζ own cc nn rm rc ini kc D) {ws : va_W} {lv : List (Nat × Value)} {pc : Nat} {sv : List Value} {nc ns sz : Nat} {x y : Int32} (d : decode cc pc = .ok (.isub, 1)) (k : KJ ζ ws lv (pc + 1) (.int (x - y) :: sv) nc ns sz) : KJ ζ ws lv pc (.int y :: .int x :: sv) nc ns sz := by
  obtain ⟨p, l, e, R, s, m, args, below, meth, c, Qf, D2, A, k2, nL⟩ := ζ
  obtain ⟨hx, hb, -⟩ := h
  intro H locs ls hz hP hD hS hlv
  exact lv_isub hx hb d (k H locs ls hz hP hD hS hlv)
theorem KJ.ladd {ζ : XZ} {own : String} {cc : ByteArray} {nn : Nat} {rm rc : Nat × Nat} {ini : Bool} {kc : ClassId × ClassId × ClassId} {D : va_G} (h : KF ζ own cc nn rm rc ini kc D) {ws : va_W} {lv : List (Nat × Value)} {pc : Nat} {sv : List Value} {nc ns sz : Nat} {x y : Int64} (d : decode cc pc = .ok (.ladd, 1)) (k : KJ ζ ws lv (pc + 1) (.long (x + y) :: sv) nc ns sz) : KJ ζ ws lv pc (.long y :: .long x :: sv) nc ns sz := by
  obtain ⟨p, l, e, R, s, m, args, below, meth, c, Qf, D2, A, k2, nL⟩ := ζ
  obtain ⟨hx, hb, -⟩ := h
  intro H locs ls hz hP hD hS hlv
  exact lv_ladd hx hb d (k H locs ls hz hP hD hS hlv)
theorem KJ.goto {ζ : XZ} {own : String} {cc : ByteArray} {nn : Nat} {rm rc : Nat × Nat} {ini : Bool} {kc : ClassId × ClassId × ClassId} {D : va_G} (h : KF ζ own cc nn rm rc ini kc D) {ws : va_W} {lv : List (Nat × Value)} {pc tgt : Nat} {off : Int} {sv : List Value} {nc ns sz : Nat} (d : decode cc pc = .ok (.goto off, 3)) (ht : (pc : Int) + off = (tgt : Int)) (k : KJ ζ ws lv tgt sv nc ns sz) : KJ ζ ws lv pc sv nc ns sz := by
  obtain ⟨p, l, e, R, s, m, args, below, meth, c, Qf, D2, A, k2, nL⟩ := ζ
  obtain ⟨hx, hb, -⟩ := h
  intro H locs ls hz hP hD hS hlv
  exact lv_goto hx hb d ht (k H locs ls hz hP hD hS hlv)
theorem KJ.ge {ζ : XZ} {own : String} {cc : ByteArray} {nn : Nat} {rm rc : Nat × Nat} {ini : Bool} {kc : ClassId × ClassId × ClassId} {D : va_G} (h : KF ζ own cc nn rm rc ini kc D) {ws : va_W} {lv : List (Nat × Value)} {pc tgt : Nat} {off : Int} {sv : List Value} {nc ns sz : Nat} {x y : Int32} (d : decode cc pc = .ok (.if_icmp .ge off, 3)) (ht : (pc : Int) + off = (tgt : Int)) (kt : y ≤ x → KJ ζ ws lv tgt sv nc ns sz) (kf : ¬ y ≤ x → KJ ζ ws lv (pc + 3) sv nc ns sz) : KJ ζ ws lv pc (.int y :: .int x :: sv) nc ns sz := by
  obtain ⟨p, l, e, R, s, m, args, below, meth, c, Qf, D2, A, k2, nL⟩ := ζ
  obtain ⟨hx, hb, -⟩ := h
  intro H locs ls hz hP hD hS hlv
  exact lv_icmp_ge hx hb d ht (fun q => kt q H locs ls hz hP hD hS hlv) (fun q => kf q H locs ls hz hP hD hS hlv)
theorem KJ.gt {ζ : XZ} {own : String} {cc : ByteArray} {nn : Nat} {rm rc : Nat × Nat} {ini : Bool} {kc : ClassId × ClassId × ClassId} {D : va_G} (h : KF ζ own cc nn rm rc ini kc D) {ws : va_W} {lv : List (Nat × Value)} {pc tgt : Nat} {off : Int} {sv : List Value} {nc ns sz : Nat} {x y : Int32} (d : decode cc pc = .ok (.if_icmp .gt off, 3)) (ht : (pc : Int) + off = (tgt : Int)) (kt : y < x → KJ ζ ws lv tgt sv nc ns sz) (kf : ¬ y < x → KJ ζ ws lv (pc + 3) sv nc ns sz) : KJ ζ ws lv pc (.int y :: .int x :: sv) nc ns sz := by
  obtain ⟨p, l, e, R, s, m, args, below, meth, c, Qf, D2, A, k2, nL⟩ := ζ
  obtain ⟨hx, hb, -⟩ := h
  intro H locs ls hz hP hD hS hlv
  exact lv_icmp_gt hx hb d ht (fun q => kt q H locs ls hz hP hD hS hlv) (fun q => kf q H locs ls hz hP hD hS hlv)
theorem KJ.ist {ζ : XZ} {own : String} {cc : ByteArray} {nn : Nat} {rm rc : Nat × Nat} {ini : Bool} {kc : ClassId × ClassId × ClassId} {D : va_G} (h : KF ζ own cc nn rm rc ini kc D) {ws : va_W} {lv lv2 : List (Nat × Value)} {pc : Nat} {sv : List Value} {nc ns sz : Nat} {j : Fin 4} {i : Nat} {x : Int32} (d : decode cc pc = .ok (.istore_n j, 1)) (hi : (j : Nat) = i) (hn : Nat.blt i nn = true) (hl : (i, Value.int x) :: lv.filter (fun q => !(q.1 == i) && !(q.1 + 1 == i && q.2.category == 2)) = lv2) (k : KJ ζ ws lv2 (pc + 1) sv nc ns sz) : KJ ζ ws lv pc (.int x :: sv) nc ns sz := by
  obtain ⟨p, l, e, R, s, m, args, below, meth, c, Qf, D2, A, k2, nL⟩ := ζ
  obtain ⟨hx, hb, hml, hnn, hown, hts, rfl, rfl, hK, hO, hA, hr1, hr2, hr3, hr4, hini⟩ := h
  intro H locs ls hz hP hD hS hlv
  exact lv_istore_n hx hb d hi hlv (by rw [hnn]; simpa using hn) hl (fun ls2 hl2 => k H locs ls2 hz hP hD hS hl2)
theorem KJ.ist4 {ζ : XZ} {own : String} {cc : ByteArray} {nn : Nat} {rm rc : Nat × Nat} {ini : Bool} {kc : ClassId × ClassId × ClassId} {D : va_G} (h : KF ζ own cc nn rm rc ini kc D) {ws : va_W} {lv lv2 : List (Nat × Value)} {pc : Nat} {sv : List Value} {nc ns sz : Nat} {i : Nat} {x : Int32} (d : decode cc pc = .ok (.istore i, 2)) (hn : Nat.blt i nn = true) (hl : (i, Value.int x) :: lv.filter (fun q => !(q.1 == i) && !(q.1 + 1 == i && q.2.category == 2)) = lv2) (k : KJ ζ ws lv2 (pc + 2) sv nc ns sz) : KJ ζ ws lv pc (.int x :: sv) nc ns sz := by
  obtain ⟨p, l, e, R, s, m, args, below, meth, c, Qf, D2, A, k2, nL⟩ := ζ
  obtain ⟨hx, hb, hml, hnn, hown, hts, rfl, rfl, hK, hO, hA, hr1, hr2, hr3, hr4, hini⟩ := h
  intro H locs ls hz hP hD hS hlv
  exact lv_istore hx hb d hlv (by rw [hnn]; simpa using hn) hl (fun ls2 hl2 => k H locs ls2 hz hP hD hS hl2)
theorem KJ.inc {ζ : XZ} {own : String} {cc : ByteArray} {nn : Nat} {rm rc : Nat × Nat} {ini : Bool} {kc : ClassId × ClassId × ClassId} {D : va_G} (h : KF ζ own cc nn rm rc ini kc D) {ws : va_W} {lv lv2 : List (Nat × Value)} {pc : Nat} {sv : List Value} {nc ns sz : Nat} {i q : Nat} {n : Int} {x v : Int32} (d : decode cc pc = .ok (.iinc i n, 3)) (hq : lv[q]? = some (i, .int x)) (hv : x + Int32.ofInt n = v) (hn : Nat.blt i nn = true) (hl : (i, Value.int v) :: lv.filter (fun q => !(q.1 == i) && !(q.1 + 1 == i && q.2.category == 2)) = lv2) (k : KJ ζ ws lv2 (pc + 3) sv nc ns sz) : KJ ζ ws lv pc sv nc ns sz := by
  obtain ⟨p, l, e, R, s, m, args, below, meth, c, Qf, D2, A, k2, nL⟩ := ζ
  obtain ⟨hx, hb, hml, hnn, hown, hts, rfl, rfl, hK, hO, hA, hr1, hr2, hr3, hr4, hini⟩ := h
  intro H locs ls hz hP hD hS hlv
  exact lv_iinc hx hb d hlv hq hv (by rw [hnn]; simpa using hn) hl (fun ls2 hl2 => k H locs ls2 hz hP hD hS hl2)
theorem KJ.sub {ζ : XZ} {ws : va_W} {lv lv2 : List (Nat × Value)} {pc : Nat} {sv : List Value} {nc ns sz : Nat} (is : List Nat) (hl : lv_pick lv is = lv2) (k : KJ ζ ws lv2 pc sv nc ns sz) : KJ ζ ws lv pc sv nc ns sz := by
  obtain ⟨p, l, e, R, s, m, args, below, meth, c, Qf, D2, A, k2, nL⟩ := ζ
  intro H locs ls hz hP hD hS hlv
  exact k H locs ls hz hP hD hS (lv_sub hlv is hl)
/-- the same world, written otherwise -/
theorem KJ.eqw {ζ : XZ} {ws ws2 : va_W} {lv : List (Nat × Value)} {pc : Nat} {sv : List Value} {nc ns sz : Nat} (hw : ws = ws2) (k : KJ ζ ws2 lv pc sv nc ns sz) : KJ ζ ws lv pc sv nc ns sz := hw ▸ k
theorem KJ.oi {ζ : XZ} {own : String} {cc : ByteArray} {nn : Nat} {rm rc : Nat × Nat} {ini : Bool} {kc : ClassId × ClassId × ClassId} {D : va_G} (h : KF ζ own cc nn rm rc ini kc D) {ws : va_W} {lv : List (Nat × Value)} {pc x ix : Nat} {nc ns sz : Nat} (d : decode cc pc = .ok (.invokespecial ix, 3)) (h1 : Cond.methodLink own ix Lib.objectInit ∈ xT) (h2 : Cond.instanceMethod Lib.objectInit ∈ xT) (h3 : Cond.code Lib.objectInit ⟨#[0xb1]⟩ 1 none ∈ xT) (hf : 1 ≤ rm.1) (hl : 12 ≤ rm.2) (k : KJ ζ ws lv (pc + 3) [] nc ns sz) : KJ ζ ws lv pc [.ref x] nc ns sz := by
  obtain ⟨p, l, e, R, s, m, args, below, meth, c, Qf, D2, A, k2, nL⟩ := ζ
  obtain ⟨hx, hb, hml, hnn, hown, hts, rfl, rfl, hK, hO, hA, hr1, hr2, hr3, hr4, hini⟩ := h
  intro H locs ls hz hP hD hS hlv
  refine W.objInit hx hb hown (hts _ h1) (hts _ h2) (hts _ h3) rfl (by rw [hml]; exact hlv.1) rfl d (by omega) (by show 2 * 0 + 0 + 12 ≤ _; omega) ?_
  exact W.eq (g2 := F0 m (pc + 3) ls []) rfl (k H locs ls hz hP hD hS hlv)
theorem kfc {a b : Option ClassId} {x y : ClassId} (h1 : a = some x) (h2 : b = some y) (e : a = b) : x = y := by rw [h1, h2] at e; exact Option.some.inj e
theorem KJ.naI {ζ : XZ} {own : String} {cc : ByteArray} {nn : Nat} {rm rc : Nat × Nat} {ini : Bool} {kc : ClassId × ClassId × ClassId} {D : va_G} (h : KF ζ own cc nn rm rc ini kc D) {ws : va_W} {lv : List (Nat × Value)} {pc : Nat} {sv : List Value} {nc ns sz : Nat} {n : Int32} {N : Nat} (d : decode cc pc = .ok (.newarray .int, 2)) (hw : Cond.arrayClass .int ∈ xT) (hn : ¬ n < 0) (hN : n.toNatClampNeg = N) (hb2 : N * 4 ≤ 536870912) (hc : nc + 1 ≤ rc.1) (hs : ns + N ≤ rc.2) (k : KJ ζ (ws ++ [(sz, .inl (kc.1, N, .inl (fun _ => 0)))]) lv (pc + 2) (.ref sz :: sv) (nc + 1) (ns + N) (sz + 1)) : KJ ζ ws lv pc (.int n :: sv) nc ns sz := by
  obtain ⟨p, l, e, R, s, m, args, below, meth, c, Qf, D2, A, k2, nL⟩ := ζ
  obtain ⟨hx, hb, hml, hnn, hown, hts, rfl, rfl, hK, hO, hA, hr1, hr2, hr3, hr4, hini⟩ := h
  intro H locs ls hz hP hD hS hlv
  subst hz
  refine va_newaK (atype := .int) hx hb (hts _ hw) rfl d rfl hn hN hb2 (Nat.le_trans hc hr3) (Nat.le_trans hs hr4) rfl (fun H1 cA e1 z1 o1 hAr hNm => ?_)
  have hcA : cA = k2.1 := kfc hNm (hK.2 0 _ rfl).2 rfl
  subst hcA
  have hk : ∀ (i : Nat) (x : Nat × va_E), ws[i]? = some x → H1[x.1]? = H[x.1]? := fun i x hx2 => o1 x.1 ((hP i x hx2).lt)
  refine k H1 locs ls z1 ((hP.kept hk).app (fun i x hx2 => ?_)) (hD.push hP rfl (hA _ hS.1)) ⟨Nat.le_trans hS.1 (by omega), fun x g1 g2 => (o1 x (Nat.lt_of_lt_of_le g1 hS.1)).trans (hS.2.1 x g1 g2), hS.2.2⟩ hlv
  have hz : i < 1 := (List.getElem?_eq_some_iff.mp hx2).1
  rw [show i = 0 by omega] at hx2
  cases hx2
  exact e1
theorem KJ.naJ {ζ : XZ} {own : String} {cc : ByteArray} {nn : Nat} {rm rc : Nat × Nat} {ini : Bool} {kc : ClassId × ClassId × ClassId} {D : va_G} (h : KF ζ own cc nn rm rc ini kc D) {ws : va_W} {lv : List (Nat × Value)} {pc : Nat} {sv : List Value} {nc ns sz : Nat} {n : Int32} {N : Nat} (d : decode cc pc = .ok (.newarray .long, 2)) (hw : Cond.arrayClass .long ∈ xT) (hn : ¬ n < 0) (hN : n.toNatClampNeg = N) (hb2 : N * 8 ≤ 536870912) (hc : nc + 1 ≤ rc.1) (hs : ns + N ≤ rc.2) (k : KJ ζ (ws ++ [(sz, .inl (kc.2.1, N, .inr (.inl (fun _ => 0))))]) lv (pc + 2) (.ref sz :: sv) (nc + 1) (ns + N) (sz + 1)) : KJ ζ ws lv pc (.int n :: sv) nc ns sz := by
  obtain ⟨p, l, e, R, s, m, args, below, meth, c, Qf, D2, A, k2, nL⟩ := ζ
  obtain ⟨hx, hb, hml, hnn, hown, hts, rfl, rfl, hK, hO, hA, hr1, hr2, hr3, hr4, hini⟩ := h
  intro H locs ls hz hP hD hS hlv
  subst hz
  refine va_newaK (atype := .long) hx hb (hts _ hw) rfl d rfl hn hN hb2 (Nat.le_trans hc hr3) (Nat.le_trans hs hr4) rfl (fun H1 cA e1 z1 o1 hAr hNm => ?_)
  have hcA : cA = k2.2.1 := kfc hNm (hK.2 1 _ rfl).2 rfl
  subst hcA
  have hk : ∀ (i : Nat) (x : Nat × va_E), ws[i]? = some x → H1[x.1]? = H[x.1]? := fun i x hx2 => o1 x.1 ((hP i x hx2).lt)
  refine k H1 locs ls z1 ((hP.kept hk).app (fun i x hx2 => ?_)) (hD.push hP rfl (hA _ hS.1)) ⟨Nat.le_trans hS.1 (by omega), fun x g1 g2 => (o1 x (Nat.lt_of_lt_of_le g1 hS.1)).trans (hS.2.1 x g1 g2), hS.2.2⟩ hlv
  have hz : i < 1 := (List.getElem?_eq_some_iff.mp hx2).1
  rw [show i = 0 by omega] at hx2
  cases hx2
  exact e1
theorem KJ.pF {ζ : XZ} {own : String} {cc : ByteArray} {nn : Nat} {rm rc : Nat × Nat} {ini : Bool} {kc : ClassId × ClassId × ClassId} {D : va_G} (h : KF ζ own cc nn rm rc ini kc D) {ws : va_W} {lv : List (Nat × Value)} {pc : Nat} {sv : List Value} {nc ns sz : Nat} {h0 q ci j N ix : Nat} {C ref : String} {T : u_T} {fs : List Value} {ty0 : Nat → FieldType} {v : Value} (d : decode cc pc = .ok (.putfield ix, 3)) (he : ws[q]? = some (h0, .inr (ci, fs))) (hc : vwCl[ci]? = some (C, T, N)) (hj : j < N) (hlink : Cond.fieldLink own ix ref (T j).2.1 (T j).2.2.1 ∈ xT) (hsame : (T j).1 = ref) (hini0 : ini = true) (hfin : (T j).2.2.2 = true) (hdecl : (T j).1 = own) (hty : ∀ k, k < N → parseFieldDescriptor (T k).2.2.1 = some (ty0 k)) (hr : narrow (ty0 j) v = v ∧ fits (ty0 j) v = true) (hnm : ∀ a, a < N → ∀ b, b < N → a ≠ b → (T a).2.1 ≠ (T b).2.1) (hin : ∀ w ∈ u_ws C T N, w ∈ xT) (hlen : j < fs.length) (k : KJ ζ (ws.set q (h0, .inr (ci, fs.set j v))) lv (pc + 3) sv nc ns sz) : KJ ζ ws lv pc (v :: .ref h0 :: sv) nc ns sz := by
  obtain ⟨p, l, e, R, s, m, args, below, meth, c, Qf, D2, A, k2, nL⟩ := ζ
  obtain ⟨hx, hb, hml, hnn, hown, hts, rfl, rfl, hK, hO, hA, hr1, hr2, hr3, hr4, hini⟩ := h
  intro H locs ls hz hP hD hS hlv
  have hap := va_apart (own := own) hts hin ty0 hty hnm hK hc
  obtain ⟨r, h1, cell, q1, q2, q3, q4⟩ := hP q _ he
  have hr0 : r = (C, T, N) := Option.some.inj (h1.symm.trans hc)
  subst hr0
  obtain ⟨hSl, hfc, kC, hkC, hkind⟩ := hK.1 ci _ hc
  obtain ⟨cf, kf, fi, f, hi, hsl⟩ := hSl j hj
  have hlay := hts _ (hin _ (u_in_lay hj))
  unfold u_lay at hlay
  rw [if_pos hfin] at hlay
  have hst := (u_facts hfc hkC (u_lays hts hin hj) hi).1
  have hcf : m.cls = cf := by
    obtain ⟨_, _, c', _, _, _, -, -, hf', -, -, -, hown2, -⟩ := Cond.laysFinal_spec hlay
    have e1 : c' = cf := by have := hi.symm.trans hf'; simp at this; exact this.1.symm
    rw [hdecl] at hown2
    rw [← e1]; exact Option.some.inj (hown.symm.trans hown2)
  have h6 := u_fits hfc hkC hkind (Or.inr hlay) hi (hty j hj) hr.1 hr.2
  refine W.putFinK hx hb hown (hts _ hlink) (by rw [← hsame]; exact hi) hst hcf (hini hini0) (by rw [q2]; exact h6) q1 q3 (by rw [hsl]; exact k2_hasslot (q4 j hj)) rfl rfl d fun H' e1 e2 e3 => ?_
  rw [hsl] at e1
  exact k H' _ ls (e2.trans hz) (hP.set hD he ⟨_, hc, t_OB.to (V := updV (vp_V fs) j v) ⟨_, e1, q2, q3, t_set q4 hap hj v⟩ (fun i _ => vp_updV_set hlen v i)⟩ e3) (hD.set he) (hS.put e2 e3 (hD.2 q _ he)) hlv
theorem KJ.pI {ζ : XZ} {own : String} {cc : ByteArray} {nn : Nat} {rm rc : Nat × Nat} {ini : Bool} {kc : ClassId × ClassId × ClassId} {D : va_G} (h : KF ζ own cc nn rm rc ini kc D) {ws : va_W} {lv : List (Nat × Value)} {pc : Nat} {sv : List Value} {nc ns sz : Nat} {h0 q ci j N ix : Nat} {C ref : String} {T : u_T} {fs : List Value} {ty0 : Nat → FieldType} {v : Value} (d : decode cc pc = .ok (.putfield ix, 3)) (he : ws[q]? = some (h0, .inr (ci, fs))) (hc : vwCl[ci]? = some (C, T, N)) (hj : j < N) (hlink : Cond.fieldLink own ix ref (T j).2.1 (T j).2.2.1 ∈ xT) (hsame : (T j).1 = ref) (hfin : (T j).2.2.2 = false) (hty : ∀ k, k < N → parseFieldDescriptor (T k).2.2.1 = some (ty0 k)) (hr : narrow (ty0 j) v = v ∧ fits (ty0 j) v = true) (hnm : ∀ a, a < N → ∀ b, b < N → a ≠ b → (T a).2.1 ≠ (T b).2.1) (hin : ∀ w ∈ u_ws C T N, w ∈ xT) (hlen : j < fs.length) (k : KJ ζ (ws.set q (h0, .inr (ci, fs.set j v))) lv (pc + 3) sv nc ns sz) : KJ ζ ws lv pc (v :: .ref h0 :: sv) nc ns sz := by
  obtain ⟨p, l, e, R, s, m, args, below, meth, c, Qf, D2, A, k2, nL⟩ := ζ
  obtain ⟨hx, hb, hml, hnn, hown, hts, rfl, rfl, hK, hO, hA, hr1, hr2, hr3, hr4, hini⟩ := h
  intro H locs ls hz hP hD hS hlv
  have hap := va_apart (own := own) hts hin ty0 hty hnm hK hc
  obtain ⟨r, h1, cell, q1, q2, q3, q4⟩ := hP q _ he
  have hr0 : r = (C, T, N) := Option.some.inj (h1.symm.trans hc)
  subst hr0
  obtain ⟨hSl, hfc, kC, hkC, hkind⟩ := hK.1 ci _ hc
  obtain ⟨cf, kf, fi, f, hi, hsl⟩ := hSl j hj
  have hlay := hts _ (hin _ (u_in_lay hj))
  unfold u_lay at hlay
  rw [if_neg (by rw [hfin]; decide)] at hlay
  have hst := (u_facts hfc hkC (u_lays hts hin hj) hi).1
  have h6 := u_store hfc hkC hkind hlay hi (hty j hj) hr.1 hr.2
  refine W.putK hx hb (f := f) ⟨hown, hts _ hlink, ⟨_, _, _, by rw [← hsame]; exact hi⟩, hst⟩ (by rw [q2]; exact h6) q1 q3 (by rw [hsl]; exact k2_hasslot (q4 j hj)) rfl rfl d fun H' e1 e2 e3 => ?_
  rw [hsl] at e1
  exact k H' _ ls (e2.trans hz) (hP.set hD he ⟨_, hc, t_OB.to (V := updV (vp_V fs) j v) ⟨_, e1, q2, q3, t_set q4 hap hj v⟩ (fun i _ => vp_updV_set hlen v i)⟩ e3) (hD.set he) (hS.put e2 e3 (hD.2 q _ he)) hlv
theorem KJ.gf {ζ : XZ} {own : String} {cc : ByteArray} {nn : Nat} {rm rc : Nat × Nat} {ini : Bool} {kc : ClassId × ClassId × ClassId} {D : va_G} (h : KF ζ own cc nn rm rc ini kc D) {ws : va_W} {lv : List (Nat × Value)} {pc : Nat} {sv : List Value} {nc ns sz : Nat} {h0 q ci j N ix : Nat} {C ref : String} {T : u_T} {fs : List Value} {v : Value} (d : decode cc pc = .ok (.getfield ix, 3)) (he : ws[q]? = some (h0, .inr (ci, fs))) (hc : vwCl[ci]? = some (C, T, N)) (hj : j < N) (hlink : Cond.fieldLink own ix ref (T j).2.1 (T j).2.2.1 ∈ xT) (hsame : (T j).1 = ref) (hin : ∀ w ∈ u_ws C T N, w ∈ xT) (hv : fs[j]? = some v) (k : KJ ζ ws lv (pc + 3) (v :: sv) nc ns sz) : KJ ζ ws lv pc (.ref h0 :: sv) nc ns sz := by
  obtain ⟨p, l, e, R, s, m, args, below, meth, c, Qf, D2, A, k2, nL⟩ := ζ
  obtain ⟨hx, hb, hml, hnn, hown, hts, rfl, rfl, hK, hO, hA, hr1, hr2, hr3, hr4, hini⟩ := h
  intro H locs ls hz hP hD hS hlv
  exact va_get (Ts := xT) hx hb hts hin hown hK hP q he hc j hj (hts _ hlink) (fun z hz2 => by rw [hsame] at hz2; exact hz2) hv d (k H locs ls hz hP hD hS hlv)
theorem KJ.ias {ζ : XZ} {own : String} {cc : ByteArray} {nn : Nat} {rm rc : Nat × Nat} {ini : Bool} {kc : ClassId × ClassId × ClassId} {D : va_G} (h : KF ζ own cc nn rm rc ini kc D) {ws : va_W} {lv : List (Nat × Value)} {pc : Nat} {sv : List Value} {nc ns sz : Nat} {a q n : Nat} {f : Nat → Int32} {i x : Int32} (d : decode cc pc = .ok (.iastore, 1)) (ha : ws[q]? = some (a, .inl (kc.1, n, .inl f))) (hin : vp_in i n) (k : KJ ζ (ws.set q (a, .inl (kc.1, n, .inl (upd f i.toNatClampNeg x)))) lv (pc + 1) sv nc ns sz) : KJ ζ ws lv pc (.int x :: .int i :: .ref a :: sv) nc ns sz := by
  obtain ⟨p, l, e, R, s, m, args, below, meth, c, Qf, D2, A, k2, nL⟩ := ζ
  obtain ⟨hx, hb, hml, hnn, hown, hts, rfl, rfl, hK, hO, hA, hr1, hr2, hr3, hr4, hini⟩ := h
  intro H locs ls hz hP hD hS hlv
  refine W.iast hx hb (hP q _ ha) ((hK.2 0 _ rfl).1 n (fun j => .int (f j))) (fun q => by cases q) (by show ¬ (i < 0 ∨ (arrV _ _ _).slots.size ≤ _); rw [arrV_size]; exact hin) rfl rfl d fun H1 e z oq => ?_
  refine k H1 _ ls (z.trans hz) (hP.set hD ha ?_ oq) (hD.set ha) (hS.put z oq (hD.2 q _ ha)) hlv
  show H1[a]? = some (vp_cell _ _)
  rw [e]
  rw [vp_cell_i, vp_cell_i, arrV_store]
  congr 2
  funext y
  by_cases hy : y = i.toNatClampNeg
  · subst hy
    simp [updV, upd]
  · simp [updV, upd, hy]
theorem KJ.las {ζ : XZ} {own : String} {cc : ByteArray} {nn : Nat} {rm rc : Nat × Nat} {ini : Bool} {kc : ClassId × ClassId × ClassId} {D : va_G} (h : KF ζ own cc nn rm rc ini kc D) {ws : va_W} {lv : List (Nat × Value)} {pc : Nat} {sv : List Value} {nc ns sz : Nat} {a q n : Nat} {f : Nat → Int64} {i : Int32} {x : Int64} (d : decode cc pc = .ok (.lastore, 1)) (ha : ws[q]? = some (a, .inl (kc.2.1, n, .inr (.inl f)))) (hin : vp_in i n) (k : KJ ζ (ws.set q (a, .inl (kc.2.1, n, .inr (.inl (vp_updL f i.toNatClampNeg x))))) lv (pc + 1) sv nc ns sz) : KJ ζ ws lv pc (.long x :: .int i :: .ref a :: sv) nc ns sz := by
  obtain ⟨p, l, e, R, s, m, args, below, meth, c, Qf, D2, A, k2, nL⟩ := ζ
  obtain ⟨hx, hb, hml, hnn, hown, hts, rfl, rfl, hK, hO, hA, hr1, hr2, hr3, hr4, hini⟩ := h
  intro H locs ls hz hP hD hS hlv
  refine W.last hx hb (hP q _ ha) ((hK.2 1 _ rfl).1 n (fun j => .long (f j))) (fun q => by cases q) (by show ¬ (i < 0 ∨ (arrV _ _ _).slots.size ≤ _); rw [arrV_size]; exact hin) rfl rfl d fun H1 e z oq => ?_
  refine k H1 _ ls (z.trans hz) (hP.set hD ha ?_ oq) (hD.set ha) (hS.put z oq (hD.2 q _ ha)) hlv
  show H1[a]? = some (vp_cell _ _)
  rw [e]
  rw [vp_cell_l, vp_cell_l, arrV_store]
  congr 2
  funext y
  by_cases hy : y = i.toNatClampNeg
  · subst hy
    simp [updV, vp_updL]
  · simp [updV, vp_updL, hy]
theorem KJ.lal {ζ : XZ} {own : String} {cc : ByteArray} {nn : Nat} {rm rc : Nat × Nat} {ini : Bool} {kc : ClassId × ClassId × ClassId} {D : va_G} (h : KF ζ own cc nn rm rc ini kc D) {ws : va_W} {lv : List (Nat × Value)} {pc : Nat} {sv : List Value} {nc ns sz : Nat} {a q n : Nat} {f : Nat → Int64} {i : Int32} (d : decode cc pc = .ok (.laload, 1)) (ha : ws[q]? = some (a, .inl (kc.2.1, n, .inr (.inl f)))) (hin : vp_in i n) (k : KJ ζ ws lv (pc + 1) (.long (f i.toNatClampNeg) :: sv) nc ns sz) : KJ ζ ws lv pc (.int i :: .ref a :: sv) nc ns sz := by
  obtain ⟨p, l, e, R, s, m, args, below, meth, c, Qf, D2, A, k2, nL⟩ := ζ
  obtain ⟨hx, hb, hml, hnn, hown, hts, rfl, rfl, hK, hO, hA, hr1, hr2, hr3, hr4, hini⟩ := h
  intro H locs ls hz hP hD hS hlv
  exact va_lald hx hb hK hP q 1 ha rfl hin d (k H locs ls hz hP hD hS hlv)
theorem KJ.aal {ζ : XZ} {own : String} {cc : ByteArray} {nn : Nat} {rm rc : Nat × Nat} {ini : Bool} {kc : ClassId × ClassId × ClassId} {D : va_G} (h : KF ζ own cc nn rm rc ini kc D) {ws : va_W} {lv : List (Nat × Value)} {pc : Nat} {sv : List Value} {nc ns sz : Nat} {a q n : Nat} {f : Nat → Option Nat} {i : Int32} {x : Nat} (d : decode cc pc = .ok (.aaload, 1)) (ha : ws[q]? = some (a, .inl (kc.2.2, n, .inr (.inr (.inr (.inr f)))))) (hin : vp_in i n) (hf : f i.toNatClampNeg = some x) (k : KJ ζ ws lv (pc + 1) (.ref x :: sv) nc ns sz) : KJ ζ ws lv pc (.int i :: .ref a :: sv) nc ns sz := by
  obtain ⟨p, l, e, R, s, m, args, below, meth, c, Qf, D2, A, k2, nL⟩ := ζ
  obtain ⟨hx, hb, hml, hnn, hown, hts, rfl, rfl, hK, hO, hA, hr1, hr2, hr3, hr4, hini⟩ := h
  intro H locs ls hz hP hD hS hlv
  have hlt : i.toNatClampNeg < n := Nat.not_le.mp fun q => hin (Or.inr q)
  exact W.aald (v := .ref x) (ty := .array .long) hx hb (hP q _ ha) ((hK.2 2 _ rfl).1 n (fun j => va_rf (f j))) rfl (fun q => by cases q) (by show ¬ (i < 0 ∨ (arrV _ _ _).slots.size ≤ _); rw [arrV_size]; exact hin) (by show (arrV _ _ _).slots[_]? = _; rw [arrV_read _ _ hlt, hf]; rfl) rfl rfl d (k H locs ls hz hP hD hS hlv)
theorem KJ.nw {ζ : XZ} {own : String} {cc : ByteArray} {nn : Nat} {rm rc : Nat × Nat} {ini : Bool} {kc : ClassId × ClassId × ClassId} {D : va_G} (h : KF ζ own cc nn rm rc ini kc D) {ws : va_W} {lv : List (Nat × Value)} {pc : Nat} {sv : List Value} {nc ns sz : Nat} {ci N ix : Nat} {C : String} {T : u_T} {fs : List Value} {ty0 : Nat → FieldType} (d : decode cc pc = .ok (.new ix, 3)) (hc : vwCl[ci]? = some (C, T, N)) (hin : ∀ w ∈ u_ws C T N, w ∈ xT) (hty : ∀ k, k < N → parseFieldDescriptor (T k).2.2.1 = some (ty0 k)) (h1 : Cond.classLink own ix C ∈ xT) (h2 : Cond.instantiable C N ∈ xT) (h3 : Cond.initialized C ∈ xT) (hfs : ∀ j, j < N → defaultValue (ty0 j) = vp_V fs j) (hcl : nc + 1 ≤ rc.1) (hsl : ns + N ≤ rc.2) (k : KJ ζ (ws ++ [(sz, .inr (ci, fs))]) lv (pc + 3) (.ref sz :: sv) (nc + 1) (ns + N) (sz + 1)) : KJ ζ ws lv pc sv nc ns sz := by
  obtain ⟨p, l, e, R, s, m, args, below, meth, c, Qf, D2, A, k2, nL⟩ := ζ
  obtain ⟨hx, hb, hml, hnn, hown, hts, rfl, rfl, hK, hO, hA, hr1, hr2, hr3, hr4, hini⟩ := h
  intro H locs ls hz hP hD hS hlv
  subst hz
  have hKn := hK.1 ci _ hc
  refine W.newcK hx hb hown (hts _ h1) (hts _ h2) (hts _ h3) rfl d (Nat.le_trans hcl hr3) (Nat.le_trans hsl hr4) hKn.2.1 rfl fun H1 kC hkC e1 z1 o1 => ?_
  have hk : ∀ (i : Nat) (x : Nat × va_E), ws[i]? = some x → H1[x.1]? = H[x.1]? := fun i x hx2 => o1 x.1 ((hP i x hx2).lt)
  refine k H1 locs ls z1 ((hP.kept hk).app (fun i x hx2 => ?_)) (hD.push hP rfl (hA _ hS.1)) ⟨Nat.le_trans hS.1 (by omega), fun x g1 g2 => (o1 x (Nat.lt_of_lt_of_le g1 hS.1)).trans (hS.2.1 x g1 g2), hS.2.2⟩ hlv
  have hz : i < 1 := (List.getElem?_eq_some_iff.mp hx2).1
  rw [show i = 0 by omega] at hx2
  cases hx2
  exact ⟨_, hc, (u_born ty0 hts hin hKn hkC e1 hty).to hfs⟩
theorem KJ.du {ζ : XZ} {own : String} {cc : ByteArray} {nn : Nat} {rm rc : Nat × Nat} {ini : Bool} {kc : ClassId × ClassId × ClassId} {D : va_G} (h : KF ζ own cc nn rm rc ini kc D) {ws : va_W} {lv : List (Nat × Value)} {pc : Nat} {sv : List Value} {nc ns sz x : Nat} (d : decode cc pc = .ok (.dup, 1)) (k : KJ ζ ws lv (pc + 1) (.ref x :: .ref x :: sv) nc ns sz) : KJ ζ ws lv pc (.ref x :: sv) nc ns sz := by
  obtain ⟨p, l, e, R, s, m, args, below, meth, c, Qf, D2, A, k2, nL⟩ := ζ
  obtain ⟨hx, hb, hml, hnn, hown, hts, rfl, rfl, hK, hO, hA, hr1, hr2, hr3, hr4, hini⟩ := h
  intro H locs ls hz hP hD hS hlv
  exact lv_dup hx hb d rfl (k H locs ls hz hP hD hS hlv)
theorem k_outer (c : ClassId) (N h0 : Nat) : ∀ i : Nat, Jvm.Free.Multi.outerC c N h0 i = arrV c N (fun j => va_rf (if j < i then some (h0 + 1 + j) else none))
  | 0 => by
    show ({ cls := c, slots := Array.replicate N .null, vm := .none } : Cell) = _
    rw [arrV_new]
    refine congrArg (arrV c N) (funext fun j => ?_)
    simp [va_rf]
  | i + 1 => by
    show (Jvm.Free.Multi.outerC c N h0 i).setSlot i (.ref (h0 + 1 + i)) = _
    rw [k_outer c N h0 i, arrV_store]
    refine congrArg (arrV c N) (funext fun j => ?_)
    by_cases e : j = i
    · subst e
      simp [updV, va_rf]
    · by_cases h : j < i
      · simp [updV, e, h, Nat.lt_succ_of_lt h]
      · simp [updV, e, h, show ¬ j < i + 1 by omega]
theorem k_range (ws : va_W) (sz N : Nat) (e0 : va_E) (er : va_E) {D : va_G} {H H1 : Heap} {A : Nat → Prop} (hz : H.size = sz) (hP : va_P D vwCl ws H) (hD : va_D A ws) (hA : ∀ q, sz ≤ q → A q) (hold : ∀ q : Nat, q < sz → H1[q]? = H[q]?) (h0 : va_at D vwCl (sz, e0) H1) (hr : ∀ i, i < N → va_at D vwCl (sz + 1 + i, er) H1) : va_P D vwCl (ws ++ [(sz, e0)] ++ (List.range N).map (fun i => (sz + 1 + i, er))) H1 ∧ va_D A (ws ++ [(sz, e0)] ++ (List.range N).map (fun i => (sz + 1 + i, er))) := by
  have hlt : ∀ (k : Nat) (q : Nat × va_E), ws[k]? = some q → q.1 < sz := fun k q hq => by have := (hP k q hq).lt; omega
  have key : ∀ (k : Nat) (q : Nat × va_E), (ws ++ [(sz, e0)] ++ (List.range N).map (fun i => (sz + 1 + i, er)))[k]? = some q → (ws[k]? = some q) ∨ (k = ws.length ∧ q = (sz, e0)) ∨ ∃ i, i < N ∧ k = ws.length + 1 + i ∧ q = (sz + 1 + i, er) := by
    intro k q hq
    by_cases h1 : k < ws.length
    · rw [List.append_assoc, List.getElem?_append_left h1] at hq
      exact Or.inl hq
    · rw [List.append_assoc, List.getElem?_append_right (by omega)] at hq
      by_cases h2 : k - ws.length < 1
      · have e : k - ws.length = 0 := by omega
        rw [e] at hq
        simp at hq
        exact Or.inr (Or.inl ⟨by omega, hq.symm⟩)
      · rw [List.getElem?_append_right (by simpa using Nat.not_lt.mp h2)] at hq
        simp only [List.length_cons, List.length_nil, List.getElem?_map] at hq
        by_cases h3 : k - ws.length - (0 + 1) < N
        · rw [List.getElem?_range h3] at hq
          simp at hq
          exact Or.inr (Or.inr ⟨k - ws.length - 1, by omega, by omega, by rw [← hq]⟩)
        · rw [List.getElem?_eq_none (by simp; omega)] at hq
          simp at hq
  refine ⟨fun k q hq => ?_, ⟨fun i j x y hi hj hxy => ?_, fun k q hq => ?_⟩⟩
  · rcases key k q hq with h1 | ⟨-, rfl⟩ | ⟨i, hi, -, rfl⟩
    · exact (hP k q h1).kept (hold q.1 (hlt k q h1))
    · exact h0
    · exact hr i hi
  · rcases key i x hi with h1 | ⟨e1, rfl⟩ | ⟨a, ha, e1, rfl⟩ <;> rcases key j y hj with h2 | ⟨e2, rfl⟩ | ⟨b, hb, e2, rfl⟩
    · exact hD.1 i j x y h1 h2 hxy
    · have := hlt _ _ h1; simp at hxy; omega
    · have := hlt _ _ h1; simp at hxy; omega
    · have := hlt _ _ h2; simp at hxy; omega
    · omega
    · simp at hxy; omega
    · have := hlt _ _ h2; simp at hxy; omega
    · simp at hxy; omega
    · simp at hxy; omega
  · rcases key k q hq with h1 | ⟨-, rfl⟩ | ⟨i, hi, -, rfl⟩
    · exact hD.2 k q h1
    · exact hA _ (Nat.le_refl _)
    · exact hA _ (by show sz ≤ sz + 1 + i; omega)
theorem KJ.mu {ζ : XZ} {own : String} {cc : ByteArray} {nn : Nat} {rm rc : Nat × Nat} {ini : Bool} {kc : ClassId × ClassId × ClassId} {D : va_G} (h : KF ζ own cc nn rm rc ini kc D) {ws : va_W} {lv : List (Nat × Value)} {pc : Nat} {sv : List Value} {nc ns sz : Nat} {ix N K : Nat} {n k2 : Int32} (d : decode cc pc = .ok (.multianewarray ix 2, 4)) (h1 : Cond.classLink own ix "[[J" ∈ xT) (h2 : Cond.arrayClass .long ∈ xT) (hn : ¬ n < 0) (hk : ¬ k2 < 0) (hN : n.toNatClampNeg = N) (hM : k2.toNatClampNeg = K) (hb1 : N * 4 ≤ 536870912) (hb2 : K * 8 ≤ 536870912) (hc : nc + (1 + N) ≤ rc.1) (hs : ns + (N + N * K) ≤ rc.2) (k : KJ ζ (ws ++ [(sz, .inl (kc.2.2, N, .inr (.inr (.inr (.inr (fun i => if i < N then some (sz + 1 + i) else none))))))] ++ (List.range N).map (fun i => (sz + 1 + i, .inl (kc.2.1, K, .inr (.inl (fun _ => 0)))))) lv (pc + 4) (.ref sz :: sv) (nc + 1 + N) (ns + N + N * K) (sz + 1 + N)) : KJ ζ ws lv pc (.int k2 :: .int n :: sv) nc ns sz := by
  obtain ⟨p, l, e, R, s, m, args, below, meth, c, Qf, D2, A, k9, nL⟩ := ζ
  obtain ⟨hx, hb, hml, hnn, hown, hts, rfl, rfl, hK, hO, hA, hr1, hr2, hr3, hr4, hini⟩ := h
  intro H locs ls hz hP hD hS hlv
  subst hN
  subst hM
  intro T hT Xs
  obtain ⟨vm₁, cA, comp, -, fA, fC, hO2, -, X', step⟩ := Xs.multianewarray2F hx hown (hts _ h1) (show (Cond.arrayOver (.array .long)).before args s = true from hO) (hts _ h2) (g := F0 m pc ls (.int k2 :: .int n :: sv)) rfl (by rw [hb]; exact d) rfl hn hk hb1 hb2 (by omega) rfl rfl (Nat.le_trans hc hr3) (Nat.le_trans hs hr4)
  have ec : comp = k9.2.1 := kfc fC (hK.2 1 _ rfl).2 rfl
  have eA : cA = k9.2.2 := kfc fA (hK.2 2 _ rfl).2 rfl
  subst ec
  subst eA
  generalize hF : Jvm.Free.Multi.fill (T.setVm vm₁) k9.2.2 k9.2.1 n.toNatClampNeg k2.toNatClampNeg (defaultValue .long) n.toNatClampNeg = F at X' step
  have hTh : (T.setVm vm₁).heap = H := hT
  obtain ⟨f1, f2, -, -⟩ := Jvm.Free.Multi.fill_facts (T.setVm vm₁) k9.2.2 k9.2.1 n.toNatClampNeg k2.toNatClampNeg (defaultValue .long) n.toNatClampNeg
  rw [hF, hTh] at f1 f2
  have hold : ∀ x : Nat, x < sz → F.heap[x]? = H[x]? := fun x hx9 => by
    have := Jvm.Free.Multi.fill_old (T.setVm vm₁) k9.2.2 k9.2.1 n.toNatClampNeg k2.toNatClampNeg (defaultValue .long) (a := x) (by rw [hTh, hz]; exact hx9) n.toNatClampNeg
    rw [hF, hTh] at this
    exact this
  have hrow : ∀ j : Nat, j < n.toNatClampNeg → va_at D2 vwCl (sz + 1 + j, .inl (k9.2.1, k2.toNatClampNeg, .inr (.inl (fun _ => 0)))) F.heap := fun j hj => by
    have := Jvm.Free.Multi.fill_inner (T.setVm vm₁) k9.2.2 k9.2.1 n.toNatClampNeg k2.toNatClampNeg (defaultValue .long) n.toNatClampNeg j hj
    rw [hF, hTh, hz] at this
    refine this.trans ?_
    show some ({ cls := k9.2.1, slots := Array.replicate k2.toNatClampNeg (.long 0), vm := .none } : Cell) = _
    rw [arrV_new]
    rfl
  have hout : va_at D2 vwCl (sz, .inl (k9.2.2, n.toNatClampNeg, .inr (.inr (.inr (.inr (fun i => if i < n.toNatClampNeg then some (sz + 1 + i) else none)))))) F.heap := by
    rw [hz] at f2
    refine f2.trans ?_
    rw [k_outer]
    rfl
  obtain ⟨g1, g2⟩ := k_range ws sz n.toNatClampNeg _ _ hz hP hD (fun q hq => hA q (by have := hS.1; omega)) hold hout hrow
  obtain ⟨t, a1, b1⟩ := k F.heap locs ls (by rw [f1, hz]) g1 g2 ⟨by rw [f1]; have := hS.1; omega, fun q q1 q2 => (hold q (by have := hS.1; omega)).trans (hS.2.1 q q1 q2), hS.2.2⟩ hlv F rfl X'
  refine ⟨t, step t ?_, b1⟩
  rw [show T.heap.size = sz by rw [hT, hz]]
  exact a1
/-! ===== a constructor's contract ===== -/
def KC (l : Launch) (D : va_G) (kc : ClassId × ClassId × ClassId) (y : MethodName) (b : ByteArray) (n : Nat) (rm rc : Nat × Nat) (av : List Value) (h0 : Nat) (e0 : va_E) (sz : Nat) (w1 : va_W) : Prop :=
  Met l y (Cond.code y b n none :: xT) ({ frames := rm.1, cells := rc.1, slots := rc.2, locals := rm.2 } : Room) (va_Pc (.ref h0 :: av) (fun U => U.heap.size = sz ∧ h0 < sz ∧ va_P D vwCl [(h0, e0)] U.heap ∧ va_K D vwCl (ktys kc) U ∧ xAO U)) (va_Qv (fun _ : Unit => True) (fun _ t => t.heap.size = sz + rc.1 ∧ va_P D vwCl w1 t.heap ∧ va_D (va_A [(h0, e0)] sz) w1) (va_A [(h0, e0)] sz)) rc.1 rc.2 (va_A [(h0, e0)] sz)
theorem KC.mk {l : Launch} {D : va_G} {kc : ClassId × ClassId × ClassId} {y : MethodName} {b : ByteArray} {n : Nat} {rm rc : Nat × Nat} {av : List Value} {h0 : Nat} {e0 : va_E} {sz : Nat} {w1 : va_W} {own : String} (hy : plainName y.cls = true) (hown : y.cls = own) (hnm : y.name = "<init>") (hn : (lg_sl (.ref h0 :: av)).length ≤ n)
    (body : ∀ ζ : XZ, KF ζ own b n rm rc true kc D → (∀ (lv : List (Nat × Value)) (pc : Nat), decode b pc = .ok (.return_, 1) → KJ ζ w1 lv pc [] rc.1 rc.2 (sz + rc.1)) → KJ ζ [(h0, e0)] (lv_args 0 (.ref h0 :: av)) 0 [] 0 0 sz) : KC l D kc y b n rm rc av h0 e0 sz w1 := by
  unfold KC
  refine Met.ofW (cc := b) (maxL := n) (ret := none) hy rfl ?_
  intro p e s m args below meth c s₁ B hml hv
  obtain ⟨rfl, hsz, hlt, hP, hK, hO⟩ := hv
  have hx := B.exec
  have hb := B.bytes
  have hr := B.returns
  have hts := atoms_spec (ws := Cond.code y b n none :: xT) B.pre
  have hown2 : s.vm.findClass own = some m.cls := by rw [← hown]; exact findClass_of_methodNamed B.named
  have hlocks := B.notSynchronized
  have hin : meth.name = "<init>" := (name_of_methodNamed B.named B.method).1.trans hnm
  have hl := lv_entry (.ref h0 :: av) (n := n) hn
  rw [lg_entry_eq]
  generalize (lg_sl (.ref h0 :: av) ++ List.replicate (n - (lg_sl (.ref h0 :: av)).length) Slot.unset).toArray = ls at hl ⊢
  have hD0 : va_D (va_A [(h0, e0)] sz) [(h0, e0)] := ⟨fun i j p q h1 h2 _ => by
    have a1 := (List.getElem?_eq_some_iff.mp h1).1
    have a2 := (List.getElem?_eq_some_iff.mp h2).1
    simp at a1 a2
    omega, fun k q h => va_A.in h⟩
  subst hsz
  refine body (p, l, e, (headSpec (Cond.code y b n none :: xT) ({ frames := rm.1, cells := rc.1, slots := rc.2, locals := rm.2 } : Room)).room, s, m, (.ref h0 :: av : List Value).toArray, below, meth, c, MQ below (va_Qv (fun _ : Unit => True) (fun _ t => t.heap.size = s.heap.size + rc.1 ∧ va_P D vwCl w1 t.heap ∧ va_D (va_A [(h0, e0)] s.heap.size) w1) (va_A [(h0, e0)] s.heap.size)) (.ref h0 :: av : List Value).toArray s rc.1 rc.2 (va_A [(h0, e0)] s.heap.size), D, va_A [(h0, e0)] s.heap.size, kc, n) ⟨hx, hb, hml, rfl, hown2, fun w hw => hts w (List.mem_cons_of_mem _ hw), rfl, rfl, hK, hO, fun q h => Or.inr h, Nat.le_refl _, Nat.le_refl _, Nat.le_refl _, Nat.le_refl _, fun _ => hin⟩ ?_ s.heap [] ls rfl hP hD0 va_S.rf hl
  intro lv pc hd H locs ls2 hz2 hP2 hD2 hS2 hl2
  exact W.vret hx hb hr (fun t ht hW => ⟨⟨(), rfl, trivial, by rw [ht]; exact hz2, by rw [ht]; exact hP2, hD2⟩, hS2.F ht⟩) hS2.2.2 hd
/-- a constructor is called on the last cell -/
theorem KJ.ci {ζ : XZ} {own : String} {cc : ByteArray} {nn : Nat} {rm rc : Nat × Nat} {ini : Bool} {kc : ClassId × ClassId × ClassId} {D : va_G} (h : KF ζ own cc nn rm rc ini kc D) {ws : va_W} {lv : List (Nat × Value)} {pc : Nat} {sv : List Value} {nc ns sz : Nat} {y : MethodName} {b : ByteArray} {n ix : Nat} {rmy rcy : Nat × Nat} {av : List Value} {h0 : Nat} {e0 : va_E} {w1 : va_W} (d : decode cc pc = .ok (.invokespecial ix, 3)) (hws : ∃ wr, ws = wr ++ [(h0, e0)]) (hw1 : Cond.methodLink own ix y ∈ xT) (hw2 : Cond.instanceMethod y ∈ xT) (hw4 : Cond.code y b n none ∈ xT) (hw5 : Cond.initialized y.cls ∈ xT) (hnm : y.name = "<init>") (hy : y.cls ≠ "java/lang/invoke/MethodHandle" ∧ y.cls ≠ "java/lang/invoke/VarHandle") (hlen : (parseMethodDescriptor y.desc).map (fun d => d.parameters.length) = some av.length) (hfr : rmy.1 + 1 ≤ rm.1) (hlo : (sv.map fun v => v.category).sum + (n + 11) + rmy.2 ≤ rm.2) (hcl : nc + rcy.1 ≤ rc.1) (hsl : ns + rcy.2 ≤ rc.2) (hM : ∀ l, KC l D kc y b n rmy rcy av h0 e0 sz w1) (k : KJ ζ (ws.take (ws.length - 1) ++ w1) lv (pc + 3) sv (nc + rcy.1) (ns + rcy.2) (sz + rcy.1)) : KJ ζ ws lv pc (av.reverse ++ .ref h0 :: sv) nc ns sz := by
  obtain ⟨p, l, e, R, s, m, args, below, meth, c, Qf, D2, A, k2, nL⟩ := ζ
  obtain ⟨hx, hb, hml, hnn, hown, hts, rfl, rfl, hK, hO, hA, hr1, hr2, hr3, hr4, hini⟩ := h
  intro H locs ls hz hP hD hS hlv
  obtain ⟨wr, rfl⟩ := hws
  have hdrop : (wr ++ [(h0, e0)]).take ((wr ++ [(h0, e0)]).length - 1) = wr := by simp
  rw [hdrop] at k
  have hlast : (wr ++ [(h0, e0)])[wr.length]? = some (h0, e0) := by simp
  have hh0 : h0 < sz := by have := (hP _ _ hlast).lt; rw [hz] at this; exact this
  have hAh : A h0 := hD.2 _ _ hlast
  have hPc : va_P D2 vwCl [(h0, e0)] H := fun i q hq => by
    have hi : i < 1 := (List.getElem?_eq_some_iff.mp hq).1
    rw [show i = 0 by omega] at hq
    cases hq
    exact hP _ _ hlast
  have hbl : FrameBlind (va_Pc (.ref h0 :: av) (fun U => U.heap.size = sz ∧ h0 < sz ∧ va_P D2 vwCl [(h0, e0)] U.heap ∧ va_K D2 vwCl (ktys k2) U ∧ xAO U)) := fun v U g mk q => ⟨q.1, q.2.1, q.2.2.1, q.2.2.2.1, va_K.moved (u := U) (U := U.calling g mk v) (Vm.Alike.refl U.vm) q.2.2.2.2.1, xAO_moved (u := U) (U := U.calling g mk v) (Vm.Alike.refl U.vm) q.2.2.2.2.2⟩
  have hKb := back_of (R := R) (p := p) (e := e) (below := below) (s := s) (sargs := args) (W := (sv.map fun v => v.category).sum) (len := 3) (bytes := b) (maxL := n) (ret := none) (hM l) hbl rfl rfl (Nat.le_trans hfr hr1) (Nat.le_trans hlo hr2) (xws_pay hts hw4) List.mem_cons_self (fun a' U hW => word_at hW (xT_good _ hw5).2 (hts _ hw5))
  intro T hT X
  obtain ⟨v, vm₁, ⟨U', l2, c2, s2⟩, hW₁, X', ⟨g', mk, t2, L2, e1, e2, ⟨⟨u, hv, -, hz2, hP2, hD2⟩, hF1, hF2⟩, h1, hL, h2, h3⟩, step⟩ := callI X hx (bytes := b) (maxL := n) hown hnm (hts _ hw1) (hts _ hw2) (hts _ hw4) hy hKb (g := F0 m pc ls (av.reverse ++ .ref h0 :: sv)) rfl (hlv.1.trans hml.symm) (a := h0) (argsL := av) (rest := sv)
    (fun sig h9 => by rw [h9] at hlen; exact (Option.some.inj hlen).symm) rfl (by show 2 * 0 + _ ≤ _; omega) (by rw [hb]; exact d)
    (fun vm₁ hW₁ => ⟨Nat.le_trans hcl hr3, Nat.le_trans hsl hr4, rfl, by show T.heap.size = sz; rw [hT]; exact hz, hh0, by show va_P _ _ _ T.heap; rw [hT]; exact hPc, va_K.moved (u := s) hW₁.alike hK, xAO_moved (u := s) hW₁.alike hO⟩)
  cases hv
  dsimp only [Pt.U, Pt.locs, Pt.cells, Pt.slots] at X' e1 e2 h1 h2 h3 step
  subst h1; subst h2; subst h3
  have hF1' : sz ≤ t2.heap.size := by rw [hz2]; omega
  have hkept : ∀ q : Nat, q < sz → ¬ va_A [(h0, e0)] sz q → t2.heap[q]? = H[q]? := fun q q1 q2 => by
    have := hF2 q (by show q < T.heap.size; rw [hT, hz]; exact q1) q2
    rw [this]
    show T.heap[q]? = _
    rw [hT]
  have hsub : ∀ q, va_A [(h0, e0)] sz q → A q := fun q hq => by
    rcases hq with ⟨i, e9, hq⟩ | hq
    · have hi : i < 1 := (List.getElem?_eq_some_iff.mp hq).1
      rw [show i = 0 by omega] at hq
      cases hq
      exact hAh
    · exact hA q (by have := hS.1; omega)
  have hne : ∀ (i : Nat) (q : Nat × va_E), wr[i]? = some q → q.1 < sz ∧ ¬ va_A [(h0, e0)] sz q.1 := fun i q hq => by
    have hi := (List.getElem?_eq_some_iff.mp hq).1
    have hq2 : (wr ++ [(h0, e0)])[i]? = some q := by rw [List.getElem?_append_left hi]; exact hq
    have hl9 := (hP i q hq2).lt
    refine ⟨by omega, fun h9 => ?_⟩
    rcases h9 with ⟨j, e9, h9⟩ | h9
    · have hj : j < 1 := (List.getElem?_eq_some_iff.mp h9).1
      rw [show j = 0 by omega] at h9
      simp at h9
      have := hD.1 i wr.length q (h0, e0) hq2 hlast h9.1.symm
      omega
    · omega
  have hPw : va_P D2 vwCl (wr ++ w1) t2.heap := va_P.app (fun i q hq => by
    have hi := (List.getElem?_eq_some_iff.mp hq).1
    have hq2 : (wr ++ [(h0, e0)])[i]? = some q := by rw [List.getElem?_append_left hi]; exact hq
    obtain ⟨g1, g2⟩ := hne i q hq
    exact (hP i q hq2).kept (hkept q.1 g1 g2)) hP2
  have hDw : va_D A (wr ++ w1) := va_D.app ⟨fun i j x y hi hj hxy => hD.1 i j x y (by rw [List.getElem?_append_left (List.getElem?_eq_some_iff.mp hi).1]; exact hi) (by rw [List.getElem?_append_left (List.getElem?_eq_some_iff.mp hj).1]; exact hj) hxy, fun i q hq => hD.2 i q (by rw [List.getElem?_append_left (List.getElem?_eq_some_iff.mp hq).1]; exact hq)⟩ (hD2.weaken (fun i q _ h9 => hsub q.1 h9)) (fun i j x y hx9 hy9 hxy => (hne i x hx9).2 (by rw [hxy]; exact hD2.2 j y hy9))
  obtain ⟨t3, a1, b1⟩ := k U'.heap (locs ++ L2) ls (by rw [e1]; exact hz2) (by rw [e1]; exact hPw) hDw
    ⟨by rw [e1]; have := hS.1; omega, fun q q1 q2 => by rw [e1, hkept q (by have := hS.1; omega) (fun z => q2 (hsub q z))]; exact hS.2.1 q q1 q2, fun q hq2 => by
      rcases List.mem_append.mp hq2 with h | h
      · exact hS.2.2 q h
      · exact hsub _ (hL q h)⟩ hlv U' rfl X'
  exact ⟨t3, step t3 a1, b1⟩
