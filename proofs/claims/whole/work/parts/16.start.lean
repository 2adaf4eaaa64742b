/-! THE CLAIM OUT OF ONE WALK OF THE LAW'S BODY. Your part is whole_start (and what it stands on); all else here is the same for every law, but numbers. -/
def R_law : String := "MostSoldLaw"
def lw_P (b : Addr) (xs : List Int32) (args : Array Value) (s : State) : Prop := args = #[.ref b] ∧ s.IntsAt b xs ∧ xs.length ≤ 4096 ∧ (Jvm.Cond.and given_1 narrow_1).before args s = true
def lw_Q (_ : Array Value) (s : State) (o : Outcome) (t : State) : Prop := o = .returned (some (.int 1)) ∧ Framed s o t [] 600000 7302250
def lw_Z (below : List Frame) (a : Array Value) (s : State) : State → Prop := fun t => ∃ o, t.status = .running ∧ Ended t below o ∧ lw_Q a s o t
/-- the law's own end, with 1 on the stack, nothing written that was there before, its room as the claim has it -/
theorem lw_ret {p : Program} {l : Launch} {e : Env} {s : State} {m : MethodId} {below : List Frame} {meth : Method} {c : Code} {b : Nat} (hx : p.tables.exec = Jvm.exec) (hb : c.code = code) (hr : meth.sig.returnType = ret) (hlocks : meth.locks = false) {pc : Nat} {H : Heap} {ls : Array Slot} (hdg : decode code pc = .ok (.ireturn, 1)) : W p l e room_1 s m #[Value.ref b] below meth c H [] 600000 7302250 (lw_Z below #[Value.ref b] s) (F0 m pc ls [.int 1]) := by
  intro T hT X
  obtain ⟨fs, hret, hrun, hended, hW, hframe⟩ := X.leave (v := some (.int 1)) (hlocks := hlocks) (fun h => by rw [hr] at h; cases h)
  have hmeth' : T.vm.method? m = some meth := X.method'
  refine ⟨T.setFrames fs, ?_, .returned (some (.int 1)), hrun, hended, rfl, ⟨_, rfl⟩, hW, hframe⟩
  jvm_step X.here [X.here.top, hx, hb, hdg, hmeth', hr, ret, narrow_b1]
  (try refine ⟨rfl, ?_⟩); (try refine ⟨rfl, ?_⟩)
  first | (intro acts; rw [hret _ acts rfl rfl rfl]) | rw [hret _ _ rfl rfl rfl]
  exact Steps.refl _
/-- what holds at the law's entry: the machine, the code, the tables' words (any of lw_tbl by 'hts w (by decide +kernel)'), the script of L ints xs at the cell b, what the Statement gives of the start (any of its parts by flat_of_before) -/
def lw_At (p : Program) (s : State) (m : MethodId) (meth : Method) (c : Code) (b L : Nat) (xs : Nat → Int32) : Prop :=
  p.tables.exec = Jvm.exec ∧ c.code = code ∧ meth.sig.returnType = ret ∧ c.maxLocals = 4 ∧ s.vm.findClass R_law = some m.cls ∧ (∀ w ∈ lw_tbl, w.before #[Value.ref b] s = true) ∧ va_X b L xs s s.heap ∧ b < s.heap.size ∧ meth.locks = false ∧ (Jvm.Cond.and given_1 narrow_1).before #[Value.ref b] s = true
theorem KJ.ast {ζ : XZ} {own : String} {cc : ByteArray} {nn : Nat} {rm rc : Nat × Nat} {ini : Bool} {kc : ClassId × ClassId × ClassId} {D : va_G} (h : KF ζ own cc nn rm rc ini kc D) {ws : va_W} {lv lv2 : List (Nat × Value)} {pc : Nat} {sv : List Value} {nc ns sz : Nat} {j : Fin 4} {i x : Nat} (d : decode cc pc = .ok (.astore_n j, 1)) (hi : (j : Nat) = i) (hn : Nat.blt i nn = true) (hl : (i, Value.ref x) :: lv.filter (fun q => !(q.1 == i) && !(q.1 + 1 == i && q.2.category == 2)) = lv2) (k : KJ ζ ws lv2 (pc + 1) sv nc ns sz) : KJ ζ ws lv pc (.ref x :: sv) nc ns sz := by
  obtain ⟨p, l, e, R, s, m, args, below, meth, c, Qf, D2, A, k2, nL⟩ := ζ
  obtain ⟨hx, hb, hml, hnn, hown, hts, rfl, rfl, hK, hO, hA, hr1, hr2, hr3, hr4, hini⟩ := h
  intro H locs ls hz hP hD hS hlv
  exact lv_astore_n hx hb d hi hlv (by rw [hnn]; simpa using hn) hl (fun ls2 hl2 => k H locs ls2 hz hP hD hS hl2)
set_option maxRecDepth 100000 in
set_option maxHeartbeats 4000000 in
theorem kj_law {ζ : XZ} {kc : ClassId × ClassId × ClassId} {D : va_G} (h : KF ζ RL code 4 (10, 402) (600000, 7302250) false kc D) {b b0 : Nat} (k : KJ ζ (wl_all kc b0) [(2, .ref (b0 + 1 + 80)), (1, .ref b0), (0, .ref b)] 16 [] 120 9078 (b0 + 120)) : KJ ζ [] [(0, .ref b)] 0 [] 0 0 b0 := by
  refine KJ.nw h (dq dD_law_0 0 rfl) (ci := 8) (N := 9) (C := RX8) (T := TX8) (fs := [.null, .null, .null, .null, .null, .null, .null, .null, .null]) (ty0 := tyX8) rfl inT8 tyX8_ok (xT_in 62 (by decide +kernel) (by decide +kernel)) (xT_in 63 (by decide +kernel) (by decide +kernel)) (xT_in 49 (by decide +kernel) (by decide +kernel)) (fun j hj => match j, hj with | 0, _ => rfl | 1, _ => rfl | 2, _ => rfl | 3, _ => rfl | 4, _ => rfl | 5, _ => rfl | 6, _ => rfl | 7, _ => rfl | 8, _ => rfl | q + 9, hq => absurd hq (by omega)) (Nat.le_of_ble_eq_true rfl) (Nat.le_of_ble_eq_true rfl) ?_
  refine KJ.du h (dq dD_law_0 1 rfl) ?_
  refine KJ.ci h (dq dD_law_0 2 rfl) (av := []) (h0 := b0) ⟨_, rfl⟩ (xT_in 64 (by decide +kernel) (by decide +kernel)) (xT_in 65 (by decide +kernel) (by decide +kernel)) (xT_in 66 (by decide +kernel) (by decide +kernel)) (xT_in 49 (by decide +kernel) (by decide +kernel)) rfl (by decide +kernel) (show _ = some 0 by decide +kernel) (by decide) (Nat.le_of_ble_eq_true rfl) (Nat.le_of_ble_eq_true rfl) (Nat.le_of_ble_eq_true rfl) (fun l => k_M l D kc b0 (b0 + 1)) ?_
  refine KJ.eqw (ws2 := wl_M kc b0) rfl ?_
  refine KJ.ast h (dq dD_law_0 3 rfl) (i := 1) rfl rfl (lv2 := [(1, .ref b0), (0, .ref b)]) rfl ?_
  refine KJ.nw h (dq dD_law_0 4 rfl) (ci := 9) (N := 53) (C := RX9) (T := TX9) (fs := [.null, .null, .null, .null, .int 0, .int 0, .null, .int 0, .null, .null, .null, .int 0, .null, .null, .null, .null, .null, .null, .int 0, .int 0, .null, .null, .null, .null, .null, .null, .null, .null, .int 0, .int 0, .null, .int 0, .int 0, .int 0, .null, .null, .null, .null, .null, .null, .null, .null, .null, .null, .null, .int 0, .null, .null, .int 0, .null, .int 0, .int 0, .null]) (ty0 := tyX9) rfl inT9 tyX9_ok (xT_in 900 (by decide +kernel) (by decide +kernel)) (xT_in 901 (by decide +kernel) (by decide +kernel)) (xT_in 58 (by decide +kernel) (by decide +kernel)) (fun j hj => match j, hj with | 0, _ => rfl | 1, _ => rfl | 2, _ => rfl | 3, _ => rfl | 4, _ => rfl | 5, _ => rfl | 6, _ => rfl | 7, _ => rfl | 8, _ => rfl | 9, _ => rfl | 10, _ => rfl | 11, _ => rfl | 12, _ => rfl | 13, _ => rfl | 14, _ => rfl | 15, _ => rfl | 16, _ => rfl | 17, _ => rfl | 18, _ => rfl | 19, _ => rfl | 20, _ => rfl | 21, _ => rfl | 22, _ => rfl | 23, _ => rfl | 24, _ => rfl | 25, _ => rfl | 26, _ => rfl | 27, _ => rfl | 28, _ => rfl | 29, _ => rfl | 30, _ => rfl | 31, _ => rfl | 32, _ => rfl | 33, _ => rfl | 34, _ => rfl | 35, _ => rfl | 36, _ => rfl | 37, _ => rfl | 38, _ => rfl | 39, _ => rfl | 40, _ => rfl | 41, _ => rfl | 42, _ => rfl | 43, _ => rfl | 44, _ => rfl | 45, _ => rfl | 46, _ => rfl | 47, _ => rfl | 48, _ => rfl | 49, _ => rfl | 50, _ => rfl | 51, _ => rfl | 52, _ => rfl | q + 53, hq => absurd hq (by omega)) (Nat.le_of_ble_eq_true rfl) (Nat.le_of_ble_eq_true rfl) ?_
  refine KJ.du h (dq dD_law_0 5 rfl) ?_
  refine KJ.ci h (dq dD_law_0 6 rfl) (av := []) (h0 := (b0 + 1 + 80)) ⟨_, rfl⟩ (xT_in 902 (by decide +kernel) (by decide +kernel)) (xT_in 903 (by decide +kernel) (by decide +kernel)) (xT_in 904 (by decide +kernel) (by decide +kernel)) (xT_in 58 (by decide +kernel) (by decide +kernel)) rfl (by decide +kernel) (show _ = some 0 by decide +kernel) (by decide) (Nat.le_of_ble_eq_true rfl) (Nat.le_of_ble_eq_true rfl) (Nat.le_of_ble_eq_true rfl) (fun l => k_R l D kc (b0 + 1 + 80) (b0 + 1 + 80 + 1)) ?_
  refine KJ.eqw (ws2 := wl_all kc b0) ?_ ?_
  · rw [show ∀ (a : va_W) (x : Nat × va_E), (a ++ [x]).take ((a ++ [x]).length - 1) = a from fun a x => by simp]
    rfl
  exact KJ.ast h (dq dD_law_0 7 rfl) (i := 2) rfl rfl (lv2 := [(2, .ref (b0 + 1 + 80)), (1, .ref b0), (0, .ref b)]) rfl k
theorem start_of (HL : ∀ (n : Nat) (xs : Nat → Int32), n ≤ 4096 → F_law (XM0 n xs)) {p : Program} {e : Env} {s : State} {m : MethodId} {below : List Frame} {meth : Method} {c : Code} (l : Launch) {b L : Nat} {xs : Nat → Int32} (hL : L ≤ 4096) (C0 : lw_At p s m meth c b L xs) : W p l e room_1 s m #[Value.ref b] below meth c s.heap [] 0 0 (lw_Z below #[Value.ref b] s) (entryFrame m ([Value.ref b] : List Value).toArray 4) := by
  obtain ⟨hx, hb, hr, hml, hown, hts, hX, hbl, hlocks, hgv⟩ := id C0
  have htx : ∀ w ∈ xT, w.before #[Value.ref b] s = true := fun w hw => hts w (List.mem_filter.mp hw).1
  have hs := flat_of_before _ hgv
  obtain ⟨c0, i0, k0⟩ := u_known (C := RX0) (T := TX0) (N := 8) (n := 8) hts inX0 (hts (.instantiable RX0 8) (List.mem_of_getElem? (i := 326) (by decide +kernel)))
  obtain ⟨c1, i1, k1⟩ := u_known (C := RX1) (T := TX1) (N := 5) (n := 5) hts inX1 (hts (.instantiable RX1 5) (List.mem_of_getElem? (i := 359) (by decide +kernel)))
  obtain ⟨c2, i2, k2⟩ := u_known (C := RX2) (T := TX2) (N := 4) (n := 4) hts inX2 (hts (.instantiable RX2 4) (List.mem_of_getElem? (i := 304) (by decide +kernel)))
  obtain ⟨c3, i3, k3⟩ := u_known (C := RX3) (T := TX3) (N := 11) (n := 11) hts inX3 (hts (.instantiable RX3 11) (List.mem_of_getElem? (i := 137) (by decide +kernel)))
  obtain ⟨c4, i4, k4⟩ := u_known (C := RX4) (T := TX4) (N := 11) (n := 11) hts inX4 (hts (.instantiable RX4 11) (List.mem_of_getElem? (i := 206) (by decide +kernel)))
  obtain ⟨c5, i5, k5⟩ := u_known (C := RX5) (T := TX5) (N := 4) (n := 4) hts inX5 (hts (.instantiable RX5 4) (List.mem_of_getElem? (i := 381) (by decide +kernel)))
  obtain ⟨c6, i6, k6⟩ := u_known (C := RX6) (T := TX6) (N := 13) (n := 13) hts inX6 (hts (.instantiable RX6 13) (List.mem_of_getElem? (i := 252) (by decide +kernel)))
  obtain ⟨c7, i7, k7⟩ := u_known (C := RX7) (T := TX7) (N := 14) (n := 14) hts inX7 (hts (.instantiable RX7 14) (List.mem_of_getElem? (i := 71) (by decide +kernel)))
  obtain ⟨c8, i8, k8⟩ := u_known (C := RX8) (T := TX8) (N := 9) (n := 9) hts inX8 (hts (.instantiable RX8 9) (List.mem_of_getElem? (i := 63) (by decide +kernel)))
  obtain ⟨c9, i9, k9⟩ := u_known (C := RX9) (T := TX9) (N := 53) (n := 53) hts inX9 (hts (.instantiable RX9 53) (List.mem_of_getElem? (i := 901) (by decide +kernel)))
  obtain ⟨D, hKc⟩ : ∃ D : va_G, ∀ (k : Nat) (q : vw_C), vwCl[k]? = some q → u_Kn s q.1 q.2.1 q.2.2 (D.1 k) (D.2 k) := by
    refine ⟨(fun k => if k = 0 then c0 else if k = 1 then c1 else if k = 2 then c2 else if k = 3 then c3 else if k = 4 then c4 else if k = 5 then c5 else if k = 6 then c6 else if k = 7 then c7 else if k = 8 then c8 else c9, fun k => if k = 0 then i0 else if k = 1 then i1 else if k = 2 then i2 else if k = 3 then i3 else if k = 4 then i4 else if k = 5 then i5 else if k = 6 then i6 else if k = 7 then i7 else if k = 8 then i8 else i9), ?_⟩
    intro k q hq
    match k, hq with
    | 0, hq => cases hq; exact k0
    | 1, hq => cases hq; exact k1
    | 2, hq => cases hq; exact k2
    | 3, hq => cases hq; exact k3
    | 4, hq => cases hq; exact k4
    | 5, hq => cases hq; exact k5
    | 6, hq => cases hq; exact k6
    | 7, hq => cases hq; exact k7
    | 8, hq => cases hq; exact k8
    | 9, hq => cases hq; exact k9
    | k + 10, hq => simp [vwCl] at hq
  obtain ⟨cI, kI, pI, fI1, fI2, fI3⟩ := Cond.arrayClass_spec (htx _ aw_int)
  obtain ⟨cJ, kJ, pJ, fJ1, fJ2, fJ3⟩ := Cond.arrayClass_spec (htx _ aw_long)
  have hO : (Cond.arrayOver (.array .long)).before #[Value.ref b] s = true := hts _ (List.mem_of_getElem? (i := 310) (by decide +kernel))
  obtain ⟨pQ, cQ, kQ, fQ0, fQ1, fQ2, fQ3⟩ := Cond.arrayOver_specA hO
  have hK : va_K D vwCl (ktys (cI, cJ, cQ)) s := ⟨hKc, fun k q h => by
    match k, h with
    | 0, h => cases h; exact ⟨fun n z => ⟨fun k h => (by cases h), kI, fI2, pI, fI3⟩, fI1⟩
    | 1, h => cases h; exact ⟨fun n z => ⟨fun k h => (by cases h), kJ, fJ2, pJ, fJ3⟩, fJ1⟩
    | 2, h => cases h; exact ⟨fun n z => ⟨fun k h => (by cases h), kQ, fQ1, pQ, fQ2⟩, fQ3⟩
    | k + 3, h => simp [ktys] at h⟩
  have hAO : xAO s := hO
  have hNs : xNs s := by
    intro w hw
    simp only [xNest, List.mem_cons, List.not_mem_nil, or_false] at hw
    rcases hw with rfl | rfl | rfl | rfl | rfl
    · exact va_Nw.of rfl (hts _ (List.mem_of_getElem? (i := 455) (by decide +kernel)))
    · exact va_Nw.of rfl (hts _ (List.mem_of_getElem? (i := 502) (by decide +kernel)))
    · exact va_Nw.of rfl (hts _ (List.mem_of_getElem? (i := 550) (by decide +kernel)))
    · exact va_Nw.of rfl (hts _ (List.mem_of_getElem? (i := 605) (by decide +kernel)))
    · exact va_Nw.of rfl (hts _ (List.mem_of_getElem? (i := 614) (by decide +kernel)))
  have hA0 : ∀ a : Nat, a < s.heap.size → ¬ (fun q : Nat => s.heap.size ≤ q) a := fun a h => Nat.not_le.mpr h
  obtain ⟨a1, e1, t1⟩ := va_Tof (tm := (.static "MostSold$Rules" "LEAST" "[I")) (ty := .int) (N := 15) (f := fun j => .int (Int32.ofInt (XM0 L xs 1001 (j : Int)))) (by decide) (hs (.arrayOf (.static "MostSold$Rules" "LEAST" "[I") .int) (by decide +kernel)) (va_eqt (t := .length (.static "MostSold$Rules" "LEAST" "[I")) (z := 15) (hs _ (by decide +kernel))) (fun j hj => match j, hj with
    | 0, _ => va_eqt (t := .elem (.static "MostSold$Rules" "LEAST" "[I") (.int 0)) (z := 1) (hs _ (by decide +kernel))
    | 1, _ => va_eqt (t := .elem (.static "MostSold$Rules" "LEAST" "[I") (.int 1)) (z := 0) (hs _ (by decide +kernel))
    | 2, _ => va_eqt (t := .elem (.static "MostSold$Rules" "LEAST" "[I") (.int 2)) (z := 0) (hs _ (by decide +kernel))
    | 3, _ => va_eqt (t := .elem (.static "MostSold$Rules" "LEAST" "[I") (.int 3)) (z := 0) (hs _ (by decide +kernel))
    | 4, _ => va_eqt (t := .elem (.static "MostSold$Rules" "LEAST" "[I") (.int 4)) (z := 0) (hs _ (by decide +kernel))
    | 5, _ => va_eqt (t := .elem (.static "MostSold$Rules" "LEAST" "[I") (.int 5)) (z := 0) (hs _ (by decide +kernel))
    | 6, _ => va_eqt (t := .elem (.static "MostSold$Rules" "LEAST" "[I") (.int 6)) (z := 0) (hs _ (by decide +kernel))
    | 7, _ => va_eqt (t := .elem (.static "MostSold$Rules" "LEAST" "[I") (.int 7)) (z := 0) (hs _ (by decide +kernel))
    | 8, _ => va_eqt (t := .elem (.static "MostSold$Rules" "LEAST" "[I") (.int 8)) (z := 0) (hs _ (by decide +kernel))
    | 9, _ => va_eqt (t := .elem (.static "MostSold$Rules" "LEAST" "[I") (.int 9)) (z := 0) (hs _ (by decide +kernel))
    | 10, _ => va_eqt (t := .elem (.static "MostSold$Rules" "LEAST" "[I") (.int 10)) (z := 0) (hs _ (by decide +kernel))
    | 11, _ => va_eqt (t := .elem (.static "MostSold$Rules" "LEAST" "[I") (.int 11)) (z := 0) (hs _ (by decide +kernel))
    | 12, _ => va_eqt (t := .elem (.static "MostSold$Rules" "LEAST" "[I") (.int 12)) (z := 0) (hs _ (by decide +kernel))
    | 13, _ => va_eqt (t := .elem (.static "MostSold$Rules" "LEAST" "[I") (.int 13)) (z := 0) (hs _ (by decide +kernel))
    | 14, _ => va_eqt (t := .elem (.static "MostSold$Rules" "LEAST" "[I") (.int 14)) (z := 0) (hs _ (by decide +kernel))
    | j + 15, h => absurd h (by omega)) hA0
  have z1 := va_Zof (A := fun q : Nat => s.heap.size ≤ q) (hts (.laysStatic "MostSold$Rules" "LEAST" "[I") (List.mem_of_getElem? (i := 611) (by decide +kernel))) (hts (.initialized "MostSold$Rules") (List.mem_of_getElem? (i := 52) (by decide +kernel))) e1 hA0
  obtain ⟨a2, e2, t2⟩ := va_Tof (tm := (.static "MostSold$Rules" "MOST" "[I")) (ty := .int) (N := 15) (f := fun j => .int (Int32.ofInt (XM0 L xs 1002 (j : Int)))) (by decide) (hs (.arrayOf (.static "MostSold$Rules" "MOST" "[I") .int) (by decide +kernel)) (va_eqt (t := .length (.static "MostSold$Rules" "MOST" "[I")) (z := 15) (hs _ (by decide +kernel))) (fun j hj => match j, hj with
    | 0, _ => va_eqt (t := .elem (.static "MostSold$Rules" "MOST" "[I") (.int 0)) (z := 9999) (hs _ (by decide +kernel))
    | 1, _ => va_eqt (t := .elem (.static "MostSold$Rules" "MOST" "[I") (.int 1)) (z := 1) (hs _ (by decide +kernel))
    | 2, _ => va_eqt (t := .elem (.static "MostSold$Rules" "MOST" "[I") (.int 2)) (z := 51) (hs _ (by decide +kernel))
    | 3, _ => va_eqt (t := .elem (.static "MostSold$Rules" "MOST" "[I") (.int 3)) (z := 51) (hs _ (by decide +kernel))
    | 4, _ => va_eqt (t := .elem (.static "MostSold$Rules" "MOST" "[I") (.int 4)) (z := 167) (hs _ (by decide +kernel))
    | 5, _ => va_eqt (t := .elem (.static "MostSold$Rules" "MOST" "[I") (.int 5)) (z := 167) (hs _ (by decide +kernel))
    | 6, _ => va_eqt (t := .elem (.static "MostSold$Rules" "MOST" "[I") (.int 6)) (z := 500) (hs _ (by decide +kernel))
    | 7, _ => va_eqt (t := .elem (.static "MostSold$Rules" "MOST" "[I") (.int 7)) (z := 500) (hs _ (by decide +kernel))
    | 8, _ => va_eqt (t := .elem (.static "MostSold$Rules" "MOST" "[I") (.int 8)) (z := 500) (hs _ (by decide +kernel))
    | 9, _ => va_eqt (t := .elem (.static "MostSold$Rules" "MOST" "[I") (.int 9)) (z := 500) (hs _ (by decide +kernel))
    | 10, _ => va_eqt (t := .elem (.static "MostSold$Rules" "MOST" "[I") (.int 10)) (z := 500) (hs _ (by decide +kernel))
    | 11, _ => va_eqt (t := .elem (.static "MostSold$Rules" "MOST" "[I") (.int 11)) (z := 500) (hs _ (by decide +kernel))
    | 12, _ => va_eqt (t := .elem (.static "MostSold$Rules" "MOST" "[I") (.int 12)) (z := 500) (hs _ (by decide +kernel))
    | 13, _ => va_eqt (t := .elem (.static "MostSold$Rules" "MOST" "[I") (.int 13)) (z := 500) (hs _ (by decide +kernel))
    | 14, _ => va_eqt (t := .elem (.static "MostSold$Rules" "MOST" "[I") (.int 14)) (z := 2) (hs _ (by decide +kernel))
    | j + 15, h => absurd h (by omega)) hA0
  have z2 := va_Zof (A := fun q : Nat => s.heap.size ≤ q) (hts (.laysStatic "MostSold$Rules" "MOST" "[I") (List.mem_of_getElem? (i := 613) (by decide +kernel))) (hts (.initialized "MostSold$Rules") (List.mem_of_getElem? (i := 52) (by decide +kernel))) e2 hA0
  obtain ⟨a3, e3, t3⟩ := va_Tof (tm := (.static "MostSold$Rules" "USUAL" "[I")) (ty := .int) (N := 15) (f := fun j => .int (Int32.ofInt (XM0 L xs 1003 (j : Int)))) (by decide) (hs (.arrayOf (.static "MostSold$Rules" "USUAL" "[I") .int) (by decide +kernel)) (va_eqt (t := .length (.static "MostSold$Rules" "USUAL" "[I")) (z := 15) (hs _ (by decide +kernel))) (fun j hj => match j, hj with
    | 0, _ => va_eqt (t := .elem (.static "MostSold$Rules" "USUAL" "[I") (.int 0)) (z := 100) (hs _ (by decide +kernel))
    | 1, _ => va_eqt (t := .elem (.static "MostSold$Rules" "USUAL" "[I") (.int 1)) (z := 1) (hs _ (by decide +kernel))
    | 2, _ => va_eqt (t := .elem (.static "MostSold$Rules" "USUAL" "[I") (.int 2)) (z := 0) (hs _ (by decide +kernel))
    | 3, _ => va_eqt (t := .elem (.static "MostSold$Rules" "USUAL" "[I") (.int 3)) (z := 51) (hs _ (by decide +kernel))
    | 4, _ => va_eqt (t := .elem (.static "MostSold$Rules" "USUAL" "[I") (.int 4)) (z := 0) (hs _ (by decide +kernel))
    | 5, _ => va_eqt (t := .elem (.static "MostSold$Rules" "USUAL" "[I") (.int 5)) (z := 167) (hs _ (by decide +kernel))
    | 6, _ => va_eqt (t := .elem (.static "MostSold$Rules" "USUAL" "[I") (.int 6)) (z := 100) (hs _ (by decide +kernel))
    | 7, _ => va_eqt (t := .elem (.static "MostSold$Rules" "USUAL" "[I") (.int 7)) (z := 100) (hs _ (by decide +kernel))
    | 8, _ => va_eqt (t := .elem (.static "MostSold$Rules" "USUAL" "[I") (.int 8)) (z := 100) (hs _ (by decide +kernel))
    | 9, _ => va_eqt (t := .elem (.static "MostSold$Rules" "USUAL" "[I") (.int 9)) (z := 100) (hs _ (by decide +kernel))
    | 10, _ => va_eqt (t := .elem (.static "MostSold$Rules" "USUAL" "[I") (.int 10)) (z := 100) (hs _ (by decide +kernel))
    | 11, _ => va_eqt (t := .elem (.static "MostSold$Rules" "USUAL" "[I") (.int 11)) (z := 100) (hs _ (by decide +kernel))
    | 12, _ => va_eqt (t := .elem (.static "MostSold$Rules" "USUAL" "[I") (.int 12)) (z := 100) (hs _ (by decide +kernel))
    | 13, _ => va_eqt (t := .elem (.static "MostSold$Rules" "USUAL" "[I") (.int 13)) (z := 100) (hs _ (by decide +kernel))
    | 14, _ => va_eqt (t := .elem (.static "MostSold$Rules" "USUAL" "[I") (.int 14)) (z := 0) (hs _ (by decide +kernel))
    | j + 15, h => absurd h (by omega)) hA0
  have z3 := va_Zof (A := fun q : Nat => s.heap.size ≤ q) (hts (.laysStatic "MostSold$Rules" "USUAL" "[I") (List.mem_of_getElem? (i := 488) (by decide +kernel))) (hts (.initialized "MostSold$Rules") (List.mem_of_getElem? (i := 52) (by decide +kernel))) e3 hA0
  have hxA : ∀ q, xA (D, x_ad s.heap.size b a1 a2 a3, cI, cJ, cQ) q → s.heap.size ≤ q := by
    rintro q ⟨k, hk, rfl⟩
    show s.heap.size ≤ x_ad s.heap.size b a1 a2 a3 k
    rw [x_ad_lt hk]
    omega
  have hE : xE (D, x_ad s.heap.size b a1 a2 a3, cI, cJ, cQ) (XM0 L xs) s s.heap := ⟨⟨z1.narrow hxA, t1.narrow hxA⟩, ⟨z2.narrow hxA, t2.narrow hxA⟩, ⟨z3.narrow hxA, t3.narrow hxA⟩⟩
  have hkf : KF (p, l, e, room_1, s, m, #[Value.ref b], below, meth, c, lw_Z below #[Value.ref b] s, D, (fun q : Nat => s.heap.size ≤ q), (cI, cJ, cQ), 4) RL code 4 (10, 402) (600000, 7302250) false (cI, cJ, cQ) D := ⟨hx, hb, hml, rfl, hown, htx, rfl, rfl, hK, hAO, fun _ h => h, Nat.le_of_ble_eq_true rfl, Nat.le_of_ble_eq_true rfl, Nat.le_of_ble_eq_true rfl, Nat.le_of_ble_eq_true rfl, fun h => by cases h⟩
  have hl := lv_entry ([.ref b]) (n := 4) (Nat.le_of_ble_eq_true rfl)
  rw [lg_entry_eq]
  generalize (lg_sl ([.ref b]) ++ List.replicate (4 - (lg_sl ([.ref b])).length) Slot.unset).toArray = ls at hl ⊢
  have hl : lv_has ls 4 [(0, .ref b)] := hl
  refine kj_law hkf ?_ s.heap [] ls rfl (fun k q h => by simp at h) ⟨fun i j p q h => by simp at h, fun k q h => by simp at h⟩ va_S.rf hl
  intro H locs ls2 hz hP hD hS hlv
  refine va_forget hS.2.2 ?_
  refine W.widen (k := 600000) (n := 7302250) (by omega) (by omega) ?_
  have hP2 : va_P D vwCl (xworld (D, x_ad s.heap.size b a1 a2 a3, cI, cJ, cQ) (XM0 L xs)) H := fun k q hq => by
    obtain ⟨hk, rfl⟩ := xworld_at _ _ hq
    exact hP (x_pos k) _ (wla D cI cJ cQ s.heap.size b a1 a2 a3 L xs k hk)
  have hret : XRet (p, l, e, room_1, s, m, #[Value.ref b], below, meth, c, lw_Z below #[Value.ref b] s, (D, x_ad s.heap.size b a1 a2 a3, cI, cJ, cQ), XM0 L xs, 4, 600000, 7302250, fun v _ => v = 1) code (some .boolean) := by
    intro Γ pc L2 v M' hd hv hq hG hS2 hM1 hM0 H2 locs2 ls3 hP3 hSv hl3
    have hq : v = 1 := hq
    subst hq
    refine va_forget (fun q hq => hxA _ (hSv.2.2 q hq)) ?_
    exact lw_ret hx hb hr hlocks hd
  have hfx : Fx (p, l, e, room_1, s, m, #[Value.ref b], below, meth, c, lw_Z below #[Value.ref b] s, (D, x_ad s.heap.size b a1 a2 a3, cI, cJ, cQ), XM0 L xs, 4, 600000, 7302250, fun v _ => v = 1) RL code 4 (8, 136) (some .boolean) := ⟨hx, hb, hml, hown, htx, ⟨hK, hNs, x_ad_inj⟩, hE, Nat.le_of_ble_eq_true rfl, Nat.le_of_ble_eq_true rfl, Nat.le_of_ble_eq_true rfl, Nat.le_of_ble_eq_true rfl, hret, rfl⟩
  have hsc : xScr (p, l, e, room_1, s, m, #[Value.ref b], below, meth, c, lw_Z below #[Value.ref b] s, (D, x_ad s.heap.size b a1 a2 a3, cI, cJ, cQ), XM0 L xs, 4, 600000, 7302250, fun v _ => v = 1) := ⟨L, xs, hX, hbl, fun h => absurd (hxA b h) (Nat.not_le.mpr hbl), hL, rfl, fun j hj => by
    show (if (j : Int) = -1 then (L : Int) else (xs (j : Int).toNat).toInt) = _
    rw [if_neg (by omega)]
    rfl⟩
  have g := gs_law hfx hsc (fun _ _ => False) (fun v _ => v = 1) (fun _ => 0) (XM0 L xs) (HL L xs hL) (fun _ _ h => h.elim) (fun _ _ h => h)
  exact g (fun q hq => by
    simp only [List.mem_cons, List.not_mem_nil, or_false] at hq
    rcases hq with rfl | rfl | rfl <;> trivial) (fun q hq => by cases hq) (XM0_wf hL) (fun _ _ => rfl) H [] ls2 hP2 ⟨hS.1, fun q h1 _ => hS.2.1 q h1 (Nat.not_le.mpr h1), fun q hq => by cases hq⟩ hlv
