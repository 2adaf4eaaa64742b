/-! ===== loops of constructors ===== -/
theorem KJ.extI {ζ : XZ} {ws : va_W} {lv : List (Nat × Value)} {pc : Nat} {sv : List Value} {nc ns sz : Nat} {a q n : Nat} {c : ClassId} {f g : Nat → Int32} (ha : ws[q]? = some (a, .inl (c, n, .inl f))) (hfg : ∀ i, i < n → f i = g i) (k : KJ ζ (ws.set q (a, .inl (c, n, .inl g))) lv pc sv nc ns sz) : KJ ζ ws lv pc sv nc ns sz := by
  obtain ⟨p, l, e, R, s, m, args, below, meth, cc, Qf, D, A, k2, nL⟩ := ζ
  intro H locs ls hz hP hD hS hlv
  refine k H locs ls hz (hP.set hD ha ?_ (fun _ _ => rfl)) (hD.set ha) hS hlv
  have h1 : H[a]? = some (vp_cell c (n, .inl f)) := hP q _ ha
  show H[a]? = some (vp_cell c (n, .inl g))
  rw [h1, vp_cell_i, vp_cell_i]
  congr 1
  unfold arrV
  have e : (Array.ofFn (n := n) fun j => Value.int (f j.val)) = Array.ofFn (n := n) fun j => Value.int (g j.val) := congrArg Array.ofFn (funext fun j => by rw [hfg j.val j.isLt])
  rw [e]
theorem KJ.fill {ζ : XZ} {own : String} {cc : ByteArray} {nn : Nat} {rm rc : Nat × Nat} {ini : Bool} {kc : ClassId × ClassId × ClassId} {D : va_G} (h : KF ζ own cc nn rm rc ini kc D) (hnn : Nat.blt 1 nn = true) {ws : va_W} {nc ns sz : Nat} {a q N h0 ci jf NF ix pc pb pX : Nat} {C ref : String} {T : u_T} {fs : List Value} {off off2 : Int} (hN : N < 2147483648) (hq : q < ws.length) (hq0 : q ≠ 0)
    (d1 : decode cc pc = .ok (.iload_n 1, 1)) (hpush : ∀ (w : va_W) (lv : List (Nat × Value)) (sv : List Value), KJ ζ w lv pb (.int (nI N) :: sv) nc ns sz → KJ ζ w lv (pc + 1) sv nc ns sz) (d2 : decode cc pb = .ok (.if_icmp .ge off, 3)) (ht : (pb : Int) + off = (pX : Int)) (d3 : decode cc (pb + 3) = .ok (.aload_n 0, 1)) (d4 : decode cc (pb + 3 + 1) = .ok (.getfield ix, 3)) (d5 : decode cc (pb + 3 + 1 + 3) = .ok (.iload_n 1, 1)) (d6 : decode cc (pb + 3 + 1 + 3 + 1) = .ok (.iconst (-1), 1)) (d7 : decode cc (pb + 3 + 1 + 3 + 1 + 1) = .ok (.iastore, 1)) (d8 : decode cc (pb + 3 + 1 + 3 + 1 + 1 + 1) = .ok (.iinc 1 1, 3)) (d9 : decode cc (pb + 3 + 1 + 3 + 1 + 1 + 1 + 3) = .ok (.goto off2, 3)) (ht2 : ((pb + 3 + 1 + 3 + 1 + 1 + 1 + 3 : Nat) : Int) + off2 = (pc : Int))
    (he : ws[0]? = some (h0, .inr (ci, fs))) (hc : vwCl[ci]? = some (C, T, NF)) (hj : jf < NF) (hlink : Cond.fieldLink own ix ref (T jf).2.1 (T jf).2.2.1 ∈ xT) (hsame : (T jf).1 = ref) (hin : ∀ w ∈ u_ws C T NF, w ∈ xT) (hv : fs[jf]? = some (.ref a))
    (kX : KJ ζ (ws.set q (a, .inl (kc.1, N, .inl (fun _ => -1)))) [(1, .int (nI N)), (0, .ref h0)] pX [] nc ns sz) :
    ∀ (m k : Nat), k + m = N → KJ ζ (ws.set q (a, .inl (kc.1, N, .inl (fun i => if i < k then -1 else 0)))) [(1, .int (nI k)), (0, .ref h0)] pc [] nc ns sz := by
  intro m
  induction m with
  | zero =>
    intro k hk
    have e : k = N := by omega
    subst e
    refine KJ.ilo h d1 rfl (q := 0) rfl ?_
    refine hpush _ _ _ ?_
    refine KJ.ge h d2 ht (fun _ => ?_) (fun q => absurd (nI_le (Nat.le_refl k) hN) q)
    refine KJ.extI (q := q) (a := a) (g := fun _ => -1) (by rw [List.getElem?_set_self hq]) (fun i hi => by rw [if_pos hi]) ?_
    rw [List.set_set]
    exact kX
  | succ m ih =>
    intro k hk
    have hkN : k < N := by omega
    refine KJ.ilo h d1 rfl (q := 0) rfl ?_
    refine hpush _ _ _ ?_
    refine KJ.ge h d2 ht (fun q => absurd q (nI_ge hkN hN)) (fun _ => ?_)
    refine KJ.alo h d3 rfl (q := 1) rfl ?_
    refine KJ.gf h d4 (q := 0) (by rw [List.getElem?_set_ne hq0]; exact he) hc hj hlink hsame hin hv ?_
    refine KJ.ilo h d5 rfl (q := 0) rfl ?_
    refine KJ.ic h d6 (v := -1) rfl ?_
    refine KJ.ias h d7 (q := q) (by rw [List.getElem?_set_self hq]) (vp_in_nI hkN hN) ?_
    rw [List.set_set]
    refine KJ.inc h d8 (q := 0) rfl (v := nI (k + 1)) (nI_1 k) hnn rfl ?_
    refine KJ.goto h d9 ht2 ?_
    have e : upd (fun i => if i < k then (-1 : Int32) else 0) (nI k).toNatClampNeg (-1) = fun i => if i < k + 1 then -1 else 0 := by
      rw [nI_clamp (by omega)]
      funext i
      unfold upd
      dsimp only
      by_cases h1 : i = k
      · rw [if_pos h1, if_pos (by omega)]
      · by_cases h2 : i < k
        · rw [if_neg h1, if_pos h2, if_pos (by omega)]
        · rw [if_neg h1, if_neg h2, if_neg (by omega)]
    rw [e]
    exact ih (k + 1) (by omega)
/-- the numbers of the table of ways -/
def chz : Nat → Nat → Nat
  | _, 0 => 1
  | 0, _ + 1 => 0
  | n + 1, m + 1 => chz n m + chz n (m + 1)
theorem chz_out : ∀ (n m : Nat), n < m → chz n m = 0
  | 0, 0, h => absurd h (Nat.lt_irrefl 0)
  | 0, m + 1, _ => rfl
  | n + 1, 0, h => absurd h (Nat.not_lt_zero _)
  | n + 1, m + 1, h => by
    show chz n m + chz n (m + 1) = 0
    rw [chz_out n m (by omega), chz_out n (m + 1) (by omega)]
def krows (kc : ClassId × ClassId × ClassId) (b : Nat) (w : Nat → Nat → Int64) : va_W := (List.range 25).map (fun i => (b + i, .inl (kc.2.1, 25, .inr (.inl (w i)))))
theorem krows_at (kc : ClassId × ClassId × ClassId) (b : Nat) (w : Nat → Nat → Int64) (pre : va_W) {n : Nat} (hn : n < 25) : (pre ++ krows kc b w)[pre.length + n]? = some (b + n, .inl (kc.2.1, 25, .inr (.inl (w n)))) := by
  rw [List.getElem?_append_right (by omega), show pre.length + n - pre.length = n by omega]
  unfold krows
  rw [List.getElem?_map, List.getElem?_range hn]
  rfl
theorem krows_set (kc : ClassId × ClassId × ClassId) (b : Nat) (w : Nat → Nat → Int64) (pre : va_W) {n : Nat} (hn : n < 25) (g : Nat → Int64) : (pre ++ krows kc b w).set (pre.length + n) (b + n, .inl (kc.2.1, 25, .inr (.inl g))) = pre ++ krows kc b (fun i => if i = n then g else w i) := by
  rw [List.set_append_right _ _ (by omega), show pre.length + n - pre.length = n by omega]
  congr 1
  refine List.ext_getElem? fun i => ?_
  unfold krows
  by_cases hi : i = n
  · subst hi
    rw [List.getElem?_set_self (by simpa using hn), List.getElem?_map, List.getElem?_range hn]
    simp
  · rw [List.getElem?_set_ne (Ne.symm hi)]
    by_cases h2 : i < 25
    · rw [List.getElem?_map, List.getElem?_map, List.getElem?_range h2]
      simp [hi]
    · rw [List.getElem?_eq_none (by simpa using h2), List.getElem?_eq_none (by simpa using h2)]
