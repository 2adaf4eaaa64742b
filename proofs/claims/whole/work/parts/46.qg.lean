/-! ===== no method touches the script, and each asks no more for more ===== -/
def FMf (f : XM → (Int → XM → Prop) → Prop) : Prop := ∀ (c : Int → Int) (M : XM) (Q Q' : Int → XM → Prop), M 1000 = c → (∀ v M1, M1 1000 = c → Q v M1 → Q' v M1) → f M Q → f M Q'
def FMe (e : XE) : Prop := ∀ L, FMf (e L)
def FMc (e : XCd) : Prop := ∀ (c : Int → Int) (L : XL) (M : XM) (T T' F F' : XM → Prop), M 1000 = c → (∀ M1, M1 1000 = c → T M1 → T' M1) → (∀ M1, M1 1000 = c → F M1 → F' M1) → e L M T F → e L M T' F'
def FMs (s : XS) : Prop := ∀ (c : Int → Int) (L : XL) (M : XM) (Qn Qn' : XL → XM → Prop) (Qr Qr' : Int → XM → Prop), M 1000 = c → (∀ L1 M1, M1 1000 = c → Qn L1 M1 → Qn' L1 M1) → (∀ v M1, M1 1000 = c → Qr v M1 → Qr' v M1) → s Qn Qr L M → s Qn' Qr' L M
theorem FMe.k {z : Int} : FMe (eK z) := fun _ _ _ _ _ hM h q => h _ _ hM q
theorem FMe.l {i : Nat} : FMe (eL i) := fun _ _ _ _ _ hM h q => h _ _ hM q
theorem FMe.r : FMe eR := fun _ _ _ _ _ hM h q => h _ _ hM q
theorem FMe.f {k : Nat} {j : Int} : FMe (eF k j) := fun _ _ _ _ _ hM h q => h _ _ hM q
theorem FMe.a {k : Nat} {n : Int} {i : XE} (hi : FMe i) : FMe (eA k n i) := fun L c M _ _ hM h q => hi L c M _ _ hM (fun _ _ h1 q1 => ⟨q1.1, q1.2.1, h _ _ h1 q1.2.2⟩) q
theorem FMe.q {k : Nat} {n : Int} {i : XE} (hi : FMe i) : FMe (eQ k n i) := fun L c M _ _ hM h q => hi L c M _ _ hM (fun _ _ h1 q1 => ⟨q1.1, q1.2.1, h _ _ h1 q1.2.2⟩) q
theorem FMe.d {n : Int} {r i : XE} (hr : FMe r) (hi : FMe i) : FMe (eD n r i) := fun L c M _ _ hM h q => hr L c M _ _ hM (fun _ M1 h1 q1 => hi L c M1 _ _ h1 (fun _ _ h2 q2 => ⟨q2.1, q2.2.1, h _ _ h2 q2.2.2⟩) q1) q
theorem FMe.u {f : Int → Int} {a : XE} (ha : FMe a) : FMe (eU f a) := fun L c M _ _ hM h q => ha L c M _ _ hM (fun _ _ h1 q1 => h _ _ h1 q1) q
theorem FMe.b {f : Int → Int → Int} {a b : XE} (ha : FMe a) (hb : FMe b) : FMe (eB f a b) := fun L c M _ _ hM h q => ha L c M _ _ hM (fun _ M1 h1 q1 => hb L c M1 _ _ h1 (fun _ _ h2 q2 => h _ _ h2 q2) q1) q
theorem FMe.v {f : Int → Int → Int} {a b : XE} (ha : FMe a) (hb : FMe b) : FMe (eV f a b) := fun L c M _ _ hM h q => ha L c M _ _ hM (fun _ M1 h1 q1 => hb L c M1 _ _ h1 (fun _ _ h2 q2 => ⟨q2.1, h _ _ h2 q2.2⟩) q1) q
theorem FMe.i {d : XCd} {a b : XE} (hd : FMc d) (ha : FMe a) (hb : FMe b) : FMe (eIf d a b) := fun L c M _ _ hM h q => hd c L M _ _ _ _ hM (fun M1 h1 q1 => ha L c M1 _ _ h1 h q1) (fun M1 h1 q1 => hb L c M1 _ _ h1 h q1) q
theorem st_1000 {M : XM} {k : Nat} {j v : Int} (hk : k ≠ 1000) : (st M k j v) 1000 = M 1000 := by rw [st_fn, if_neg (fun e => hk e.symm)]
theorem FMe.pf {k : Nat} {j : Int} (hk : k ≠ 1000) : FMe (ePF k j) := fun _ _ _ _ _ hM h q => h _ _ ((st_1000 hk).trans hM) q
theorem FMc.b {r : Int → Int → Prop} {a b : XE} (ha : FMe a) (hb : FMe b) : FMc (cB r a b) := fun c L M _ _ _ _ hM hT hF q => ha L c M _ _ hM (fun _ M1 h1 q1 => hb L c M1 _ _ h1 (fun _ _ h2 q2 => ⟨fun x => hT _ h2 (q2.1 x), fun x => hF _ h2 (q2.2 x)⟩) q1) q
theorem FMc.z {r : Int → Prop} {a : XE} (ha : FMe a) : FMc (cZ r a) := fun c L M _ _ _ _ hM hT hF q => ha L c M _ _ hM (fun _ _ h2 q2 => ⟨fun x => hT _ h2 (q2.1 x), fun x => hF _ h2 (q2.2 x)⟩) q
theorem FMc.and {a b : XCd} (ha : FMc a) (hb : FMc b) : FMc (cAnd a b) := fun c L M _ _ _ _ hM hT hF q => ha c L M _ _ _ _ hM (fun M1 h1 q1 => hb c L M1 _ _ _ _ h1 hT hF q1) hF q
theorem FMc.or {a b : XCd} (ha : FMc a) (hb : FMc b) : FMc (cOr a b) := fun c L M _ _ _ _ hM hT hF q => ha c L M _ _ _ _ hM hT (fun M1 h1 q1 => hb c L M1 _ _ _ _ h1 hT hF q1) q
theorem FMc.not {a : XCd} (ha : FMc a) : FMc (cNot a) := fun c L M _ _ _ _ hM hT hF q => ha c L M _ _ _ _ hM hF hT q
theorem FMs.skip : FMs sSkip := fun _ _ _ _ _ _ _ hM hn _ q => hn _ _ hM q
theorem FMs.seq {a b : XS} (ha : FMs a) (hb : FMs b) : FMs (sSeq a b) := fun c L M _ _ _ _ hM hn hr q => ha c L M _ _ _ _ hM (fun L1 M1 h1 q1 => hb c L1 M1 _ _ _ _ h1 hn hr q1) hr q
theorem FMs.set {i : Nat} {e : XE} (he : FMe e) : FMs (sSet i e) := fun c L M _ _ _ _ hM hn _ q => he L c M _ _ hM (fun _ _ h1 q1 => hn _ _ h1 q1) q
theorem FMs.inc {i : Nat} {n : Int} : FMs (sInc i n) := fun _ _ _ _ _ _ _ hM hn _ q => hn _ _ hM q
theorem FMs.pf {k : Nat} {j : Int} {e : XE} (hk : k ≠ 1000) (he : FMe e) : FMs (sPF k j e) := fun c L M _ _ _ _ hM hn _ q => he L c M _ _ hM (fun _ _ h1 q1 => hn _ _ ((st_1000 hk).trans h1) q1) q
theorem FMs.pa {k : Nat} {n : Int} {i e : XE} (hk : k ≠ 1000) (hi : FMe i) (he : FMe e) : FMs (sPA k n i e) := fun c L M _ _ _ _ hM hn _ q => hi L c M _ _ hM (fun _ M1 h1 q1 => he L c M1 _ _ h1 (fun _ _ h2 q2 => ⟨q2.1, q2.2.1, hn _ _ ((st_1000 hk).trans h2) q2.2.2⟩) q1) q
theorem FMs.pd {k : Nat} {m n : Int} {r i e : XE} (hk : (k : Int) + m ≤ 1000) (hr : FMe r) (hi : FMe i) (he : FMe e) : FMs (sPD n (eQ k m r) i e) := fun c L M _ _ _ _ hM hn _ q => hr L c M _ _ hM (fun a M1 h1 q1 => ⟨q1.1, q1.2.1, hi L c M1 _ _ h1 (fun _ M2 h2 q2 => he L c M2 _ _ h2 (fun _ _ h3 q3 => ⟨q3.1, q3.2.1, hn _ _ ((st_1000 (by have := q1.1; have := q1.2.1; omega)).trans h3) q3.2.2⟩) q2) q1.2.2⟩) q
theorem FMs.of {k : Nat} {j : Int} {f : Int → Int → Int} {e : XE} (hk : k ≠ 1000) (he : FMe e) : FMs (sOF k j f e) := fun c L M _ _ _ _ hM hn _ q => he L c M _ _ hM (fun _ _ h1 q1 => hn _ _ ((st_1000 hk).trans h1) q1) q
theorem FMs.oa {k : Nat} {n : Int} {f : Int → Int → Int} {i e : XE} (hk : k ≠ 1000) (hi : FMe i) (he : FMe e) : FMs (sOA k n i f e) := fun c L M _ _ _ _ hM hn _ q => hi L c M _ _ hM (fun _ M1 h1 q1 => ⟨q1.1, q1.2.1, he L c M1 _ _ h1 (fun _ _ h2 q2 => hn _ _ ((st_1000 hk).trans h2) q2) q1.2.2⟩) q
theorem FMs.x {e : XE} (he : FMe e) : FMs (sX e) := fun c L M _ _ _ _ hM hn _ q => he L c M _ _ hM (fun _ _ h1 q1 => hn _ _ h1 q1) q
theorem FMs.i {d : XCd} {a b : XS} (hd : FMc d) (ha : FMs a) (hb : FMs b) : FMs (sIf d a b) := fun c L M _ _ _ _ hM hn hr q => hd c L M _ _ _ _ hM (fun M1 h1 q1 => ha c L M1 _ _ _ _ h1 hn hr q1) (fun M1 h1 q1 => hb c L M1 _ _ _ _ h1 hn hr q1) q
theorem FMs.w {d : XCd} {b : XS} (hd : FMc d) (hb : FMs b) : FMs (sWhile d b) := fun c L M _ _ _ _ hM hn hr q => by
  obtain ⟨I, μ, h0, h⟩ := q
  exact ⟨fun L M => I L M ∧ M 1000 = c, μ, ⟨h0, hM⟩, fun L1 M1 hI => hd c L1 M1 _ _ _ _ hI.2 (fun M2 h2 q2 => hb c L1 M2 _ _ _ _ h2 (fun L3 M3 h3 q3 => ⟨⟨q3.1, h3⟩, q3.2⟩) hr q2) (fun M2 h2 q2 => hn _ _ h2 q2) (h L1 M1 hI.1)⟩
theorem FMs.ret {e : XE} (he : FMe e) : FMs (sRet e) := fun c L M _ _ _ _ hM _ hr q => he L c M _ _ hM (fun _ _ h1 q1 => hr _ _ h1 q1) q
theorem FMs.retB {e : XE} (he : FMe e) : FMs (sRetB e) := fun c L M _ _ _ _ hM _ hr q => he L c M _ _ hM (fun _ _ h1 q1 => ⟨q1.1, hr _ _ h1 q1.2⟩) q
theorem FMs.retV : FMs sRetV := fun _ _ _ _ _ _ _ hM _ hr q => hr _ _ hM q
theorem FMf.of {s : XS} (h : FMs s) {L : XL} : FMf (fun M Q => s (fun _ _ => False) Q L M) := fun c M _ _ hM hq q => h c L M _ _ _ _ hM (fun _ _ _ f => f.elim) hq q
theorem FMf.script {f : XM → (Int → XM → Prop) → Prop} (h : FMf f) {M : XM} {Q Q' : Int → XM → Prop} (hq : ∀ v M1, M1 1000 = M 1000 → Q v M1 → Q' v M1) (q : f M Q) : f M Q' := h _ M _ _ rfl hq q
