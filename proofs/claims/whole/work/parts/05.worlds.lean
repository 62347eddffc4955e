/-! rows of the kit under short names for their values -/
def irm (x y : Int32) : Int32 := x - x / y * y
def lrm (x y : Int64) : Int64 := x - x / y * y
def iabs (x : Int32) : Int32 := if 0 ≤ x then x else 0 - x
def imax (x y : Int32) : Int32 := if x < y then y else x
def labs (x : Int64) : Int64 := if 0 < x then x else -x
theorem sw_ne {x k : Int32} (h : ¬ x = k) : x.toInt ≠ k.toInt := fun q => h (Int32.toInt_inj.mp q)
section WRAP
variable {p : Program} {l : Launch} {e : Env} {R : Room} {s : State} {m : MethodId} {args : Array Value} {below : List Frame} {meth : Method} {c : Code} {H : Heap} {locs : List Loc} {cells slots : Nat} {Q : State → Prop}
variable {cc : ByteArray} {pc : Nat} {ls : Array Slot} {rest : List Value}
theorem lq_irem (hexec : p.tables.exec = Jvm.exec) (hb : c.code = cc) {x y : Int32} (hdg : decode cc pc = .ok (.irem, 1)) (hne : ¬ y = 0)
    (k : W p l e R s m args below meth c H locs cells slots Q (F0 m (pc + 1) ls (.int (irm x y) :: rest))) : W p l e R s m args below meth c H locs cells slots Q (F0 m pc ls (.int y :: .int x :: rest)) := lv_irem hexec hb hdg hne k
theorem lq_lrem (hexec : p.tables.exec = Jvm.exec) (hb : c.code = cc) {x y : Int64} (hdg : decode cc pc = .ok (.lrem, 1)) (hne : ¬ y = 0)
    (k : W p l e R s m args below meth c H locs cells slots Q (F0 m (pc + 1) ls (.long (lrm x y) :: rest))) : W p l e R s m args below meth c H locs cells slots Q (F0 m pc ls (.long y :: .long x :: rest)) := lv_lrem hexec hb hdg hne k
theorem lq_max (hexec : p.tables.exec = Jvm.exec) (hb : c.code = cc) (hml : c.maxLocals = ls.size) {own : String} {index : Nat} (hown : s.vm.findClass own = some m.cls) (hlink : (Cond.methodLink own index Lib.Math.max.name).before args s = true) (hstat : (Cond.static Lib.Math.max.name).before args s = true) (hini : (Cond.initialized "java/lang/Math").before args s = true) (hcode : (Cond.code Lib.Math.max.name Lib.Math.max.code 2 (some .int)).before args s = true)
    (hframes : 1 ≤ R.frames) (hlocals : (rest.map fun v => v.category).sum + 13 ≤ R.locals) (hc : cells ≤ R.cells) (hs : slots ≤ R.slots) {x y : Int32} (hdg : decode cc pc = .ok (.invokestatic index, 3))
    (kk : W p l e R s m args below meth c H locs cells slots Q (F0 m (pc + 3) ls (.int (imax x y) :: rest))) : W p l e R s m args below meth c H locs cells slots Q (F0 m pc ls (.int y :: .int x :: rest)) := va_mmax hexec hb hml hown hlink hstat hini hcode hframes hlocals hc hs hdg kk
theorem lq_abs (hexec : p.tables.exec = Jvm.exec) (hb : c.code = cc) (hml : c.maxLocals = ls.size) {own : String} {index : Nat} (hown : s.vm.findClass own = some m.cls) (hlink : (Cond.methodLink own index Lib.Math.abs.name).before args s = true) (hstat : (Cond.static Lib.Math.abs.name).before args s = true) (hini : (Cond.initialized "java/lang/Math").before args s = true) (hcode : (Cond.code Lib.Math.abs.name Lib.Math.abs.code 1 (some .int)).before args s = true)
    (hframes : 1 ≤ R.frames) (hlocals : (rest.map fun v => v.category).sum + 13 ≤ R.locals) (hc : cells ≤ R.cells) (hs : slots ≤ R.slots) {x : Int32} (hdg : decode cc pc = .ok (.invokestatic index, 3))
    (kk : W p l e R s m args below meth c H locs cells slots Q (F0 m (pc + 3) ls (.int (iabs x) :: rest))) : W p l e R s m args below meth c H locs cells slots Q (F0 m pc ls (.int x :: rest)) := va_mabs hexec hb hml hown hlink hstat hini hcode hframes hlocals hc hs hdg kk
theorem lq_labs (hexec : p.tables.exec = Jvm.exec) (hb : c.code = cc) (hml : c.maxLocals = ls.size) {own : String} {index : Nat} (hown : s.vm.findClass own = some m.cls) (hlink : (Cond.methodLink own index Lib.MathLoose.abs_long.x).before args s = true) (hstat : (Cond.static Lib.MathLoose.abs_long.x).before args s = true) (hini : (Cond.initialized "java/lang/Math").before args s = true) (hcode : (Cond.code Lib.MathLoose.abs_long.x Lib.MathLoose.abs_long.code 2 (some .long)).before args s = true)
    (hframes : 1 ≤ R.frames) (hlocals : (rest.map fun v => v.category).sum + 13 ≤ R.locals) (hc : cells ≤ R.cells) (hs : slots ≤ R.slots) {x : Int64} (hdg : decode cc pc = .ok (.invokestatic index, 3))
    (kk : W p l e R s m args below meth c H locs cells slots Q (F0 m (pc + 3) ls (.long (labs x) :: rest))) : W p l e R s m args below meth c H locs cells slots Q (F0 m pc ls (.long x :: rest)) := va_mabs_long hexec hb hml hown hlink hstat hini hcode hframes hlocals hc hs hdg kk
end WRAP
/-! the worlds -/
def B0 (_ : State) (_ : Heap) : Prop := True
theorem mv0 : Mv B0 := fun _ _ _ _ _ => trivial
def allv (j : Nat) : Int32 := ([0, 2, 3, 5, 7, 11, 13, 17, 19, 23, 29, 31, 37, 41, 43, 47, 53, 59, 61, 67, 71, 73, 79, 83, 89, 97, 101, 103, 107, 109, 113, 127, 131, 137, 139, 149, 151, 157, 163, 167, 173, 179, 181, 191, 193, 197, 199, 211, 223, 227, 229, 233, 239, 241, 251, 257, 263, 269, 271, 277, 281, 283, 293, 307, 311, 313, 317, 331, 337, 347, 349, 353, 359, 367, 373, 379, 383, 389, 397] : List Int32).getD j 0
def trcv (j : Nat) : Int32 := ([1, 11, 111] : List Int32).getD j 0
/-- the classes, the arrays' classes, the two static arrays, apart from A -/
def eB (A : Nat → Prop) (G : va_G) (cI cF : ClassId) (tA tT : Nat) (U : State) (H : Heap) : Prop :=
  va_K G vwCl [(cI, .int), (cF, .object "RingForms$Form")] U ∧ (va_Z "RingForms$Places" "ALL" "[I" (.ref tA) A U H ∧ va_T .int tA 79 (fun j => .int (allv j)) A U H) ∧ (va_Z "RingForms" "TRACES" "[I" (.ref tT) A U H ∧ va_T .int tT 3 (fun j => .int (trcv j)) A U H)
theorem eB_mv {A : Nat → Prop} {G : va_G} {cI cF : ClassId} {tA tT : Nat} : Mv (eB A G cI cF tA tT) := fun _ _ _ hv h => ⟨va_K.moved hv h.1, ⟨h.2.1.1.moved hv, h.2.1.2.moved hv⟩, ⟨h.2.2.1.moved hv, h.2.2.2.moved hv⟩⟩
theorem eB_kept {A : Nat → Prop} {G : va_G} {cI cF : ClassId} {tA tT : Nat} {U : State} {H H1 : Heap} (h : eB A G cI cF tA tT U H) (hq : ∀ a : Nat, a < H.size → ¬ A a → H1[a]? = H[a]?) : eB A G cI cF tA tT U H1 := ⟨h.1, ⟨h.2.1.1.kept hq, h.2.1.2.kept hq⟩, ⟨h.2.2.1.kept hq, h.2.2.2.kept hq⟩⟩
/-- a Form: its object and its coefficients -/
abbrev fW (q qc : Nat) (cI : ClassId) (n : Int32) (f : Nat → Int32) : va_W := [(q, .inr (0, [.int n, .ref qc])), (qc, .inl (cI, 6, .inl f))]
def fB (A : Nat → Prop) (G : va_G) (cI cF : ClassId) (tA tT : Nat) (q qc : Nat) (n : Int32) (f : Nat → Int32) (U : State) (H : Heap) : Prop := eB A G cI cF tA tT U H ∧ va_P G vwCl (fW q qc cI n f) H
theorem fB_mv {A : Nat → Prop} {G : va_G} {cI cF : ClassId} {tA tT q qc : Nat} {n : Int32} {f : Nat → Int32} : Mv (fB A G cI cF tA tT q qc n f) := fun _ _ _ hv h => ⟨eB_mv _ _ _ hv h.1, h.2⟩
/-- two Forms, perhaps one -/
def f2B (A : Nat → Prop) (G : va_G) (cI cF : ClassId) (tA tT : Nat) (q qc : Nat) (n : Int32) (f : Nat → Int32) (q2 qc2 : Nat) (n2 : Int32) (f2 : Nat → Int32) (U : State) (H : Heap) : Prop := eB A G cI cF tA tT U H ∧ va_P G vwCl (fW q qc cI n f) H ∧ va_P G vwCl (fW q2 qc2 cI n2 f2) H
theorem f2B_mv {A : Nat → Prop} {G : va_G} {cI cF : ClassId} {tA tT q qc : Nat} {n : Int32} {f : Nat → Int32} {q2 qc2 : Nat} {n2 : Int32} {f2 : Nat → Int32} : Mv (f2B A G cI cF tA tT q qc n f q2 qc2 n2 f2) := fun _ _ _ hv h => ⟨eB_mv _ _ _ hv h.1, h.2⟩
/-- the whole object -/
def cW (cI cF : ClassId) (o sh xx xc gv se : Nat) (fa ca : Nat → Nat) (n : Nat → Int32) (f : Nat → Nat → Int32) (xn : Int32) (xf gf : Nat → Int32) (s0 s1 s2 s3 s4 : Int32) (tr : Int64) : va_W :=
  [(o, .inr (2, [.ref sh, .ref xx, .ref gv, .ref se, .long tr])), (sh, .inl (cF, 4, .inr (.inr (.inr (.inr (fun j => some (fa j))))))), (xx, .inr (0, [.int xn, .ref xc])), (xc, .inl (cI, 6, .inl xf)), (gv, .inl (cI, 5, .inl gf)), (se, .inr (1, [.int s0, .int s1, .int s2, .int s3, .int s4])),
   (fa 0, .inr (0, [.int (n 0), .ref (ca 0)])), (ca 0, .inl (cI, 6, .inl (f 0))), (fa 1, .inr (0, [.int (n 1), .ref (ca 1)])), (ca 1, .inl (cI, 6, .inl (f 1))), (fa 2, .inr (0, [.int (n 2), .ref (ca 2)])), (ca 2, .inl (cI, 6, .inl (f 2))), (fa 3, .inr (0, [.int (n 3), .ref (ca 3)])), (ca 3, .inl (cI, 6, .inl (f 3)))]
def cB (A : Nat → Prop) (G : va_G) (cI cF : ClassId) (tA tT : Nat) (o sh xx xc gv se : Nat) (fa ca : Nat → Nat) (n : Nat → Int32) (f : Nat → Nat → Int32) (xn : Int32) (xf gf : Nat → Int32) (s0 s1 s2 s3 s4 : Int32) (tr : Int64) (U : State) (H : Heap) : Prop :=
  eB A G cI cF tA tT U H ∧ va_P G vwCl (cW cI cF o sh xx xc gv se fa ca n f xn xf gf s0 s1 s2 s3 s4 tr) H
theorem cB_mv {A : Nat → Prop} {G : va_G} {cI cF : ClassId} {tA tT o sh xx xc gv se : Nat} {fa ca : Nat → Nat} {n : Nat → Int32} {f : Nat → Nat → Int32} {xn : Int32} {xf gf : Nat → Int32} {s0 s1 s2 s3 s4 : Int32} {tr : Int64} : Mv (cB A G cI cF tA tT o sh xx xc gv se fa ca n f xn xf gf s0 s1 s2 s3 s4 tr) := fun _ _ _ hv h => ⟨eB_mv _ _ _ hv h.1, h.2⟩
theorem vin_lt {i : Int32} {k : Nat} (h : ¬ (i < 0 ∨ k ≤ i.toNatClampNeg)) : i.toNatClampNeg < k := Nat.not_le.mp fun q => h (Or.inr q)
theorem cP_form {G : va_G} {cI cF : ClassId} {o sh xx xc gv se : Nat} {fa ca : Nat → Nat} {n : Nat → Int32} {f : Nat → Nat → Int32} {xn : Int32} {xf gf : Nat → Int32} {s0 s1 s2 s3 s4 : Int32} {tr : Int64} {H : Heap} (hP : va_P G vwCl (cW cI cF o sh xx xc gv se fa ca n f xn xf gf s0 s1 s2 s3 s4 tr) H) {j : Nat} (hj : j < 4) : va_P G vwCl (fW (fa j) (ca j) cI (n j) (f j)) H := by
  rcases (show j = 0 ∨ j = 1 ∨ j = 2 ∨ j = 3 by omega) with rfl | rfl | rfl | rfl
  · exact hP.sub [6, 7] rfl
  · exact hP.sub [8, 9] rfl
  · exact hP.sub [10, 11] rfl
  · exact hP.sub [12, 13] rfl
section CAALD
variable {p : Program} {l : Launch} {e : Env} {R : Room} {s : State} {m : MethodId} {args : Array Value} {below : List Frame} {meth : Method} {c : Code} {H : Heap} {locs : List Loc} {cells slots : Nat} {Q : State → Prop}
variable {cc : ByteArray} {pc : Nat} {ls : Array Slot} {rest : List Value}
theorem c_aald {G : va_G} {cI cF : ClassId} {o sh xx xc gv se : Nat} {fa ca : Nat → Nat} {n : Nat → Int32} {f : Nat → Nat → Int32} {xn : Int32} {xf gf : Nat → Int32} {s0 s1 s2 s3 s4 : Int32} {tr : Int64} (hexec : p.tables.exec = Jvm.exec) (hb : c.code = cc) (hK : va_K G vwCl [(cI, .int), (cF, .object "RingForms$Form")] s) (hP : va_P G vwCl (cW cI cF o sh xx xc gv se fa ca n f xn xf gf s0 s1 s2 s3 s4 tr) H) {i : Int32} (hin : vp_in i 4) (hdg : decode cc pc = .ok (.aaload, 1))
    (kk : W p l e R s m args below meth c H locs cells slots Q (F0 m (pc + 1) ls (.ref (fa i.toNatClampNeg) :: rest))) : W p l e R s m args below meth c H locs cells slots Q (F0 m pc ls (.int i :: .ref sh :: rest)) :=
  va_aldq hexec hb hK hP 1 1 rfl rfl hin hdg kk
end CAALD
/-- the reference: its object, its sizes, its rows; what it threw and the last exponent are nobody's business -/
def mW (h0 hs hr : Nat) (cI : ClassId) (th : Int32) (tr : Int64) (sz rw : Nat → Int32) (bx by_ bz bm so ex : Int32) : va_W :=
  [(h0, .inr (3, [.int th, .long tr, .ref hs, .ref hr, .int bx, .int by_, .int bz, .int bm, .int so, .int ex])), (hs, .inl (cI, 4, .inl sz)), (hr, .inl (cI, 24, .inl rw))]
def mB (G : va_G) (h0 hs hr : Nat) (cI cF : ClassId) (tr : Int64) (sz rw : Nat → Int32) (bx by_ bz bm so : Int32) (U : State) (H : Heap) : Prop :=
  (∃ th ex : Int32, va_P G vwCl (mW h0 hs hr cI th tr sz rw bx by_ bz bm so ex) H) ∧ va_K G vwCl [(cI, .int), (cF, .object "RingForms$Form")] U
theorem mB_mv {G : va_G} {h0 hs hr : Nat} {cI cF : ClassId} {tr : Int64} {sz rw : Nat → Int32} {bx by_ bz bm so : Int32} : Mv (mB G h0 hs hr cI cF tr sz rw bx by_ bz bm so) := fun _ _ _ hv h => ⟨h.1, va_K.moved hv h.2⟩
def mBe (G : va_G) (h0 hs hr : Nat) (cI cF : ClassId) (tr : Int64) (sz rw : Nat → Int32) (bx by_ bz bm so : Int32) (ex : Int32) (U : State) (H : Heap) : Prop :=
  (∃ th : Int32, va_P G vwCl (mW h0 hs hr cI th tr sz rw bx by_ bz bm so ex) H) ∧ va_K G vwCl [(cI, .int), (cF, .object "RingForms$Form")] U
theorem mBe_mv {G : va_G} {h0 hs hr : Nat} {cI cF : ClassId} {tr : Int64} {sz rw : Nat → Int32} {bx by_ bz bm so ex : Int32} : Mv (mBe G h0 hs hr cI cF tr sz rw bx by_ bz bm so ex) := fun _ _ _ hv h => ⟨h.1, va_K.moved hv h.2⟩
def mA (h0 hs hr : Nat) (q : Nat) : Prop := q = h0 ∨ q = hs ∨ q = hr
def mAp (h0 hs hr : Nat) : Prop := h0 ≠ hs ∧ h0 ≠ hr ∧ hs ≠ hr
theorem mD {h0 hs hr : Nat} (hap : mAp h0 hs hr) {cI : ClassId} {th : Int32} {tr : Int64} {sz rw : Nat → Int32} {bx by_ bz bm so ex : Int32} : va_D (mA h0 hs hr) (mW h0 hs hr cI th tr sz rw bx by_ bz bm so ex) := by
  obtain ⟨h1, h2, h3⟩ := hap
  refine ⟨fun i j p q hi hj hpq => ?_, fun k q hk => ?_⟩
  · match i, j, hi, hj with
    | 0, 0, _, _ => rfl
    | 1, 1, _, _ => rfl
    | 2, 2, _, _ => rfl
    | 0, 1, hi, hj => cases hi; cases hj; exact absurd hpq h1
    | 0, 2, hi, hj => cases hi; cases hj; exact absurd hpq h2
    | 1, 0, hi, hj => cases hi; cases hj; exact absurd hpq.symm h1
    | 1, 2, hi, hj => cases hi; cases hj; exact absurd hpq h3
    | 2, 0, hi, hj => cases hi; cases hj; exact absurd hpq.symm h2
    | 2, 1, hi, hj => cases hi; cases hj; exact absurd hpq.symm h3
    | i + 3, _, hi, _ => simp [mW] at hi
    | _, j + 3, _, hj => simp [mW] at hj
  · match k, hk with
    | 0, hk => cases hk; exact Or.inl rfl
    | 1, hk => cases hk; exact Or.inr (Or.inl rfl)
    | 2, hk => cases hk; exact Or.inr (Or.inr rfl)
    | k + 3, hk => simp [mW] at hk
