/-! guards, branches, binds of the pure functions -/
theorem pg {α : Type} {c : Prop} [Decidable c] {A : Option α} {r : α} (h : (if c then A else none) = some r) : c ∧ A = some r := by
  by_cases hc : c
  · rw [if_pos hc] at h; exact ⟨hc, h⟩
  · rw [if_neg hc] at h; cases h
theorem pt {α : Type} {c : Prop} [Decidable c] {A B r : α} (hc : c) (h : (if c then A else B) = r) : A = r := by rw [if_pos hc] at h; exact h
theorem pf {α : Type} {c : Prop} [Decidable c] {A B r : α} (hc : ¬ c) (h : (if c then A else B) = r) : B = r := by rw [if_neg hc] at h; exact h
/-- a branch on 'not' : the true side first -/
theorem pnt {α : Type} {c : Prop} [Decidable c] {A B r : α} (hc : c) (h : (if ¬ c then A else B) = r) : B = r := by rw [if_neg (fun q => q hc)] at h; exact h
theorem pb {α β : Type} {x : Option β} {K : β → Option α} {r : α} (h : x.bind K = some r) : ∃ v, x = some v ∧ K v = some r := Option.bind_eq_some_iff.mp h
theorem pe {α : Type} {v r : α} (h : some v = some r) : v = r := Option.some.inj h
theorem nbool {v : Int32} (h : v &&& 1 = v) : narrow .boolean (.int v) = .int v := by
  show Value.int _ = _
  first | exact congrArg Value.int h | (simp only [Value.int.injEq]; exact h)
/-- what the tables and the heap hold, whatever the tables' warmth -/
def Mv (B : State → Heap → Prop) : Prop := ∀ (u U : State) (H : Heap), u.vm.Alike U.vm → B u H → B U H
def rmk (fr lo : Nat) : Room := { frames := fr, cells := 0, slots := 0, locals := lo }
/-- a method that changes nothing -/
def Ro (l : Launch) (y : MethodName) (c : ByteArray) (n : Nat) (rt : Option FieldType) (fr lo : Nat) (As : List Value) (B : State → Heap → Prop) (v : Value) : Prop :=
  Met l y (wl y c n rt) (rmk fr lo) (fun a U => a = As.toArray ∧ B U U.heap) (fun _ st o t => o = .returned (some v) ∧ t.heap = st.heap) 0 0 (fun _ => False)
/-- a method that changes cells of A alone and makes none -/
def Mu (l : Launch) (y : MethodName) (c : ByteArray) (n : Nat) (rt : Option FieldType) (fr lo : Nat) (As : List Value) (A : Nat → Prop) (B B' : State → Heap → Prop) (ov : Option Value) : Prop :=
  Met l y (wl y c n rt) (rmk fr lo) (fun a U => a = As.toArray ∧ B U U.heap) (fun _ st o t => o = .returned ov ∧ B' t t.heap ∧ va_F A st t) 0 0 A
abbrev Sy (y : MethodName) (c : ByteArray) (n : Nat) (rt : Option FieldType) (k : Nat) : Prop :=
  Cond.code y c n rt ∈ tb ∧ Cond.static y ∈ tb ∧ Cond.initialized y.cls ∈ tb ∧ (y.cls ≠ "java/lang/invoke/MethodHandle" ∧ y.cls ≠ "java/lang/invoke/VarHandle" ∧ (parseMethodDescriptor y.desc).map (fun d => d.parameters.length) = some k)
abbrev Vy (y : MethodName) (c : ByteArray) (n : Nat) (rt : Option FieldType) (k : Nat) : Prop :=
  Cond.code y c n rt ∈ tb ∧ (Cond.instanceMethod y ∈ tb ∧ Cond.selects y.cls y y ∈ tb) ∧ Cond.initialized y.cls ∈ tb ∧ (y.cls ≠ "java/lang/invoke/MethodHandle" ∧ y.cls ≠ "java/lang/invoke/VarHandle" ∧ (parseMethodDescriptor y.desc).map (fun d => d.parameters.length) = some k)
section BASE
variable {p : Program} {l : Launch} {e : Env} {R : Room} {s : State} {m : MethodId} {args : Array Value} {below : List Frame} {meth : Method} {cd : Code} {H : Heap} {locs : List Loc} {cells slots : Nat} {Q : State → Prop}
variable {y : MethodName} {bytes cc : ByteArray} {maxL nL k index fr lo pc : Nat} {rt : Option FieldType} {Ts : List Cond} {own : String} {As rest st0 : List Value} {B B' : State → Heap → Prop} {v : Value} {ls : Array Slot} {b : Nat} {A A0 : Nat → Prop} {H0 : Heap} {ov : Option Value}
theorem ro_run (hr : va_Run p l e R s m args below meth cd H locs cells slots 0 0 (F0 m pc ls st0) rest (fun st o t => o = .returned (some v) ∧ t.heap = st.heap) (fun _ => False))
    (kk : W p l e R s m args below meth cd H locs cells slots Q (F0 m (pc + 3) ls (v :: rest))) : W p l e R s m args below meth cd H locs cells slots Q (F0 m pc ls st0) := by
  intro T hT X
  obtain ⟨v', st₀, t, T', L, h0, X', hL, e1, e2, ⟨hv, hh⟩, st⟩ := hr T hT X
  cases hv
  have hL0 : L = [] := by
    cases L with
    | nil => rfl
    | cons a L => exact absurd (hL a List.mem_cons_self) id
  subst hL0
  rw [List.append_nil] at X'
  obtain ⟨t2, a1, b1⟩ := kk T' (by rw [e1, hh, h0]) X'
  exact ⟨t2, st t2 a1, b1⟩
theorem mu_run (hr : va_Run p l e R s m args below meth cd H locs cells slots 0 0 (F0 m pc ls st0) rest (fun st o t => o = .returned ov ∧ B' t t.heap ∧ va_F A st t) A)
    (hmv : Mv B') (hS : va_S A0 H0 H locs) (hA : ∀ q, A q → A0 q)
    (kk : ∀ (H1 : Heap) (locs1 : List Loc), B' s H1 → H.size ≤ H1.size → (∀ q : Nat, q < H.size → ¬ A q → H1[q]? = H[q]?) → va_S A0 H0 H1 locs1 → W p l e R s m args below meth cd H1 locs1 cells slots Q (F0 m (pc + 3) ls (ov.toList ++ rest))) : W p l e R s m args below meth cd H locs cells slots Q (F0 m pc ls st0) := by
  intro T hT X
  obtain ⟨v', st₀, t, T', L, h0, X', hL, e1, e2, ⟨hv, hB, hz, hk⟩, st⟩ := hr T hT X
  cases hv
  rw [h0] at hz hk
  have hal : s.vm.Alike t.vm := by rw [← e2]; exact X'.warmed.alike
  obtain ⟨t2, a1, b1⟩ := kk T'.heap (locs ++ L) (by rw [e1]; exact hmv _ _ _ hal.symm hB) (by rw [e1]; exact hz) (fun q h1 h2 => by rw [e1]; exact hk q h1 h2)
    ⟨Nat.le_trans hS.1 (by rw [e1]; exact hz), fun q h1 h2 => by rw [e1, hk q (Nat.lt_of_lt_of_le h1 hS.1) (fun z => h2 (hA q z))]; exact hS.2.1 q h1 h2, fun q hq => by
      rcases List.mem_append.mp hq with h | h
      · exact hS.2.2 q h
      · exact hA _ (hL q h)⟩ T' rfl X'
  exact ⟨t2, st t2 a1, b1⟩
theorem pre_S (hmv : Mv B) (hB : B s H) : PreS s H (fun a U => a = As.toArray ∧ B U U.heap) As :=
  ⟨fun a U g mk q => ⟨q.1, hmv U (U.calling g mk a) U.heap (Vm.Alike.refl U.vm) q.2⟩, fun U hU hW => ⟨rfl, hmv s U U.heap hW.alike (by rw [hU]; exact hB)⟩⟩
theorem pre_V {C : String} (hmv : Mv B) (hB : B s H) (hc : ∃ cellB : Cell, H[b]? = some cellB ∧ cellB.vm.isStatics = false ∧ s.vm.findClass C = some cellB.cls) : PreV s H C b (fun a U => a = (Value.ref b :: As).toArray ∧ B U U.heap) As :=
  ⟨fun a U g mk q => ⟨q.1, hmv U (U.calling g mk a) U.heap (Vm.Alike.refl U.vm) q.2⟩, hc, fun U hU hW => ⟨rfl, hmv s U U.heap hW.alike (by rw [hU]; exact hB)⟩⟩
/-- a call of a static method that changes nothing -/
theorem ro_S (S : CallFix p m cd cc nL s args Ts own) (hTs : ∀ w ∈ tb, w ∈ Ts) (hM : Ro l y bytes maxL rt fr lo As B v) (hy : Sy y bytes maxL rt k) (hl : Cond.methodLink own index y ∈ tb)
    (hR : fr + 1 ≤ R.frames ∧ 8 + (maxL + 11) + lo ≤ R.locals) (hmv : Mv B) (hB : B s H) (hn : As.length = k) (hsize : ls.size = nL) (hst : st0 = As.reverse ++ rest) (hW : (rest.map fun v => v.category).sum ≤ 8) (hdg : decode cc pc = .ok (.invokestatic index, 3)) (hf : cells ≤ R.cells ∧ slots ≤ R.slots)
    (kk : W p l e R s m args below meth cd H locs cells slots Q (F0 m (pc + 3) ls (v :: rest))) : W p l e R s m args below meth cd H locs cells slots Q (F0 m pc ls st0) := by
  have hts := S.2.2.2.2
  exact ro_run (va_runS S hM ⟨callB_of k hts (wl_good hTs hy.1) rfl rfl rfl (hts _ (hTs _ hy.2.2.1)) (hts _ (hTs _ hl)) hy.2.2.2 hR, hts _ (hTs _ hy.2.1)⟩ (pre_S hmv hB) rfl hn hsize hst (lv_room hW) hdg hf) kk
/-- a call of an instance method that changes nothing -/
theorem ro_V (S : CallFix p m cd cc nL s args Ts own) (hTs : ∀ w ∈ tb, w ∈ Ts) (hM : Ro l y bytes maxL rt fr lo (.ref b :: As) B v) (hy : Vy y bytes maxL rt k) (hl : Cond.methodLink own index y ∈ tb)
    (hR : fr + 1 ≤ R.frames ∧ 8 + (maxL + 11) + lo ≤ R.locals) (hmv : Mv B) (hB : B s H) (hc : ∃ cellB : Cell, H[b]? = some cellB ∧ cellB.vm.isStatics = false ∧ s.vm.findClass y.cls = some cellB.cls) (hn : As.length = k) (hsize : ls.size = nL) (hst : st0 = As.reverse ++ .ref b :: rest) (hW : (rest.map fun v => v.category).sum ≤ 8) (hdg : decode cc pc = .ok (.invokevirtual index, 3)) (hf : cells ≤ R.cells ∧ slots ≤ R.slots)
    (kk : W p l e R s m args below meth cd H locs cells slots Q (F0 m (pc + 3) ls (v :: rest))) : W p l e R s m args below meth cd H locs cells slots Q (F0 m pc ls st0) := by
  have hts := S.2.2.2.2
  exact ro_run (va_runV S hM ⟨callB_of k hts (wl_good hTs hy.1) rfl rfl rfl (hts _ (hTs _ hy.2.2.1)) (hts _ (hTs _ hl)) hy.2.2.2 hR, hts _ (hTs _ hy.2.1.1), hts _ (hTs _ hy.2.1.2)⟩ (pre_V hmv hB hc) rfl hn hsize hst (lv_room hW) hdg hf) kk
/-- a call of an instance method that changes cells of A -/
theorem mu_V (S : CallFix p m cd cc nL s args Ts own) (hTs : ∀ w ∈ tb, w ∈ Ts) (hM : Mu l y bytes maxL rt fr lo (.ref b :: As) A B B' ov) (hy : Vy y bytes maxL rt k) (hl : Cond.methodLink own index y ∈ tb)
    (hR : fr + 1 ≤ R.frames ∧ 8 + (maxL + 11) + lo ≤ R.locals) (hmv : Mv B) (hmv' : Mv B') (hB : B s H) (hc : ∃ cellB : Cell, H[b]? = some cellB ∧ cellB.vm.isStatics = false ∧ s.vm.findClass y.cls = some cellB.cls) (hS : va_S A0 H0 H locs) (hA : ∀ q, A q → A0 q) (hn : As.length = k) (hsize : ls.size = nL) (hst : st0 = As.reverse ++ .ref b :: rest) (hW : (rest.map fun v => v.category).sum ≤ 8) (hdg : decode cc pc = .ok (.invokevirtual index, 3)) (hf : cells ≤ R.cells ∧ slots ≤ R.slots)
    (kk : ∀ (H1 : Heap) (locs1 : List Loc), B' s H1 → H.size ≤ H1.size → (∀ q : Nat, q < H.size → ¬ A q → H1[q]? = H[q]?) → va_S A0 H0 H1 locs1 → W p l e R s m args below meth cd H1 locs1 cells slots Q (F0 m (pc + 3) ls (ov.toList ++ rest))) : W p l e R s m args below meth cd H locs cells slots Q (F0 m pc ls st0) := by
  have hts := S.2.2.2.2
  exact mu_run (va_runV S hM ⟨callB_of k hts (wl_good hTs hy.1) rfl rfl rfl (hts _ (hTs _ hy.2.2.1)) (hts _ (hTs _ hl)) hy.2.2.2 hR, hts _ (hTs _ hy.2.1.1), hts _ (hTs _ hy.2.1.2)⟩ (pre_V hmv hB hc) rfl hn hsize hst (lv_room hW) hdg hf) hmv' hS hA kk
end BASE
/-- as Met.ofW, for methods of java.lang.Math too that no native stands for -/
theorem met_ofW {l : Launch} {y : MethodName} {ws ws' : List Cond} {rm : Room} {Pc : Array Value → State → Prop} {Qc : Array Value → State → Outcome → State → Prop} {mc ms : Nat} {free : Addr → Prop} {cc : ByteArray} {maxL : Nat} {ret : Option FieldType}
    (hy : plainFor y = true) (hw : ws = Cond.code y cc maxL ret :: ws')
    (body : ∀ p e s m args below meth c s₁, BodyLoose p l y (headSpec ws rm) cc maxL ret e s m args below meth c s₁ → c.maxLocals = maxL → Pc args s →
      W p l e (headSpec ws rm).room s m args below meth c s.heap [] 0 0 (MQ below Qc args s mc ms free) (entryFrame m args maxL)) : Met l y ws rm Pc Qc mc ms free := by
  refine MetFree.of_bodySF (code := cc) (maxLocals := maxL) (ret := ret) hy ?_ ?_
  · intro args s m h hn
    obtain ⟨meth, c, h1, h2, h3, h4, h5, h6, -, -⟩ := Cond.code_spec hn (atoms_spec (ws := ws) h _ (by rw [hw]; exact List.mem_cons_self))
    exact ⟨meth, c, h1, h2, h3, h4, h5, h6⟩
  · intro p e s m args below meth c s₁ B hml hP _
    have hh0 : s₁.heap = s.heap := by rw [B.state]; rfl
    obtain ⟨t, a1, o, b1, b2, b3⟩ := body p e s m args below meth c s₁ B hml hP s₁ hh0 (Stand.of_body B)
    exact ⟨t, o, a1, b1, b2, ⟨b3.1, b3.2⟩⟩
/-! entries -/
abbrev RoBody (l : Launch) (y : MethodName) (c : ByteArray) (n : Nat) (rt : Option FieldType) (fr lo : Nat) (As : List Value) (B : State → Heap → Prop) (E : (Nat → Array Slot → Value → Prop) → Prop) : Prop :=
  ∀ (p : Program) (e : Env) (s : State) (m : MethodId) (args : Array Value) (below : List Frame) (meth : Method) (cd : Code) (Q : State → Prop) (ls : Array Slot), CallFix p m cd c n s args (wl y c n rt) y.cls → B s s.heap → lv_has ls n (lv_args 0 As) →
    E (fun pc ls x => W p l e (rmk fr lo) s m args below meth cd s.heap [] 0 0 Q (F0 m pc ls [x])) → W p l e (rmk fr lo) s m args below meth cd s.heap [] 0 0 Q (F0 m 0 ls [])
theorem ro_i {l : Launch} {y : MethodName} {c : ByteArray} {n fr lo : Nat} {As : List Value} {B : State → Heap → Prop} {v : Int32} (hy : plainFor y = true) (hn : (lg_sl As).length ≤ n)
    (body : RoBody l y c n (some .int) fr lo As B (fun E => ∀ (pc : Nat) (ls : Array Slot) (x : Int32), x = v → decode c pc = .ok (.ireturn, 1) → E pc ls (.int x))) : Ro l y c n (some .int) fr lo As B (.int v) := by
  refine met_ofW (cc := c) (maxL := n) (ret := some .int) hy rfl ?_
  intro p e s m args below meth cd s₁ Bd hml hv
  obtain ⟨rfl, hB⟩ := hv
  have hx := Bd.exec
  have hb := Bd.bytes
  have hr := Bd.returns
  have hts := atoms_spec (ws := wl y c n (some .int)) Bd.pre
  have hown : s.vm.findClass y.cls = some m.cls := findClass_of_methodNamed Bd.named
  have hlocks := Bd.notSynchronized
  have hl := lv_entry As (n := n) hn
  rw [lg_entry_eq]
  exact body p e s m _ below meth cd _ _ ⟨hx, hb, hml, hown, hts⟩ hB hl (fun pc ls x hxv hd => W.iret hx hb hr (fun t ht _ => ⟨by rw [hxv], ht⟩) (fun q hq => by cases hq) hd)
theorem ro_z {l : Launch} {y : MethodName} {c : ByteArray} {n fr lo : Nat} {As : List Value} {B : State → Heap → Prop} {v : Int32} (hy : plainFor y = true) (hn : (lg_sl As).length ≤ n)
    (body : RoBody l y c n (some .boolean) fr lo As B (fun E => ∀ (pc : Nat) (ls : Array Slot) (x : Int32), x = v → narrow .boolean (.int x) = .int x → decode c pc = .ok (.ireturn, 1) → E pc ls (.int x))) : Ro l y c n (some .boolean) fr lo As B (.int v) := by
  refine met_ofW (cc := c) (maxL := n) (ret := some .boolean) hy rfl ?_
  intro p e s m args below meth cd s₁ Bd hml hv
  obtain ⟨rfl, hB⟩ := hv
  have hx := Bd.exec
  have hb := Bd.bytes
  have hr := Bd.returns
  have hts := atoms_spec (ws := wl y c n (some .boolean)) Bd.pre
  have hown : s.vm.findClass y.cls = some m.cls := findClass_of_methodNamed Bd.named
  have hlocks := Bd.notSynchronized
  have hl := lv_entry As (n := n) hn
  rw [lg_entry_eq]
  exact body p e s m _ below meth cd _ _ ⟨hx, hb, hml, hown, hts⟩ hB hl (fun pc ls x hxv hnr hd => W.zret hx hb hr hnr (fun t ht _ => ⟨by rw [hxv], ht⟩) (fun q hq => by cases hq) hd)
theorem ro_l {l : Launch} {y : MethodName} {c : ByteArray} {n fr lo : Nat} {As : List Value} {B : State → Heap → Prop} {v : Int64} (hy : plainFor y = true) (hn : (lg_sl As).length ≤ n)
    (body : RoBody l y c n (some .long) fr lo As B (fun E => ∀ (pc : Nat) (ls : Array Slot) (x : Int64), x = v → decode c pc = .ok (.lreturn, 1) → E pc ls (.long x))) : Ro l y c n (some .long) fr lo As B (.long v) := by
  refine met_ofW (cc := c) (maxL := n) (ret := some .long) hy rfl ?_
  intro p e s m args below meth cd s₁ Bd hml hv
  obtain ⟨rfl, hB⟩ := hv
  have hx := Bd.exec
  have hb := Bd.bytes
  have hr := Bd.returns
  have hts := atoms_spec (ws := wl y c n (some .long)) Bd.pre
  have hown : s.vm.findClass y.cls = some m.cls := findClass_of_methodNamed Bd.named
  have hlocks := Bd.notSynchronized
  have hl := lv_entry As (n := n) hn
  rw [lg_entry_eq]
  exact body p e s m _ below meth cd _ _ ⟨hx, hb, hml, hown, hts⟩ hB hl (fun pc ls x hxv hd => W.lret hx hb hr (fun t ht _ => ⟨by rw [hxv], ht⟩) (fun q hq => by cases hq) hd)
abbrev MuBody (l : Launch) (y : MethodName) (c : ByteArray) (n : Nat) (rt : Option FieldType) (fr lo : Nat) (As : List Value) (A : Nat → Prop) (B B' : State → Heap → Prop) (E : (Heap → List Loc → Nat → Array Slot → List Value → State → Prop) → Prop) : Prop :=
  ∀ (p : Program) (e : Env) (s : State) (m : MethodId) (args : Array Value) (below : List Frame) (meth : Method) (cd : Code) (Q : State → Prop) (ls : Array Slot), CallFix p m cd c n s args (wl y c n rt) y.cls → B s s.heap → lv_has ls n (lv_args 0 As) →
    E (fun H locs pc ls st s' => s' = s → B' s H → va_S A s.heap H locs → W p l e (rmk fr lo) s m args below meth cd H locs 0 0 Q (F0 m pc ls st)) → W p l e (rmk fr lo) s m args below meth cd s.heap [] 0 0 Q (F0 m 0 ls [])
theorem mu_i {l : Launch} {y : MethodName} {c : ByteArray} {n fr lo : Nat} {As : List Value} {A : Nat → Prop} {B B' : State → Heap → Prop} {v : Int32} (hy : plainFor y = true) (hn : (lg_sl As).length ≤ n) (hmv : Mv B')
    (body : MuBody l y c n (some .int) fr lo As A B B' (fun E => ∀ (H : Heap) (locs : List Loc) (pc : Nat) (ls : Array Slot) (s : State) (x : Int32), x = v → decode c pc = .ok (.ireturn, 1) → E H locs pc ls [.int x] s)) : Mu l y c n (some .int) fr lo As A B B' (some (.int v)) := by
  refine met_ofW (cc := c) (maxL := n) (ret := some .int) hy rfl ?_
  intro p e s m args below meth cd s₁ Bd hml hv
  obtain ⟨rfl, hB⟩ := hv
  have hx := Bd.exec
  have hb := Bd.bytes
  have hr := Bd.returns
  have hts := atoms_spec (ws := wl y c n (some .int)) Bd.pre
  have hown : s.vm.findClass y.cls = some m.cls := findClass_of_methodNamed Bd.named
  have hlocks := Bd.notSynchronized
  have hl := lv_entry As (n := n) hn
  rw [lg_entry_eq]
  exact body p e s m _ below meth cd _ _ ⟨hx, hb, hml, hown, hts⟩ hB hl (fun H locs pc ls s' x hxv hd _ hB' hS => W.iret hx hb hr (fun t ht hW => ⟨by rw [hxv], hmv _ _ _ hW.alike (by rw [ht]; exact hB'), hS.F ht⟩) hS.2.2 hd)
theorem mu_z {l : Launch} {y : MethodName} {c : ByteArray} {n fr lo : Nat} {As : List Value} {A : Nat → Prop} {B B' : State → Heap → Prop} {v : Int32} (hy : plainFor y = true) (hn : (lg_sl As).length ≤ n) (hmv : Mv B')
    (body : MuBody l y c n (some .boolean) fr lo As A B B' (fun E => ∀ (H : Heap) (locs : List Loc) (pc : Nat) (ls : Array Slot) (s : State) (x : Int32), x = v → narrow .boolean (.int x) = .int x → decode c pc = .ok (.ireturn, 1) → E H locs pc ls [.int x] s)) : Mu l y c n (some .boolean) fr lo As A B B' (some (.int v)) := by
  refine met_ofW (cc := c) (maxL := n) (ret := some .boolean) hy rfl ?_
  intro p e s m args below meth cd s₁ Bd hml hv
  obtain ⟨rfl, hB⟩ := hv
  have hx := Bd.exec
  have hb := Bd.bytes
  have hr := Bd.returns
  have hts := atoms_spec (ws := wl y c n (some .boolean)) Bd.pre
  have hown : s.vm.findClass y.cls = some m.cls := findClass_of_methodNamed Bd.named
  have hlocks := Bd.notSynchronized
  have hl := lv_entry As (n := n) hn
  rw [lg_entry_eq]
  exact body p e s m _ below meth cd _ _ ⟨hx, hb, hml, hown, hts⟩ hB hl (fun H locs pc ls s' x hxv hnr hd _ hB' hS => W.zret hx hb hr hnr (fun t ht hW => ⟨by rw [hxv], hmv _ _ _ hW.alike (by rw [ht]; exact hB'), hS.F ht⟩) hS.2.2 hd)
theorem mu_l {l : Launch} {y : MethodName} {c : ByteArray} {n fr lo : Nat} {As : List Value} {A : Nat → Prop} {B B' : State → Heap → Prop} {v : Int64} (hy : plainFor y = true) (hn : (lg_sl As).length ≤ n) (hmv : Mv B')
    (body : MuBody l y c n (some .long) fr lo As A B B' (fun E => ∀ (H : Heap) (locs : List Loc) (pc : Nat) (ls : Array Slot) (s : State) (x : Int64), x = v → decode c pc = .ok (.lreturn, 1) → E H locs pc ls [.long x] s)) : Mu l y c n (some .long) fr lo As A B B' (some (.long v)) := by
  refine met_ofW (cc := c) (maxL := n) (ret := some .long) hy rfl ?_
  intro p e s m args below meth cd s₁ Bd hml hv
  obtain ⟨rfl, hB⟩ := hv
  have hx := Bd.exec
  have hb := Bd.bytes
  have hr := Bd.returns
  have hts := atoms_spec (ws := wl y c n (some .long)) Bd.pre
  have hown : s.vm.findClass y.cls = some m.cls := findClass_of_methodNamed Bd.named
  have hlocks := Bd.notSynchronized
  have hl := lv_entry As (n := n) hn
  rw [lg_entry_eq]
  exact body p e s m _ below meth cd _ _ ⟨hx, hb, hml, hown, hts⟩ hB hl (fun H locs pc ls s' x hxv hd _ hB' hS => W.lret hx hb hr (fun t ht hW => ⟨by rw [hxv], hmv _ _ _ hW.alike (by rw [ht]; exact hB'), hS.F ht⟩) hS.2.2 hd)
theorem mu_v {l : Launch} {y : MethodName} {c : ByteArray} {n fr lo : Nat} {As : List Value} {A : Nat → Prop} {B B' : State → Heap → Prop} (hy : plainFor y = true) (hn : (lg_sl As).length ≤ n) (hmv : Mv B')
    (body : MuBody l y c n none fr lo As A B B' (fun E => ∀ (H : Heap) (locs : List Loc) (pc : Nat) (ls : Array Slot) (s : State), decode c pc = .ok (.return_, 1) → E H locs pc ls [] s)) : Mu l y c n none fr lo As A B B' none := by
  refine met_ofW (cc := c) (maxL := n) (ret := none) hy rfl ?_
  intro p e s m args below meth cd s₁ Bd hml hv
  obtain ⟨rfl, hB⟩ := hv
  have hx := Bd.exec
  have hb := Bd.bytes
  have hr := Bd.returns
  have hts := atoms_spec (ws := wl y c n none) Bd.pre
  have hown : s.vm.findClass y.cls = some m.cls := findClass_of_methodNamed Bd.named
  have hlocks := Bd.notSynchronized
  have hl := lv_entry As (n := n) hn
  rw [lg_entry_eq]
  exact body p e s m _ below meth cd _ _ ⟨hx, hb, hml, hown, hts⟩ hB hl (fun H locs pc ls s' hd _ hB' hS => W.vret hx hb hr (fun t ht hW => ⟨rfl, hmv _ _ _ hW.alike (by rw [ht]; exact hB'), hS.F ht⟩) hS.2.2 hd)
