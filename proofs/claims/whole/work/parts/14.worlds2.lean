/-! methods of the class that write -/
def MvP (B : State → Heap → Prop) : Prop := ∀ (u U : State) (H : Heap), u.WarmedH U.vm → B u H → B U H
theorem Mv.p {B : State → Heap → Prop} (h : Mv B) : MvP B := fun u U H hw => h u U H hw.alike
section BASE2
variable {p : Program} {l : Launch} {e : Env} {R : Room} {s : State} {m : MethodId} {args : Array Value} {below : List Frame} {meth : Method} {cd : Code} {H : Heap} {locs : List Loc} {cells slots : Nat} {Q : State → Prop}
variable {y : MethodName} {bytes cc : ByteArray} {maxL nL k index fr lo pc : Nat} {rt : Option FieldType} {Ts : List Cond} {own : String} {As rest st0 : List Value} {B B' : State → Heap → Prop} {v : Value} {ls : Array Slot} {b : Nat} {A A0 : Nat → Prop} {H0 : Heap} {ov : Option Value}
theorem pre_Vp {C : String} (hmv : MvP B) (hB : B s H) (hc : ∃ cellB : Cell, H[b]? = some cellB ∧ cellB.vm.isStatics = false ∧ s.vm.findClass C = some cellB.cls) : PreV s H C b (fun a U => a = (Value.ref b :: As).toArray ∧ B U U.heap) As :=
  ⟨fun a U g mk q => ⟨q.1, hmv U (U.calling g mk a) U.heap (State.WarmedH.refl U) q.2⟩, hc, fun U hU hW => ⟨rfl, hmv s U U.heap hW (by rw [hU]; exact hB)⟩⟩
theorem mu_Vp (S : CallFix p m cd cc nL s args Ts own) (hTs : ∀ w ∈ tb, w ∈ Ts) (hM : Mu l y bytes maxL rt fr lo (.ref b :: As) A B B' ov) (hy : Vy y bytes maxL rt k) (hl : Cond.methodLink own index y ∈ tb)
    (hR : fr + 1 ≤ R.frames ∧ 8 + (maxL + 11) + lo ≤ R.locals) (hmv : MvP B) (hmv' : Mv B') (hB : B s H) (hc : ∃ cellB : Cell, H[b]? = some cellB ∧ cellB.vm.isStatics = false ∧ s.vm.findClass y.cls = some cellB.cls) (hS : va_S A0 H0 H locs) (hA : ∀ q, A q → A0 q) (hn : As.length = k) (hsize : ls.size = nL) (hst : st0 = As.reverse ++ .ref b :: rest) (hW : (rest.map fun v => v.category).sum ≤ 8) (hdg : decode cc pc = .ok (.invokevirtual index, 3)) (hf : cells ≤ R.cells ∧ slots ≤ R.slots)
    (kk : ∀ (H1 : Heap) (locs1 : List Loc), B' s H1 → H.size ≤ H1.size → (∀ q : Nat, q < H.size → ¬ A q → H1[q]? = H[q]?) → va_S A0 H0 H1 locs1 → W p l e R s m args below meth cd H1 locs1 cells slots Q (F0 m (pc + 3) ls (ov.toList ++ rest))) : W p l e R s m args below meth cd H locs cells slots Q (F0 m pc ls st0) := by
  have hts := S.2.2.2.2
  exact mu_run (va_runV S hM ⟨callB_of k hts (wl_good hTs hy.1) rfl rfl rfl (hts _ (hTs _ hy.2.2.1)) (hts _ (hTs _ hl)) hy.2.2.2 hR, hts _ (hTs _ hy.2.1.1), hts _ (hTs _ hy.2.1.2)⟩ (pre_Vp hmv hB hc) rfl hn hsize hst (lv_room hW) hdg hf) hmv' hS hA kk
/-- a call of a private static method of a nest mate that changes nothing -/
theorem ro_SN {host : String} (S : CallFix p m cd cc nL s args Ts own) (hTs : ∀ w ∈ tb, w ∈ Ts) (hM : Ro l y bytes maxL rt fr lo As B v) (hy : Sy y bytes maxL rt k) (hl : va_Nw (.methodLinkNest own index y host) s)
    (hR : fr + 1 ≤ R.frames ∧ 8 + (maxL + 11) + lo ≤ R.locals) (hmv : Mv B) (hB : B s H) (hn : As.length = k) (hsize : ls.size = nL) (hst : st0 = As.reverse ++ rest) (hW : (rest.map fun v => v.category).sum ≤ 8) (hdg : decode cc pc = .ok (.invokestatic index, 3)) (hf : cells ≤ R.cells ∧ slots ≤ R.slots)
    (kk : W p l e R s m args below meth cd H locs cells slots Q (F0 m (pc + 3) ls (v :: rest))) : W p l e R s m args below meth cd H locs cells slots Q (F0 m pc ls st0) := by
  have hts := S.2.2.2.2
  exact ro_run (va_runSN S hM ⟨va_cnB k hts (wl_good hTs hy.1) rfl rfl rfl hl (hts _ (hTs _ hy.2.2.1)) hy.2.2.2 hR, hts _ (hTs _ hy.2.1), trivial⟩ (pre_S hmv hB) rfl hn hsize hst (lv_room hW) hdg hf) kk
end BASE2
theorem nd_inj {l : List Nat} (h : l.Nodup) {i j : Nat} (hi : i < l.length) (hj : j < l.length) (e : l[i] = l[j]) : i = j := by
  rcases Nat.lt_trichotomy i j with h1 | h1 | h1
  · exact absurd e (List.pairwise_iff_getElem.mp h i j hi hj h1)
  · exact h1
  · exact absurd e.symm (List.pairwise_iff_getElem.mp h j i hj hi h1)
theorem va_Dn {ws : va_W} {as : List Nat} (h : as.Nodup) (e : ws.map Prod.fst = as) : va_D (fun q => q ∈ as) ws := by
  subst e
  refine ⟨fun i j p q hi hj hpq => ?_, fun k q hk => List.mem_map.mpr ⟨q, List.mem_of_getElem? hk, rfl⟩⟩
  have h1 : (ws.map Prod.fst)[i]? = some p.1 := by rw [List.getElem?_map, hi]; rfl
  have h2 : (ws.map Prod.fst)[j]? = some p.1 := by rw [List.getElem?_map, hj, hpq]; rfl
  obtain ⟨hi', e1⟩ := List.getElem?_eq_some_iff.mp h1
  obtain ⟨hj', e2⟩ := List.getElem?_eq_some_iff.mp h2
  exact nd_inj h hi' hj' (e1.trans e2.symm)
theorem eB_S {A A1 : Nat → Prop} {G : va_G} {cI cF : ClassId} {tA tT : Nat} {U s : State} {H : Heap} {locs : List Loc} (h : eB A G cI cF tA tT U s.heap) (hS : va_S A1 s.heap H locs) (hAA : ∀ x, A1 x → A x) : eB A G cI cF tA tT U H := eB_kept h (fun a h1 h2 => hS.2.1 a h1 (fun q => h2 (hAA a q)))
def up1 {α : Type} (g : Nat → α) (j : Nat) (v : α) (i : Nat) : α := if i = j then v else g i
/-- a Form and a row beside it -/
def tW (q qc ra : Nat) (cI : ClassId) (N : Nat) (n : Int32) (f g : Nat → Int32) : va_W := [(q, .inr (0, [.int n, .ref qc])), (qc, .inl (cI, 6, .inl f)), (ra, .inl (cI, N, .inl g))]
def tkB (G : va_G) (cI cF : ClassId) (q qc ra N : Nat) (g : Nat → Int32) (n : Int32) (f : Nat → Int32) (U : State) (H : Heap) : Prop := va_K G vwCl [(cI, .int), (cF, .object "RingForms$Form")] U ∧ va_P G vwCl (tW q qc ra cI N n f g) H
theorem tkB_mv {G : va_G} {cI cF : ClassId} {q qc ra N : Nat} {g : Nat → Int32} {n : Int32} {f : Nat → Int32} : Mv (tkB G cI cF q qc ra N g n f) := fun _ _ _ hv h => ⟨va_K.moved hv h.1, h.2⟩
def apB (G : va_G) (cI cF : ClassId) (q qc : Nat) (n : Int32) (f : Nat → Int32) (U : State) (H : Heap) : Prop := va_K G vwCl [(cI, .int), (cF, .object "RingForms$Form")] U ∧ va_P G vwCl (fW q qc cI n f) H
theorem apB_mv {G : va_G} {cI cF : ClassId} {q qc : Nat} {n : Int32} {f : Nat → Int32} : Mv (apB G cI cF q qc n f) := fun _ _ _ hv h => ⟨va_K.moved hv h.1, h.2⟩
/-- a Search -/
def sW (se : Nat) (s0 s1 s2 s3 s4 : Int32) : va_W := [(se, .inr (1, [.int s0, .int s1, .int s2, .int s3, .int s4]))]
def nwL (U : State) : Prop := va_Nw (.methodLinkNest RX3 25 yX4_isReduced "RingForms") U
theorem nwL_mv {u U : State} (hW : u.WarmedH U.vm) (h : nwL u) : nwL U := va_Nw.warmM hW h
def smB (G : va_G) (cI cF : ClassId) (se : Nat) (s0 s1 s2 s3 s4 : Int32) (U : State) (H : Heap) : Prop := va_K G vwCl [(cI, .int), (cF, .object "RingForms$Form")] U ∧ va_P G vwCl (sW se s0 s1 s2 s3 s4) H
theorem smB_mv {G : va_G} {cI cF : ClassId} {se : Nat} {s0 s1 s2 s3 s4 : Int32} : Mv (smB G cI cF se s0 s1 s2 s3 s4) := fun _ _ _ hv h => ⟨va_K.moved hv h.1, h.2⟩
def smBn (G : va_G) (cI cF : ClassId) (se : Nat) (s0 s1 s2 s3 s4 : Int32) (U : State) (H : Heap) : Prop := smB G cI cF se s0 s1 s2 s3 s4 U H ∧ nwL U
theorem smBn_mv {G : va_G} {cI cF : ClassId} {se : Nat} {s0 s1 s2 s3 s4 : Int32} : MvP (smBn G cI cF se s0 s1 s2 s3 s4) := fun _ _ _ hv h => ⟨smB_mv _ _ _ hv.alike h.1, nwL_mv hv h.2⟩
/-- a Search and a Form -/
def rW (se q qc : Nat) (cI : ClassId) (n : Int32) (f : Nat → Int32) (s0 s1 s2 s3 s4 : Int32) : va_W := [(se, .inr (1, [.int s0, .int s1, .int s2, .int s3, .int s4])), (q, .inr (0, [.int n, .ref qc])), (qc, .inl (cI, 6, .inl f))]
def rnB (A : Nat → Prop) (G : va_G) (cI cF : ClassId) (tA tT : Nat) (se q qc : Nat) (n : Int32) (f : Nat → Int32) (s0 s1 s2 s3 s4 : Int32) (U : State) (H : Heap) : Prop := eB A G cI cF tA tT U H ∧ va_P G vwCl (rW se q qc cI n f s0 s1 s2 s3 s4) H
theorem rnB_mv {A : Nat → Prop} {G : va_G} {cI cF : ClassId} {tA tT se q qc : Nat} {n : Int32} {f : Nat → Int32} {s0 s1 s2 s3 s4 : Int32} : Mv (rnB A G cI cF tA tT se q qc n f s0 s1 s2 s3 s4) := fun _ _ _ hv h => ⟨eB_mv _ _ _ hv h.1, h.2⟩
def rnBn (A : Nat → Prop) (G : va_G) (cI cF : ClassId) (tA tT : Nat) (se q qc : Nat) (n : Int32) (f : Nat → Int32) (s0 s1 s2 s3 s4 : Int32) (U : State) (H : Heap) : Prop := rnB A G cI cF tA tT se q qc n f s0 s1 s2 s3 s4 U H ∧ nwL U
theorem rnBn_mv {A : Nat → Prop} {G : va_G} {cI cF : ClassId} {tA tT se q qc : Nat} {n : Int32} {f : Nat → Int32} {s0 s1 s2 s3 s4 : Int32} : MvP (rnBn A G cI cF tA tT se q qc n f s0 s1 s2 s3 s4) := fun _ _ _ hv h => ⟨rnB_mv _ _ _ hv.alike h.1, nwL_mv hv h.2⟩
theorem rP_meet {G : va_G} {cI : ClassId} {se q qc : Nat} {n : Int32} {f : Nat → Int32} {s0 s1 s2 s3 s4 t0 t1 t2 t3 t4 : Int32} {H H1 : Heap} (hnd : ([se, q, qc] : List Nat).Nodup) (hP : va_P G vwCl (rW se q qc cI n f s0 s1 s2 s3 s4) H) (hk : ∀ x : Nat, x < H.size → ¬ x ∈ ([se] : List Nat) → H1[x]? = H[x]?) (hP1 : va_P G vwCl (sW se t0 t1 t2 t3 t4) H1) : va_P G vwCl (rW se q qc cI n f t0 t1 t2 t3 t4) H1 := by
  have h2 : va_P G vwCl (fW q qc cI n f) H1 := by
    refine va_P.kept (hP.sub [1, 2] rfl) (fun k x hx => ?_)
    have hlt := (va_P.sub hP [1, 2] rfl k x hx).lt
    refine hk x.1 hlt ?_
    simp only [List.nodup_cons, List.mem_cons, List.not_mem_nil, or_false, not_or] at hnd
    match k, hx with
    | 0, hx => cases hx; simpa using fun h => hnd.1.1 h.symm
    | 1, hx => cases hx; simpa using fun h => hnd.1.2 h.symm
    | k + 2, hx => simp at hx
  exact hP1.app h2
/-- the whole object, with the link of a nest mate -/
def cBn (A : Nat → Prop) (G : va_G) (cI cF : ClassId) (tA tT : Nat) (o sh xx xc gv se : Nat) (fa ca : Nat → Nat) (n : Nat → Int32) (f : Nat → Nat → Int32) (xn : Int32) (xf gf : Nat → Int32) (s0 s1 s2 s3 s4 : Int32) (tr : Int64) (U : State) (H : Heap) : Prop :=
  cB A G cI cF tA tT o sh xx xc gv se fa ca n f xn xf gf s0 s1 s2 s3 s4 tr U H ∧ nwL U
theorem cBn_mv {A : Nat → Prop} {G : va_G} {cI cF : ClassId} {tA tT o sh xx xc gv se : Nat} {fa ca : Nat → Nat} {n : Nat → Int32} {f : Nat → Nat → Int32} {xn : Int32} {xf gf : Nat → Int32} {s0 s1 s2 s3 s4 : Int32} {tr : Int64} : MvP (cBn A G cI cF tA tT o sh xx xc gv se fa ca n f xn xf gf s0 s1 s2 s3 s4 tr) := fun _ _ _ hv h => ⟨cB_mv _ _ _ hv.alike h.1, nwL_mv hv h.2⟩
abbrev cAd (o sh xx xc gv se : Nat) (fa ca : Nat → Nat) : List Nat := [o, sh, xx, xc, gv, se, fa 0, ca 0, fa 1, ca 1, fa 2, ca 2, fa 3, ca 3]
/-- what a call of three cells gives back to the whole -/
theorem vA3 {wc : va_W} {as : List Nat} (e : wc.map Prod.fst = as) {H H1 : Heap} (hk : ∀ x : Nat, x < H.size → ¬ x ∈ as → H1[x]? = H[x]?) : ∀ x : Nat, x < H.size → ¬ va_A wc H.size x → H1[x]? = H[x]? := by
  subst e
  intro x hx h
  refine hk x hx (fun hm => h ?_)
  obtain ⟨q, hq, rfl⟩ := List.mem_map.mp hm
  obtain ⟨i, hi⟩ := List.getElem?_of_mem hq
  exact Or.inl ⟨i, q.2, hi⟩
theorem vF3 {ws : va_W} {H : Heap} {wc : va_W} (is : List Nat) (hC : is.map (fun i => ws[i]?) = wc.map some) : ∀ x, va_A wc H.size x → (fun q => q ∈ ws.map Prod.fst ∨ H.size ≤ q) x := by
  intro x h
  rcases h with ⟨k, e, h⟩ | h
  · left
    have h1 : (is.map (fun i => ws[i]?))[k]? = some (some (x, e)) := by rw [hC, List.getElem?_map, h]; rfl
    rw [List.getElem?_map] at h1
    cases hi : is[k]? with
    | none => rw [hi] at h1; cases h1
    | some i => rw [hi] at h1; exact List.mem_map.mpr ⟨(x, e), List.mem_of_getElem? (Option.some.inj h1), rfl⟩
  · exact Or.inr h
theorem cJoin {G : va_G} {ws wc w1 : va_W} {H H1 : Heap} (hP : va_P G vwCl ws H) (hnd : (ws.map Prod.fst).Nodup) (isC isR : List Nat) {wr : va_W} (hC : isC.map (fun i => ws[i]?) = wc.map some) (hR : isR.map (fun i => ws[i]?) = wr.map some) (hn : va_nd isR = true) (hdis : ∀ i ∈ isR, i ∉ isC) {as : List Nat} (ea : wc.map Prod.fst = as) (ea1 : w1.map Prod.fst = as) (hnc : as.Nodup)
    (hk : ∀ x : Nat, x < H.size → ¬ x ∈ as → H1[x]? = H[x]?) (hP1 : va_P G vwCl w1 H1) : va_P G vwCl (wr ++ w1) H1 := by
  have hD : va_D (fun q => q ∈ ws.map Prod.fst ∨ H.size ≤ q) ws := (va_Dn hnd rfl).weaken (fun _ _ _ h => Or.inl h)
  have hD1 : va_D (va_A wc H.size) w1 := (va_Dn hnc ea1).weaken (fun k q hq _ => by
    have hm : q.1 ∈ wc.map Prod.fst := by rw [ea, ← ea1]; exact List.mem_map.mpr ⟨q, List.mem_of_getElem? hq, rfl⟩
    obtain ⟨q', hq', e'⟩ := List.mem_map.mp hm
    obtain ⟨i, hi⟩ := List.getElem?_of_mem hq'
    exact Or.inl ⟨i, q'.2, by rw [hi, ← e']⟩)
  exact (va_join hP hD isC isR hC hR hn hdis (vA3 ea hk) (vF3 isC hC) hP1 hD1).1
section CP
variable {G : va_G} {cI cF : ClassId} {o sh xx xc gv se : Nat} {fa ca : Nat → Nat} {n : Nat → Int32} {f : Nat → Nat → Int32} {xn : Int32} {xf gf : Nat → Int32} {s0 s1 s2 s3 s4 : Int32} {tr : Int64} {H H1 : Heap}
theorem cNd {i : List Nat} {k : List Nat} (hnd : k.Nodup) (is : List Nat) (hn : va_nd is = true) (h : is.map (fun j => k[j]?) = i.map some) : i.Nodup := by
  rw [List.nodup_iff_pairwise_ne, List.pairwise_iff_getElem]
  intro a b ha hb hab e
  have get : ∀ c (hc : c < i.length), ∃ j, is[c]? = some j ∧ k[j]? = some i[c] := by
    intro c hc
    have h1 : (is.map (fun j => k[j]?))[c]? = some (some i[c]) := by rw [h, List.getElem?_map, List.getElem?_eq_getElem hc]; rfl
    rw [List.getElem?_map] at h1
    cases hi : is[c]? with
    | none => rw [hi] at h1; cases h1
    | some j => rw [hi] at h1; exact ⟨j, rfl, Option.some.inj h1⟩
  obtain ⟨ja, e1, e2⟩ := get a ha
  obtain ⟨jb, e3, e4⟩ := get b hb
  obtain ⟨q1, r1⟩ := List.getElem?_eq_some_iff.mp e2
  obtain ⟨q2, r2⟩ := List.getElem?_eq_some_iff.mp e4
  have hj : ja = jb := nd_inj hnd q1 q2 (r1.trans (e.trans r2.symm))
  subst hj
  exact absurd (va_nd_inj is hn a b ja e1 e3) (Nat.ne_of_lt hab)
theorem cNd_r (hnd : (cAd o sh xx xc gv se fa ca).Nodup) {j : Nat} (hj : j < 4) : ([se, fa j, ca j] : List Nat).Nodup := by
  rcases (show j = 0 ∨ j = 1 ∨ j = 2 ∨ j = 3 by omega) with rfl | rfl | rfl | rfl
  · exact cNd hnd [5, 6, 7] (by decide) rfl
  · exact cNd hnd [5, 8, 9] (by decide) rfl
  · exact cNd hnd [5, 10, 11] (by decide) rfl
  · exact cNd hnd [5, 12, 13] (by decide) rfl
theorem cNd_t (hnd : (cAd o sh xx xc gv se fa ca).Nodup) {j : Nat} (hj : j < 4) : ([fa j, ca j, gv] : List Nat).Nodup := by
  rcases (show j = 0 ∨ j = 1 ∨ j = 2 ∨ j = 3 by omega) with rfl | rfl | rfl | rfl
  · exact cNd hnd [6, 7, 4] (by decide) rfl
  · exact cNd hnd [8, 9, 4] (by decide) rfl
  · exact cNd hnd [10, 11, 4] (by decide) rfl
  · exact cNd hnd [12, 13, 4] (by decide) rfl
theorem cNd_x (hnd : (cAd o sh xx xc gv se fa ca).Nodup) {j : Nat} (hj : j < 4) : ([xx, xc, ca j] : List Nat).Nodup := by
  rcases (show j = 0 ∨ j = 1 ∨ j = 2 ∨ j = 3 by omega) with rfl | rfl | rfl | rfl
  · exact cNd hnd [2, 3, 7] (by decide) rfl
  · exact cNd hnd [2, 3, 9] (by decide) rfl
  · exact cNd hnd [2, 3, 11] (by decide) rfl
  · exact cNd hnd [2, 3, 13] (by decide) rfl
theorem cNd_a (hnd : (cAd o sh xx xc gv se fa ca).Nodup) : ([xx, xc] : List Nat).Nodup := cNd hnd [2, 3] (by decide) rfl
theorem cMem {i : List Nat} {k : List Nat} (is : List Nat) (h : is.map (fun j => k[j]?) = i.map some) : ∀ x, x ∈ i → x ∈ k := by
  intro x hx
  obtain ⟨c, hc⟩ := List.getElem?_of_mem hx
  have h1 : (is.map (fun j => k[j]?))[c]? = some (some x) := by rw [h, List.getElem?_map, hc]; rfl
  rw [List.getElem?_map] at h1
  cases hi : is[c]? with
  | none => rw [hi] at h1; cases h1
  | some j => rw [hi] at h1; exact List.mem_of_getElem? (Option.some.inj h1)
theorem cMem_r {j : Nat} (hj : j < 4) : ∀ x, x ∈ ([se, fa j, ca j] : List Nat) → x ∈ cAd o sh xx xc gv se fa ca := by
  rcases (show j = 0 ∨ j = 1 ∨ j = 2 ∨ j = 3 by omega) with rfl | rfl | rfl | rfl
  · exact cMem [5, 6, 7] rfl
  · exact cMem [5, 8, 9] rfl
  · exact cMem [5, 10, 11] rfl
  · exact cMem [5, 12, 13] rfl
theorem cMem_t {j : Nat} (hj : j < 4) : ∀ x, x ∈ ([fa j, ca j, gv] : List Nat) → x ∈ cAd o sh xx xc gv se fa ca := by
  rcases (show j = 0 ∨ j = 1 ∨ j = 2 ∨ j = 3 by omega) with rfl | rfl | rfl | rfl
  · exact cMem [6, 7, 4] rfl
  · exact cMem [8, 9, 4] rfl
  · exact cMem [10, 11, 4] rfl
  · exact cMem [12, 13, 4] rfl
theorem cMem_x {j : Nat} (hj : j < 4) : ∀ x, x ∈ ([xx, xc, ca j] : List Nat) → x ∈ cAd o sh xx xc gv se fa ca := by
  rcases (show j = 0 ∨ j = 1 ∨ j = 2 ∨ j = 3 by omega) with rfl | rfl | rfl | rfl
  · exact cMem [2, 3, 7] rfl
  · exact cMem [2, 3, 9] rfl
  · exact cMem [2, 3, 11] rfl
  · exact cMem [2, 3, 13] rfl
theorem cMem_a : ∀ x, x ∈ ([xx, xc] : List Nat) → x ∈ cAd o sh xx xc gv se fa ca := cMem [2, 3] rfl
theorem cP_rW (hP : va_P G vwCl (cW cI cF o sh xx xc gv se fa ca n f xn xf gf s0 s1 s2 s3 s4 tr) H) {j : Nat} (hj : j < 4) : va_P G vwCl (rW se (fa j) (ca j) cI (n j) (f j) s0 s1 s2 s3 s4) H := by
  rcases (show j = 0 ∨ j = 1 ∨ j = 2 ∨ j = 3 by omega) with rfl | rfl | rfl | rfl
  · exact hP.sub [5, 6, 7] rfl
  · exact hP.sub [5, 8, 9] rfl
  · exact hP.sub [5, 10, 11] rfl
  · exact hP.sub [5, 12, 13] rfl
theorem cP_tW (hP : va_P G vwCl (cW cI cF o sh xx xc gv se fa ca n f xn xf gf s0 s1 s2 s3 s4 tr) H) {j : Nat} (hj : j < 4) : va_P G vwCl (tW (fa j) (ca j) gv cI 5 (n j) (f j) gf) H := by
  rcases (show j = 0 ∨ j = 1 ∨ j = 2 ∨ j = 3 by omega) with rfl | rfl | rfl | rfl
  · exact hP.sub [6, 7, 4] rfl
  · exact hP.sub [8, 9, 4] rfl
  · exact hP.sub [10, 11, 4] rfl
  · exact hP.sub [12, 13, 4] rfl
theorem cP_xW (hP : va_P G vwCl (cW cI cF o sh xx xc gv se fa ca n f xn xf gf s0 s1 s2 s3 s4 tr) H) {j : Nat} (hj : j < 4) : va_P G vwCl (tW xx xc (ca j) cI 6 xn xf (f j)) H := by
  rcases (show j = 0 ∨ j = 1 ∨ j = 2 ∨ j = 3 by omega) with rfl | rfl | rfl | rfl
  · exact hP.sub [2, 3, 7] rfl
  · exact hP.sub [2, 3, 9] rfl
  · exact hP.sub [2, 3, 11] rfl
  · exact hP.sub [2, 3, 13] rfl
theorem cP_run {t0 t1 t2 t3 t4 : Int32} (hnd : (cAd o sh xx xc gv se fa ca).Nodup) (hP : va_P G vwCl (cW cI cF o sh xx xc gv se fa ca n f xn xf gf s0 s1 s2 s3 s4 tr) H) {j : Nat} (hj : j < 4) (hk : ∀ x : Nat, x < H.size → ¬ x ∈ ([se, fa j, ca j] : List Nat) → H1[x]? = H[x]?) (hP1 : va_P G vwCl (rW se (fa j) (ca j) cI (n j) (f j) t0 t1 t2 t3 t4) H1) : va_P G vwCl (cW cI cF o sh xx xc gv se fa ca n f xn xf gf t0 t1 t2 t3 t4 tr) H1 := by
  have hnc := cNd_r hnd hj
  rcases (show j = 0 ∨ j = 1 ∨ j = 2 ∨ j = 3 by omega) with rfl | rfl | rfl | rfl
  · exact (cJoin (wr := [_, _, _, _, _, _, _, _, _, _, _]) (wc := rW se (fa 0) (ca 0) cI (n 0) (f 0) s0 s1 s2 s3 s4) (w1 := rW se (fa 0) (ca 0) cI (n 0) (f 0) t0 t1 t2 t3 t4) hP hnd [5, 6, 7] [0, 1, 2, 3, 4, 8, 9, 10, 11, 12, 13] rfl rfl (by decide) (by decide) rfl rfl hnc hk hP1).sub [0, 1, 2, 3, 4, 11, 12, 13, 5, 6, 7, 8, 9, 10] rfl
  · exact (cJoin (wr := [_, _, _, _, _, _, _, _, _, _, _]) (wc := rW se (fa 1) (ca 1) cI (n 1) (f 1) s0 s1 s2 s3 s4) (w1 := rW se (fa 1) (ca 1) cI (n 1) (f 1) t0 t1 t2 t3 t4) hP hnd [5, 8, 9] [0, 1, 2, 3, 4, 6, 7, 10, 11, 12, 13] rfl rfl (by decide) (by decide) rfl rfl hnc hk hP1).sub [0, 1, 2, 3, 4, 11, 5, 6, 12, 13, 7, 8, 9, 10] rfl
  · exact (cJoin (wr := [_, _, _, _, _, _, _, _, _, _, _]) (wc := rW se (fa 2) (ca 2) cI (n 2) (f 2) s0 s1 s2 s3 s4) (w1 := rW se (fa 2) (ca 2) cI (n 2) (f 2) t0 t1 t2 t3 t4) hP hnd [5, 10, 11] [0, 1, 2, 3, 4, 6, 7, 8, 9, 12, 13] rfl rfl (by decide) (by decide) rfl rfl hnc hk hP1).sub [0, 1, 2, 3, 4, 11, 5, 6, 7, 8, 12, 13, 9, 10] rfl
  · exact (cJoin (wr := [_, _, _, _, _, _, _, _, _, _, _]) (wc := rW se (fa 3) (ca 3) cI (n 3) (f 3) s0 s1 s2 s3 s4) (w1 := rW se (fa 3) (ca 3) cI (n 3) (f 3) t0 t1 t2 t3 t4) hP hnd [5, 12, 13] [0, 1, 2, 3, 4, 6, 7, 8, 9, 10, 11] rfl rfl (by decide) (by decide) rfl rfl hnc hk hP1).sub [0, 1, 2, 3, 4, 11, 5, 6, 7, 8, 9, 10, 12, 13] rfl
theorem cP_take {n2 : Int32} {f2 : Nat → Int32} (hnd : (cAd o sh xx xc gv se fa ca).Nodup) (hP : va_P G vwCl (cW cI cF o sh xx xc gv se fa ca n f xn xf gf s0 s1 s2 s3 s4 tr) H) {j : Nat} (hj : j < 4) (hk : ∀ x : Nat, x < H.size → ¬ x ∈ ([fa j, ca j, gv] : List Nat) → H1[x]? = H[x]?) (hP1 : va_P G vwCl (tW (fa j) (ca j) gv cI 5 n2 f2 gf) H1) : va_P G vwCl (cW cI cF o sh xx xc gv se fa ca (up1 n j n2) (up1 f j f2) xn xf gf s0 s1 s2 s3 s4 tr) H1 := by
  have hnc := cNd_t hnd hj
  rcases (show j = 0 ∨ j = 1 ∨ j = 2 ∨ j = 3 by omega) with rfl | rfl | rfl | rfl
  · exact (cJoin (wr := [_, _, _, _, _, _, _, _, _, _, _]) (wc := tW (fa 0) (ca 0) gv cI 5 (n 0) (f 0) gf) (w1 := tW (fa 0) (ca 0) gv cI 5 n2 f2 gf) hP hnd [6, 7, 4] [0, 1, 2, 3, 5, 8, 9, 10, 11, 12, 13] rfl rfl (by decide) (by decide) rfl rfl hnc hk hP1).sub [0, 1, 2, 3, 13, 4, 11, 12, 5, 6, 7, 8, 9, 10] rfl
  · exact (cJoin (wr := [_, _, _, _, _, _, _, _, _, _, _]) (wc := tW (fa 1) (ca 1) gv cI 5 (n 1) (f 1) gf) (w1 := tW (fa 1) (ca 1) gv cI 5 n2 f2 gf) hP hnd [8, 9, 4] [0, 1, 2, 3, 5, 6, 7, 10, 11, 12, 13] rfl rfl (by decide) (by decide) rfl rfl hnc hk hP1).sub [0, 1, 2, 3, 13, 4, 5, 6, 11, 12, 7, 8, 9, 10] rfl
  · exact (cJoin (wr := [_, _, _, _, _, _, _, _, _, _, _]) (wc := tW (fa 2) (ca 2) gv cI 5 (n 2) (f 2) gf) (w1 := tW (fa 2) (ca 2) gv cI 5 n2 f2 gf) hP hnd [10, 11, 4] [0, 1, 2, 3, 5, 6, 7, 8, 9, 12, 13] rfl rfl (by decide) (by decide) rfl rfl hnc hk hP1).sub [0, 1, 2, 3, 13, 4, 5, 6, 7, 8, 11, 12, 9, 10] rfl
  · exact (cJoin (wr := [_, _, _, _, _, _, _, _, _, _, _]) (wc := tW (fa 3) (ca 3) gv cI 5 (n 3) (f 3) gf) (w1 := tW (fa 3) (ca 3) gv cI 5 n2 f2 gf) hP hnd [12, 13, 4] [0, 1, 2, 3, 5, 6, 7, 8, 9, 10, 11] rfl rfl (by decide) (by decide) rfl rfl hnc hk hP1).sub [0, 1, 2, 3, 13, 4, 5, 6, 7, 8, 9, 10, 11, 12] rfl
theorem cP_ext {n2 : Int32} {f2 : Nat → Int32} (hnd : (cAd o sh xx xc gv se fa ca).Nodup) (hP : va_P G vwCl (cW cI cF o sh xx xc gv se fa ca n f xn xf gf s0 s1 s2 s3 s4 tr) H) {j : Nat} (hj : j < 4) (hk : ∀ x : Nat, x < H.size → ¬ x ∈ ([xx, xc, ca j] : List Nat) → H1[x]? = H[x]?) (hP1 : va_P G vwCl (tW xx xc (ca j) cI 6 n2 f2 (f j)) H1) : va_P G vwCl (cW cI cF o sh xx xc gv se fa ca n f n2 f2 gf s0 s1 s2 s3 s4 tr) H1 := by
  have hnc := cNd_x hnd hj
  rcases (show j = 0 ∨ j = 1 ∨ j = 2 ∨ j = 3 by omega) with rfl | rfl | rfl | rfl
  · exact (cJoin (wr := [_, _, _, _, _, _, _, _, _, _, _]) (wc := tW xx xc (ca 0) cI 6 xn xf (f 0)) (w1 := tW xx xc (ca 0) cI 6 n2 f2 (f 0)) hP hnd [2, 3, 7] [0, 1, 4, 5, 6, 8, 9, 10, 11, 12, 13] rfl rfl (by decide) (by decide) rfl rfl hnc hk hP1).sub [0, 1, 11, 12, 2, 3, 4, 13, 5, 6, 7, 8, 9, 10] rfl
  · exact (cJoin (wr := [_, _, _, _, _, _, _, _, _, _, _]) (wc := tW xx xc (ca 1) cI 6 xn xf (f 1)) (w1 := tW xx xc (ca 1) cI 6 n2 f2 (f 1)) hP hnd [2, 3, 9] [0, 1, 4, 5, 6, 7, 8, 10, 11, 12, 13] rfl rfl (by decide) (by decide) rfl rfl hnc hk hP1).sub [0, 1, 11, 12, 2, 3, 4, 5, 6, 13, 7, 8, 9, 10] rfl
  · exact (cJoin (wr := [_, _, _, _, _, _, _, _, _, _, _]) (wc := tW xx xc (ca 2) cI 6 xn xf (f 2)) (w1 := tW xx xc (ca 2) cI 6 n2 f2 (f 2)) hP hnd [2, 3, 11] [0, 1, 4, 5, 6, 7, 8, 9, 10, 12, 13] rfl rfl (by decide) (by decide) rfl rfl hnc hk hP1).sub [0, 1, 11, 12, 2, 3, 4, 5, 6, 7, 8, 13, 9, 10] rfl
  · exact (cJoin (wr := [_, _, _, _, _, _, _, _, _, _, _]) (wc := tW xx xc (ca 3) cI 6 xn xf (f 3)) (w1 := tW xx xc (ca 3) cI 6 n2 f2 (f 3)) hP hnd [2, 3, 13] [0, 1, 4, 5, 6, 7, 8, 9, 10, 11, 12] rfl rfl (by decide) (by decide) rfl rfl hnc hk hP1).sub [0, 1, 11, 12, 2, 3, 4, 5, 6, 7, 8, 9, 10, 13] rfl
theorem cP_app {n2 : Int32} {f2 : Nat → Int32} (hnd : (cAd o sh xx xc gv se fa ca).Nodup) (hP : va_P G vwCl (cW cI cF o sh xx xc gv se fa ca n f xn xf gf s0 s1 s2 s3 s4 tr) H) (hk : ∀ x : Nat, x < H.size → ¬ x ∈ ([xx, xc] : List Nat) → H1[x]? = H[x]?) (hP1 : va_P G vwCl (fW xx xc cI n2 f2) H1) : va_P G vwCl (cW cI cF o sh xx xc gv se fa ca n f n2 f2 gf s0 s1 s2 s3 s4 tr) H1 :=
  (cJoin (wr := [_, _, _, _, _, _, _, _, _, _, _, _]) (wc := fW xx xc cI xn xf) (w1 := fW xx xc cI n2 f2) hP hnd [2, 3] [0, 1, 4, 5, 6, 7, 8, 9, 10, 11, 12, 13] rfl rfl (by decide) (by decide) rfl rfl (cNd_a hnd) hk hP1).sub [0, 1, 12, 13, 2, 3, 4, 5, 6, 7, 8, 9, 10, 11] rfl
end CP
