/-! constructors -/
theorem va_D1 {a : Nat} {e : va_E} : va_D (fun _ => True) [(a, e)] := ⟨fun i j p q hi hj _ => by
    have h1 : i < 1 := (List.getElem?_eq_some_iff.mp hi).1
    have h2 : j < 1 := (List.getElem?_eq_some_iff.mp hj).1
    omega, fun _ _ _ => trivial⟩
theorem tyI {G : va_G} {cI cF cA : ClassId} {C : String} {s : State} (h : va_K G vwCl ([(cI, .int), (cF, .object C)] ++ [(cA, .int)]) s) : cI = cA := by
  have h1 := (h.2 0 (cI, .int) rfl).2
  have h2 := (h.2 2 (cA, .int) rfl).2
  exact Option.some.inj (Eq.trans (Eq.symm h1) h2)
theorem tyF {G : va_G} {cI cF cA : ClassId} {s : State} (h : va_K G vwCl ([(cI, .int), (cF, .object "RingForms$Form")] ++ [(cA, .object "RingForms$Form")]) s) : cF = cA := by
  obtain ⟨_, _, _, _, _, h1⟩ := (h.2 1 (cF, .object "RingForms$Form") rfl).2
  obtain ⟨_, _, _, _, _, h2⟩ := (h.2 2 (cA, .object "RingForms$Form") rfl).2
  exact Option.some.inj (h1.symm.trans h2)
theorem pre_ct {G : va_G} {cI cF : ClassId} {ws : va_W} {s : State} {H : Heap} {b : Nat} (hK : va_K G vwCl [(cI, .int), (cF, .object "RingForms$Form")] s) (hPc : va_P G vwCl ws H) : PreS s H (va_Pc [.ref b] (fun U => U.heap.size = H.size ∧ va_P G vwCl ws U.heap ∧ va_K G vwCl [(cI, .int), (cF, .object "RingForms$Form")] U)) [.ref b] :=
  ⟨fun a U g mk q => ⟨q.1, q.2.1, q.2.2.1, va_K.moved (u := U) (U := U.calling g mk a) (Vm.Alike.refl U.vm) q.2.2.2⟩, fun U hU hW => ⟨rfl, by rw [hU], by rw [hU]; exact hPc, va_K.moved hW.alike hK⟩⟩

set_option maxHeartbeats 4000000 in
set_option maxRecDepth 100000 in
theorem cnX0_init (l : Launch) (G : va_G) (cI cF : ClassId) (h0 sz : Nat) : Met l yX0_init (wl yX0_init cX0_init 1 none) { frames := 1, cells := 1, slots := 6, locals := 12 } (va_Pc [.ref h0] (fun U => U.heap.size = sz ∧ va_P G vwCl [(h0, .inr (0, [.int 0, .null]))] U.heap ∧ va_K G vwCl [(cI, .int), (cF, .object "RingForms$Form")] U)) (va_Qv (fun _ : Unit => True) (fun _ t => ∃ qc : Nat, va_P G vwCl [(h0, .inr (0, [.int 1, .ref qc])), (qc, .inl (cI, 6, .inl (upd (fun _ => 0) 0 1)))] t.heap ∧ va_D (va_A [(h0, .inr (0, [.int 0, .null]))] sz) [(h0, .inr (0, [.int 1, .ref qc])), (qc, .inl (cI, 6, .inl (upd (fun _ => 0) 0 1)))]) (va_A [(h0, .inr (0, [.int 0, .null]))] sz)) 1 6 (va_A [(h0, .inr (0, [.int 0, .null]))] sz) := by
  refine Met.ofW (cc := cX0_init) (maxL := 1) (ret := none) (by decide) rfl ?_
  intro p e s m args below meth c s₁ B hml hv
  obtain ⟨rfl, hsz, hP, hK⟩ := hv
  have hx := B.exec
  have hb := B.bytes
  have hr := B.returns
  have hts := atoms_spec (ws := wl yX0_init cX0_init 1 none) B.pre
  have hown : s.vm.findClass RX0 = some m.cls := findClass_of_methodNamed B.named
  have hlocks := B.notSynchronized
  have hin : meth.name = "<init>" := (name_of_methodNamed B.named B.method).1
  subst hsz
  have hD := (va_D1 (a := h0) (e := .inr (0, [.int 0, .null]))).self (sz := s.heap.size)
  generalize hAe : va_A [(h0, .inr (0, [.int 0, .null]))] s.heap.size = A at hD ⊢
  have hA : ∀ q : Nat, s.heap.size ≤ q → A q := fun q h => by rw [← hAe]; exact Or.inr h
  have hS : va_S A s.heap s.heap [] := va_S.rf
  have hl := lv_entry ([.ref h0]) (n := 1) (Nat.le_of_ble_eq_true rfl)
  rw [lg_entry_eq]
  generalize (lg_sl ([.ref h0]) ++ List.replicate (1 - (lg_sl ([.ref h0])).length) Slot.unset).toArray = ls at hl ⊢
  have hl : lv_has ls 1 [(0, .ref h0)] := hl
  refine lv_aload_n hx hb dX0_init_0 rfl (lv_at hl 0 rfl) ?_
  refine W.objInit hx hb hown (hts _ (wl_in w_22)) (hts _ (wl_in w_14)) (hts _ (wl_in w_15)) rfl (by rw [hml]; exact hl.1) rfl dX0_init_1 (Nat.le_of_ble_eq_true rfl) (Nat.le_of_ble_eq_true rfl) ?_
  refine W.eq (g2 := F0 m 4 ls []) rfl ?_
  refine lv_aload_n hx hb dX0_init_4 rfl (lv_at hl 0 rfl) ?_
  refine lv_bipush (v := (6 : Int32)) hx hb dX0_init_5 (by decide) ?_
  refine va_newa (atype := .int) (ty := .int) (a0 := (6, .inl (fun _ => 0))) (N' := 6) hx hb (hts _ (wl_in w_32)) rfl hK hP hD hS hA (fun cA => rfl) (by decide) (by decide) (by decide) (by decide) (by decide) dX0_init_7 (fun q1 cA H hK3 hP hD hS => ?_)
  obtain rfl := tyI hK3
  have hP : va_P G vwCl [(h0, .inr (0, [.int 0, .null])), (q1, .inl (cI, 6, .inl (fun _ => 0)))] H := hP
  have hD : va_D A [(h0, .inr (0, [.int 0, .null])), (q1, .inl (cI, 6, .inl (fun _ => 0)))] := hD
  refine W.widen (k := 1) (n := 6) (by decide) (by decide) ?_
  refine va_putF (D := G) (ci := 0) (v := .ref q1) (ty := .array .int) (C := RX0) (T := TX0) (N := 2) hx hb hts (fun w h => wl_in (inX0 w h)) tyX0 tyX0_ok nmX0 hown hK hP hD hS 0 rfl rfl 1 (by decide) (hts _ (wl_in w_25)) (fun _ h9 => h9) rfl hin rfl (by decide +kernel) rfl rfl (Nat.le_of_ble_eq_true rfl) dX0_init_9 (fun H locs hP hD hS => ?_)
  have hP : va_P G vwCl [(h0, .inr (0, [.int 0, .ref q1])), (q1, .inl (cI, 6, .inl (fun _ => 0)))] H := hP
  have hD : va_D A [(h0, .inr (0, [.int 0, .ref q1])), (q1, .inl (cI, 6, .inl (fun _ => 0)))] := hD
  refine lv_aload_n hx hb dX0_init_12 rfl (lv_at hl 0 rfl) ?_
  refine va_get (D := G) (ci := 0) (v := .ref q1) (C := RX0) (T := TX0) (N := 2) hx hb hts (fun w h => wl_in (inX0 w h)) hown hK hP 0 rfl rfl 1 (by decide) (hts _ (wl_in w_25)) (fun _ h9 => h9) rfl dX0_init_13 ?_
  refine lv_iconst (v := (0 : Int32)) hx hb dX0_init_16 (by decide) ?_
  refine lv_iconst (v := (1 : Int32)) hx hb dX0_init_17 (by decide) ?_
  refine va_iast hx hb hK hP hD hS 1 0 rfl rfl (by unfold vp_in; decide) dX0_init_18 (fun H locs hP hD hS => ?_)
  have hP : va_P G vwCl [(h0, .inr (0, [.int 0, .ref q1])), (q1, .inl (cI, 6, .inl (upd (fun _ => 0) 0 1)))] H := hP
  have hD : va_D A [(h0, .inr (0, [.int 0, .ref q1])), (q1, .inl (cI, 6, .inl (upd (fun _ => 0) 0 1)))] := hD
  refine lv_aload_n hx hb dX0_init_19 rfl (lv_at hl 0 rfl) ?_
  refine lv_iconst (v := (1 : Int32)) hx hb dX0_init_20 (by decide) ?_
  refine va_put (D := G) (ci := 0) (v := .int (1 : Int32)) (ty := .int) (C := RX0) (T := TX0) (N := 2) hx hb hts (fun w h => wl_in (inX0 w h)) tyX0 tyX0_ok nmX0 hown hK hP hD hS 0 rfl rfl 0 (by decide) (hts _ (wl_in w_23)) (fun _ h9 => h9) rfl (by decide +kernel) rfl rfl (Nat.le_of_ble_eq_true rfl) dX0_init_21 (fun H locs hP hD hS => ?_)
  have hP : va_P G vwCl [(h0, .inr (0, [.int 1, .ref q1])), (q1, .inl (cI, 6, .inl (upd (fun _ => 0) 0 1)))] H := hP
  have hD : va_D A [(h0, .inr (0, [.int 1, .ref q1])), (q1, .inl (cI, 6, .inl (upd (fun _ => 0) 0 1)))] := hD
  exact W.vret hx hb hr (fun t ht hW => ⟨⟨(), rfl, trivial, q1, by rw [ht]; exact hP, hD⟩, hS.F ht⟩) hS.2.2 dX0_init_24
set_option maxHeartbeats 4000000 in
set_option maxRecDepth 100000 in
theorem cnX3_init (l : Launch) (G : va_G) (cI cF : ClassId) (h0 sz : Nat) : Met l yX3_init (wl yX3_init cX3_init 1 none) { frames := 1, cells := 0, slots := 0, locals := 12 } (va_Pc [.ref h0] (fun U => U.heap.size = sz ∧ va_P G vwCl [(h0, .inr (1, [.int 0, .int 0, .int 0, .int 0, .int 0]))] U.heap ∧ va_K G vwCl [(cI, .int), (cF, .object "RingForms$Form")] U)) (va_Qv (fun _ : Unit => True) (fun _ t => va_P G vwCl [(h0, .inr (1, [.int 0, .int 0, .int 0, .int 0, .int 0]))] t.heap ∧ va_D (va_A [(h0, .inr (1, [.int 0, .int 0, .int 0, .int 0, .int 0]))] sz) [(h0, .inr (1, [.int 0, .int 0, .int 0, .int 0, .int 0]))]) (va_A [(h0, .inr (1, [.int 0, .int 0, .int 0, .int 0, .int 0]))] sz)) 0 0 (va_A [(h0, .inr (1, [.int 0, .int 0, .int 0, .int 0, .int 0]))] sz) := by
  refine Met.ofW (cc := cX3_init) (maxL := 1) (ret := none) (by decide) rfl ?_
  intro p e s m args below meth c s₁ B hml hv
  obtain ⟨rfl, hsz, hP, hK⟩ := hv
  have hx := B.exec
  have hb := B.bytes
  have hr := B.returns
  have hts := atoms_spec (ws := wl yX3_init cX3_init 1 none) B.pre
  have hown : s.vm.findClass RX3 = some m.cls := findClass_of_methodNamed B.named
  have hlocks := B.notSynchronized
  have hin : meth.name = "<init>" := (name_of_methodNamed B.named B.method).1
  subst hsz
  have hD := (va_D1 (a := h0) (e := .inr (1, [.int 0, .int 0, .int 0, .int 0, .int 0]))).self (sz := s.heap.size)
  generalize hAe : va_A [(h0, .inr (1, [.int 0, .int 0, .int 0, .int 0, .int 0]))] s.heap.size = A at hD ⊢
  have hA : ∀ q : Nat, s.heap.size ≤ q → A q := fun q h => by rw [← hAe]; exact Or.inr h
  have hS : va_S A s.heap s.heap [] := va_S.rf
  have hl := lv_entry ([.ref h0]) (n := 1) (Nat.le_of_ble_eq_true rfl)
  rw [lg_entry_eq]
  generalize (lg_sl ([.ref h0]) ++ List.replicate (1 - (lg_sl ([.ref h0])).length) Slot.unset).toArray = ls at hl ⊢
  have hl : lv_has ls 1 [(0, .ref h0)] := hl
  refine lv_aload_n hx hb dX3_init_0 rfl (lv_at hl 0 rfl) ?_
  refine W.objInit hx hb hown (hts _ (wl_in w_38)) (hts _ (wl_in w_14)) (hts _ (wl_in w_15)) rfl (by rw [hml]; exact hl.1) rfl dX3_init_1 (Nat.le_of_ble_eq_true rfl) (Nat.le_of_ble_eq_true rfl) ?_
  refine W.eq (g2 := F0 m 4 ls []) rfl ?_
  exact W.vret hx hb hr (fun t ht hW => ⟨⟨(), rfl, trivial, by rw [ht]; exact hP, hD⟩, hS.F ht⟩) hS.2.2 dX3_init_4
def q4f (a b c d : Nat) (j : Nat) : Nat := match j with
  | 0 => a
  | 1 => b
  | 2 => c
  | _ => d
theorem shelf_fn {G : va_G} {cF : ClassId} {x : Nat × va_E} {sh : Nat} {f g : Nat → Option Nat} {ws : va_W} {H : Heap} (h : va_P G vwCl (x :: (sh, .inl (cF, 4, .inr (.inr (.inr (.inr f))))) :: ws) H) (he : ∀ j, j < 4 → f j = g j) : va_P G vwCl (x :: (sh, .inl (cF, 4, .inr (.inr (.inr (.inr g))))) :: ws) H := by
  intro k q hq
  match k, hq with
  | 0, hq => exact h 0 q hq
  | 1, hq =>
    cases hq
    have h1 := h 1 _ rfl
    have e : vp_cell cF (4, .inr (.inr (.inr (.inr f)))) = vp_cell cF (4, .inr (.inr (.inr (.inr g)))) := by
      rw [vp_cell_q, vp_cell_q]
      unfold arrV
      congr 2
      funext j
      show va_rf (f j.val) = va_rf (g j.val)
      rw [he j.val j.isLt]
    show H[sh]? = some (vp_cell cF (4, .inr (.inr (.inr (.inr g)))))
    rw [← e]
    exact h1
  | k + 2, hq => exact h (k + 2) q hq
theorem shelf_fnD {A : Nat → Prop} {cF : ClassId} {x : Nat × va_E} {sh : Nat} {f g : Nat → Option Nat} {ws : va_W} (h : va_D A (x :: (sh, .inl (cF, 4, .inr (.inr (.inr (.inr f))))) :: ws)) : va_D A (x :: (sh, .inl (cF, 4, .inr (.inr (.inr (.inr g))))) :: ws) :=
  va_D.set (p := 1) h rfl
set_option maxHeartbeats 4000000 in
set_option maxRecDepth 100000 in
theorem cnX4_init (l : Launch) (G : va_G) (cI cF : ClassId) (h0 sz : Nat) : Met l yX4_init (wl yX4_init cX4_init 2 none) { frames := 2, cells := 13, slots := 54, locals := 32 } (va_Pc [.ref h0] (fun U => U.heap.size = sz ∧ va_P G vwCl [(h0, .inr (2, [.null, .null, .null, .null, .long 0]))] U.heap ∧ va_K G vwCl [(cI, .int), (cF, .object "RingForms$Form")] U ∧ va_AO "RingForms$Form" U ∧ va_Nw (.methodLinkNest RX4 26 yX3_init "RingForms") U)) (va_Qv (fun _ : Unit => True) (fun _ t => ∃ (sh xx xc gv se : Nat) (fa ca : Nat → Nat), va_P G vwCl (cW cI cF h0 sh xx xc gv se fa ca (fun _ => 1) (fun _ => upd (fun _ => 0) 0 1) 1 (upd (fun _ => 0) 0 1) (fun _ => 0) 0 0 0 0 0 0) t.heap ∧ va_D (va_A [(h0, .inr (2, [.null, .null, .null, .null, .long 0]))] sz) (cW cI cF h0 sh xx xc gv se fa ca (fun _ => 1) (fun _ => upd (fun _ => 0) 0 1) 1 (upd (fun _ => 0) 0 1) (fun _ => 0) 0 0 0 0 0 0)) (va_A [(h0, .inr (2, [.null, .null, .null, .null, .long 0]))] sz)) 13 54 (va_A [(h0, .inr (2, [.null, .null, .null, .null, .long 0]))] sz) := by
  refine Met.ofW (cc := cX4_init) (maxL := 2) (ret := none) (by decide) rfl ?_
  intro p e s m args below meth c s₁ B hml hv
  obtain ⟨rfl, hsz, hP, hK, hAO, hNW⟩ := hv
  have hx := B.exec
  have hb := B.bytes
  have hr := B.returns
  have hts := atoms_spec (ws := wl yX4_init cX4_init 2 none) B.pre
  have hown : s.vm.findClass RX4 = some m.cls := findClass_of_methodNamed B.named
  have hlocks := B.notSynchronized
  have hin : meth.name = "<init>" := (name_of_methodNamed B.named B.method).1
  subst hsz
  have hD := (va_D1 (a := h0) (e := .inr (2, [.null, .null, .null, .null, .long 0]))).self (sz := s.heap.size)
  generalize hAe : va_A [(h0, .inr (2, [.null, .null, .null, .null, .long 0]))] s.heap.size = A at hD ⊢
  have hA : ∀ q : Nat, s.heap.size ≤ q → A q := fun q h => by rw [← hAe]; exact Or.inr h
  have hS : va_S A s.heap s.heap [] := va_S.rf
  have hl := lv_entry ([.ref h0]) (n := 2) (Nat.le_of_ble_eq_true rfl)
  rw [lg_entry_eq]
  generalize (lg_sl ([.ref h0]) ++ List.replicate (2 - (lg_sl ([.ref h0])).length) Slot.unset).toArray = ls at hl ⊢
  have hl : lv_has ls 2 [(0, .ref h0)] := hl
  refine lv_aload_n hx hb dX4_init_0 rfl (lv_at hl 0 rfl) ?_
  refine W.objInit hx hb hown (hts _ (wl_in w_13)) (hts _ (wl_in w_14)) (hts _ (wl_in w_15)) rfl (by rw [hml]; exact hl.1) rfl dX4_init_1 (Nat.le_of_ble_eq_true rfl) (Nat.le_of_ble_eq_true rfl) ?_
  refine W.eq (g2 := F0 m 4 ls []) rfl ?_
  refine lv_aload_n hx hb dX4_init_4 rfl (lv_at hl 0 rfl) ?_
  refine lv_iconst (v := (4 : Int32)) hx hb dX4_init_5 (by decide) ?_
  refine va_newq (C := "RingForms$Form") (N' := 4) hx hb hown (hts _ (wl_in w_16)) hAO hK hP hD hS hA (by decide) (by decide) (by decide) (by decide) (by decide) dX4_init_6 (fun q1 cA H hK3 hP hD hS => ?_)
  obtain rfl := tyF hK3
  have hP : va_P G vwCl [(h0, .inr (2, [.null, .null, .null, .null, .long 0])), (q1, .inl (cF, 4, .inr (.inr (.inr (.inr (fun _ => none))))))] H := hP
  have hD : va_D A [(h0, .inr (2, [.null, .null, .null, .null, .long 0])), (q1, .inl (cF, 4, .inr (.inr (.inr (.inr (fun _ => none))))))] := hD
  refine W.widen (k := 1) (n := 4) (by decide) (by decide) ?_
  refine va_putF (D := G) (ci := 2) (v := .ref q1) (ty := .array (.object "RingForms$Form")) (C := RX4) (T := TX4) (N := 5) hx hb hts (fun w h => wl_in (inX4 w h)) tyX4 tyX4_ok nmX4 hown hK hP hD hS 0 rfl rfl 0 (by decide) (hts _ (wl_in w_60)) (fun _ h9 => h9) rfl hin rfl (by decide +kernel) rfl rfl (Nat.le_of_ble_eq_true rfl) dX4_init_9 (fun H locs hP hD hS => ?_)
  have hP : va_P G vwCl [(h0, .inr (2, [.ref q1, .null, .null, .null, .long 0])), (q1, .inl (cF, 4, .inr (.inr (.inr (.inr (fun _ => none))))))] H := hP
  have hD : va_D A [(h0, .inr (2, [.ref q1, .null, .null, .null, .long 0])), (q1, .inl (cF, 4, .inr (.inr (.inr (.inr (fun _ => none))))))] := hD
  refine lv_iconst (v := (0 : Int32)) hx hb dX4_init_12 (by decide) ?_
  refine lv_istore_n (lv' := [(1, .int (0 : Int32)), (0, .ref h0)]) hx hb dX4_init_13 rfl hl (by decide) rfl (fun ls hl => ?_)
  refine lv_iload_n hx hb dX4_init_14 rfl (lv_at hl 0 rfl) ?_
  refine lv_iconst (v := (4 : Int32)) hx hb dX4_init_15 (by decide) ?_
  refine lv_icmp_ge (tgt := 38) hx hb dX4_init_16 (by decide) (fun c => absurd c (by decide)) (fun _ => ?_)
  refine lv_aload_n hx hb dX4_init_19 rfl (lv_at hl 1 rfl) ?_
  refine va_get (D := G) (ci := 2) (v := .ref q1) (C := RX4) (T := TX4) (N := 5) hx hb hts (fun w h => wl_in (inX4 w h)) hown hK hP 0 rfl rfl 0 (by decide) (hts _ (wl_in w_60)) (fun _ h9 => h9) rfl dX4_init_20 ?_
  refine lv_iload_n hx hb dX4_init_23 rfl (lv_at hl 0 rfl) ?_
  refine va_new (ci := 0) (fs := [.int 0, .null]) (C := RX0) (T := TX0) (N := 2) hx hb hts (fun w h => wl_in (inX0 w h)) tyX0 tyX0_ok hown (hts _ (wl_in w_16)) (hts _ (wl_in w_18)) (hts _ (wl_in w_2)) hK hP hD hS hA rfl (fun j hj => by rcases (show j = 0 ∨ j = 1 by omega) with rfl | rfl <;> rfl) (by decide) (by decide) dX4_init_24 (fun q2 H hP hD hS => ?_)
  have hP : va_P G vwCl [(h0, .inr (2, [.ref q1, .null, .null, .null, .long 0])), (q1, .inl (cF, 4, .inr (.inr (.inr (.inr (fun _ => none)))))), (q2, .inr (0, [.int 0, .null]))] H := hP
  have hD : va_D A [(h0, .inr (2, [.ref q1, .null, .null, .null, .long 0])), (q1, .inl (cF, 4, .inr (.inr (.inr (.inr (fun _ => none)))))), (q2, .inr (0, [.int 0, .null]))] := hD
  refine W.widen (k := 2) (n := 6) (by decide) (by decide) ?_
  refine lv_dup hx hb dX4_init_27 rfl ?_
  have hPc := hP.sub (ws' := [(q2, .inr (0, [.int 0, .null]))]) [2] rfl
  have hFc := va_free (wc := [(q2, .inr (0, [.int 0, .null]))]) hD hS hA [2] rfl
  refine va_callv (va_runI (As := []) (rest := [.ref q2, .int (0 : Int32), .ref q1]) ⟨hx, hb, hml, hown, hts⟩ (cnX0_init l G cI cF q2 H.size) (cwI 0 hts (wl_good (fun _ h => wl_in h) w_21) rfl rfl rfl (hts _ (wl_in w_2)) (hts _ (wl_in w_19)) (hts _ (wl_in w_20)) rfl (by decide +kernel) ⟨Nat.le_of_ble_eq_true rfl, Nat.le_of_ble_eq_true rfl⟩) (pre_ct hK hPc) rfl rfl hl.1 rfl (lv_room (Nat.le_of_ble_eq_true rfl)) dX4_init_28 ⟨by decide, by decide⟩) hS (fun q _ h => hFc q h) hFc (fun u t H1 locs ht hvm hw hB hz1 hk1 hS => ?_)
  obtain ⟨q3, hP1, hD1⟩ := hB
  rw [ht] at hP1
  obtain ⟨hP, hD⟩ := va_join (wr := [(h0, .inr (2, [.ref q1, .null, .null, .null, .long 0])), (q1, .inl (cF, 4, .inr (.inr (.inr (.inr (fun _ => none))))))]) (w1 := [(q2, .inr (0, [.int 1, .ref q3])), (q3, .inl (cI, 6, .inl (upd (fun _ => 0) 0 1)))]) hP hD [2] [0, 1] rfl rfl (by decide) (by decide) hk1 hFc hP1 hD1
  generalize H1 = H at hP hS ⊢
  have hP : va_P G vwCl [(h0, .inr (2, [.ref q1, .null, .null, .null, .long 0])), (q1, .inl (cF, 4, .inr (.inr (.inr (.inr (fun _ => none)))))), (q2, .inr (0, [.int 1, .ref q3])), (q3, .inl (cI, 6, .inl (upd (fun _ => 0) 0 1)))] H := hP
  have hD : va_D A [(h0, .inr (2, [.ref q1, .null, .null, .null, .long 0])), (q1, .inl (cF, 4, .inr (.inr (.inr (.inr (fun _ => none)))))), (q2, .inr (0, [.int 1, .ref q3])), (q3, .inl (cI, 6, .inl (upd (fun _ => 0) 0 1)))] := hD
  refine W.widen (k := 3) (n := 12) (by decide) (by decide) ?_
  refine va_astq (r := (RX0, TX0, 2)) hx hb hK hP hD hS 1 1 2 0 rfl rfl rfl rfl (by unfold vp_in; decide) dX4_init_31 (fun H locs hP hD hS => ?_)
  have hP : va_P G vwCl [(h0, .inr (2, [.ref q1, .null, .null, .null, .long 0])), (q1, .inl (cF, 4, .inr (.inr (.inr (.inr (va_up (fun _ => none) 0 (some q2))))))), (q2, .inr (0, [.int 1, .ref q3])), (q3, .inl (cI, 6, .inl (upd (fun _ => 0) 0 1)))] H := hP
  have hD : va_D A [(h0, .inr (2, [.ref q1, .null, .null, .null, .long 0])), (q1, .inl (cF, 4, .inr (.inr (.inr (.inr (va_up (fun _ => none) 0 (some q2))))))), (q2, .inr (0, [.int 1, .ref q3])), (q3, .inl (cI, 6, .inl (upd (fun _ => 0) 0 1)))] := hD
  refine lv_iinc (v := (1 : Int32)) (lv' := [(1, .int (1 : Int32)), (0, .ref h0)]) hx hb dX4_init_32 hl (k := 0) rfl (by decide) (by decide) rfl (fun ls hl => ?_)
  refine lv_goto (tgt := 14) hx hb dX4_init_35 (by decide) ?_
  refine lv_iload_n hx hb dX4_init_14 rfl (lv_at hl 0 rfl) ?_
  refine lv_iconst (v := (4 : Int32)) hx hb dX4_init_15 (by decide) ?_
  refine lv_icmp_ge (tgt := 38) hx hb dX4_init_16 (by decide) (fun c => absurd c (by decide)) (fun _ => ?_)
  refine lv_aload_n hx hb dX4_init_19 rfl (lv_at hl 1 rfl) ?_
  refine va_get (D := G) (ci := 2) (v := .ref q1) (C := RX4) (T := TX4) (N := 5) hx hb hts (fun w h => wl_in (inX4 w h)) hown hK hP 0 rfl rfl 0 (by decide) (hts _ (wl_in w_60)) (fun _ h9 => h9) rfl dX4_init_20 ?_
  refine lv_iload_n hx hb dX4_init_23 rfl (lv_at hl 0 rfl) ?_
  refine va_new (ci := 0) (fs := [.int 0, .null]) (C := RX0) (T := TX0) (N := 2) hx hb hts (fun w h => wl_in (inX0 w h)) tyX0 tyX0_ok hown (hts _ (wl_in w_16)) (hts _ (wl_in w_18)) (hts _ (wl_in w_2)) hK hP hD hS hA rfl (fun j hj => by rcases (show j = 0 ∨ j = 1 by omega) with rfl | rfl <;> rfl) (by decide) (by decide) dX4_init_24 (fun q4 H hP hD hS => ?_)
  have hP : va_P G vwCl [(h0, .inr (2, [.ref q1, .null, .null, .null, .long 0])), (q1, .inl (cF, 4, .inr (.inr (.inr (.inr (va_up (fun _ => none) 0 (some q2))))))), (q2, .inr (0, [.int 1, .ref q3])), (q3, .inl (cI, 6, .inl (upd (fun _ => 0) 0 1))), (q4, .inr (0, [.int 0, .null]))] H := hP
  have hD : va_D A [(h0, .inr (2, [.ref q1, .null, .null, .null, .long 0])), (q1, .inl (cF, 4, .inr (.inr (.inr (.inr (va_up (fun _ => none) 0 (some q2))))))), (q2, .inr (0, [.int 1, .ref q3])), (q3, .inl (cI, 6, .inl (upd (fun _ => 0) 0 1))), (q4, .inr (0, [.int 0, .null]))] := hD
  refine W.widen (k := 4) (n := 14) (by decide) (by decide) ?_
  refine lv_dup hx hb dX4_init_27 rfl ?_
  have hPc := hP.sub (ws' := [(q4, .inr (0, [.int 0, .null]))]) [4] rfl
  have hFc := va_free (wc := [(q4, .inr (0, [.int 0, .null]))]) hD hS hA [4] rfl
  refine va_callv (va_runI (As := []) (rest := [.ref q4, .int (1 : Int32), .ref q1]) ⟨hx, hb, hml, hown, hts⟩ (cnX0_init l G cI cF q4 H.size) (cwI 0 hts (wl_good (fun _ h => wl_in h) w_21) rfl rfl rfl (hts _ (wl_in w_2)) (hts _ (wl_in w_19)) (hts _ (wl_in w_20)) rfl (by decide +kernel) ⟨Nat.le_of_ble_eq_true rfl, Nat.le_of_ble_eq_true rfl⟩) (pre_ct hK hPc) rfl rfl hl.1 rfl (lv_room (Nat.le_of_ble_eq_true rfl)) dX4_init_28 ⟨by decide, by decide⟩) hS (fun q _ h => hFc q h) hFc (fun u t H1 locs ht hvm hw hB hz1 hk1 hS => ?_)
  obtain ⟨q5, hP1, hD1⟩ := hB
  rw [ht] at hP1
  obtain ⟨hP, hD⟩ := va_join (wr := [(h0, .inr (2, [.ref q1, .null, .null, .null, .long 0])), (q1, .inl (cF, 4, .inr (.inr (.inr (.inr (va_up (fun _ => none) 0 (some q2))))))), (q2, .inr (0, [.int 1, .ref q3])), (q3, .inl (cI, 6, .inl (upd (fun _ => 0) 0 1)))]) (w1 := [(q4, .inr (0, [.int 1, .ref q5])), (q5, .inl (cI, 6, .inl (upd (fun _ => 0) 0 1)))]) hP hD [4] [0, 1, 2, 3] rfl rfl (by decide) (by decide) hk1 hFc hP1 hD1
  generalize H1 = H at hP hS ⊢
  have hP : va_P G vwCl [(h0, .inr (2, [.ref q1, .null, .null, .null, .long 0])), (q1, .inl (cF, 4, .inr (.inr (.inr (.inr (va_up (fun _ => none) 0 (some q2))))))), (q2, .inr (0, [.int 1, .ref q3])), (q3, .inl (cI, 6, .inl (upd (fun _ => 0) 0 1))), (q4, .inr (0, [.int 1, .ref q5])), (q5, .inl (cI, 6, .inl (upd (fun _ => 0) 0 1)))] H := hP
  have hD : va_D A [(h0, .inr (2, [.ref q1, .null, .null, .null, .long 0])), (q1, .inl (cF, 4, .inr (.inr (.inr (.inr (va_up (fun _ => none) 0 (some q2))))))), (q2, .inr (0, [.int 1, .ref q3])), (q3, .inl (cI, 6, .inl (upd (fun _ => 0) 0 1))), (q4, .inr (0, [.int 1, .ref q5])), (q5, .inl (cI, 6, .inl (upd (fun _ => 0) 0 1)))] := hD
  refine W.widen (k := 5) (n := 20) (by decide) (by decide) ?_
  refine va_astq (r := (RX0, TX0, 2)) hx hb hK hP hD hS 1 1 4 0 rfl rfl rfl rfl (by unfold vp_in; decide) dX4_init_31 (fun H locs hP hD hS => ?_)
  have hP : va_P G vwCl [(h0, .inr (2, [.ref q1, .null, .null, .null, .long 0])), (q1, .inl (cF, 4, .inr (.inr (.inr (.inr (va_up (va_up (fun _ => none) 0 (some q2)) 1 (some q4))))))), (q2, .inr (0, [.int 1, .ref q3])), (q3, .inl (cI, 6, .inl (upd (fun _ => 0) 0 1))), (q4, .inr (0, [.int 1, .ref q5])), (q5, .inl (cI, 6, .inl (upd (fun _ => 0) 0 1)))] H := hP
  have hD : va_D A [(h0, .inr (2, [.ref q1, .null, .null, .null, .long 0])), (q1, .inl (cF, 4, .inr (.inr (.inr (.inr (va_up (va_up (fun _ => none) 0 (some q2)) 1 (some q4))))))), (q2, .inr (0, [.int 1, .ref q3])), (q3, .inl (cI, 6, .inl (upd (fun _ => 0) 0 1))), (q4, .inr (0, [.int 1, .ref q5])), (q5, .inl (cI, 6, .inl (upd (fun _ => 0) 0 1)))] := hD
  refine lv_iinc (v := (2 : Int32)) (lv' := [(1, .int (2 : Int32)), (0, .ref h0)]) hx hb dX4_init_32 hl (k := 0) rfl (by decide) (by decide) rfl (fun ls hl => ?_)
  refine lv_goto (tgt := 14) hx hb dX4_init_35 (by decide) ?_
  refine lv_iload_n hx hb dX4_init_14 rfl (lv_at hl 0 rfl) ?_
  refine lv_iconst (v := (4 : Int32)) hx hb dX4_init_15 (by decide) ?_
  refine lv_icmp_ge (tgt := 38) hx hb dX4_init_16 (by decide) (fun c => absurd c (by decide)) (fun _ => ?_)
  refine lv_aload_n hx hb dX4_init_19 rfl (lv_at hl 1 rfl) ?_
  refine va_get (D := G) (ci := 2) (v := .ref q1) (C := RX4) (T := TX4) (N := 5) hx hb hts (fun w h => wl_in (inX4 w h)) hown hK hP 0 rfl rfl 0 (by decide) (hts _ (wl_in w_60)) (fun _ h9 => h9) rfl dX4_init_20 ?_
  refine lv_iload_n hx hb dX4_init_23 rfl (lv_at hl 0 rfl) ?_
  refine va_new (ci := 0) (fs := [.int 0, .null]) (C := RX0) (T := TX0) (N := 2) hx hb hts (fun w h => wl_in (inX0 w h)) tyX0 tyX0_ok hown (hts _ (wl_in w_16)) (hts _ (wl_in w_18)) (hts _ (wl_in w_2)) hK hP hD hS hA rfl (fun j hj => by rcases (show j = 0 ∨ j = 1 by omega) with rfl | rfl <;> rfl) (by decide) (by decide) dX4_init_24 (fun q6 H hP hD hS => ?_)
  have hP : va_P G vwCl [(h0, .inr (2, [.ref q1, .null, .null, .null, .long 0])), (q1, .inl (cF, 4, .inr (.inr (.inr (.inr (va_up (va_up (fun _ => none) 0 (some q2)) 1 (some q4))))))), (q2, .inr (0, [.int 1, .ref q3])), (q3, .inl (cI, 6, .inl (upd (fun _ => 0) 0 1))), (q4, .inr (0, [.int 1, .ref q5])), (q5, .inl (cI, 6, .inl (upd (fun _ => 0) 0 1))), (q6, .inr (0, [.int 0, .null]))] H := hP
  have hD : va_D A [(h0, .inr (2, [.ref q1, .null, .null, .null, .long 0])), (q1, .inl (cF, 4, .inr (.inr (.inr (.inr (va_up (va_up (fun _ => none) 0 (some q2)) 1 (some q4))))))), (q2, .inr (0, [.int 1, .ref q3])), (q3, .inl (cI, 6, .inl (upd (fun _ => 0) 0 1))), (q4, .inr (0, [.int 1, .ref q5])), (q5, .inl (cI, 6, .inl (upd (fun _ => 0) 0 1))), (q6, .inr (0, [.int 0, .null]))] := hD
  refine W.widen (k := 6) (n := 22) (by decide) (by decide) ?_
  refine lv_dup hx hb dX4_init_27 rfl ?_
  have hPc := hP.sub (ws' := [(q6, .inr (0, [.int 0, .null]))]) [6] rfl
  have hFc := va_free (wc := [(q6, .inr (0, [.int 0, .null]))]) hD hS hA [6] rfl
  refine va_callv (va_runI (As := []) (rest := [.ref q6, .int (2 : Int32), .ref q1]) ⟨hx, hb, hml, hown, hts⟩ (cnX0_init l G cI cF q6 H.size) (cwI 0 hts (wl_good (fun _ h => wl_in h) w_21) rfl rfl rfl (hts _ (wl_in w_2)) (hts _ (wl_in w_19)) (hts _ (wl_in w_20)) rfl (by decide +kernel) ⟨Nat.le_of_ble_eq_true rfl, Nat.le_of_ble_eq_true rfl⟩) (pre_ct hK hPc) rfl rfl hl.1 rfl (lv_room (Nat.le_of_ble_eq_true rfl)) dX4_init_28 ⟨by decide, by decide⟩) hS (fun q _ h => hFc q h) hFc (fun u t H1 locs ht hvm hw hB hz1 hk1 hS => ?_)
  obtain ⟨q7, hP1, hD1⟩ := hB
  rw [ht] at hP1
  obtain ⟨hP, hD⟩ := va_join (wr := [(h0, .inr (2, [.ref q1, .null, .null, .null, .long 0])), (q1, .inl (cF, 4, .inr (.inr (.inr (.inr (va_up (va_up (fun _ => none) 0 (some q2)) 1 (some q4))))))), (q2, .inr (0, [.int 1, .ref q3])), (q3, .inl (cI, 6, .inl (upd (fun _ => 0) 0 1))), (q4, .inr (0, [.int 1, .ref q5])), (q5, .inl (cI, 6, .inl (upd (fun _ => 0) 0 1)))]) (w1 := [(q6, .inr (0, [.int 1, .ref q7])), (q7, .inl (cI, 6, .inl (upd (fun _ => 0) 0 1)))]) hP hD [6] [0, 1, 2, 3, 4, 5] rfl rfl (by decide) (by decide) hk1 hFc hP1 hD1
  generalize H1 = H at hP hS ⊢
  have hP : va_P G vwCl [(h0, .inr (2, [.ref q1, .null, .null, .null, .long 0])), (q1, .inl (cF, 4, .inr (.inr (.inr (.inr (va_up (va_up (fun _ => none) 0 (some q2)) 1 (some q4))))))), (q2, .inr (0, [.int 1, .ref q3])), (q3, .inl (cI, 6, .inl (upd (fun _ => 0) 0 1))), (q4, .inr (0, [.int 1, .ref q5])), (q5, .inl (cI, 6, .inl (upd (fun _ => 0) 0 1))), (q6, .inr (0, [.int 1, .ref q7])), (q7, .inl (cI, 6, .inl (upd (fun _ => 0) 0 1)))] H := hP
  have hD : va_D A [(h0, .inr (2, [.ref q1, .null, .null, .null, .long 0])), (q1, .inl (cF, 4, .inr (.inr (.inr (.inr (va_up (va_up (fun _ => none) 0 (some q2)) 1 (some q4))))))), (q2, .inr (0, [.int 1, .ref q3])), (q3, .inl (cI, 6, .inl (upd (fun _ => 0) 0 1))), (q4, .inr (0, [.int 1, .ref q5])), (q5, .inl (cI, 6, .inl (upd (fun _ => 0) 0 1))), (q6, .inr (0, [.int 1, .ref q7])), (q7, .inl (cI, 6, .inl (upd (fun _ => 0) 0 1)))] := hD
  refine W.widen (k := 7) (n := 28) (by decide) (by decide) ?_
  refine va_astq (r := (RX0, TX0, 2)) hx hb hK hP hD hS 1 1 6 0 rfl rfl rfl rfl (by unfold vp_in; decide) dX4_init_31 (fun H locs hP hD hS => ?_)
  have hP : va_P G vwCl [(h0, .inr (2, [.ref q1, .null, .null, .null, .long 0])), (q1, .inl (cF, 4, .inr (.inr (.inr (.inr (va_up (va_up (va_up (fun _ => none) 0 (some q2)) 1 (some q4)) 2 (some q6))))))), (q2, .inr (0, [.int 1, .ref q3])), (q3, .inl (cI, 6, .inl (upd (fun _ => 0) 0 1))), (q4, .inr (0, [.int 1, .ref q5])), (q5, .inl (cI, 6, .inl (upd (fun _ => 0) 0 1))), (q6, .inr (0, [.int 1, .ref q7])), (q7, .inl (cI, 6, .inl (upd (fun _ => 0) 0 1)))] H := hP
  have hD : va_D A [(h0, .inr (2, [.ref q1, .null, .null, .null, .long 0])), (q1, .inl (cF, 4, .inr (.inr (.inr (.inr (va_up (va_up (va_up (fun _ => none) 0 (some q2)) 1 (some q4)) 2 (some q6))))))), (q2, .inr (0, [.int 1, .ref q3])), (q3, .inl (cI, 6, .inl (upd (fun _ => 0) 0 1))), (q4, .inr (0, [.int 1, .ref q5])), (q5, .inl (cI, 6, .inl (upd (fun _ => 0) 0 1))), (q6, .inr (0, [.int 1, .ref q7])), (q7, .inl (cI, 6, .inl (upd (fun _ => 0) 0 1)))] := hD
  refine lv_iinc (v := (3 : Int32)) (lv' := [(1, .int (3 : Int32)), (0, .ref h0)]) hx hb dX4_init_32 hl (k := 0) rfl (by decide) (by decide) rfl (fun ls hl => ?_)
  refine lv_goto (tgt := 14) hx hb dX4_init_35 (by decide) ?_
  refine lv_iload_n hx hb dX4_init_14 rfl (lv_at hl 0 rfl) ?_
  refine lv_iconst (v := (4 : Int32)) hx hb dX4_init_15 (by decide) ?_
  refine lv_icmp_ge (tgt := 38) hx hb dX4_init_16 (by decide) (fun c => absurd c (by decide)) (fun _ => ?_)
  refine lv_aload_n hx hb dX4_init_19 rfl (lv_at hl 1 rfl) ?_
  refine va_get (D := G) (ci := 2) (v := .ref q1) (C := RX4) (T := TX4) (N := 5) hx hb hts (fun w h => wl_in (inX4 w h)) hown hK hP 0 rfl rfl 0 (by decide) (hts _ (wl_in w_60)) (fun _ h9 => h9) rfl dX4_init_20 ?_
  refine lv_iload_n hx hb dX4_init_23 rfl (lv_at hl 0 rfl) ?_
  refine va_new (ci := 0) (fs := [.int 0, .null]) (C := RX0) (T := TX0) (N := 2) hx hb hts (fun w h => wl_in (inX0 w h)) tyX0 tyX0_ok hown (hts _ (wl_in w_16)) (hts _ (wl_in w_18)) (hts _ (wl_in w_2)) hK hP hD hS hA rfl (fun j hj => by rcases (show j = 0 ∨ j = 1 by omega) with rfl | rfl <;> rfl) (by decide) (by decide) dX4_init_24 (fun q8 H hP hD hS => ?_)
  have hP : va_P G vwCl [(h0, .inr (2, [.ref q1, .null, .null, .null, .long 0])), (q1, .inl (cF, 4, .inr (.inr (.inr (.inr (va_up (va_up (va_up (fun _ => none) 0 (some q2)) 1 (some q4)) 2 (some q6))))))), (q2, .inr (0, [.int 1, .ref q3])), (q3, .inl (cI, 6, .inl (upd (fun _ => 0) 0 1))), (q4, .inr (0, [.int 1, .ref q5])), (q5, .inl (cI, 6, .inl (upd (fun _ => 0) 0 1))), (q6, .inr (0, [.int 1, .ref q7])), (q7, .inl (cI, 6, .inl (upd (fun _ => 0) 0 1))), (q8, .inr (0, [.int 0, .null]))] H := hP
  have hD : va_D A [(h0, .inr (2, [.ref q1, .null, .null, .null, .long 0])), (q1, .inl (cF, 4, .inr (.inr (.inr (.inr (va_up (va_up (va_up (fun _ => none) 0 (some q2)) 1 (some q4)) 2 (some q6))))))), (q2, .inr (0, [.int 1, .ref q3])), (q3, .inl (cI, 6, .inl (upd (fun _ => 0) 0 1))), (q4, .inr (0, [.int 1, .ref q5])), (q5, .inl (cI, 6, .inl (upd (fun _ => 0) 0 1))), (q6, .inr (0, [.int 1, .ref q7])), (q7, .inl (cI, 6, .inl (upd (fun _ => 0) 0 1))), (q8, .inr (0, [.int 0, .null]))] := hD
  refine W.widen (k := 8) (n := 30) (by decide) (by decide) ?_
  refine lv_dup hx hb dX4_init_27 rfl ?_
  have hPc := hP.sub (ws' := [(q8, .inr (0, [.int 0, .null]))]) [8] rfl
  have hFc := va_free (wc := [(q8, .inr (0, [.int 0, .null]))]) hD hS hA [8] rfl
  refine va_callv (va_runI (As := []) (rest := [.ref q8, .int (3 : Int32), .ref q1]) ⟨hx, hb, hml, hown, hts⟩ (cnX0_init l G cI cF q8 H.size) (cwI 0 hts (wl_good (fun _ h => wl_in h) w_21) rfl rfl rfl (hts _ (wl_in w_2)) (hts _ (wl_in w_19)) (hts _ (wl_in w_20)) rfl (by decide +kernel) ⟨Nat.le_of_ble_eq_true rfl, Nat.le_of_ble_eq_true rfl⟩) (pre_ct hK hPc) rfl rfl hl.1 rfl (lv_room (Nat.le_of_ble_eq_true rfl)) dX4_init_28 ⟨by decide, by decide⟩) hS (fun q _ h => hFc q h) hFc (fun u t H1 locs ht hvm hw hB hz1 hk1 hS => ?_)
  obtain ⟨q9, hP1, hD1⟩ := hB
  rw [ht] at hP1
  obtain ⟨hP, hD⟩ := va_join (wr := [(h0, .inr (2, [.ref q1, .null, .null, .null, .long 0])), (q1, .inl (cF, 4, .inr (.inr (.inr (.inr (va_up (va_up (va_up (fun _ => none) 0 (some q2)) 1 (some q4)) 2 (some q6))))))), (q2, .inr (0, [.int 1, .ref q3])), (q3, .inl (cI, 6, .inl (upd (fun _ => 0) 0 1))), (q4, .inr (0, [.int 1, .ref q5])), (q5, .inl (cI, 6, .inl (upd (fun _ => 0) 0 1))), (q6, .inr (0, [.int 1, .ref q7])), (q7, .inl (cI, 6, .inl (upd (fun _ => 0) 0 1)))]) (w1 := [(q8, .inr (0, [.int 1, .ref q9])), (q9, .inl (cI, 6, .inl (upd (fun _ => 0) 0 1)))]) hP hD [8] [0, 1, 2, 3, 4, 5, 6, 7] rfl rfl (by decide) (by decide) hk1 hFc hP1 hD1
  generalize H1 = H at hP hS ⊢
  have hP : va_P G vwCl [(h0, .inr (2, [.ref q1, .null, .null, .null, .long 0])), (q1, .inl (cF, 4, .inr (.inr (.inr (.inr (va_up (va_up (va_up (fun _ => none) 0 (some q2)) 1 (some q4)) 2 (some q6))))))), (q2, .inr (0, [.int 1, .ref q3])), (q3, .inl (cI, 6, .inl (upd (fun _ => 0) 0 1))), (q4, .inr (0, [.int 1, .ref q5])), (q5, .inl (cI, 6, .inl (upd (fun _ => 0) 0 1))), (q6, .inr (0, [.int 1, .ref q7])), (q7, .inl (cI, 6, .inl (upd (fun _ => 0) 0 1))), (q8, .inr (0, [.int 1, .ref q9])), (q9, .inl (cI, 6, .inl (upd (fun _ => 0) 0 1)))] H := hP
  have hD : va_D A [(h0, .inr (2, [.ref q1, .null, .null, .null, .long 0])), (q1, .inl (cF, 4, .inr (.inr (.inr (.inr (va_up (va_up (va_up (fun _ => none) 0 (some q2)) 1 (some q4)) 2 (some q6))))))), (q2, .inr (0, [.int 1, .ref q3])), (q3, .inl (cI, 6, .inl (upd (fun _ => 0) 0 1))), (q4, .inr (0, [.int 1, .ref q5])), (q5, .inl (cI, 6, .inl (upd (fun _ => 0) 0 1))), (q6, .inr (0, [.int 1, .ref q7])), (q7, .inl (cI, 6, .inl (upd (fun _ => 0) 0 1))), (q8, .inr (0, [.int 1, .ref q9])), (q9, .inl (cI, 6, .inl (upd (fun _ => 0) 0 1)))] := hD
  refine W.widen (k := 9) (n := 36) (by decide) (by decide) ?_
  refine va_astq (r := (RX0, TX0, 2)) hx hb hK hP hD hS 1 1 8 0 rfl rfl rfl rfl (by unfold vp_in; decide) dX4_init_31 (fun H locs hP hD hS => ?_)
  have hP : va_P G vwCl [(h0, .inr (2, [.ref q1, .null, .null, .null, .long 0])), (q1, .inl (cF, 4, .inr (.inr (.inr (.inr (va_up (va_up (va_up (va_up (fun _ => none) 0 (some q2)) 1 (some q4)) 2 (some q6)) 3 (some q8))))))), (q2, .inr (0, [.int 1, .ref q3])), (q3, .inl (cI, 6, .inl (upd (fun _ => 0) 0 1))), (q4, .inr (0, [.int 1, .ref q5])), (q5, .inl (cI, 6, .inl (upd (fun _ => 0) 0 1))), (q6, .inr (0, [.int 1, .ref q7])), (q7, .inl (cI, 6, .inl (upd (fun _ => 0) 0 1))), (q8, .inr (0, [.int 1, .ref q9])), (q9, .inl (cI, 6, .inl (upd (fun _ => 0) 0 1)))] H := hP
  have hD : va_D A [(h0, .inr (2, [.ref q1, .null, .null, .null, .long 0])), (q1, .inl (cF, 4, .inr (.inr (.inr (.inr (va_up (va_up (va_up (va_up (fun _ => none) 0 (some q2)) 1 (some q4)) 2 (some q6)) 3 (some q8))))))), (q2, .inr (0, [.int 1, .ref q3])), (q3, .inl (cI, 6, .inl (upd (fun _ => 0) 0 1))), (q4, .inr (0, [.int 1, .ref q5])), (q5, .inl (cI, 6, .inl (upd (fun _ => 0) 0 1))), (q6, .inr (0, [.int 1, .ref q7])), (q7, .inl (cI, 6, .inl (upd (fun _ => 0) 0 1))), (q8, .inr (0, [.int 1, .ref q9])), (q9, .inl (cI, 6, .inl (upd (fun _ => 0) 0 1)))] := hD
  refine lv_iinc (v := (4 : Int32)) (lv' := [(1, .int (4 : Int32)), (0, .ref h0)]) hx hb dX4_init_32 hl (k := 0) rfl (by decide) (by decide) rfl (fun ls hl => ?_)
  refine lv_goto (tgt := 14) hx hb dX4_init_35 (by decide) ?_
  refine lv_iload_n hx hb dX4_init_14 rfl (lv_at hl 0 rfl) ?_
  refine lv_iconst (v := (4 : Int32)) hx hb dX4_init_15 (by decide) ?_
  refine lv_icmp_ge (tgt := 38) hx hb dX4_init_16 (by decide) (fun _ => ?_) (fun c => absurd (by decide) c)
  refine lv_aload_n hx hb dX4_init_38 rfl (lv_at hl 1 rfl) ?_
  refine va_new (ci := 0) (fs := [.int 0, .null]) (C := RX0) (T := TX0) (N := 2) hx hb hts (fun w h => wl_in (inX0 w h)) tyX0 tyX0_ok hown (hts _ (wl_in w_16)) (hts _ (wl_in w_18)) (hts _ (wl_in w_2)) hK hP hD hS hA rfl (fun j hj => by rcases (show j = 0 ∨ j = 1 by omega) with rfl | rfl <;> rfl) (by decide) (by decide) dX4_init_39 (fun q10 H hP hD hS => ?_)
  have hP : va_P G vwCl [(h0, .inr (2, [.ref q1, .null, .null, .null, .long 0])), (q1, .inl (cF, 4, .inr (.inr (.inr (.inr (va_up (va_up (va_up (va_up (fun _ => none) 0 (some q2)) 1 (some q4)) 2 (some q6)) 3 (some q8))))))), (q2, .inr (0, [.int 1, .ref q3])), (q3, .inl (cI, 6, .inl (upd (fun _ => 0) 0 1))), (q4, .inr (0, [.int 1, .ref q5])), (q5, .inl (cI, 6, .inl (upd (fun _ => 0) 0 1))), (q6, .inr (0, [.int 1, .ref q7])), (q7, .inl (cI, 6, .inl (upd (fun _ => 0) 0 1))), (q8, .inr (0, [.int 1, .ref q9])), (q9, .inl (cI, 6, .inl (upd (fun _ => 0) 0 1))), (q10, .inr (0, [.int 0, .null]))] H := hP
  have hD : va_D A [(h0, .inr (2, [.ref q1, .null, .null, .null, .long 0])), (q1, .inl (cF, 4, .inr (.inr (.inr (.inr (va_up (va_up (va_up (va_up (fun _ => none) 0 (some q2)) 1 (some q4)) 2 (some q6)) 3 (some q8))))))), (q2, .inr (0, [.int 1, .ref q3])), (q3, .inl (cI, 6, .inl (upd (fun _ => 0) 0 1))), (q4, .inr (0, [.int 1, .ref q5])), (q5, .inl (cI, 6, .inl (upd (fun _ => 0) 0 1))), (q6, .inr (0, [.int 1, .ref q7])), (q7, .inl (cI, 6, .inl (upd (fun _ => 0) 0 1))), (q8, .inr (0, [.int 1, .ref q9])), (q9, .inl (cI, 6, .inl (upd (fun _ => 0) 0 1))), (q10, .inr (0, [.int 0, .null]))] := hD
  refine W.widen (k := 10) (n := 38) (by decide) (by decide) ?_
  refine lv_dup hx hb dX4_init_42 rfl ?_
  have hPc := hP.sub (ws' := [(q10, .inr (0, [.int 0, .null]))]) [10] rfl
  have hFc := va_free (wc := [(q10, .inr (0, [.int 0, .null]))]) hD hS hA [10] rfl
  refine va_callv (va_runI (As := []) (rest := [.ref q10, .ref h0]) ⟨hx, hb, hml, hown, hts⟩ (cnX0_init l G cI cF q10 H.size) (cwI 0 hts (wl_good (fun _ h => wl_in h) w_21) rfl rfl rfl (hts _ (wl_in w_2)) (hts _ (wl_in w_19)) (hts _ (wl_in w_20)) rfl (by decide +kernel) ⟨Nat.le_of_ble_eq_true rfl, Nat.le_of_ble_eq_true rfl⟩) (pre_ct hK hPc) rfl rfl hl.1 rfl (lv_room (Nat.le_of_ble_eq_true rfl)) dX4_init_43 ⟨by decide, by decide⟩) hS (fun q _ h => hFc q h) hFc (fun u t H1 locs ht hvm hw hB hz1 hk1 hS => ?_)
  obtain ⟨q11, hP1, hD1⟩ := hB
  rw [ht] at hP1
  obtain ⟨hP, hD⟩ := va_join (wr := [(h0, .inr (2, [.ref q1, .null, .null, .null, .long 0])), (q1, .inl (cF, 4, .inr (.inr (.inr (.inr (va_up (va_up (va_up (va_up (fun _ => none) 0 (some q2)) 1 (some q4)) 2 (some q6)) 3 (some q8))))))), (q2, .inr (0, [.int 1, .ref q3])), (q3, .inl (cI, 6, .inl (upd (fun _ => 0) 0 1))), (q4, .inr (0, [.int 1, .ref q5])), (q5, .inl (cI, 6, .inl (upd (fun _ => 0) 0 1))), (q6, .inr (0, [.int 1, .ref q7])), (q7, .inl (cI, 6, .inl (upd (fun _ => 0) 0 1))), (q8, .inr (0, [.int 1, .ref q9])), (q9, .inl (cI, 6, .inl (upd (fun _ => 0) 0 1)))]) (w1 := [(q10, .inr (0, [.int 1, .ref q11])), (q11, .inl (cI, 6, .inl (upd (fun _ => 0) 0 1)))]) hP hD [10] [0, 1, 2, 3, 4, 5, 6, 7, 8, 9] rfl rfl (by decide) (by decide) hk1 hFc hP1 hD1
  generalize H1 = H at hP hS ⊢
  have hP : va_P G vwCl [(h0, .inr (2, [.ref q1, .null, .null, .null, .long 0])), (q1, .inl (cF, 4, .inr (.inr (.inr (.inr (va_up (va_up (va_up (va_up (fun _ => none) 0 (some q2)) 1 (some q4)) 2 (some q6)) 3 (some q8))))))), (q2, .inr (0, [.int 1, .ref q3])), (q3, .inl (cI, 6, .inl (upd (fun _ => 0) 0 1))), (q4, .inr (0, [.int 1, .ref q5])), (q5, .inl (cI, 6, .inl (upd (fun _ => 0) 0 1))), (q6, .inr (0, [.int 1, .ref q7])), (q7, .inl (cI, 6, .inl (upd (fun _ => 0) 0 1))), (q8, .inr (0, [.int 1, .ref q9])), (q9, .inl (cI, 6, .inl (upd (fun _ => 0) 0 1))), (q10, .inr (0, [.int 1, .ref q11])), (q11, .inl (cI, 6, .inl (upd (fun _ => 0) 0 1)))] H := hP
  have hD : va_D A [(h0, .inr (2, [.ref q1, .null, .null, .null, .long 0])), (q1, .inl (cF, 4, .inr (.inr (.inr (.inr (va_up (va_up (va_up (va_up (fun _ => none) 0 (some q2)) 1 (some q4)) 2 (some q6)) 3 (some q8))))))), (q2, .inr (0, [.int 1, .ref q3])), (q3, .inl (cI, 6, .inl (upd (fun _ => 0) 0 1))), (q4, .inr (0, [.int 1, .ref q5])), (q5, .inl (cI, 6, .inl (upd (fun _ => 0) 0 1))), (q6, .inr (0, [.int 1, .ref q7])), (q7, .inl (cI, 6, .inl (upd (fun _ => 0) 0 1))), (q8, .inr (0, [.int 1, .ref q9])), (q9, .inl (cI, 6, .inl (upd (fun _ => 0) 0 1))), (q10, .inr (0, [.int 1, .ref q11])), (q11, .inl (cI, 6, .inl (upd (fun _ => 0) 0 1)))] := hD
  refine W.widen (k := 11) (n := 44) (by decide) (by decide) ?_
  refine va_putF (D := G) (ci := 2) (v := .ref q10) (ty := .object "RingForms$Form") (C := RX4) (T := TX4) (N := 5) hx hb hts (fun w h => wl_in (inX4 w h)) tyX4 tyX4_ok nmX4 hown hK hP hD hS 0 rfl rfl 1 (by decide) (hts _ (wl_in w_61)) (fun _ h9 => h9) rfl hin rfl (by decide +kernel) rfl rfl (Nat.le_of_ble_eq_true rfl) dX4_init_46 (fun H locs hP hD hS => ?_)
  have hP : va_P G vwCl [(h0, .inr (2, [.ref q1, .ref q10, .null, .null, .long 0])), (q1, .inl (cF, 4, .inr (.inr (.inr (.inr (va_up (va_up (va_up (va_up (fun _ => none) 0 (some q2)) 1 (some q4)) 2 (some q6)) 3 (some q8))))))), (q2, .inr (0, [.int 1, .ref q3])), (q3, .inl (cI, 6, .inl (upd (fun _ => 0) 0 1))), (q4, .inr (0, [.int 1, .ref q5])), (q5, .inl (cI, 6, .inl (upd (fun _ => 0) 0 1))), (q6, .inr (0, [.int 1, .ref q7])), (q7, .inl (cI, 6, .inl (upd (fun _ => 0) 0 1))), (q8, .inr (0, [.int 1, .ref q9])), (q9, .inl (cI, 6, .inl (upd (fun _ => 0) 0 1))), (q10, .inr (0, [.int 1, .ref q11])), (q11, .inl (cI, 6, .inl (upd (fun _ => 0) 0 1)))] H := hP
  have hD : va_D A [(h0, .inr (2, [.ref q1, .ref q10, .null, .null, .long 0])), (q1, .inl (cF, 4, .inr (.inr (.inr (.inr (va_up (va_up (va_up (va_up (fun _ => none) 0 (some q2)) 1 (some q4)) 2 (some q6)) 3 (some q8))))))), (q2, .inr (0, [.int 1, .ref q3])), (q3, .inl (cI, 6, .inl (upd (fun _ => 0) 0 1))), (q4, .inr (0, [.int 1, .ref q5])), (q5, .inl (cI, 6, .inl (upd (fun _ => 0) 0 1))), (q6, .inr (0, [.int 1, .ref q7])), (q7, .inl (cI, 6, .inl (upd (fun _ => 0) 0 1))), (q8, .inr (0, [.int 1, .ref q9])), (q9, .inl (cI, 6, .inl (upd (fun _ => 0) 0 1))), (q10, .inr (0, [.int 1, .ref q11])), (q11, .inl (cI, 6, .inl (upd (fun _ => 0) 0 1)))] := hD
  refine lv_aload_n hx hb dX4_init_49 rfl (lv_at hl 1 rfl) ?_
  refine lv_iconst (v := (5 : Int32)) hx hb dX4_init_50 (by decide) ?_
  refine va_newa (atype := .int) (ty := .int) (a0 := (5, .inl (fun _ => 0))) (N' := 5) hx hb (hts _ (wl_in w_32)) rfl hK hP hD hS hA (fun cA => rfl) (by decide) (by decide) (by decide) (by decide) (by decide) dX4_init_51 (fun q12 cA H hK3 hP hD hS => ?_)
  obtain rfl := tyI hK3
  have hP : va_P G vwCl [(h0, .inr (2, [.ref q1, .ref q10, .null, .null, .long 0])), (q1, .inl (cF, 4, .inr (.inr (.inr (.inr (va_up (va_up (va_up (va_up (fun _ => none) 0 (some q2)) 1 (some q4)) 2 (some q6)) 3 (some q8))))))), (q2, .inr (0, [.int 1, .ref q3])), (q3, .inl (cI, 6, .inl (upd (fun _ => 0) 0 1))), (q4, .inr (0, [.int 1, .ref q5])), (q5, .inl (cI, 6, .inl (upd (fun _ => 0) 0 1))), (q6, .inr (0, [.int 1, .ref q7])), (q7, .inl (cI, 6, .inl (upd (fun _ => 0) 0 1))), (q8, .inr (0, [.int 1, .ref q9])), (q9, .inl (cI, 6, .inl (upd (fun _ => 0) 0 1))), (q10, .inr (0, [.int 1, .ref q11])), (q11, .inl (cI, 6, .inl (upd (fun _ => 0) 0 1))), (q12, .inl (cI, 5, .inl (fun _ => 0)))] H := hP
  have hD : va_D A [(h0, .inr (2, [.ref q1, .ref q10, .null, .null, .long 0])), (q1, .inl (cF, 4, .inr (.inr (.inr (.inr (va_up (va_up (va_up (va_up (fun _ => none) 0 (some q2)) 1 (some q4)) 2 (some q6)) 3 (some q8))))))), (q2, .inr (0, [.int 1, .ref q3])), (q3, .inl (cI, 6, .inl (upd (fun _ => 0) 0 1))), (q4, .inr (0, [.int 1, .ref q5])), (q5, .inl (cI, 6, .inl (upd (fun _ => 0) 0 1))), (q6, .inr (0, [.int 1, .ref q7])), (q7, .inl (cI, 6, .inl (upd (fun _ => 0) 0 1))), (q8, .inr (0, [.int 1, .ref q9])), (q9, .inl (cI, 6, .inl (upd (fun _ => 0) 0 1))), (q10, .inr (0, [.int 1, .ref q11])), (q11, .inl (cI, 6, .inl (upd (fun _ => 0) 0 1))), (q12, .inl (cI, 5, .inl (fun _ => 0)))] := hD
  refine W.widen (k := 12) (n := 49) (by decide) (by decide) ?_
  refine va_putF (D := G) (ci := 2) (v := .ref q12) (ty := .array .int) (C := RX4) (T := TX4) (N := 5) hx hb hts (fun w h => wl_in (inX4 w h)) tyX4 tyX4_ok nmX4 hown hK hP hD hS 0 rfl rfl 2 (by decide) (hts _ (wl_in w_62)) (fun _ h9 => h9) rfl hin rfl (by decide +kernel) rfl rfl (Nat.le_of_ble_eq_true rfl) dX4_init_53 (fun H locs hP hD hS => ?_)
  have hP : va_P G vwCl [(h0, .inr (2, [.ref q1, .ref q10, .ref q12, .null, .long 0])), (q1, .inl (cF, 4, .inr (.inr (.inr (.inr (va_up (va_up (va_up (va_up (fun _ => none) 0 (some q2)) 1 (some q4)) 2 (some q6)) 3 (some q8))))))), (q2, .inr (0, [.int 1, .ref q3])), (q3, .inl (cI, 6, .inl (upd (fun _ => 0) 0 1))), (q4, .inr (0, [.int 1, .ref q5])), (q5, .inl (cI, 6, .inl (upd (fun _ => 0) 0 1))), (q6, .inr (0, [.int 1, .ref q7])), (q7, .inl (cI, 6, .inl (upd (fun _ => 0) 0 1))), (q8, .inr (0, [.int 1, .ref q9])), (q9, .inl (cI, 6, .inl (upd (fun _ => 0) 0 1))), (q10, .inr (0, [.int 1, .ref q11])), (q11, .inl (cI, 6, .inl (upd (fun _ => 0) 0 1))), (q12, .inl (cI, 5, .inl (fun _ => 0)))] H := hP
  have hD : va_D A [(h0, .inr (2, [.ref q1, .ref q10, .ref q12, .null, .long 0])), (q1, .inl (cF, 4, .inr (.inr (.inr (.inr (va_up (va_up (va_up (va_up (fun _ => none) 0 (some q2)) 1 (some q4)) 2 (some q6)) 3 (some q8))))))), (q2, .inr (0, [.int 1, .ref q3])), (q3, .inl (cI, 6, .inl (upd (fun _ => 0) 0 1))), (q4, .inr (0, [.int 1, .ref q5])), (q5, .inl (cI, 6, .inl (upd (fun _ => 0) 0 1))), (q6, .inr (0, [.int 1, .ref q7])), (q7, .inl (cI, 6, .inl (upd (fun _ => 0) 0 1))), (q8, .inr (0, [.int 1, .ref q9])), (q9, .inl (cI, 6, .inl (upd (fun _ => 0) 0 1))), (q10, .inr (0, [.int 1, .ref q11])), (q11, .inl (cI, 6, .inl (upd (fun _ => 0) 0 1))), (q12, .inl (cI, 5, .inl (fun _ => 0)))] := hD
  refine lv_aload_n hx hb dX4_init_56 rfl (lv_at hl 1 rfl) ?_
  refine va_new (ci := 1) (fs := [.int 0, .int 0, .int 0, .int 0, .int 0]) (C := RX3) (T := TX3) (N := 5) hx hb hts (fun w h => wl_in (inX3 w h)) tyX3 tyX3_ok hown (hts _ (wl_in w_33)) (hts _ (wl_in w_34)) (hts _ (wl_in w_3)) hK hP hD hS hA rfl (fun j hj => by rcases (show j = 0 ∨ j = 1 ∨ j = 2 ∨ j = 3 ∨ j = 4 by omega) with rfl | rfl | rfl | rfl | rfl <;> rfl) (by decide) (by decide) dX4_init_57 (fun q13 H hP hD hS => ?_)
  have hP : va_P G vwCl [(h0, .inr (2, [.ref q1, .ref q10, .ref q12, .null, .long 0])), (q1, .inl (cF, 4, .inr (.inr (.inr (.inr (va_up (va_up (va_up (va_up (fun _ => none) 0 (some q2)) 1 (some q4)) 2 (some q6)) 3 (some q8))))))), (q2, .inr (0, [.int 1, .ref q3])), (q3, .inl (cI, 6, .inl (upd (fun _ => 0) 0 1))), (q4, .inr (0, [.int 1, .ref q5])), (q5, .inl (cI, 6, .inl (upd (fun _ => 0) 0 1))), (q6, .inr (0, [.int 1, .ref q7])), (q7, .inl (cI, 6, .inl (upd (fun _ => 0) 0 1))), (q8, .inr (0, [.int 1, .ref q9])), (q9, .inl (cI, 6, .inl (upd (fun _ => 0) 0 1))), (q10, .inr (0, [.int 1, .ref q11])), (q11, .inl (cI, 6, .inl (upd (fun _ => 0) 0 1))), (q12, .inl (cI, 5, .inl (fun _ => 0))), (q13, .inr (1, [.int 0, .int 0, .int 0, .int 0, .int 0]))] H := hP
  have hD : va_D A [(h0, .inr (2, [.ref q1, .ref q10, .ref q12, .null, .long 0])), (q1, .inl (cF, 4, .inr (.inr (.inr (.inr (va_up (va_up (va_up (va_up (fun _ => none) 0 (some q2)) 1 (some q4)) 2 (some q6)) 3 (some q8))))))), (q2, .inr (0, [.int 1, .ref q3])), (q3, .inl (cI, 6, .inl (upd (fun _ => 0) 0 1))), (q4, .inr (0, [.int 1, .ref q5])), (q5, .inl (cI, 6, .inl (upd (fun _ => 0) 0 1))), (q6, .inr (0, [.int 1, .ref q7])), (q7, .inl (cI, 6, .inl (upd (fun _ => 0) 0 1))), (q8, .inr (0, [.int 1, .ref q9])), (q9, .inl (cI, 6, .inl (upd (fun _ => 0) 0 1))), (q10, .inr (0, [.int 1, .ref q11])), (q11, .inl (cI, 6, .inl (upd (fun _ => 0) 0 1))), (q12, .inl (cI, 5, .inl (fun _ => 0))), (q13, .inr (1, [.int 0, .int 0, .int 0, .int 0, .int 0]))] := hD
  refine W.widen (k := 13) (n := 54) (by decide) (by decide) ?_
  refine lv_dup hx hb dX4_init_60 rfl ?_
  have hPc := hP.sub (ws' := [(q13, .inr (1, [.int 0, .int 0, .int 0, .int 0, .int 0]))]) [13] rfl
  have hFc := va_free (wc := [(q13, .inr (1, [.int 0, .int 0, .int 0, .int 0, .int 0]))]) hD hS hA [13] rfl
  refine va_callv (va_runIN (As := []) (rest := [.ref q13, .ref h0]) ⟨hx, hb, hml, hown, hts⟩ (cnX3_init l G cI cF q13 H.size) ⟨va_cnB 0 hts (wl_good (fun _ h => wl_in h) w_37) rfl rfl rfl hNW (hts _ (wl_in w_3)) (by decide +kernel) ⟨Nat.le_of_ble_eq_true rfl, Nat.le_of_ble_eq_true rfl⟩, rfl, hts _ (wl_in w_36)⟩ (pre_ct hK hPc) rfl rfl hl.1 rfl (lv_room (Nat.le_of_ble_eq_true rfl)) dX4_init_61 ⟨by decide, by decide⟩) hS (fun q _ h => hFc q h) hFc (fun u t H1 locs ht hvm hw hB hz1 hk1 hS => ?_)
  obtain ⟨hP1, hD1⟩ := hB
  rw [ht] at hP1
  obtain ⟨hP, hD⟩ := va_join (wr := [(h0, .inr (2, [.ref q1, .ref q10, .ref q12, .null, .long 0])), (q1, .inl (cF, 4, .inr (.inr (.inr (.inr (va_up (va_up (va_up (va_up (fun _ => none) 0 (some q2)) 1 (some q4)) 2 (some q6)) 3 (some q8))))))), (q2, .inr (0, [.int 1, .ref q3])), (q3, .inl (cI, 6, .inl (upd (fun _ => 0) 0 1))), (q4, .inr (0, [.int 1, .ref q5])), (q5, .inl (cI, 6, .inl (upd (fun _ => 0) 0 1))), (q6, .inr (0, [.int 1, .ref q7])), (q7, .inl (cI, 6, .inl (upd (fun _ => 0) 0 1))), (q8, .inr (0, [.int 1, .ref q9])), (q9, .inl (cI, 6, .inl (upd (fun _ => 0) 0 1))), (q10, .inr (0, [.int 1, .ref q11])), (q11, .inl (cI, 6, .inl (upd (fun _ => 0) 0 1))), (q12, .inl (cI, 5, .inl (fun _ => 0)))]) (w1 := [(q13, .inr (1, [.int 0, .int 0, .int 0, .int 0, .int 0]))]) hP hD [13] [0, 1, 2, 3, 4, 5, 6, 7, 8, 9, 10, 11, 12] rfl rfl (by decide) (by decide) hk1 hFc hP1 hD1
  generalize H1 = H at hP hS ⊢
  have hP : va_P G vwCl [(h0, .inr (2, [.ref q1, .ref q10, .ref q12, .null, .long 0])), (q1, .inl (cF, 4, .inr (.inr (.inr (.inr (va_up (va_up (va_up (va_up (fun _ => none) 0 (some q2)) 1 (some q4)) 2 (some q6)) 3 (some q8))))))), (q2, .inr (0, [.int 1, .ref q3])), (q3, .inl (cI, 6, .inl (upd (fun _ => 0) 0 1))), (q4, .inr (0, [.int 1, .ref q5])), (q5, .inl (cI, 6, .inl (upd (fun _ => 0) 0 1))), (q6, .inr (0, [.int 1, .ref q7])), (q7, .inl (cI, 6, .inl (upd (fun _ => 0) 0 1))), (q8, .inr (0, [.int 1, .ref q9])), (q9, .inl (cI, 6, .inl (upd (fun _ => 0) 0 1))), (q10, .inr (0, [.int 1, .ref q11])), (q11, .inl (cI, 6, .inl (upd (fun _ => 0) 0 1))), (q12, .inl (cI, 5, .inl (fun _ => 0))), (q13, .inr (1, [.int 0, .int 0, .int 0, .int 0, .int 0]))] H := hP
  have hD : va_D A [(h0, .inr (2, [.ref q1, .ref q10, .ref q12, .null, .long 0])), (q1, .inl (cF, 4, .inr (.inr (.inr (.inr (va_up (va_up (va_up (va_up (fun _ => none) 0 (some q2)) 1 (some q4)) 2 (some q6)) 3 (some q8))))))), (q2, .inr (0, [.int 1, .ref q3])), (q3, .inl (cI, 6, .inl (upd (fun _ => 0) 0 1))), (q4, .inr (0, [.int 1, .ref q5])), (q5, .inl (cI, 6, .inl (upd (fun _ => 0) 0 1))), (q6, .inr (0, [.int 1, .ref q7])), (q7, .inl (cI, 6, .inl (upd (fun _ => 0) 0 1))), (q8, .inr (0, [.int 1, .ref q9])), (q9, .inl (cI, 6, .inl (upd (fun _ => 0) 0 1))), (q10, .inr (0, [.int 1, .ref q11])), (q11, .inl (cI, 6, .inl (upd (fun _ => 0) 0 1))), (q12, .inl (cI, 5, .inl (fun _ => 0))), (q13, .inr (1, [.int 0, .int 0, .int 0, .int 0, .int 0]))] := hD
  refine W.widen (k := 13) (n := 54) (by decide) (by decide) ?_
  refine va_putF (D := G) (ci := 2) (v := .ref q13) (ty := .object "RingForms$Search") (C := RX4) (T := TX4) (N := 5) hx hb hts (fun w h => wl_in (inX4 w h)) tyX4 tyX4_ok nmX4 hown hK hP hD hS 0 rfl rfl 3 (by decide) (hts _ (wl_in w_63)) (fun _ h9 => h9) rfl hin rfl (by decide +kernel) rfl rfl (Nat.le_of_ble_eq_true rfl) dX4_init_64 (fun H locs hP hD hS => ?_)
  have hP : va_P G vwCl [(h0, .inr (2, [.ref q1, .ref q10, .ref q12, .ref q13, .long 0])), (q1, .inl (cF, 4, .inr (.inr (.inr (.inr (va_up (va_up (va_up (va_up (fun _ => none) 0 (some q2)) 1 (some q4)) 2 (some q6)) 3 (some q8))))))), (q2, .inr (0, [.int 1, .ref q3])), (q3, .inl (cI, 6, .inl (upd (fun _ => 0) 0 1))), (q4, .inr (0, [.int 1, .ref q5])), (q5, .inl (cI, 6, .inl (upd (fun _ => 0) 0 1))), (q6, .inr (0, [.int 1, .ref q7])), (q7, .inl (cI, 6, .inl (upd (fun _ => 0) 0 1))), (q8, .inr (0, [.int 1, .ref q9])), (q9, .inl (cI, 6, .inl (upd (fun _ => 0) 0 1))), (q10, .inr (0, [.int 1, .ref q11])), (q11, .inl (cI, 6, .inl (upd (fun _ => 0) 0 1))), (q12, .inl (cI, 5, .inl (fun _ => 0))), (q13, .inr (1, [.int 0, .int 0, .int 0, .int 0, .int 0]))] H := hP
  have hD : va_D A [(h0, .inr (2, [.ref q1, .ref q10, .ref q12, .ref q13, .long 0])), (q1, .inl (cF, 4, .inr (.inr (.inr (.inr (va_up (va_up (va_up (va_up (fun _ => none) 0 (some q2)) 1 (some q4)) 2 (some q6)) 3 (some q8))))))), (q2, .inr (0, [.int 1, .ref q3])), (q3, .inl (cI, 6, .inl (upd (fun _ => 0) 0 1))), (q4, .inr (0, [.int 1, .ref q5])), (q5, .inl (cI, 6, .inl (upd (fun _ => 0) 0 1))), (q6, .inr (0, [.int 1, .ref q7])), (q7, .inl (cI, 6, .inl (upd (fun _ => 0) 0 1))), (q8, .inr (0, [.int 1, .ref q9])), (q9, .inl (cI, 6, .inl (upd (fun _ => 0) 0 1))), (q10, .inr (0, [.int 1, .ref q11])), (q11, .inl (cI, 6, .inl (upd (fun _ => 0) 0 1))), (q12, .inl (cI, 5, .inl (fun _ => 0))), (q13, .inr (1, [.int 0, .int 0, .int 0, .int 0, .int 0]))] := hD
  refine lv_aload_n hx hb dX4_init_67 rfl (lv_at hl 1 rfl) ?_
  refine lv_lconst (v := (0 : Int64)) hx hb dX4_init_68 (by decide) ?_
  refine va_put (D := G) (ci := 2) (v := .long (0 : Int64)) (ty := .long) (C := RX4) (T := TX4) (N := 5) hx hb hts (fun w h => wl_in (inX4 w h)) tyX4 tyX4_ok nmX4 hown hK hP hD hS 0 rfl rfl 4 (by decide) (hts _ (wl_in w_64)) (fun _ h9 => h9) rfl (by decide +kernel) rfl rfl (Nat.le_of_ble_eq_true rfl) dX4_init_69 (fun H locs hP hD hS => ?_)
  have hP : va_P G vwCl [(h0, .inr (2, [.ref q1, .ref q10, .ref q12, .ref q13, .long 0])), (q1, .inl (cF, 4, .inr (.inr (.inr (.inr (va_up (va_up (va_up (va_up (fun _ => none) 0 (some q2)) 1 (some q4)) 2 (some q6)) 3 (some q8))))))), (q2, .inr (0, [.int 1, .ref q3])), (q3, .inl (cI, 6, .inl (upd (fun _ => 0) 0 1))), (q4, .inr (0, [.int 1, .ref q5])), (q5, .inl (cI, 6, .inl (upd (fun _ => 0) 0 1))), (q6, .inr (0, [.int 1, .ref q7])), (q7, .inl (cI, 6, .inl (upd (fun _ => 0) 0 1))), (q8, .inr (0, [.int 1, .ref q9])), (q9, .inl (cI, 6, .inl (upd (fun _ => 0) 0 1))), (q10, .inr (0, [.int 1, .ref q11])), (q11, .inl (cI, 6, .inl (upd (fun _ => 0) 0 1))), (q12, .inl (cI, 5, .inl (fun _ => 0))), (q13, .inr (1, [.int 0, .int 0, .int 0, .int 0, .int 0]))] H := hP
  have hD : va_D A [(h0, .inr (2, [.ref q1, .ref q10, .ref q12, .ref q13, .long 0])), (q1, .inl (cF, 4, .inr (.inr (.inr (.inr (va_up (va_up (va_up (va_up (fun _ => none) 0 (some q2)) 1 (some q4)) 2 (some q6)) 3 (some q8))))))), (q2, .inr (0, [.int 1, .ref q3])), (q3, .inl (cI, 6, .inl (upd (fun _ => 0) 0 1))), (q4, .inr (0, [.int 1, .ref q5])), (q5, .inl (cI, 6, .inl (upd (fun _ => 0) 0 1))), (q6, .inr (0, [.int 1, .ref q7])), (q7, .inl (cI, 6, .inl (upd (fun _ => 0) 0 1))), (q8, .inr (0, [.int 1, .ref q9])), (q9, .inl (cI, 6, .inl (upd (fun _ => 0) 0 1))), (q10, .inr (0, [.int 1, .ref q11])), (q11, .inl (cI, 6, .inl (upd (fun _ => 0) 0 1))), (q12, .inl (cI, 5, .inl (fun _ => 0))), (q13, .inr (1, [.int 0, .int 0, .int 0, .int 0, .int 0]))] := hD
  have hP := shelf_fn (hP.sub [0, 1, 10, 11, 12, 13, 2, 3, 4, 5, 6, 7, 8, 9] rfl) (g := fun j => some ((q4f q2 q4 q6 q8) j)) (fun j hj => by rcases (show j = 0 ∨ j = 1 ∨ j = 2 ∨ j = 3 by omega) with rfl | rfl | rfl | rfl <;> rfl)
  have hD := shelf_fnD (hD.sub (ws' := [(h0, .inr (2, [.ref q1, .ref q10, .ref q12, .ref q13, .long 0])), (q1, .inl (cF, 4, .inr (.inr (.inr (.inr (va_up (va_up (va_up (va_up (fun _ => none) 0 (some q2)) 1 (some q4)) 2 (some q6)) 3 (some q8))))))), (q10, .inr (0, [.int 1, .ref q11])), (q11, .inl (cI, 6, .inl (upd (fun _ => 0) 0 1))), (q12, .inl (cI, 5, .inl (fun _ => 0))), (q13, .inr (1, [.int 0, .int 0, .int 0, .int 0, .int 0])), (q2, .inr (0, [.int 1, .ref q3])), (q3, .inl (cI, 6, .inl (upd (fun _ => 0) 0 1))), (q4, .inr (0, [.int 1, .ref q5])), (q5, .inl (cI, 6, .inl (upd (fun _ => 0) 0 1))), (q6, .inr (0, [.int 1, .ref q7])), (q7, .inl (cI, 6, .inl (upd (fun _ => 0) 0 1))), (q8, .inr (0, [.int 1, .ref q9])), (q9, .inl (cI, 6, .inl (upd (fun _ => 0) 0 1)))]) [0, 1, 10, 11, 12, 13, 2, 3, 4, 5, 6, 7, 8, 9] (by decide) rfl) (g := fun j => some ((q4f q2 q4 q6 q8) j))
  have hP : va_P G vwCl (cW cI cF h0 q1 q10 q11 q12 q13 (q4f q2 q4 q6 q8) (q4f q3 q5 q7 q9) (fun _ => 1) (fun _ => upd (fun _ => 0) 0 1) 1 (upd (fun _ => 0) 0 1) (fun _ => 0) 0 0 0 0 0 0) H := hP
  have hD : va_D A (cW cI cF h0 q1 q10 q11 q12 q13 (q4f q2 q4 q6 q8) (q4f q3 q5 q7 q9) (fun _ => 1) (fun _ => upd (fun _ => 0) 0 1) 1 (upd (fun _ => 0) 0 1) (fun _ => 0) 0 0 0 0 0 0) := hD
  exact W.vret hx hb hr (fun t ht hW => ⟨⟨(), rfl, trivial, q1, q10, q11, q12, q13, (q4f q2 q4 q6 q8), (q4f q3 q5 q7 q9), by rw [ht]; exact hP, hD⟩, hS.F ht⟩) hS.2.2 dX4_init_72
set_option maxHeartbeats 4000000 in
set_option maxRecDepth 100000 in
theorem cnX5_init (l : Launch) (G : va_G) (cI cF : ClassId) (h0 sz : Nat) : Met l yX5_init (wl yX5_init cX5_init 2 none) { frames := 1, cells := 2, slots := 28, locals := 12 } (va_Pc [.ref h0] (fun U => U.heap.size = sz ∧ va_P G vwCl [(h0, .inr (3, [.int 0, .long 0, .null, .null, .int 0, .int 0, .int 0, .int 0, .int 0, .int 0]))] U.heap ∧ va_K G vwCl [(cI, .int), (cF, .object "RingForms$Form")] U)) (va_Qv (fun _ : Unit => True) (fun _ t => ∃ (hs hr : Nat), va_P G vwCl (mW h0 hs hr cI 0 0 (upd (upd (upd (upd (fun _ => 0) 0 1) 1 1) 2 1) 3 1) (upd (upd (upd (upd (fun _ => 0) 0 1) 6 1) 12 1) 18 1) 0 0 0 0 0 0) t.heap ∧ va_D (va_A [(h0, .inr (3, [.int 0, .long 0, .null, .null, .int 0, .int 0, .int 0, .int 0, .int 0, .int 0]))] sz) (mW h0 hs hr cI 0 0 (upd (upd (upd (upd (fun _ => 0) 0 1) 1 1) 2 1) 3 1) (upd (upd (upd (upd (fun _ => 0) 0 1) 6 1) 12 1) 18 1) 0 0 0 0 0 0)) (va_A [(h0, .inr (3, [.int 0, .long 0, .null, .null, .int 0, .int 0, .int 0, .int 0, .int 0, .int 0]))] sz)) 2 28 (va_A [(h0, .inr (3, [.int 0, .long 0, .null, .null, .int 0, .int 0, .int 0, .int 0, .int 0, .int 0]))] sz) := by
  refine Met.ofW (cc := cX5_init) (maxL := 2) (ret := none) (by decide) rfl ?_
  intro p e s m args below meth c s₁ B hml hv
  obtain ⟨rfl, hsz, hP, hK⟩ := hv
  have hx := B.exec
  have hb := B.bytes
  have hr := B.returns
  have hts := atoms_spec (ws := wl yX5_init cX5_init 2 none) B.pre
  have hown : s.vm.findClass RX5 = some m.cls := findClass_of_methodNamed B.named
  have hlocks := B.notSynchronized
  have hin : meth.name = "<init>" := (name_of_methodNamed B.named B.method).1
  subst hsz
  have hD := (va_D1 (a := h0) (e := .inr (3, [.int 0, .long 0, .null, .null, .int 0, .int 0, .int 0, .int 0, .int 0, .int 0]))).self (sz := s.heap.size)
  generalize hAe : va_A [(h0, .inr (3, [.int 0, .long 0, .null, .null, .int 0, .int 0, .int 0, .int 0, .int 0, .int 0]))] s.heap.size = A at hD ⊢
  have hA : ∀ q : Nat, s.heap.size ≤ q → A q := fun q h => by rw [← hAe]; exact Or.inr h
  have hS : va_S A s.heap s.heap [] := va_S.rf
  have hl := lv_entry ([.ref h0]) (n := 2) (Nat.le_of_ble_eq_true rfl)
  rw [lg_entry_eq]
  generalize (lg_sl ([.ref h0]) ++ List.replicate (2 - (lg_sl ([.ref h0])).length) Slot.unset).toArray = ls at hl ⊢
  have hl : lv_has ls 2 [(0, .ref h0)] := hl
  refine lv_aload_n hx hb dX5_init_0 rfl (lv_at hl 0 rfl) ?_
  refine W.objInit hx hb hown (hts _ (wl_in w_312)) (hts _ (wl_in w_14)) (hts _ (wl_in w_15)) rfl (by rw [hml]; exact hl.1) rfl dX5_init_1 (Nat.le_of_ble_eq_true rfl) (Nat.le_of_ble_eq_true rfl) ?_
  refine W.eq (g2 := F0 m 4 ls []) rfl ?_
  refine lv_aload_n hx hb dX5_init_4 rfl (lv_at hl 0 rfl) ?_
  refine lv_iconst (v := (4 : Int32)) hx hb dX5_init_5 (by decide) ?_
  refine va_newa (atype := .int) (ty := .int) (a0 := (4, .inl (fun _ => 0))) (N' := 4) hx hb (hts _ (wl_in w_32)) rfl hK hP hD hS hA (fun cA => rfl) (by decide) (by decide) (by decide) (by decide) (by decide) dX5_init_6 (fun q1 cA H hK3 hP hD hS => ?_)
  obtain rfl := tyI hK3
  have hP : va_P G vwCl [(h0, .inr (3, [.int 0, .long 0, .null, .null, .int 0, .int 0, .int 0, .int 0, .int 0, .int 0])), (q1, .inl (cI, 4, .inl (fun _ => 0)))] H := hP
  have hD : va_D A [(h0, .inr (3, [.int 0, .long 0, .null, .null, .int 0, .int 0, .int 0, .int 0, .int 0, .int 0])), (q1, .inl (cI, 4, .inl (fun _ => 0)))] := hD
  refine W.widen (k := 1) (n := 4) (by decide) (by decide) ?_
  refine va_putF (D := G) (ci := 3) (v := .ref q1) (ty := .array .int) (C := RX5) (T := TX5) (N := 10) hx hb hts (fun w h => wl_in (inX5 w h)) tyX5 tyX5_ok nmX5 hown hK hP hD hS 0 rfl rfl 2 (by decide) (hts _ (wl_in w_315)) (fun _ h9 => h9) rfl hin rfl (by decide +kernel) rfl rfl (Nat.le_of_ble_eq_true rfl) dX5_init_8 (fun H locs hP hD hS => ?_)
  have hP : va_P G vwCl [(h0, .inr (3, [.int 0, .long 0, .ref q1, .null, .int 0, .int 0, .int 0, .int 0, .int 0, .int 0])), (q1, .inl (cI, 4, .inl (fun _ => 0)))] H := hP
  have hD : va_D A [(h0, .inr (3, [.int 0, .long 0, .ref q1, .null, .int 0, .int 0, .int 0, .int 0, .int 0, .int 0])), (q1, .inl (cI, 4, .inl (fun _ => 0)))] := hD
  refine lv_aload_n hx hb dX5_init_11 rfl (lv_at hl 0 rfl) ?_
  refine lv_bipush (v := (24 : Int32)) hx hb dX5_init_12 (by decide) ?_
  refine va_newa (atype := .int) (ty := .int) (a0 := (24, .inl (fun _ => 0))) (N' := 24) hx hb (hts _ (wl_in w_32)) rfl hK hP hD hS hA (fun cA => rfl) (by decide) (by decide) (by decide) (by decide) (by decide) dX5_init_14 (fun q2 cA H hK3 hP hD hS => ?_)
  obtain rfl := tyI hK3
  have hP : va_P G vwCl [(h0, .inr (3, [.int 0, .long 0, .ref q1, .null, .int 0, .int 0, .int 0, .int 0, .int 0, .int 0])), (q1, .inl (cI, 4, .inl (fun _ => 0))), (q2, .inl (cI, 24, .inl (fun _ => 0)))] H := hP
  have hD : va_D A [(h0, .inr (3, [.int 0, .long 0, .ref q1, .null, .int 0, .int 0, .int 0, .int 0, .int 0, .int 0])), (q1, .inl (cI, 4, .inl (fun _ => 0))), (q2, .inl (cI, 24, .inl (fun _ => 0)))] := hD
  refine W.widen (k := 2) (n := 28) (by decide) (by decide) ?_
  refine va_putF (D := G) (ci := 3) (v := .ref q2) (ty := .array .int) (C := RX5) (T := TX5) (N := 10) hx hb hts (fun w h => wl_in (inX5 w h)) tyX5 tyX5_ok nmX5 hown hK hP hD hS 0 rfl rfl 3 (by decide) (hts _ (wl_in w_316)) (fun _ h9 => h9) rfl hin rfl (by decide +kernel) rfl rfl (Nat.le_of_ble_eq_true rfl) dX5_init_16 (fun H locs hP hD hS => ?_)
  have hP : va_P G vwCl [(h0, .inr (3, [.int 0, .long 0, .ref q1, .ref q2, .int 0, .int 0, .int 0, .int 0, .int 0, .int 0])), (q1, .inl (cI, 4, .inl (fun _ => 0))), (q2, .inl (cI, 24, .inl (fun _ => 0)))] H := hP
  have hD : va_D A [(h0, .inr (3, [.int 0, .long 0, .ref q1, .ref q2, .int 0, .int 0, .int 0, .int 0, .int 0, .int 0])), (q1, .inl (cI, 4, .inl (fun _ => 0))), (q2, .inl (cI, 24, .inl (fun _ => 0)))] := hD
  refine lv_iconst (v := (0 : Int32)) hx hb dX5_init_19 (by decide) ?_
  refine lv_istore_n (lv' := [(1, .int (0 : Int32)), (0, .ref h0)]) hx hb dX5_init_20 rfl hl (by decide) rfl (fun ls hl => ?_)
  refine lv_iload_n hx hb dX5_init_21 rfl (lv_at hl 0 rfl) ?_
  refine lv_iconst (v := (4 : Int32)) hx hb dX5_init_22 (by decide) ?_
  refine lv_icmp_ge (tgt := 49) hx hb dX5_init_23 (by decide) (fun c => absurd c (by decide)) (fun _ => ?_)
  refine lv_aload_n hx hb dX5_init_26 rfl (lv_at hl 1 rfl) ?_
  refine va_get (D := G) (ci := 3) (v := .ref q1) (C := RX5) (T := TX5) (N := 10) hx hb hts (fun w h => wl_in (inX5 w h)) hown hK hP 0 rfl rfl 2 (by decide) (hts _ (wl_in w_315)) (fun _ h9 => h9) rfl dX5_init_27 ?_
  refine lv_iload_n hx hb dX5_init_30 rfl (lv_at hl 0 rfl) ?_
  refine lv_iconst (v := (1 : Int32)) hx hb dX5_init_31 (by decide) ?_
  refine va_iast hx hb hK hP hD hS 1 0 rfl rfl (by unfold vp_in; decide) dX5_init_32 (fun H locs hP hD hS => ?_)
  have hP : va_P G vwCl [(h0, .inr (3, [.int 0, .long 0, .ref q1, .ref q2, .int 0, .int 0, .int 0, .int 0, .int 0, .int 0])), (q1, .inl (cI, 4, .inl (upd (fun _ => 0) 0 1))), (q2, .inl (cI, 24, .inl (fun _ => 0)))] H := hP
  have hD : va_D A [(h0, .inr (3, [.int 0, .long 0, .ref q1, .ref q2, .int 0, .int 0, .int 0, .int 0, .int 0, .int 0])), (q1, .inl (cI, 4, .inl (upd (fun _ => 0) 0 1))), (q2, .inl (cI, 24, .inl (fun _ => 0)))] := hD
  refine lv_aload_n hx hb dX5_init_33 rfl (lv_at hl 1 rfl) ?_
  refine va_get (D := G) (ci := 3) (v := .ref q2) (C := RX5) (T := TX5) (N := 10) hx hb hts (fun w h => wl_in (inX5 w h)) hown hK hP 0 rfl rfl 3 (by decide) (hts _ (wl_in w_316)) (fun _ h9 => h9) rfl dX5_init_34 ?_
  refine lv_bipush (v := (6 : Int32)) hx hb dX5_init_37 (by decide) ?_
  refine lv_iload_n hx hb dX5_init_39 rfl (lv_at hl 0 rfl) ?_
  refine lv_imul hx hb dX5_init_40 ?_
  refine W.eq (g2 := F0 m 41 ls [.int (0 : Int32), .ref q2]) (by first | rfl | decide) ?_
  refine lv_iconst (v := (1 : Int32)) hx hb dX5_init_41 (by decide) ?_
  refine va_iast hx hb hK hP hD hS 2 0 rfl rfl (by unfold vp_in; decide) dX5_init_42 (fun H locs hP hD hS => ?_)
  have hP : va_P G vwCl [(h0, .inr (3, [.int 0, .long 0, .ref q1, .ref q2, .int 0, .int 0, .int 0, .int 0, .int 0, .int 0])), (q1, .inl (cI, 4, .inl (upd (fun _ => 0) 0 1))), (q2, .inl (cI, 24, .inl (upd (fun _ => 0) 0 1)))] H := hP
  have hD : va_D A [(h0, .inr (3, [.int 0, .long 0, .ref q1, .ref q2, .int 0, .int 0, .int 0, .int 0, .int 0, .int 0])), (q1, .inl (cI, 4, .inl (upd (fun _ => 0) 0 1))), (q2, .inl (cI, 24, .inl (upd (fun _ => 0) 0 1)))] := hD
  refine lv_iinc (v := (1 : Int32)) (lv' := [(1, .int (1 : Int32)), (0, .ref h0)]) hx hb dX5_init_43 hl (k := 0) rfl (by decide) (by decide) rfl (fun ls hl => ?_)
  refine lv_goto (tgt := 21) hx hb dX5_init_46 (by decide) ?_
  refine lv_iload_n hx hb dX5_init_21 rfl (lv_at hl 0 rfl) ?_
  refine lv_iconst (v := (4 : Int32)) hx hb dX5_init_22 (by decide) ?_
  refine lv_icmp_ge (tgt := 49) hx hb dX5_init_23 (by decide) (fun c => absurd c (by decide)) (fun _ => ?_)
  refine lv_aload_n hx hb dX5_init_26 rfl (lv_at hl 1 rfl) ?_
  refine va_get (D := G) (ci := 3) (v := .ref q1) (C := RX5) (T := TX5) (N := 10) hx hb hts (fun w h => wl_in (inX5 w h)) hown hK hP 0 rfl rfl 2 (by decide) (hts _ (wl_in w_315)) (fun _ h9 => h9) rfl dX5_init_27 ?_
  refine lv_iload_n hx hb dX5_init_30 rfl (lv_at hl 0 rfl) ?_
  refine lv_iconst (v := (1 : Int32)) hx hb dX5_init_31 (by decide) ?_
  refine va_iast hx hb hK hP hD hS 1 0 rfl rfl (by unfold vp_in; decide) dX5_init_32 (fun H locs hP hD hS => ?_)
  have hP : va_P G vwCl [(h0, .inr (3, [.int 0, .long 0, .ref q1, .ref q2, .int 0, .int 0, .int 0, .int 0, .int 0, .int 0])), (q1, .inl (cI, 4, .inl (upd (upd (fun _ => 0) 0 1) 1 1))), (q2, .inl (cI, 24, .inl (upd (fun _ => 0) 0 1)))] H := hP
  have hD : va_D A [(h0, .inr (3, [.int 0, .long 0, .ref q1, .ref q2, .int 0, .int 0, .int 0, .int 0, .int 0, .int 0])), (q1, .inl (cI, 4, .inl (upd (upd (fun _ => 0) 0 1) 1 1))), (q2, .inl (cI, 24, .inl (upd (fun _ => 0) 0 1)))] := hD
  refine lv_aload_n hx hb dX5_init_33 rfl (lv_at hl 1 rfl) ?_
  refine va_get (D := G) (ci := 3) (v := .ref q2) (C := RX5) (T := TX5) (N := 10) hx hb hts (fun w h => wl_in (inX5 w h)) hown hK hP 0 rfl rfl 3 (by decide) (hts _ (wl_in w_316)) (fun _ h9 => h9) rfl dX5_init_34 ?_
  refine lv_bipush (v := (6 : Int32)) hx hb dX5_init_37 (by decide) ?_
  refine lv_iload_n hx hb dX5_init_39 rfl (lv_at hl 0 rfl) ?_
  refine lv_imul hx hb dX5_init_40 ?_
  refine W.eq (g2 := F0 m 41 ls [.int (6 : Int32), .ref q2]) (by first | rfl | decide) ?_
  refine lv_iconst (v := (1 : Int32)) hx hb dX5_init_41 (by decide) ?_
  refine va_iast hx hb hK hP hD hS 2 0 rfl rfl (by unfold vp_in; decide) dX5_init_42 (fun H locs hP hD hS => ?_)
  have hP : va_P G vwCl [(h0, .inr (3, [.int 0, .long 0, .ref q1, .ref q2, .int 0, .int 0, .int 0, .int 0, .int 0, .int 0])), (q1, .inl (cI, 4, .inl (upd (upd (fun _ => 0) 0 1) 1 1))), (q2, .inl (cI, 24, .inl (upd (upd (fun _ => 0) 0 1) 6 1)))] H := hP
  have hD : va_D A [(h0, .inr (3, [.int 0, .long 0, .ref q1, .ref q2, .int 0, .int 0, .int 0, .int 0, .int 0, .int 0])), (q1, .inl (cI, 4, .inl (upd (upd (fun _ => 0) 0 1) 1 1))), (q2, .inl (cI, 24, .inl (upd (upd (fun _ => 0) 0 1) 6 1)))] := hD
  refine lv_iinc (v := (2 : Int32)) (lv' := [(1, .int (2 : Int32)), (0, .ref h0)]) hx hb dX5_init_43 hl (k := 0) rfl (by decide) (by decide) rfl (fun ls hl => ?_)
  refine lv_goto (tgt := 21) hx hb dX5_init_46 (by decide) ?_
  refine lv_iload_n hx hb dX5_init_21 rfl (lv_at hl 0 rfl) ?_
  refine lv_iconst (v := (4 : Int32)) hx hb dX5_init_22 (by decide) ?_
  refine lv_icmp_ge (tgt := 49) hx hb dX5_init_23 (by decide) (fun c => absurd c (by decide)) (fun _ => ?_)
  refine lv_aload_n hx hb dX5_init_26 rfl (lv_at hl 1 rfl) ?_
  refine va_get (D := G) (ci := 3) (v := .ref q1) (C := RX5) (T := TX5) (N := 10) hx hb hts (fun w h => wl_in (inX5 w h)) hown hK hP 0 rfl rfl 2 (by decide) (hts _ (wl_in w_315)) (fun _ h9 => h9) rfl dX5_init_27 ?_
  refine lv_iload_n hx hb dX5_init_30 rfl (lv_at hl 0 rfl) ?_
  refine lv_iconst (v := (1 : Int32)) hx hb dX5_init_31 (by decide) ?_
  refine va_iast hx hb hK hP hD hS 1 0 rfl rfl (by unfold vp_in; decide) dX5_init_32 (fun H locs hP hD hS => ?_)
  have hP : va_P G vwCl [(h0, .inr (3, [.int 0, .long 0, .ref q1, .ref q2, .int 0, .int 0, .int 0, .int 0, .int 0, .int 0])), (q1, .inl (cI, 4, .inl (upd (upd (upd (fun _ => 0) 0 1) 1 1) 2 1))), (q2, .inl (cI, 24, .inl (upd (upd (fun _ => 0) 0 1) 6 1)))] H := hP
  have hD : va_D A [(h0, .inr (3, [.int 0, .long 0, .ref q1, .ref q2, .int 0, .int 0, .int 0, .int 0, .int 0, .int 0])), (q1, .inl (cI, 4, .inl (upd (upd (upd (fun _ => 0) 0 1) 1 1) 2 1))), (q2, .inl (cI, 24, .inl (upd (upd (fun _ => 0) 0 1) 6 1)))] := hD
  refine lv_aload_n hx hb dX5_init_33 rfl (lv_at hl 1 rfl) ?_
  refine va_get (D := G) (ci := 3) (v := .ref q2) (C := RX5) (T := TX5) (N := 10) hx hb hts (fun w h => wl_in (inX5 w h)) hown hK hP 0 rfl rfl 3 (by decide) (hts _ (wl_in w_316)) (fun _ h9 => h9) rfl dX5_init_34 ?_
  refine lv_bipush (v := (6 : Int32)) hx hb dX5_init_37 (by decide) ?_
  refine lv_iload_n hx hb dX5_init_39 rfl (lv_at hl 0 rfl) ?_
  refine lv_imul hx hb dX5_init_40 ?_
  refine W.eq (g2 := F0 m 41 ls [.int (12 : Int32), .ref q2]) (by first | rfl | decide) ?_
  refine lv_iconst (v := (1 : Int32)) hx hb dX5_init_41 (by decide) ?_
  refine va_iast hx hb hK hP hD hS 2 0 rfl rfl (by unfold vp_in; decide) dX5_init_42 (fun H locs hP hD hS => ?_)
  have hP : va_P G vwCl [(h0, .inr (3, [.int 0, .long 0, .ref q1, .ref q2, .int 0, .int 0, .int 0, .int 0, .int 0, .int 0])), (q1, .inl (cI, 4, .inl (upd (upd (upd (fun _ => 0) 0 1) 1 1) 2 1))), (q2, .inl (cI, 24, .inl (upd (upd (upd (fun _ => 0) 0 1) 6 1) 12 1)))] H := hP
  have hD : va_D A [(h0, .inr (3, [.int 0, .long 0, .ref q1, .ref q2, .int 0, .int 0, .int 0, .int 0, .int 0, .int 0])), (q1, .inl (cI, 4, .inl (upd (upd (upd (fun _ => 0) 0 1) 1 1) 2 1))), (q2, .inl (cI, 24, .inl (upd (upd (upd (fun _ => 0) 0 1) 6 1) 12 1)))] := hD
  refine lv_iinc (v := (3 : Int32)) (lv' := [(1, .int (3 : Int32)), (0, .ref h0)]) hx hb dX5_init_43 hl (k := 0) rfl (by decide) (by decide) rfl (fun ls hl => ?_)
  refine lv_goto (tgt := 21) hx hb dX5_init_46 (by decide) ?_
  refine lv_iload_n hx hb dX5_init_21 rfl (lv_at hl 0 rfl) ?_
  refine lv_iconst (v := (4 : Int32)) hx hb dX5_init_22 (by decide) ?_
  refine lv_icmp_ge (tgt := 49) hx hb dX5_init_23 (by decide) (fun c => absurd c (by decide)) (fun _ => ?_)
  refine lv_aload_n hx hb dX5_init_26 rfl (lv_at hl 1 rfl) ?_
  refine va_get (D := G) (ci := 3) (v := .ref q1) (C := RX5) (T := TX5) (N := 10) hx hb hts (fun w h => wl_in (inX5 w h)) hown hK hP 0 rfl rfl 2 (by decide) (hts _ (wl_in w_315)) (fun _ h9 => h9) rfl dX5_init_27 ?_
  refine lv_iload_n hx hb dX5_init_30 rfl (lv_at hl 0 rfl) ?_
  refine lv_iconst (v := (1 : Int32)) hx hb dX5_init_31 (by decide) ?_
  refine va_iast hx hb hK hP hD hS 1 0 rfl rfl (by unfold vp_in; decide) dX5_init_32 (fun H locs hP hD hS => ?_)
  have hP : va_P G vwCl [(h0, .inr (3, [.int 0, .long 0, .ref q1, .ref q2, .int 0, .int 0, .int 0, .int 0, .int 0, .int 0])), (q1, .inl (cI, 4, .inl (upd (upd (upd (upd (fun _ => 0) 0 1) 1 1) 2 1) 3 1))), (q2, .inl (cI, 24, .inl (upd (upd (upd (fun _ => 0) 0 1) 6 1) 12 1)))] H := hP
  have hD : va_D A [(h0, .inr (3, [.int 0, .long 0, .ref q1, .ref q2, .int 0, .int 0, .int 0, .int 0, .int 0, .int 0])), (q1, .inl (cI, 4, .inl (upd (upd (upd (upd (fun _ => 0) 0 1) 1 1) 2 1) 3 1))), (q2, .inl (cI, 24, .inl (upd (upd (upd (fun _ => 0) 0 1) 6 1) 12 1)))] := hD
  refine lv_aload_n hx hb dX5_init_33 rfl (lv_at hl 1 rfl) ?_
  refine va_get (D := G) (ci := 3) (v := .ref q2) (C := RX5) (T := TX5) (N := 10) hx hb hts (fun w h => wl_in (inX5 w h)) hown hK hP 0 rfl rfl 3 (by decide) (hts _ (wl_in w_316)) (fun _ h9 => h9) rfl dX5_init_34 ?_
  refine lv_bipush (v := (6 : Int32)) hx hb dX5_init_37 (by decide) ?_
  refine lv_iload_n hx hb dX5_init_39 rfl (lv_at hl 0 rfl) ?_
  refine lv_imul hx hb dX5_init_40 ?_
  refine W.eq (g2 := F0 m 41 ls [.int (18 : Int32), .ref q2]) (by first | rfl | decide) ?_
  refine lv_iconst (v := (1 : Int32)) hx hb dX5_init_41 (by decide) ?_
  refine va_iast hx hb hK hP hD hS 2 0 rfl rfl (by unfold vp_in; decide) dX5_init_42 (fun H locs hP hD hS => ?_)
  have hP : va_P G vwCl [(h0, .inr (3, [.int 0, .long 0, .ref q1, .ref q2, .int 0, .int 0, .int 0, .int 0, .int 0, .int 0])), (q1, .inl (cI, 4, .inl (upd (upd (upd (upd (fun _ => 0) 0 1) 1 1) 2 1) 3 1))), (q2, .inl (cI, 24, .inl (upd (upd (upd (upd (fun _ => 0) 0 1) 6 1) 12 1) 18 1)))] H := hP
  have hD : va_D A [(h0, .inr (3, [.int 0, .long 0, .ref q1, .ref q2, .int 0, .int 0, .int 0, .int 0, .int 0, .int 0])), (q1, .inl (cI, 4, .inl (upd (upd (upd (upd (fun _ => 0) 0 1) 1 1) 2 1) 3 1))), (q2, .inl (cI, 24, .inl (upd (upd (upd (upd (fun _ => 0) 0 1) 6 1) 12 1) 18 1)))] := hD
  refine lv_iinc (v := (4 : Int32)) (lv' := [(1, .int (4 : Int32)), (0, .ref h0)]) hx hb dX5_init_43 hl (k := 0) rfl (by decide) (by decide) rfl (fun ls hl => ?_)
  refine lv_goto (tgt := 21) hx hb dX5_init_46 (by decide) ?_
  refine lv_iload_n hx hb dX5_init_21 rfl (lv_at hl 0 rfl) ?_
  refine lv_iconst (v := (4 : Int32)) hx hb dX5_init_22 (by decide) ?_
  refine lv_icmp_ge (tgt := 49) hx hb dX5_init_23 (by decide) (fun _ => ?_) (fun c => absurd (by decide) c)
  exact W.vret hx hb hr (fun t ht hW => ⟨⟨(), rfl, trivial, q1, q2, by rw [ht]; exact hP, hD⟩, hS.F ht⟩) hS.2.2 dX5_init_49
