/-! the start of the law -/
theorem k_arrays {s : State} {args : Array Value} (hi : (Cond.arrayClass .int).before args s = true) (hf : (Cond.arrayOver (.object "RingForms$Form")).before args s = true) : ∃ cI cF : ClassId, ∀ (k : Nat) (q : ClassId × FieldType), ([(cI, .int), (cF, .object "RingForms$Form")] : List (ClassId × FieldType))[k]? = some q → ArrOfT s q.1 q.2 ∧ va_RA s q.1 q.2 := by
  obtain ⟨cI, kI, compI, h1, h2, h3⟩ := Cond.arrayClass_spec hi
  obtain ⟨comp, cF, kF, g1, g2, g3, g4, g5⟩ := Cond.arrayOver_spec hf
  refine ⟨cI, cF, fun k q hq => ?_⟩
  match k, hq with
  | 0, hq => cases hq; exact ⟨fun n z => ⟨fun k h => (by cases h), kI, h2, compI, h3⟩, h1⟩
  | 1, hq => cases hq; exact ⟨fun n z => ⟨fun k h => (by cases h), kF, g3, comp, g4⟩, kF, comp, g3, g4, g1, g5⟩
  | k + 2, hq => simp at hq
theorem k_classes {s : State} {args : Array Value} (hts : ∀ w ∈ lw_tbl, w.before args s = true) : ∃ G : va_G, ∀ (k : Nat) (q : vw_C), vwCl[k]? = some q → u_Kn s q.1 q.2.1 q.2.2 (G.1 k) (G.2 k) := by
  obtain ⟨c0, i0, h0⟩ := u_known (C := RX0) (T := TX0) (N := 2) (n := 2) hts (fun w h => tb_in w (inX0 w h)) (hts _ (tb_in _ w_18))
  obtain ⟨c1, i1, h1⟩ := u_known (C := RX3) (T := TX3) (N := 5) (n := 5) hts (fun w h => tb_in w (inX3 w h)) (hts _ (tb_in _ w_34))
  obtain ⟨c2, i2, h2⟩ := u_known (C := RX4) (T := TX4) (N := 5) (n := 5) hts (fun w h => tb_in w (inX4 w h)) (hts _ (tb_in _ w_9))
  obtain ⟨c3, i3, h3⟩ := u_known (C := RX5) (T := TX5) (N := 10) (n := 10) hts (fun w h => tb_in w (inX5 w h)) (hts _ (tb_in _ w_308))
  refine ⟨(fun k => match k with | 0 => c0 | 1 => c1 | 2 => c2 | _ => c3, fun k => match k with | 0 => i0 | 1 => i1 | 2 => i2 | _ => i3), fun k q hq => ?_⟩
  match k, hq with
  | 0, hq => cases hq; exact h0
  | 1, hq => cases hq; exact h1
  | 2, hq => cases hq; exact h2
  | 3, hq => cases hq; exact h3
  | k + 4, hq => simp [vwCl] at hq
theorem st_e1 : ∀ j : Nat, j < 79 → (flatC (Jvm.Cond.and given_1 narrow_1))[7 + j]? = some (.eq (.elem (.static "RingForms$Places" "ALL" "[I") (.int (Int32.ofNat j))) (.int (allv j))) := by decide +kernel
theorem st_e2 : ∀ j : Nat, j < 3 → (flatC (Jvm.Cond.and given_1 narrow_1))[89 + j]? = some (.eq (.elem (.static "RingForms" "TRACES" "[I") (.int (Int32.ofNat j))) (.int (trcv j))) := by decide +kernel
theorem st_ALL {s : State} {args : Array Value} (hts : ∀ w ∈ lw_tbl, w.before args s = true) (hgv : (Jvm.Cond.and given_1 narrow_1).before args s = true) : ∃ t : Nat, va_Z "RingForms$Places" "ALL" "[I" (.ref t) (fun q => s.heap.size ≤ q) s s.heap ∧ va_T .int t 79 (fun j => .int (allv j)) (fun q => s.heap.size ≤ q) s s.heap := by
  have hs := flat_of_before _ hgv
  have hA : ∀ a : Nat, a < s.heap.size → ¬ (fun q => s.heap.size ≤ q) a := fun a h => Nat.not_le.mpr h
  obtain ⟨t, h1, h2⟩ := va_Tof (tm := .static "RingForms$Places" "ALL" "[I") (ty := .int) (N := 79) (f := fun j => .int (allv j)) (A := fun q => s.heap.size ≤ q) (by decide) (hs _ (List.mem_of_getElem? (i := 5) (by decide +kernel))) (va_eqt (z := Int32.ofNat 79) (hs _ (List.mem_of_getElem? (i := 6) (by decide +kernel)))) (fun j hj => va_eqt (hs _ (List.mem_of_getElem? (st_e1 j hj)))) hA
  exact ⟨t, va_Zof (hts _ (List.mem_append_right _ (List.mem_of_getElem? (i := 95) (by decide +kernel)))) (hts _ (tb_in _ w_5)) h1 hA, h2⟩
theorem st_TR {s : State} {args : Array Value} (hts : ∀ w ∈ lw_tbl, w.before args s = true) (hgv : (Jvm.Cond.and given_1 narrow_1).before args s = true) : ∃ t : Nat, va_Z "RingForms" "TRACES" "[I" (.ref t) (fun q => s.heap.size ≤ q) s s.heap ∧ va_T .int t 3 (fun j => .int (trcv j)) (fun q => s.heap.size ≤ q) s s.heap := by
  have hs := flat_of_before _ hgv
  have hA : ∀ a : Nat, a < s.heap.size → ¬ (fun q => s.heap.size ≤ q) a := fun a h => Nat.not_le.mpr h
  obtain ⟨t, h1, h2⟩ := va_Tof (tm := .static "RingForms" "TRACES" "[I") (ty := .int) (N := 3) (f := fun j => .int (trcv j)) (A := fun q => s.heap.size ≤ q) (by decide) (hs _ (List.mem_of_getElem? (i := 87) (by decide +kernel))) (va_eqt (z := Int32.ofNat 3) (hs _ (List.mem_of_getElem? (i := 88) (by decide +kernel)))) (fun j hj => va_eqt (hs _ (List.mem_of_getElem? (st_e2 j hj)))) hA
  exact ⟨t, va_Zof (hts _ (List.mem_append_right _ (List.mem_of_getElem? (i := 236) (by decide +kernel)))) (hts _ (tb_in _ w_1)) h1 hA, h2⟩
theorem vD_nd {A : Nat → Prop} {ws : va_W} (h : va_D A ws) : (ws.map Prod.fst).Nodup := by
  rw [List.nodup_iff_pairwise_ne, List.pairwise_iff_getElem]
  intro i j hi hj hij e
  have hi' : i < ws.length := by simpa using hi
  have hj' : j < ws.length := by simpa using hj
  rw [List.getElem_map, List.getElem_map] at e
  exact absurd (h.1 i j ws[i] ws[j] (List.getElem?_eq_getElem hi') (List.getElem?_eq_getElem hj') e) (Nat.ne_of_lt hij)
theorem rel_0 : Rel (fun _ => 1) (fun _ => upd (fun _ => 0) 0 1) 0 (upd (upd (upd (upd (fun _ => 0) 0 1) 1 1) 2 1) 3 1) (upd (upd (upd (upd (fun _ => 0) 0 1) 6 1) 12 1) 18 1) 0 := by
  refine ⟨rfl, fun j hj => ⟨1, Nat.le_refl 1, by decide, rfl, ?_, fun i hi => ?_⟩⟩
  · rcases (show j = 0 ∨ j = 1 ∨ j = 2 ∨ j = 3 by omega) with rfl | rfl | rfl | rfl <;> rfl
  · have e : i = 0 := by omega
    subst e
    refine ⟨?_, (by show (1 : Int32) ≠ 0; decide), (by show (-400 : Int) ≤ (1 : Int32).toInt; decide), (by show (1 : Int32).toInt ≤ 400; decide)⟩
    rcases (show j = 0 ∨ j = 1 ∨ j = 2 ∨ j = 3 by omega) with rfl | rfl | rfl | rfl <;> rfl
set_option maxHeartbeats 4000000 in
set_option maxRecDepth 100000 in
/-- THE LAW, from its entry -/
theorem whole_start {p : Program} {e : Env} {s : State} {m : MethodId} {below : List Frame} {meth : Method} {c : Code} (l : Launch) {b L : Nat} {xs : Nat → Int32} (hL : L ≤ 4608) (C0 : lw_At p s m meth c b L xs) : W p l e room_1 s m #[Value.ref b] below meth c s.heap [] 0 0 (lw_Z below #[Value.ref b] s) (entryFrame m ([Value.ref b] : List Value).toArray 4) := by
  obtain ⟨hx, hb, hret, hml, hown, hts, hX, hbl, hlocks, hgv⟩ := id C0
  have hown : s.vm.findClass RL = some m.cls := hown
  have hA : ∀ q : Nat, s.heap.size ≤ q → lA s q := fun _ h => h
  obtain ⟨cI, cF, hKa⟩ := k_arrays (hts _ (tb_in _ w_32)) (hts _ (List.mem_append_right _ (List.mem_of_getElem? (i := 17) (by decide +kernel))))
  obtain ⟨G, hKc⟩ := k_classes hts
  have hK : va_K G vwCl [(cI, .int), (cF, .object "RingForms$Form")] s := ⟨hKc, hKa⟩
  obtain ⟨tA, hZ, hT⟩ := st_ALL hts hgv
  obtain ⟨tT, hZ2, hT2⟩ := st_TR hts hgv
  have hE : eB (lA s) G cI cF tA tT s s.heap := ⟨hK, ⟨hZ, hT⟩, ⟨hZ2, hT2⟩⟩
  have hAO : va_AO "RingForms$Form" s := va_AO.of (hts _ (List.mem_append_right _ (List.mem_of_getElem? (i := 17) (by decide +kernel))))
  have hNW : va_Nw (.methodLinkNest RX4 26 yX3_init "RingForms") s := va_Nw.of rfl (hts _ (List.mem_append_right _ (List.mem_of_getElem? (i := 35) (by decide +kernel))))
  have hN : nwL s := va_Nw.of rfl (hts _ (List.mem_append_right _ (List.mem_of_getElem? (i := 271) (by decide +kernel))))
  have hS : va_S (lA s) s.heap s.heap [] := va_S.rf
  have hP : va_P G vwCl [] s.heap := fun k q h => by simp at h
  have hD : va_D (lA s) [] := ⟨fun i j p q h => by simp at h, fun k q h => by simp at h⟩
  have hl := lv_entry ([.ref b]) (n := 4) (Nat.le_of_ble_eq_true rfl)
  rw [lg_entry_eq]
  generalize (lg_sl ([.ref b]) ++ List.replicate (4 - (lg_sl ([.ref b])).length) Slot.unset).toArray = ls at hl ⊢
  have hl : lv_has ls 4 [(0, .ref b)] := hl
  refine va_new (ci := 2) (fs := [.null, .null, .null, .null, .long 0]) (C := RX4) (T := TX4) (N := 5) hx hb hts (fun w h => tb_in w (inX4 w h)) tyX4 tyX4_ok hown (hts _ (tb_in _ w_8)) (hts _ (tb_in _ w_9)) (hts _ (tb_in _ w_1)) hK hP hD hS hA rfl (fun j hj => by rcases (show j = 0 ∨ j = 1 ∨ j = 2 ∨ j = 3 ∨ j = 4 by omega) with rfl | rfl | rfl | rfl | rfl <;> rfl) (Nat.le_of_ble_eq_true rfl) (Nat.le_of_ble_eq_true rfl) dL_law_0 (fun o H hP hD hS => ?_)
  have hP : va_P G vwCl [(o, .inr (2, [.null, .null, .null, .null, .long 0]))] H := hP
  have hD : va_D (lA s) [(o, .inr (2, [.null, .null, .null, .null, .long 0]))] := hD
  refine W.widen (k := 1) (n := 5) (by omega) (by omega) ?_
  refine lv_dup hx hb dL_law_3 rfl ?_
  have hFc := va_free (wc := [(o, .inr (2, [.null, .null, .null, .null, .long 0]))]) hD hS hA [0] rfl
  refine va_callv (va_runI (As := []) (rest := [.ref o]) ⟨hx, hb, hml, hown, hts⟩ (cnX4_init l G cI cF o H.size) (cwI 0 hts (wl_good tb_in w_12) rfl rfl rfl (hts _ (tb_in _ w_1)) (hts _ (tb_in _ w_10)) (hts _ (tb_in _ w_11)) rfl (by decide +kernel) ⟨Nat.le_of_ble_eq_true rfl, Nat.le_of_ble_eq_true rfl⟩) ⟨fun a U g mk q => ⟨q.1, q.2.1, q.2.2.1, va_K.moved (u := U) (U := U.calling g mk a) (Vm.Alike.refl U.vm) q.2.2.2.1, q.2.2.2.2.1, va_Nw.same rfl rfl q.2.2.2.2.2⟩, fun U hU hW => ⟨rfl, by rw [hU], by rw [hU]; exact hP, va_K.moved hW.alike hK, hAO.moved hW.alike, hNW.warmM hW⟩⟩ rfl rfl hl.1 rfl (lv_room (Nat.le_of_ble_eq_true rfl)) dL_law_4 ⟨Nat.le_of_ble_eq_true rfl, Nat.le_of_ble_eq_true rfl⟩) hS (fun q _ h => hFc q h) hFc (fun u t H1 locs ht hvm hw hB hz1 hk1 hS => ?_)
  obtain ⟨sh, xx, xc, gv, se, fa, ca, hP1, hD1⟩ := hB
  rw [ht] at hP1
  obtain ⟨hP, hD⟩ := va_join (wr := []) hP hD [0] [] rfl rfl (by decide) (by decide) hk1 hFc hP1 hD1
  generalize H1 = H at hP hS ⊢
  refine W.widen (k := 14) (n := 59) (by omega) (by omega) ?_
  refine lv_astore_n (lv' := [(1, .ref o), (0, .ref b)]) hx hb dL_law_7 rfl hl (by decide) rfl (fun ls hl => ?_)
  refine va_new (ci := 3) (fs := [.int 0, .long 0, .null, .null, .int 0, .int 0, .int 0, .int 0, .int 0, .int 0]) (C := RX5) (T := TX5) (N := 10) hx hb hts (fun w h => tb_in w (inX5 w h)) tyX5 tyX5_ok hown (hts _ (tb_in _ w_307)) (hts _ (tb_in _ w_308)) (hts _ (tb_in _ w_4)) hK hP hD hS hA rfl (fun j hj => by rcases (show j = 0 ∨ j = 1 ∨ j = 2 ∨ j = 3 ∨ j = 4 ∨ j = 5 ∨ j = 6 ∨ j = 7 ∨ j = 8 ∨ j = 9 by omega) with rfl | rfl | rfl | rfl | rfl | rfl | rfl | rfl | rfl | rfl <;> rfl) (Nat.le_of_ble_eq_true rfl) (Nat.le_of_ble_eq_true rfl) dL_law_8 (fun h0 H hP hD hS => ?_)
  refine W.widen (k := 15) (n := 69) (by omega) (by omega) ?_
  refine lv_dup hx hb dL_law_11 rfl ?_
  have hPc := hP.sub (ws' := [(h0, .inr (3, [.int 0, .long 0, .null, .null, .int 0, .int 0, .int 0, .int 0, .int 0, .int 0]))]) [14] rfl
  have hFc := va_free (wc := [(h0, .inr (3, [.int 0, .long 0, .null, .null, .int 0, .int 0, .int 0, .int 0, .int 0, .int 0]))]) hD hS hA [14] rfl
  refine va_callv (va_runI (As := []) (rest := [.ref h0]) ⟨hx, hb, hml, hown, hts⟩ (cnX5_init l G cI cF h0 H.size) (cwI 0 hts (wl_good tb_in w_311) rfl rfl rfl (hts _ (tb_in _ w_4)) (hts _ (tb_in _ w_309)) (hts _ (tb_in _ w_310)) rfl (by decide +kernel) ⟨Nat.le_of_ble_eq_true rfl, Nat.le_of_ble_eq_true rfl⟩) (pre_ct hK hPc) rfl rfl hl.1 rfl (lv_room (Nat.le_of_ble_eq_true rfl)) dL_law_12 ⟨Nat.le_of_ble_eq_true rfl, Nat.le_of_ble_eq_true rfl⟩) hS (fun q _ h => hFc q h) hFc (fun u t H1 locs ht hvm hw hB hz1 hk1 hS => ?_)
  obtain ⟨hs, hr, hP1, hD1⟩ := hB
  rw [ht] at hP1
  obtain ⟨hP, hD⟩ := va_join (wr := cW cI cF o sh xx xc gv se fa ca (fun _ => 1) (fun _ => upd (fun _ => 0) 0 1) 1 (upd (fun _ => 0) 0 1) (fun _ => 0) 0 0 0 0 0 0) hP hD [14] [0, 1, 2, 3, 4, 5, 6, 7, 8, 9, 10, 11, 12, 13] rfl rfl (by decide) (by decide) hk1 hFc hP1 hD1
  generalize H1 = H at hP hS ⊢
  refine W.widen (k := 17) (n := 97) (by omega) (by omega) ?_
  have hnd : (cAd o sh xx xc gv se fa ca ++ [h0, hs, hr]).Nodup := vD_nd hD
  obtain ⟨hn1, hn2, hn3⟩ := List.nodup_append.mp hnd
  have X : Fix s o sh xx xc gv se fa ca h0 hs hr := by
    refine ⟨hn1, ?_, ?_, ?_, ?_, hN⟩
    · simp only [List.nodup_cons, List.mem_cons, List.not_mem_nil, or_false, not_or] at hn2
      exact ⟨hn2.1.1, hn2.1.2, hn2.2.1⟩
    · intro q hq hm
      refine hn3 q hq q ?_ rfl
      rcases hm with rfl | rfl | rfl <;> simp
    · intro q hq
      obtain ⟨x, hx1, rfl⟩ := List.mem_map.mp (show q ∈ (cW cI cF o sh xx xc gv se fa ca (fun _ => 1) (fun _ => upd (fun _ => 0) 0 1) 1 (upd (fun _ => 0) 0 1) (fun _ => 0) 0 0 0 0 0 0).map Prod.fst from hq)
      obtain ⟨i, hi⟩ := List.getElem?_of_mem (List.mem_append_left _ hx1)
      exact hD.2 i x hi
    · intro q hm
      rcases hm with rfl | rfl | rfl
      · exact hD.2 14 _ rfl
      · exact hD.2 15 _ rfl
      · exact hD.2 16 _ rfl
  have hC : cB (lA s) G cI cF tA tT o sh xx xc gv se fa ca (fun _ => 1) (fun _ => upd (fun _ => 0) 0 1) 1 (upd (fun _ => 0) 0 1) (fun _ => 0) 0 0 0 0 0 0 s H := ⟨eB_kept hE (fun a h1 h2 => hS.2.1 a h1 h2), hP.sub [0, 1, 2, 3, 4, 5, 6, 7, 8, 9, 10, 11, 12, 13] rfl⟩
  have hM : mB G h0 hs hr cI cF 0 (upd (upd (upd (upd (fun _ => 0) 0 1) 1 1) 2 1) 3 1) (upd (upd (upd (upd (fun _ => 0) 0 1) 6 1) 12 1) 18 1) 0 0 0 0 0 s H := ⟨⟨0, 0, hP.sub [14, 15, 16] rfl⟩, hK⟩
  refine lv_astore_n (lv' := [(2, .ref h0), (1, .ref o), (0, .ref b)]) hx hb dL_law_15 rfl hl (by decide) rfl (fun ls hl => ?_)
  refine lv_iconst (v := (0 : Int32)) hx hb dL_law_16 (by decide) ?_
  refine lv_istore_n (lv' := [(3, .int (0 : Int32)), (2, .ref h0), (1, .ref o), (0, .ref b)]) hx hb dL_law_17 rfl hl (by decide) rfl (fun ls hl => ?_)
  exact law_loop hL C0 X (L + 1) 0 0 (Nat.zero_le L) (by omega) nI_0.symm _ _ _ _ _ _ _ _ _ _ _ _ _ _ _ _ _ _ _ _ _ _ rel_0 hC hM hS (lv_sub hl [3, 2, 1, 0] rfl)
