def kX5_productOf_5 (rw : Nat → Int32) (a0 : Int32) (a1 : Int32) : Nat → Int64 → Int32 → Option (Int64)
  | 0, _, _ => none
  | fu + 1, x3_5, x5_5 =>
    (if a1 ≤ x5_5 then some x3_5 else
    (if ¬ ((((6 : Int32) * a0) + x5_5) < 0 ∨ 24 ≤ (((6 : Int32) * a0) + x5_5).toNatClampNeg) then (kX5_productOf_5 rw a0 a1 fu) (x3_5 * ((rw (((6 : Int32) * a0) + x5_5).toNatClampNeg).toInt64)) (x5_5 + (1 : Int32)) else none))
def fX5_productOf (sz : Nat → Int32) (rw : Nat → Int32) (a0 : Int32) (a1 : Int32) : Option (Int64) :=
    kX5_productOf_5 rw a0 a1 1100 (1 : Int64) (0 : Int32)
def kX5_isOf_40 (x4_6 : Int32) (K6 : Int32 → Int32 → Option (Int32)) (x5_40 : Int32) (t0_40 : Int32) : Option (Int32) :=
    K6 (x4_6 ||| t0_40) (x5_40 + (1 : Int32))
def kX5_isOf_6 (rw : Nat → Int32) (a0 : Int32) (a1 : Int32) (a2 : Int32) : Nat → Int32 → Int32 → Option (Int32)
  | 0, _, _ => none
  | fu + 1, x4_6, x5_6 =>
    (if a1 ≤ x5_6 then (if x4_6 &&& 1 = x4_6 then some x4_6 else none) else
    (if a2 ≤ 0 then (if x4_6 &&& 1 = x4_6 then some x4_6 else none) else
    (if ¬ ((((6 : Int32) * a0) + x5_6) < 0 ∨ 24 ≤ (((6 : Int32) * a0) + x5_6).toNatClampNeg) then (if ¬ a2 = 0 then (if (irm (rw (((6 : Int32) * a0) + x5_6).toNatClampNeg) a2) = 0 then kX5_isOf_40 x4_6 (kX5_isOf_6 rw a0 a1 a2 fu) x5_6 (1 : Int32) else
    kX5_isOf_40 x4_6 (kX5_isOf_6 rw a0 a1 a2 fu) x5_6 (0 : Int32)) else none) else none)))
def fX5_isOf (sz : Nat → Int32) (rw : Nat → Int32) (a0 : Int32) (a1 : Int32) (a2 : Int32) : Option (Int32) :=
    kX5_isOf_6 rw a0 a1 a2 1100 (0 : Int32) (0 : Int32)
def kX5_freeOf_23 (x4_15 : Int32) (K15 : Int64 → Int32 → Option (Int64)) : Nat → Int64 → Option (Int64)
  | 0, _ => none
  | fu + 1, x2_23 =>
    (if ¬ ((x4_15 * x4_15).toInt64) = 0 then (if (lg_cmp (lrm x2_23 ((x4_15 * x4_15).toInt64)) (0 : Int64)) = 0 then (if ¬ ((x4_15 * x4_15).toInt64) = 0 then (kX5_freeOf_23 x4_15 K15 fu) (x2_23 / ((x4_15 * x4_15).toInt64)) else none) else
    K15 x2_23 (x4_15 + (1 : Int32))) else none)
def kX5_freeOf_15 : Nat → Int64 → Int32 → Option (Int64)
  | 0, _, _ => none
  | fu + 1, x2_15, x4_15 =>
    (if (398 : Int32) ≤ x4_15 then some x2_15 else
    kX5_freeOf_23 x4_15 (kX5_freeOf_15 fu) 1100 x2_15)
def fX5_freeOf (sz : Nat → Int32) (rw : Nat → Int32) (a0 : Int32) : Option (Int64) :=
    (if ¬ (a0 < 0 ∨ 4 ≤ a0.toNatClampNeg) then (fX5_productOf sz rw a0 (sz a0.toNatClampNeg)).bind fun (r2 : Int64) =>
    kX5_freeOf_15 1100 r2 (2 : Int32) else none)
def kX5_aboveOf_32 (x3_5 : Int32) (K5 : Int32 → Int32 → Option (Int32)) (x4_32 : Int32) (t0_32 : Int32) : Option (Int32) :=
    K5 (x3_5 + t0_32) (x4_32 + (1 : Int32))
def kX5_aboveOf_5 (rw : Nat → Int32) (a0 : Int32) (a1 : Int32) : Nat → Int32 → Int32 → Option (Int32)
  | 0, _, _ => none
  | fu + 1, x3_5, x4_5 =>
    (if a1 ≤ x4_5 then some x3_5 else
    (if ¬ ((((6 : Int32) * a0) + x4_5) < 0 ∨ 24 ≤ (((6 : Int32) * a0) + x4_5).toNatClampNeg) then (if (rw (((6 : Int32) * a0) + x4_5).toNatClampNeg) ≤ 0 then kX5_aboveOf_32 x3_5 (kX5_aboveOf_5 rw a0 a1 fu) x4_5 (0 : Int32) else
    kX5_aboveOf_32 x3_5 (kX5_aboveOf_5 rw a0 a1 fu) x4_5 (1 : Int32)) else none))
def fX5_aboveOf (sz : Nat → Int32) (rw : Nat → Int32) (a0 : Int32) (a1 : Int32) : Option (Int32) :=
    kX5_aboveOf_5 rw a0 a1 1100 (0 : Int32) (0 : Int32)
def fX5_worthOf (sz : Nat → Int32) (rw : Nat → Int32) (a0 : Int32) (a1 : Int64) (a2 : Int64) (a3 : Int64) : Option (Int64) :=
    (if ¬ (((6 : Int32) * a0) < 0 ∨ 24 ≤ ((6 : Int32) * a0).toNatClampNeg) then (if ¬ ((((6 : Int32) * a0) + (1 : Int32)) < 0 ∨ 24 ≤ (((6 : Int32) * a0) + (1 : Int32)).toNatClampNeg) then (if ¬ ((((6 : Int32) * a0) + (2 : Int32)) < 0 ∨ 24 ≤ (((6 : Int32) * a0) + (2 : Int32)).toNatClampNeg) then some ((((((rw ((6 : Int32) * a0).toNatClampNeg).toInt64) * a1) * a1) + ((((rw (((6 : Int32) * a0) + (1 : Int32)).toNatClampNeg).toInt64) * a2) * a2)) + ((((rw (((6 : Int32) * a0) + (2 : Int32)).toNatClampNeg).toInt64) * a3) * a3)) else none) else none) else none)
def fX5_isThree (sz : Nat → Int32) (rw : Nat → Int32) (a0 : Int32) : Option (Int32) :=
    (fX5_isShelf a0).bind fun (r1 : Int32) =>
    (if r1 = 0 then some (0 : Int32) else
    (if ¬ (a0 < 0 ∨ 4 ≤ a0.toNatClampNeg) then (if (sz a0.toNatClampNeg) = (3 : Int32) then some (1 : Int32) else
    some (0 : Int32)) else none))
def fX5_isSolution (sz : Nat → Int32) (rw : Nat → Int32) (a0 : Int32) (a1 : Int32) (a2 : Int32) (a3 : Int32) : Option (Int32) :=
    (fX5_isFirstAbove a1.toInt64 a2.toInt64 a3.toInt64).bind fun (r1 : Int32) =>
    (if r1 = 0 then some (0 : Int32) else
    (fX5_worthOf sz rw a0 a1.toInt64 a2.toInt64 a3.toInt64).bind fun (r3 : Int64) =>
    (if (lg_cmp r3 (0 : Int64)) = 0 then (fX5_common a1.toInt64 a2.toInt64).bind fun (r5 : Int64) =>
    (fX5_common r5 a3.toInt64).bind fun (r7 : Int64) =>
    (if (lg_cmp r7 (1 : Int64)) = 0 then some (1 : Int32) else
    some (0 : Int32)) else
    some (0 : Int32)))
theorem syX5_productOf : Vy yX5_productOf cX5_productOf 6 (some .long) 2 := ⟨w_406, ⟨w_405, w_s4⟩, w_4, by decide +kernel⟩
set_option maxHeartbeats 4000000 in
set_option maxRecDepth 100000 in
theorem cnX5_productOf (l : Launch) (G : va_G) (h0 hs hr : Nat) (cI cF : ClassId) (tr : Int64) (sz rw : Nat → Int32) (bx by_ bz bm so : Int32) {a0 : Int32} {a1 : Int32} {r : Int64} (h : fX5_productOf sz rw a0 a1 = some r) : Ro l yX5_productOf cX5_productOf 6 (some .long) 0 0 [.ref h0, .int a0, .int a1] (mB G h0 hs hr cI cF tr sz rw bx by_ bz bm so) (.long r) := by
  refine ro_l (plainFor_of_name (by decide)) (Nat.le_of_ble_eq_true rfl) ?_
  intro p e s m args below meth cd Q ls hF hB hl END
  have hF : CallFix p m cd cX5_productOf 6 s args (wl yX5_productOf cX5_productOf 6 (some .long)) RX5 := hF
  obtain ⟨hx, hb, hml, hown, hts⟩ := id hF
  have hl : lv_has ls 6 [(0, .ref h0), (1, .int a0), (2, .int a1)] := hl
  obtain ⟨⟨th, ex, hP⟩, hK⟩ := hB
  rw [fX5_productOf] at h
  refine lv_lconst (v := (1 : Int64)) hx hb dX5_productOf_0 (by decide) ?_
  refine lv_lstore_n (lv' := [(3, .long (1 : Int64)), (0, .ref h0), (1, .int a0), (2, .int a1)]) hx hb dX5_productOf_1 rfl hl (by decide) rfl (fun ls hl => ?_)
  refine lv_iconst (v := (0 : Int32)) hx hb dX5_productOf_2 (by decide) ?_
  refine lv_istore (lv' := [(5, .int (0 : Int32)), (3, .long (1 : Int64)), (0, .ref h0), (1, .int a0), (2, .int a1)]) hx hb dX5_productOf_3 hl (by decide) rfl (fun ls hl => ?_)
  have J5 : ∀ (n5 : Nat) (x3_5 : Int64) (x5_5 : Int32), kX5_productOf_5 rw a0 a1 n5 x3_5 x5_5 = some r → ∀ (ls : Array Slot), lv_has ls 6 [(0, .ref h0), (1, .int a0), (2, .int a1), (3, .long x3_5), (5, .int x5_5)] → W p l e (rmk 0 0) s m args below meth cd s.heap [] 0 0 Q (F0 m 5 ls []) := by
    intro n5
    induction n5 with
    | zero =>
      intro x3_5 x5_5 h
      rw [kX5_productOf_5] at h
      cases h
    | succ n5 ih5 =>
      intro x3_5 x5_5 h  ls hl
      rw [kX5_productOf_5] at h
      refine lv_iload hx hb dX5_productOf_5 (lv_at hl 4 rfl) ?_
      refine lv_iload_n hx hb dX5_productOf_7 rfl (lv_at hl 2 rfl) ?_
      refine lv_icmp_ge (tgt := 33) hx hb dX5_productOf_8 (by decide) (fun c8 => ?_) (fun c8 => ?_)
      · have h := pt c8 h
        refine lv_lload_n hx hb dX5_productOf_33 rfl (lv_at hl 3 rfl) ?_
        exact END 34 ls _ (pe h) dX5_productOf_34
      · have h := pf c8 h
        refine lv_lload_n hx hb dX5_productOf_11 rfl (lv_at hl 3 rfl) ?_
        refine lv_aload_n hx hb dX5_productOf_12 rfl (lv_at hl 0 rfl) ?_
        refine va_get (D := G) (ci := 3) (v := .ref hr) (C := RX5) (T := TX5) (N := 10) hx hb hts (fun w h => wl_in (inX5 w h)) hown hK hP 0 rfl rfl 3 (by decide) (hts _ (wl_in w_316)) (fun _ h9 => h9) rfl dX5_productOf_13 ?_
        refine lv_bipush (v := (6 : Int32)) hx hb dX5_productOf_16 (by decide) ?_
        refine lv_iload_n hx hb dX5_productOf_18 rfl (lv_at hl 1 rfl) ?_
        refine lv_imul hx hb dX5_productOf_19 ?_
        refine lv_iload hx hb dX5_productOf_20 (lv_at hl 4 rfl) ?_
        refine lv_iadd hx hb dX5_productOf_22 ?_
        obtain ⟨g1, h⟩ := pg h
        refine va_iald hx hb hK hP 2 0 rfl rfl g1 dX5_productOf_23 ?_
        refine lv_i2l (v := (rw (((6 : Int32) * a0) + x5_5).toNatClampNeg).toInt64) hx hb dX5_productOf_24 rfl ?_
        refine lv_lmul hx hb dX5_productOf_25 ?_
        refine lv_lstore_n (lv' := [(3, .long (x3_5 * ((rw (((6 : Int32) * a0) + x5_5).toNatClampNeg).toInt64))), (0, .ref h0), (1, .int a0), (2, .int a1), (5, .int x5_5)]) hx hb dX5_productOf_26 rfl hl (by decide) rfl (fun ls hl => ?_)
        refine lv_iinc (v := x5_5 + (1 : Int32)) (lv' := [(5, .int (x5_5 + (1 : Int32))), (3, .long (x3_5 * ((rw (((6 : Int32) * a0) + x5_5).toNatClampNeg).toInt64))), (0, .ref h0), (1, .int a0), (2, .int a1)]) hx hb dX5_productOf_27 hl (k := 4) rfl rfl (by decide) rfl (fun ls hl => ?_)
        refine lv_goto (tgt := 5) hx hb dX5_productOf_30 (by decide) ?_
        exact ih5 _ _ h  _ (lv_sub hl [2, 3, 4, 1, 0] rfl)
  exact J5 _ _ _ h  _ (lv_sub hl [2, 3, 4, 1, 0] rfl)

theorem syX5_isOf : Vy yX5_isOf cX5_isOf 6 (some .boolean) 3 := ⟨w_450, ⟨w_449, w_s11⟩, w_4, by decide +kernel⟩
set_option maxHeartbeats 4000000 in
set_option maxRecDepth 100000 in
theorem cnX5_isOf (l : Launch) (G : va_G) (h0 hs hr : Nat) (cI cF : ClassId) (tr : Int64) (sz rw : Nat → Int32) (bx by_ bz bm so : Int32) {a0 : Int32} {a1 : Int32} {a2 : Int32} {r : Int32} (h : fX5_isOf sz rw a0 a1 a2 = some r) : Ro l yX5_isOf cX5_isOf 6 (some .boolean) 0 0 [.ref h0, .int a0, .int a1, .int a2] (mB G h0 hs hr cI cF tr sz rw bx by_ bz bm so) (.int r) := by
  refine ro_z (plainFor_of_name (by decide)) (Nat.le_of_ble_eq_true rfl) ?_
  intro p e s m args below meth cd Q ls hF hB hl END
  have hF : CallFix p m cd cX5_isOf 6 s args (wl yX5_isOf cX5_isOf 6 (some .boolean)) RX5 := hF
  obtain ⟨hx, hb, hml, hown, hts⟩ := id hF
  have hl : lv_has ls 6 [(0, .ref h0), (1, .int a0), (2, .int a1), (3, .int a2)] := hl
  obtain ⟨⟨th, ex, hP⟩, hK⟩ := hB
  rw [fX5_isOf] at h
  refine lv_iconst (v := (0 : Int32)) hx hb dX5_isOf_0 (by decide) ?_
  refine lv_istore (lv' := [(4, .int (0 : Int32)), (0, .ref h0), (1, .int a0), (2, .int a1), (3, .int a2)]) hx hb dX5_isOf_1 hl (by decide) rfl (fun ls hl => ?_)
  refine lv_iconst (v := (0 : Int32)) hx hb dX5_isOf_3 (by decide) ?_
  refine lv_istore (lv' := [(5, .int (0 : Int32)), (4, .int (0 : Int32)), (0, .ref h0), (1, .int a0), (2, .int a1), (3, .int a2)]) hx hb dX5_isOf_4 hl (by decide) rfl (fun ls hl => ?_)
  have J6 : ∀ (n6 : Nat) (x4_6 : Int32) (x5_6 : Int32), kX5_isOf_6 rw a0 a1 a2 n6 x4_6 x5_6 = some r → ∀ (ls : Array Slot), lv_has ls 6 [(0, .ref h0), (1, .int a0), (2, .int a1), (3, .int a2), (4, .int x4_6), (5, .int x5_6)] → W p l e (rmk 0 0) s m args below meth cd s.heap [] 0 0 Q (F0 m 6 ls []) := by
    intro n6
    induction n6 with
    | zero =>
      intro x4_6 x5_6 h
      rw [kX5_isOf_6] at h
      cases h
    | succ n6 ih6 =>
      intro x4_6 x5_6 h  ls hl
      rw [kX5_isOf_6] at h
      refine lv_iload hx hb dX5_isOf_6 (lv_at hl 5 rfl) ?_
      refine lv_iload_n hx hb dX5_isOf_8 rfl (lv_at hl 2 rfl) ?_
      refine lv_icmp_ge (tgt := 49) hx hb dX5_isOf_9 (by decide) (fun c9 => ?_) (fun c9 => ?_)
      · have h := pt c9 h
        refine lv_iload hx hb dX5_isOf_49 (lv_at hl 4 rfl) ?_
        obtain ⟨g1, h⟩ := pg h
        exact END 51 ls _ (pe h) (nbool g1) dX5_isOf_51
      · have h := pf c9 h
        refine lv_iload_n hx hb dX5_isOf_12 rfl (lv_at hl 3 rfl) ?_
        refine lv_if_le (tgt := 49) hx hb dX5_isOf_13 (by decide) (fun c13 => ?_) (fun c13 => ?_)
        · have h := pt c13 h
          refine lv_iload hx hb dX5_isOf_49 (lv_at hl 4 rfl) ?_
          obtain ⟨g2, h⟩ := pg h
          exact END 51 ls _ (pe h) (nbool g2) dX5_isOf_51
        · have h := pf c13 h
          refine lv_iload hx hb dX5_isOf_16 (lv_at hl 4 rfl) ?_
          refine lv_aload_n hx hb dX5_isOf_18 rfl (lv_at hl 0 rfl) ?_
          refine va_get (D := G) (ci := 3) (v := .ref hr) (C := RX5) (T := TX5) (N := 10) hx hb hts (fun w h => wl_in (inX5 w h)) hown hK hP 0 rfl rfl 3 (by decide) (hts _ (wl_in w_316)) (fun _ h9 => h9) rfl dX5_isOf_19 ?_
          refine lv_bipush (v := (6 : Int32)) hx hb dX5_isOf_22 (by decide) ?_
          refine lv_iload_n hx hb dX5_isOf_24 rfl (lv_at hl 1 rfl) ?_
          refine lv_imul hx hb dX5_isOf_25 ?_
          refine lv_iload hx hb dX5_isOf_26 (lv_at hl 5 rfl) ?_
          refine lv_iadd hx hb dX5_isOf_28 ?_
          obtain ⟨g3, h⟩ := pg h
          refine va_iald hx hb hK hP 2 0 rfl rfl g3 dX5_isOf_29 ?_
          refine lv_iload_n hx hb dX5_isOf_30 rfl (lv_at hl 3 rfl) ?_
          obtain ⟨g4, h⟩ := pg h
          refine lq_irem hx hb dX5_isOf_31 g4 ?_
          have J40 : ∀ (x5_40 : Int32) (t0_40 : Int32), kX5_isOf_40 x4_6 (kX5_isOf_6 rw a0 a1 a2 n6) x5_40 t0_40 = some r → ∀ (ls : Array Slot), lv_has ls 6 [(0, .ref h0), (1, .int a0), (2, .int a1), (3, .int a2), (5, .int x5_40)] → W p l e (rmk 0 0) s m args below meth cd s.heap [] 0 0 Q (F0 m 40 ls [.int t0_40, .int x4_6]) := by
            intro x5_40 t0_40 h  ls hl
            rw [kX5_isOf_40] at h
            refine lv_ior hx hb dX5_isOf_40 ?_
            refine lv_istore (lv' := [(4, .int (x4_6 ||| t0_40)), (0, .ref h0), (1, .int a0), (2, .int a1), (3, .int a2), (5, .int x5_40)]) hx hb dX5_isOf_41 hl (by decide) rfl (fun ls hl => ?_)
            refine lv_iinc (v := x5_40 + (1 : Int32)) (lv' := [(5, .int (x5_40 + (1 : Int32))), (4, .int (x4_6 ||| t0_40)), (0, .ref h0), (1, .int a0), (2, .int a1), (3, .int a2)]) hx hb dX5_isOf_43 hl (k := 5) rfl rfl (by decide) rfl (fun ls hl => ?_)
            refine lv_goto (tgt := 6) hx hb dX5_isOf_46 (by decide) ?_
            exact ih6 _ _ h  _ (lv_sub hl [2, 3, 4, 5, 1, 0] rfl)
          refine lv_if_ne (tgt := 39) hx hb dX5_isOf_32 (by decide) (fun c32 => ?_) (fun c32 => ?_)
          · have h := pf c32 h
            refine lv_iconst (v := (0 : Int32)) hx hb dX5_isOf_39 (by decide) ?_
            exact J40 _ _ h  _ (lv_sub hl [0, 1, 2, 3, 5] rfl)
          · have h := pt c32 h
            refine lv_iconst (v := (1 : Int32)) hx hb dX5_isOf_35 (by decide) ?_
            refine lv_goto (tgt := 40) hx hb dX5_isOf_36 (by decide) ?_
            exact J40 _ _ h  _ (lv_sub hl [0, 1, 2, 3, 5] rfl)
  exact J6 _ _ _ h  _ (lv_sub hl [2, 3, 4, 5, 1, 0] rfl)

theorem syX5_freeOf : Vy yX5_freeOf cX5_freeOf 5 (some .long) 1 := ⟨w_410, ⟨w_409, w_s5⟩, w_4, by decide +kernel⟩
set_option maxHeartbeats 4000000 in
set_option maxRecDepth 100000 in
theorem cnX5_freeOf (l : Launch) (G : va_G) (h0 hs hr : Nat) (cI cF : ClassId) (tr : Int64) (sz rw : Nat → Int32) (bx by_ bz bm so : Int32) {a0 : Int32} {r : Int64} (h : fX5_freeOf sz rw a0 = some r) : Ro l yX5_freeOf cX5_freeOf 5 (some .long) 1 25 [.ref h0, .int a0] (mB G h0 hs hr cI cF tr sz rw bx by_ bz bm so) (.long r) := by
  refine ro_l (plainFor_of_name (by decide)) (Nat.le_of_ble_eq_true rfl) ?_
  intro p e s m args below meth cd Q ls hF hB hl END
  have hF : CallFix p m cd cX5_freeOf 5 s args (wl yX5_freeOf cX5_freeOf 5 (some .long)) RX5 := hF
  obtain ⟨hx, hb, hml, hown, hts⟩ := id hF
  have hl : lv_has ls 5 [(0, .ref h0), (1, .int a0)] := hl
  obtain ⟨⟨th, ex, hP⟩, hK⟩ := hB
  rw [fX5_freeOf] at h
  refine lv_aload_n hx hb dX5_freeOf_0 rfl (lv_at hl 0 rfl) ?_
  refine lv_iload_n hx hb dX5_freeOf_1 rfl (lv_at hl 1 rfl) ?_
  refine lv_aload_n hx hb dX5_freeOf_2 rfl (lv_at hl 0 rfl) ?_
  refine va_get (D := G) (ci := 3) (v := .ref hs) (C := RX5) (T := TX5) (N := 10) hx hb hts (fun w h => wl_in (inX5 w h)) hown hK hP 0 rfl rfl 2 (by decide) (hts _ (wl_in w_315)) (fun _ h9 => h9) rfl dX5_freeOf_3 ?_
  refine lv_iload_n hx hb dX5_freeOf_6 rfl (lv_at hl 1 rfl) ?_
  obtain ⟨g1, h⟩ := pg h
  refine va_iald hx hb hK hP 1 0 rfl rfl g1 dX5_freeOf_7 ?_
  obtain ⟨r2, e3, h⟩ := pb h
  refine ro_V (As := [.int a0, .int (sz a0.toNatClampNeg)]) (rest := []) hF (fun _ h => wl_in h) (cnX5_productOf l G h0 hs hr cI cF tr sz rw bx by_ bz bm so e3) syX5_productOf w_403 ⟨Nat.le_of_ble_eq_true rfl, Nat.le_of_ble_eq_true rfl⟩ mB_mv ⟨⟨_, _, hP⟩, hK⟩ (va_recv hK hP (ci := 3) (q0 := 0) rfl rfl) rfl hl.1 rfl (Nat.le_of_ble_eq_true rfl) dX5_freeOf_8 ⟨Nat.zero_le _, Nat.zero_le _⟩ ?_
  refine lv_lstore_n (lv' := [(2, .long r2), (0, .ref h0), (1, .int a0)]) hx hb dX5_freeOf_11 rfl hl (by decide) rfl (fun ls hl => ?_)
  refine lv_iconst (v := (2 : Int32)) hx hb dX5_freeOf_12 (by decide) ?_
  refine lv_istore (lv' := [(4, .int (2 : Int32)), (2, .long r2), (0, .ref h0), (1, .int a0)]) hx hb dX5_freeOf_13 hl (by decide) rfl (fun ls hl => ?_)
  have J15 : ∀ (n15 : Nat) (x2_15 : Int64) (x4_15 : Int32), kX5_freeOf_15 n15 x2_15 x4_15 = some r → ∀ (ls : Array Slot), lv_has ls 5 [(2, .long x2_15), (4, .int x4_15)] → W p l e (rmk 1 25) s m args below meth cd s.heap [] 0 0 Q (F0 m 15 ls []) := by
    intro n15
    induction n15 with
    | zero =>
      intro x2_15 x4_15 h
      rw [kX5_freeOf_15] at h
      cases h
    | succ n15 ih15 =>
      intro x2_15 x4_15 h  ls hl
      rw [kX5_freeOf_15] at h
      refine lv_iload hx hb dX5_freeOf_15 (lv_at hl 1 rfl) ?_
      refine lv_sipush (v := (398 : Int32)) hx hb dX5_freeOf_17 (by decide) ?_
      have J23 : ∀ (n23 : Nat) (x2_23 : Int64), kX5_freeOf_23 x4_15 (kX5_freeOf_15 n15) n23 x2_23 = some r → ∀ (ls : Array Slot), lv_has ls 5 [(4, .int x4_15), (2, .long x2_23)] → W p l e (rmk 1 25) s m args below meth cd s.heap [] 0 0 Q (F0 m 23 ls []) := by
        intro n23
        induction n23 with
        | zero =>
          intro x2_23 h
          rw [kX5_freeOf_23] at h
          cases h
        | succ n23 ih23 =>
          intro x2_23 h  ls hl
          rw [kX5_freeOf_23] at h
          refine lv_lload_n hx hb dX5_freeOf_23 rfl (lv_at hl 1 rfl) ?_
          refine lv_iload hx hb dX5_freeOf_24 (lv_at hl 0 rfl) ?_
          refine lv_iload hx hb dX5_freeOf_26 (lv_at hl 0 rfl) ?_
          refine lv_imul hx hb dX5_freeOf_28 ?_
          refine lv_i2l (v := (x4_15 * x4_15).toInt64) hx hb dX5_freeOf_29 rfl ?_
          obtain ⟨g4, h⟩ := pg h
          refine lq_lrem hx hb dX5_freeOf_30 g4 ?_
          refine lv_lconst (v := (0 : Int64)) hx hb dX5_freeOf_31 (by decide) ?_
          refine W.lcmp hx hb dX5_freeOf_32 ?_
          refine lv_if_ne (tgt := 48) hx hb dX5_freeOf_33 (by decide) (fun c33 => ?_) (fun c33 => ?_)
          · have h := pf c33 h
            refine lv_iinc (v := x4_15 + (1 : Int32)) (lv' := [(4, .int (x4_15 + (1 : Int32))), (2, .long x2_23)]) hx hb dX5_freeOf_48 hl (k := 0) rfl rfl (by decide) rfl (fun ls hl => ?_)
            refine lv_goto (tgt := 15) hx hb dX5_freeOf_51 (by decide) ?_
            exact ih15 _ _ h  _ (lv_sub hl [1, 0] rfl)
          · have h := pt c33 h
            refine lv_lload_n hx hb dX5_freeOf_36 rfl (lv_at hl 1 rfl) ?_
            refine lv_iload hx hb dX5_freeOf_37 (lv_at hl 0 rfl) ?_
            refine lv_iload hx hb dX5_freeOf_39 (lv_at hl 0 rfl) ?_
            refine lv_imul hx hb dX5_freeOf_41 ?_
            refine lv_i2l (v := (x4_15 * x4_15).toInt64) hx hb dX5_freeOf_42 rfl ?_
            obtain ⟨g5, h⟩ := pg h
            refine lv_ldiv hx hb dX5_freeOf_43 g5 ?_
            refine lv_lstore_n (lv' := [(2, .long (x2_23 / ((x4_15 * x4_15).toInt64))), (4, .int x4_15)]) hx hb dX5_freeOf_44 rfl hl (by decide) rfl (fun ls hl => ?_)
            refine lv_goto (tgt := 23) hx hb dX5_freeOf_45 (by decide) ?_
            exact ih23 _ h  _ (lv_sub hl [1, 0] rfl)
      refine lv_icmp_ge (tgt := 54) hx hb dX5_freeOf_20 (by decide) (fun c20 => ?_) (fun c20 => ?_)
      · have h := pt c20 h
        refine lv_lload_n hx hb dX5_freeOf_54 rfl (lv_at hl 0 rfl) ?_
        exact END 55 ls _ (pe h) dX5_freeOf_55
      · have h := pf c20 h
        exact J23 _ _ h  _ (lv_sub hl [1, 0] rfl)
  exact J15 _ _ _ h  _ (lv_sub hl [1, 0] rfl)

theorem syX5_aboveOf : Vy yX5_aboveOf cX5_aboveOf 5 (some .int) 2 := ⟨w_430, ⟨w_429, w_s8⟩, w_4, by decide +kernel⟩
set_option maxHeartbeats 4000000 in
set_option maxRecDepth 100000 in
theorem cnX5_aboveOf (l : Launch) (G : va_G) (h0 hs hr : Nat) (cI cF : ClassId) (tr : Int64) (sz rw : Nat → Int32) (bx by_ bz bm so : Int32) {a0 : Int32} {a1 : Int32} {r : Int32} (h : fX5_aboveOf sz rw a0 a1 = some r) : Ro l yX5_aboveOf cX5_aboveOf 5 (some .int) 0 0 [.ref h0, .int a0, .int a1] (mB G h0 hs hr cI cF tr sz rw bx by_ bz bm so) (.int r) := by
  refine ro_i (plainFor_of_name (by decide)) (Nat.le_of_ble_eq_true rfl) ?_
  intro p e s m args below meth cd Q ls hF hB hl END
  have hF : CallFix p m cd cX5_aboveOf 5 s args (wl yX5_aboveOf cX5_aboveOf 5 (some .int)) RX5 := hF
  obtain ⟨hx, hb, hml, hown, hts⟩ := id hF
  have hl : lv_has ls 5 [(0, .ref h0), (1, .int a0), (2, .int a1)] := hl
  obtain ⟨⟨th, ex, hP⟩, hK⟩ := hB
  rw [fX5_aboveOf] at h
  refine lv_iconst (v := (0 : Int32)) hx hb dX5_aboveOf_0 (by decide) ?_
  refine lv_istore_n (lv' := [(3, .int (0 : Int32)), (0, .ref h0), (1, .int a0), (2, .int a1)]) hx hb dX5_aboveOf_1 rfl hl (by decide) rfl (fun ls hl => ?_)
  refine lv_iconst (v := (0 : Int32)) hx hb dX5_aboveOf_2 (by decide) ?_
  refine lv_istore (lv' := [(4, .int (0 : Int32)), (3, .int (0 : Int32)), (0, .ref h0), (1, .int a0), (2, .int a1)]) hx hb dX5_aboveOf_3 hl (by decide) rfl (fun ls hl => ?_)
  have J5 : ∀ (n5 : Nat) (x3_5 : Int32) (x4_5 : Int32), kX5_aboveOf_5 rw a0 a1 n5 x3_5 x4_5 = some r → ∀ (ls : Array Slot), lv_has ls 5 [(0, .ref h0), (1, .int a0), (2, .int a1), (3, .int x3_5), (4, .int x4_5)] → W p l e (rmk 0 0) s m args below meth cd s.heap [] 0 0 Q (F0 m 5 ls []) := by
    intro n5
    induction n5 with
    | zero =>
      intro x3_5 x4_5 h
      rw [kX5_aboveOf_5] at h
      cases h
    | succ n5 ih5 =>
      intro x3_5 x4_5 h  ls hl
      rw [kX5_aboveOf_5] at h
      refine lv_iload hx hb dX5_aboveOf_5 (lv_at hl 4 rfl) ?_
      refine lv_iload_n hx hb dX5_aboveOf_7 rfl (lv_at hl 2 rfl) ?_
      refine lv_icmp_ge (tgt := 40) hx hb dX5_aboveOf_8 (by decide) (fun c8 => ?_) (fun c8 => ?_)
      · have h := pt c8 h
        refine lv_iload_n hx hb dX5_aboveOf_40 rfl (lv_at hl 3 rfl) ?_
        exact END 41 ls _ (pe h) dX5_aboveOf_41
      · have h := pf c8 h
        refine lv_iload_n hx hb dX5_aboveOf_11 rfl (lv_at hl 3 rfl) ?_
        refine lv_aload_n hx hb dX5_aboveOf_12 rfl (lv_at hl 0 rfl) ?_
        refine va_get (D := G) (ci := 3) (v := .ref hr) (C := RX5) (T := TX5) (N := 10) hx hb hts (fun w h => wl_in (inX5 w h)) hown hK hP 0 rfl rfl 3 (by decide) (hts _ (wl_in w_316)) (fun _ h9 => h9) rfl dX5_aboveOf_13 ?_
        refine lv_bipush (v := (6 : Int32)) hx hb dX5_aboveOf_16 (by decide) ?_
        refine lv_iload_n hx hb dX5_aboveOf_18 rfl (lv_at hl 1 rfl) ?_
        refine lv_imul hx hb dX5_aboveOf_19 ?_
        refine lv_iload hx hb dX5_aboveOf_20 (lv_at hl 4 rfl) ?_
        refine lv_iadd hx hb dX5_aboveOf_22 ?_
        obtain ⟨g1, h⟩ := pg h
        refine va_iald hx hb hK hP 2 0 rfl rfl g1 dX5_aboveOf_23 ?_
        have J32 : ∀ (x4_32 : Int32) (t0_32 : Int32), kX5_aboveOf_32 x3_5 (kX5_aboveOf_5 rw a0 a1 n5) x4_32 t0_32 = some r → ∀ (ls : Array Slot), lv_has ls 5 [(0, .ref h0), (1, .int a0), (2, .int a1), (4, .int x4_32)] → W p l e (rmk 0 0) s m args below meth cd s.heap [] 0 0 Q (F0 m 32 ls [.int t0_32, .int x3_5]) := by
          intro x4_32 t0_32 h  ls hl
          rw [kX5_aboveOf_32] at h
          refine lv_iadd hx hb dX5_aboveOf_32 ?_
          refine lv_istore_n (lv' := [(3, .int (x3_5 + t0_32)), (0, .ref h0), (1, .int a0), (2, .int a1), (4, .int x4_32)]) hx hb dX5_aboveOf_33 rfl hl (by decide) rfl (fun ls hl => ?_)
          refine lv_iinc (v := x4_32 + (1 : Int32)) (lv' := [(4, .int (x4_32 + (1 : Int32))), (3, .int (x3_5 + t0_32)), (0, .ref h0), (1, .int a0), (2, .int a1)]) hx hb dX5_aboveOf_34 hl (k := 4) rfl rfl (by decide) rfl (fun ls hl => ?_)
          refine lv_goto (tgt := 5) hx hb dX5_aboveOf_37 (by decide) ?_
          exact ih5 _ _ h  _ (lv_sub hl [2, 3, 4, 1, 0] rfl)
        refine lv_if_le (tgt := 31) hx hb dX5_aboveOf_24 (by decide) (fun c24 => ?_) (fun c24 => ?_)
        · have h := pt c24 h
          refine lv_iconst (v := (0 : Int32)) hx hb dX5_aboveOf_31 (by decide) ?_
          exact J32 _ _ h  _ (lv_sub hl [0, 1, 2, 4] rfl)
        · have h := pf c24 h
          refine lv_iconst (v := (1 : Int32)) hx hb dX5_aboveOf_27 (by decide) ?_
          refine lv_goto (tgt := 32) hx hb dX5_aboveOf_28 (by decide) ?_
          exact J32 _ _ h  _ (lv_sub hl [0, 1, 2, 4] rfl)
  exact J5 _ _ _ h  _ (lv_sub hl [2, 3, 4, 1, 0] rfl)

theorem syX5_worthOf : Vy yX5_worthOf cX5_worthOf 8 (some .long) 4 := ⟨w_484, ⟨w_483, w_s14⟩, w_4, by decide +kernel⟩
set_option maxHeartbeats 4000000 in
set_option maxRecDepth 100000 in
theorem cnX5_worthOf (l : Launch) (G : va_G) (h0 hs hr : Nat) (cI cF : ClassId) (tr : Int64) (sz rw : Nat → Int32) (bx by_ bz bm so : Int32) {a0 : Int32} {a1 : Int64} {a2 : Int64} {a3 : Int64} {r : Int64} (h : fX5_worthOf sz rw a0 a1 a2 a3 = some r) : Ro l yX5_worthOf cX5_worthOf 8 (some .long) 0 0 [.ref h0, .int a0, .long a1, .long a2, .long a3] (mB G h0 hs hr cI cF tr sz rw bx by_ bz bm so) (.long r) := by
  refine ro_l (plainFor_of_name (by decide)) (Nat.le_of_ble_eq_true rfl) ?_
  intro p e s m args below meth cd Q ls hF hB hl END
  have hF : CallFix p m cd cX5_worthOf 8 s args (wl yX5_worthOf cX5_worthOf 8 (some .long)) RX5 := hF
  obtain ⟨hx, hb, hml, hown, hts⟩ := id hF
  have hl : lv_has ls 8 [(0, .ref h0), (1, .int a0), (2, .long a1), (4, .long a2), (6, .long a3)] := hl
  obtain ⟨⟨th, ex, hP⟩, hK⟩ := hB
  rw [fX5_worthOf] at h
  refine lv_aload_n hx hb dX5_worthOf_0 rfl (lv_at hl 0 rfl) ?_
  refine va_get (D := G) (ci := 3) (v := .ref hr) (C := RX5) (T := TX5) (N := 10) hx hb hts (fun w h => wl_in (inX5 w h)) hown hK hP 0 rfl rfl 3 (by decide) (hts _ (wl_in w_316)) (fun _ h9 => h9) rfl dX5_worthOf_1 ?_
  refine lv_bipush (v := (6 : Int32)) hx hb dX5_worthOf_4 (by decide) ?_
  refine lv_iload_n hx hb dX5_worthOf_6 rfl (lv_at hl 1 rfl) ?_
  refine lv_imul hx hb dX5_worthOf_7 ?_
  obtain ⟨g1, h⟩ := pg h
  refine va_iald hx hb hK hP 2 0 rfl rfl g1 dX5_worthOf_8 ?_
  refine lv_i2l (v := (rw ((6 : Int32) * a0).toNatClampNeg).toInt64) hx hb dX5_worthOf_9 rfl ?_
  refine lv_lload_n hx hb dX5_worthOf_10 rfl (lv_at hl 2 rfl) ?_
  refine lv_lmul hx hb dX5_worthOf_11 ?_
  refine lv_lload_n hx hb dX5_worthOf_12 rfl (lv_at hl 2 rfl) ?_
  refine lv_lmul hx hb dX5_worthOf_13 ?_
  refine lv_aload_n hx hb dX5_worthOf_14 rfl (lv_at hl 0 rfl) ?_
  refine va_get (D := G) (ci := 3) (v := .ref hr) (C := RX5) (T := TX5) (N := 10) hx hb hts (fun w h => wl_in (inX5 w h)) hown hK hP 0 rfl rfl 3 (by decide) (hts _ (wl_in w_316)) (fun _ h9 => h9) rfl dX5_worthOf_15 ?_
  refine lv_bipush (v := (6 : Int32)) hx hb dX5_worthOf_18 (by decide) ?_
  refine lv_iload_n hx hb dX5_worthOf_20 rfl (lv_at hl 1 rfl) ?_
  refine lv_imul hx hb dX5_worthOf_21 ?_
  refine lv_iconst (v := (1 : Int32)) hx hb dX5_worthOf_22 (by decide) ?_
  refine lv_iadd hx hb dX5_worthOf_23 ?_
  obtain ⟨g2, h⟩ := pg h
  refine va_iald hx hb hK hP 2 0 rfl rfl g2 dX5_worthOf_24 ?_
  refine lv_i2l (v := (rw (((6 : Int32) * a0) + (1 : Int32)).toNatClampNeg).toInt64) hx hb dX5_worthOf_25 rfl ?_
  refine lv_lload hx hb dX5_worthOf_26 (lv_at hl 3 rfl) ?_
  refine lv_lmul hx hb dX5_worthOf_28 ?_
  refine lv_lload hx hb dX5_worthOf_29 (lv_at hl 3 rfl) ?_
  refine lv_lmul hx hb dX5_worthOf_31 ?_
  refine lv_ladd hx hb dX5_worthOf_32 ?_
  refine lv_aload_n hx hb dX5_worthOf_33 rfl (lv_at hl 0 rfl) ?_
  refine va_get (D := G) (ci := 3) (v := .ref hr) (C := RX5) (T := TX5) (N := 10) hx hb hts (fun w h => wl_in (inX5 w h)) hown hK hP 0 rfl rfl 3 (by decide) (hts _ (wl_in w_316)) (fun _ h9 => h9) rfl dX5_worthOf_34 ?_
  refine lv_bipush (v := (6 : Int32)) hx hb dX5_worthOf_37 (by decide) ?_
  refine lv_iload_n hx hb dX5_worthOf_39 rfl (lv_at hl 1 rfl) ?_
  refine lv_imul hx hb dX5_worthOf_40 ?_
  refine lv_iconst (v := (2 : Int32)) hx hb dX5_worthOf_41 (by decide) ?_
  refine lv_iadd hx hb dX5_worthOf_42 ?_
  obtain ⟨g3, h⟩ := pg h
  refine va_iald hx hb hK hP 2 0 rfl rfl g3 dX5_worthOf_43 ?_
  refine lv_i2l (v := (rw (((6 : Int32) * a0) + (2 : Int32)).toNatClampNeg).toInt64) hx hb dX5_worthOf_44 rfl ?_
  refine lv_lload hx hb dX5_worthOf_45 (lv_at hl 4 rfl) ?_
  refine lv_lmul hx hb dX5_worthOf_47 ?_
  refine lv_lload hx hb dX5_worthOf_48 (lv_at hl 4 rfl) ?_
  refine lv_lmul hx hb dX5_worthOf_50 ?_
  refine lv_ladd hx hb dX5_worthOf_51 ?_
  exact END 52 ls _ (pe h) dX5_worthOf_52

theorem syX5_isThree : Vy yX5_isThree cX5_isThree 2 (some .boolean) 1 := ⟨w_478, ⟨w_477, w_s13⟩, w_4, by decide +kernel⟩
set_option maxHeartbeats 4000000 in
set_option maxRecDepth 100000 in
theorem cnX5_isThree (l : Launch) (G : va_G) (h0 hs hr : Nat) (cI cF : ClassId) (tr : Int64) (sz rw : Nat → Int32) (bx by_ bz bm so : Int32) {a0 : Int32} {r : Int32} (h : fX5_isThree sz rw a0 = some r) : Ro l yX5_isThree cX5_isThree 2 (some .boolean) 2 45 [.ref h0, .int a0] (mB G h0 hs hr cI cF tr sz rw bx by_ bz bm so) (.int r) := by
  refine ro_z (plainFor_of_name (by decide)) (Nat.le_of_ble_eq_true rfl) ?_
  intro p e s m args below meth cd Q ls hF hB hl END
  have hF : CallFix p m cd cX5_isThree 2 s args (wl yX5_isThree cX5_isThree 2 (some .boolean)) RX5 := hF
  obtain ⟨hx, hb, hml, hown, hts⟩ := id hF
  have hl : lv_has ls 2 [(0, .ref h0), (1, .int a0)] := hl
  obtain ⟨⟨th, ex, hP⟩, hK⟩ := hB
  rw [fX5_isThree] at h
  refine lv_iload_n hx hb dX5_isThree_0 rfl (lv_at hl 1 rfl) ?_
  obtain ⟨r1, e2, h⟩ := pb h
  refine ro_S (As := [.int a0]) (rest := []) hF (fun _ h => wl_in h) (cnX5_isShelf l e2) syX5_isShelf w_390 ⟨Nat.le_of_ble_eq_true rfl, Nat.le_of_ble_eq_true rfl⟩ mv0 trivial rfl hl.1 rfl (Nat.le_of_ble_eq_true rfl) dX5_isThree_1 ⟨Nat.zero_le _, Nat.zero_le _⟩ ?_
  refine lv_if_eq (tgt := 21) hx hb dX5_isThree_4 (by decide) (fun c4 => ?_) (fun c4 => ?_)
  · have h := pt c4 h
    refine lv_iconst (v := (0 : Int32)) hx hb dX5_isThree_21 (by decide) ?_
    exact END 22 ls _ (pe h) (by rfl) dX5_isThree_22
  · have h := pf c4 h
    refine lv_aload_n hx hb dX5_isThree_7 rfl (lv_at hl 0 rfl) ?_
    refine va_get (D := G) (ci := 3) (v := .ref hs) (C := RX5) (T := TX5) (N := 10) hx hb hts (fun w h => wl_in (inX5 w h)) hown hK hP 0 rfl rfl 2 (by decide) (hts _ (wl_in w_315)) (fun _ h9 => h9) rfl dX5_isThree_8 ?_
    refine lv_iload_n hx hb dX5_isThree_11 rfl (lv_at hl 1 rfl) ?_
    obtain ⟨g3, h⟩ := pg h
    refine va_iald hx hb hK hP 1 0 rfl rfl g3 dX5_isThree_12 ?_
    refine lv_iconst (v := (3 : Int32)) hx hb dX5_isThree_13 (by decide) ?_
    refine lv_icmp_ne (tgt := 21) hx hb dX5_isThree_14 (by decide) (fun c14 => ?_) (fun c14 => ?_)
    · have h := pf c14 h
      refine lv_iconst (v := (0 : Int32)) hx hb dX5_isThree_21 (by decide) ?_
      exact END 22 ls _ (pe h) (by rfl) dX5_isThree_22
    · have h := pt c14 h
      refine lv_iconst (v := (1 : Int32)) hx hb dX5_isThree_17 (by decide) ?_
      refine lv_goto (tgt := 22) hx hb dX5_isThree_18 (by decide) ?_
      exact END 22 ls _ (pe h) (by rfl) dX5_isThree_22

theorem syX5_isSolution : Vy yX5_isSolution cX5_isSolution 5 (some .boolean) 4 := ⟨w_514, ⟨w_513, w_s16⟩, w_4, by decide +kernel⟩
set_option maxHeartbeats 4000000 in
set_option maxRecDepth 100000 in
theorem cnX5_isSolution (l : Launch) (G : va_G) (h0 hs hr : Nat) (cI cF : ClassId) (tr : Int64) (sz rw : Nat → Int32) (bx by_ bz bm so : Int32) {a0 : Int32} {a1 : Int32} {a2 : Int32} {a3 : Int32} {r : Int32} (h : fX5_isSolution sz rw a0 a1 a2 a3 = some r) : Ro l yX5_isSolution cX5_isSolution 5 (some .boolean) 1 29 [.ref h0, .int a0, .int a1, .int a2, .int a3] (mB G h0 hs hr cI cF tr sz rw bx by_ bz bm so) (.int r) := by
  refine ro_z (plainFor_of_name (by decide)) (Nat.le_of_ble_eq_true rfl) ?_
  intro p e s m args below meth cd Q ls hF hB hl END
  have hF : CallFix p m cd cX5_isSolution 5 s args (wl yX5_isSolution cX5_isSolution 5 (some .boolean)) RX5 := hF
  obtain ⟨hx, hb, hml, hown, hts⟩ := id hF
  have hl : lv_has ls 5 [(0, .ref h0), (1, .int a0), (2, .int a1), (3, .int a2), (4, .int a3)] := hl
  obtain ⟨⟨th, ex, hP⟩, hK⟩ := hB
  rw [fX5_isSolution] at h
  refine lv_iload_n hx hb dX5_isSolution_0 rfl (lv_at hl 2 rfl) ?_
  refine lv_i2l (v := a1.toInt64) hx hb dX5_isSolution_1 rfl ?_
  refine lv_iload_n hx hb dX5_isSolution_2 rfl (lv_at hl 3 rfl) ?_
  refine lv_i2l (v := a2.toInt64) hx hb dX5_isSolution_3 rfl ?_
  refine lv_iload hx hb dX5_isSolution_4 (lv_at hl 4 rfl) ?_
  refine lv_i2l (v := a3.toInt64) hx hb dX5_isSolution_6 rfl ?_
  obtain ⟨r1, e2, h⟩ := pb h
  refine ro_S (As := [.long a1.toInt64, .long a2.toInt64, .long a3.toInt64]) (rest := []) hF (fun _ h => wl_in h) (cnX5_isFirstAbove l e2) syX5_isFirstAbove w_515 ⟨Nat.le_of_ble_eq_true rfl, Nat.le_of_ble_eq_true rfl⟩ mv0 trivial rfl hl.1 rfl (Nat.le_of_ble_eq_true rfl) dX5_isSolution_7 ⟨Nat.zero_le _, Nat.zero_le _⟩ ?_
  refine lv_if_eq (tgt := 52) hx hb dX5_isSolution_10 (by decide) (fun c10 => ?_) (fun c10 => ?_)
  · have h := pt c10 h
    refine lv_iconst (v := (0 : Int32)) hx hb dX5_isSolution_52 (by decide) ?_
    exact END 53 ls _ (pe h) (by rfl) dX5_isSolution_53
  · have h := pf c10 h
    refine lv_aload_n hx hb dX5_isSolution_13 rfl (lv_at hl 0 rfl) ?_
    refine lv_iload_n hx hb dX5_isSolution_14 rfl (lv_at hl 1 rfl) ?_
    refine lv_iload_n hx hb dX5_isSolution_15 rfl (lv_at hl 2 rfl) ?_
    refine lv_i2l (v := a1.toInt64) hx hb dX5_isSolution_16 rfl ?_
    refine lv_iload_n hx hb dX5_isSolution_17 rfl (lv_at hl 3 rfl) ?_
    refine lv_i2l (v := a2.toInt64) hx hb dX5_isSolution_18 rfl ?_
    refine lv_iload hx hb dX5_isSolution_19 (lv_at hl 4 rfl) ?_
    refine lv_i2l (v := a3.toInt64) hx hb dX5_isSolution_21 rfl ?_
    obtain ⟨r3, e4, h⟩ := pb h
    refine ro_V (As := [.int a0, .long a1.toInt64, .long a2.toInt64, .long a3.toInt64]) (rest := []) hF (fun _ h => wl_in h) (cnX5_worthOf l G h0 hs hr cI cF tr sz rw bx by_ bz bm so e4) syX5_worthOf w_481 ⟨Nat.le_of_ble_eq_true rfl, Nat.le_of_ble_eq_true rfl⟩ mB_mv ⟨⟨_, _, hP⟩, hK⟩ (va_recv hK hP (ci := 3) (q0 := 0) rfl rfl) rfl hl.1 rfl (Nat.le_of_ble_eq_true rfl) dX5_isSolution_22 ⟨Nat.zero_le _, Nat.zero_le _⟩ ?_
    refine lv_lconst (v := (0 : Int64)) hx hb dX5_isSolution_25 (by decide) ?_
    refine W.lcmp hx hb dX5_isSolution_26 ?_
    refine lv_if_ne (tgt := 52) hx hb dX5_isSolution_27 (by decide) (fun c27 => ?_) (fun c27 => ?_)
    · have h := pf c27 h
      refine lv_iconst (v := (0 : Int32)) hx hb dX5_isSolution_52 (by decide) ?_
      exact END 53 ls _ (pe h) (by rfl) dX5_isSolution_53
    · have h := pt c27 h
      refine lv_iload_n hx hb dX5_isSolution_30 rfl (lv_at hl 2 rfl) ?_
      refine lv_i2l (v := a1.toInt64) hx hb dX5_isSolution_31 rfl ?_
      refine lv_iload_n hx hb dX5_isSolution_32 rfl (lv_at hl 3 rfl) ?_
      refine lv_i2l (v := a2.toInt64) hx hb dX5_isSolution_33 rfl ?_
      obtain ⟨r5, e6, h⟩ := pb h
      refine ro_S (As := [.long a1.toInt64, .long a2.toInt64]) (rest := []) hF (fun _ h => wl_in h) (cnX5_common l e6) syX5_common w_518 ⟨Nat.le_of_ble_eq_true rfl, Nat.le_of_ble_eq_true rfl⟩ mv0 trivial rfl hl.1 rfl (Nat.le_of_ble_eq_true rfl) dX5_isSolution_34 ⟨Nat.zero_le _, Nat.zero_le _⟩ ?_
      refine lv_iload hx hb dX5_isSolution_37 (lv_at hl 4 rfl) ?_
      refine lv_i2l (v := a3.toInt64) hx hb dX5_isSolution_39 rfl ?_
      obtain ⟨r7, e8, h⟩ := pb h
      refine ro_S (As := [.long r5, .long a3.toInt64]) (rest := []) hF (fun _ h => wl_in h) (cnX5_common l e8) syX5_common w_518 ⟨Nat.le_of_ble_eq_true rfl, Nat.le_of_ble_eq_true rfl⟩ mv0 trivial rfl hl.1 rfl (Nat.le_of_ble_eq_true rfl) dX5_isSolution_40 ⟨Nat.zero_le _, Nat.zero_le _⟩ ?_
      refine lv_lconst (v := (1 : Int64)) hx hb dX5_isSolution_43 (by decide) ?_
      refine W.lcmp hx hb dX5_isSolution_44 ?_
      refine lv_if_ne (tgt := 52) hx hb dX5_isSolution_45 (by decide) (fun c45 => ?_) (fun c45 => ?_)
      · have h := pf c45 h
        refine lv_iconst (v := (0 : Int32)) hx hb dX5_isSolution_52 (by decide) ?_
        exact END 53 ls _ (pe h) (by rfl) dX5_isSolution_53
      · have h := pt c45 h
        refine lv_iconst (v := (1 : Int32)) hx hb dX5_isSolution_48 (by decide) ?_
        refine lv_goto (tgt := 53) hx hb dX5_isSolution_49 (by decide) ?_
        exact END 53 ls _ (pe h) (by rfl) dX5_isSolution_53
