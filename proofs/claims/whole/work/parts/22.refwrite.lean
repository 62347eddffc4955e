def kX5_without_8 (a1 : Int32) : Nat → Int64 → Int32 → Option (Int64 × (Int32))
  | 0, _, _ => none
  | fu + 1, x4_8, ex_8 =>
    (if ¬ a1.toInt64 = 0 then (if (lg_cmp (lrm x4_8 a1.toInt64) (0 : Int64)) = 0 then (if ¬ a1.toInt64 = 0 then (kX5_without_8 a1 fu) (x4_8 / a1.toInt64) (ex_8 + (1 : Int32)) else none) else
    some (x4_8, ex_8)) else none)
def fX5_without (sz : Nat → Int32) (rw : Nat → Int32) (a0 : Int64) (a1 : Int32) : Option (Int64 × (Int32)) :=
    kX5_without_8 a1 1100 a0 (0 : Int32)
def kX5_signOf_185 (a2 : Int32) (exv3 : Int32) (r5 : Int64) (t0_162 : Int32) (t0_185 : Int32) : Option (Int32) :=
    (if (irm exv3 (2 : Int32)) = (1 : Int32) then (fX5_root r5 a2).bind fun (r9 : Int32) =>
    some ((t0_162 * t0_185) * r9) else
    some ((t0_162 * t0_185) * (1 : Int32)))
def kX5_signOf_162 (a2 : Int32) (r1 : Int64) (exv3 : Int32) (r5 : Int64) (exv7 : Int32) (t0_162 : Int32) : Option (Int32) :=
    (if (irm exv7 (2 : Int32)) = (1 : Int32) then (fX5_root r1 a2).bind fun (r11 : Int32) =>
    kX5_signOf_185 a2 exv3 r5 t0_162 r11 else
    kX5_signOf_185 a2 exv3 r5 t0_162 (1 : Int32))
def fX5_signOf (sz : Nat → Int32) (rw : Nat → Int32) (a0 : Int64) (a1 : Int64) (a2 : Int32) : Option (Int32) :=
    (if a2 = 0 then (if 0 ≤ (lg_cmp a0 (0 : Int64)) then some (1 : Int32) else
    (if 0 ≤ (lg_cmp a1 (0 : Int64)) then some (1 : Int32) else
    some (-1 : Int32))) else
    (fX5_without sz rw a0 a2).bind fun (r1, exv3) =>
    (fX5_without sz rw a1 a2).bind fun (r5, exv7) =>
    (if a2 = (2 : Int32) then (fX5_rest r1).bind fun (r13 : Int32) =>
    (fX5_rest r5).bind fun (r15 : Int32) =>
    (if (irm (((((r13 - (1 : Int32)) / (2 : Int32)) * ((r15 - (1 : Int32)) / (2 : Int32))) + (exv3 * (((r15 * r15) - (1 : Int32)) / (8 : Int32)))) + (exv7 * (((r13 * r13) - (1 : Int32)) / (8 : Int32)))) (2 : Int32)) = 0 then some (1 : Int32) else
    some (-1 : Int32)) else
    (if (irm exv3 (2 : Int32)) = (1 : Int32) then (if (irm exv7 (2 : Int32)) = (1 : Int32) then (if (irm ((a2 - (1 : Int32)) / (2 : Int32)) (2 : Int32)) = (1 : Int32) then kX5_signOf_162 a2 r1 exv3 r5 exv7 (-1 : Int32) else
    kX5_signOf_162 a2 r1 exv3 r5 exv7 (1 : Int32)) else
    kX5_signOf_162 a2 r1 exv3 r5 exv7 (1 : Int32)) else
    kX5_signOf_162 a2 r1 exv3 r5 exv7 (1 : Int32))))
def kX5_holdOf_15 (sz : Nat → Int32) (rw : Nat → Int32) (a0 : Int32) (a2 : Int32) (x5_6 : Int32) (K6 : Int32 → Int32 → Option (Int32)) : Nat → Int32 → Int32 → Option (Int32)
  | 0, _, _ => none
  | fu + 1, x4_15, x6_15 =>
    (if x5_6 ≤ x6_15 then K6 x4_15 (x5_6 + (1 : Int32)) else
    (if ¬ ((((6 : Int32) * a0) + x5_6) < 0 ∨ 24 ≤ (((6 : Int32) * a0) + x5_6).toNatClampNeg) then (if ¬ ((((6 : Int32) * a0) + x6_15) < 0 ∨ 24 ≤ (((6 : Int32) * a0) + x6_15).toNatClampNeg) then (fX5_signOf sz rw ((rw (((6 : Int32) * a0) + x5_6).toNatClampNeg).toInt64) ((rw (((6 : Int32) * a0) + x6_15).toNatClampNeg).toInt64) a2).bind fun (r3 : Int32) =>
    (kX5_holdOf_15 sz rw a0 a2 x5_6 K6 fu) (x4_15 * r3) (x6_15 + (1 : Int32)) else none) else none))
def kX5_holdOf_6 (sz : Nat → Int32) (rw : Nat → Int32) (a0 : Int32) (a1 : Int32) (a2 : Int32) : Nat → Int32 → Int32 → Option (Int32)
  | 0, _, _ => none
  | fu + 1, x4_6, x5_6 =>
    (if a1 ≤ x5_6 then some x4_6 else
    kX5_holdOf_15 sz rw a0 a2 x5_6 (kX5_holdOf_6 sz rw a0 a1 a2 fu) 1100 x4_6 (0 : Int32))
def fX5_holdOf (sz : Nat → Int32) (rw : Nat → Int32) (a0 : Int32) (a1 : Int32) (a2 : Int32) : Option (Int32) :=
    kX5_holdOf_6 sz rw a0 a1 a2 1100 (1 : Int32) (0 : Int32)
def fX5_isSquare (sz : Nat → Int32) (rw : Nat → Int32) (a0 : Int64) (a1 : Int32) : Option (Int32) :=
    (if a1 = 0 then (if (lg_cmp a0 (0 : Int64)) ≤ 0 then some (0 : Int32) else
    some (1 : Int32)) else
    (fX5_without sz rw a0 a1).bind fun (r1, exv3) =>
    (if (irm exv3 (2 : Int32)) = 0 then (if a1 = (2 : Int32) then (fX5_rest r1).bind fun (r7 : Int32) =>
    (if r7 = (1 : Int32) then some (1 : Int32) else
    some (0 : Int32)) else
    (fX5_root r1 a1).bind fun (r5 : Int32) =>
    (if r5 = (1 : Int32) then some (1 : Int32) else
    some (0 : Int32))) else
    some (0 : Int32)))
def fX5_isGoing (sz : Nat → Int32) (rw : Nat → Int32) (a0 : Int32) (a1 : Int32) (a2 : Int32) : Option (Int32) :=
    (if a1 = (1 : Int32) then some (0 : Int32) else
    (if a2 = 0 then (fX5_aboveOf sz rw a0 a1).bind fun (r24 : Int32) =>
    (if ¬ a1 = 0 then (if (irm r24 a1) = 0 then some (0 : Int32) else
    some (1 : Int32)) else none) else
    (if a1 ≤ (4 : Int32) then (fX5_productOf sz rw a0 a1).bind fun (r1 : Int64) =>
    (if a1 = (2 : Int32) then (fX5_isSquare sz rw (-r1) a2).bind fun (r19 : Int32) =>
    (if r19 &&& 1 = r19 then some r19 else none) else
    (fX5_holdOf sz rw a0 a1 a2).bind fun (r3 : Int32) =>
    (if a1 = (3 : Int32) then (fX5_signOf sz rw (-1 : Int64) (-r1) a2).bind fun (r15 : Int32) =>
    (if r3 = r15 then some (1 : Int32) else
    some (0 : Int32)) else
    (fX5_isSquare sz rw r1 a2).bind fun (r7 : Int32) =>
    (if r7 = 0 then some (1 : Int32) else
    (fX5_signOf sz rw (-1 : Int64) (-1 : Int64) a2).bind fun (r11 : Int32) =>
    (if r3 = r11 then some (1 : Int32) else
    some (0 : Int32))))) else
    some (1 : Int32))))
def kX5_isNought_63 (sz : Nat → Int32) (rw : Nat → Int32) (a0 : Int32) (a1 : Int32) (x4_21 : Int32) (K21 : Int32 → Int32 → Option (Int32)) : Option (Int32) :=
    (fX5_isGoing sz rw a0 a1 x4_21).bind fun (r3 : Int32) =>
    K21 r3 (x4_21 + (1 : Int32))
def kX5_isNought_21 (sz : Nat → Int32) (rw : Nat → Int32) (a0 : Int32) (a1 : Int32) : Nat → Int32 → Int32 → Option (Int32)
  | 0, _, _ => none
  | fu + 1, x3_21, x4_21 =>
    (if (398 : Int32) ≤ x4_21 then (if x3_21 &&& 1 = x3_21 then some x3_21 else none) else
    (if x3_21 = 0 then (if x3_21 &&& 1 = x3_21 then some x3_21 else none) else
    (if x4_21 = 0 then kX5_isNought_63 sz rw a0 a1 x4_21 (kX5_isNought_21 sz rw a0 a1 fu) else
    (if x4_21 = (2 : Int32) then kX5_isNought_63 sz rw a0 a1 x4_21 (kX5_isNought_21 sz rw a0 a1 fu) else
    (fX5_isOf sz rw a0 a1 x4_21).bind fun (r7 : Int32) =>
    (if r7 = 0 then (kX5_isNought_21 sz rw a0 a1 fu) x3_21 (x4_21 + (1 : Int32)) else
    (fX5_isPrime x4_21).bind fun (r9 : Int32) =>
    (if r9 = 0 then (kX5_isNought_21 sz rw a0 a1 fu) x3_21 (x4_21 + (1 : Int32)) else
    kX5_isNought_63 sz rw a0 a1 x4_21 (kX5_isNought_21 sz rw a0 a1 fu)))))))
def fX5_isNought (sz : Nat → Int32) (rw : Nat → Int32) (a0 : Int32) (a1 : Int32) : Option (Int32) :=
    (if a1 = (2 : Int32) then (fX5_productOf sz rw a0 (2 : Int32)).bind fun (r11 : Int64) =>
    (fX5_isWholeSquare (-r11)).bind fun (r13 : Int32) =>
    (if r13 &&& 1 = r13 then some r13 else none) else
    kX5_isNought_21 sz rw a0 a1 1100 (1 : Int32) (0 : Int32))
def kX5_barOf_48 (sz : Nat → Int32) (rw : Nat → Int32) (a0 : Int32) (a1 : Int32) (x3_5 : Int32) (x4_5 : Int32) (K5 : Int32 → Int32 → Option (Int32)) : Option (Int32) :=
    (if ¬ (a0 < 0 ∨ 4 ≤ a0.toNatClampNeg) then (fX5_isGoing sz rw a0 (sz a0.toNatClampNeg) x4_5).bind fun (r2 : Int32) =>
    (if r2 = 0 then (if x3_5 = a1 then some x4_5 else
    K5 (x3_5 + (1 : Int32)) (x4_5 + (1 : Int32))) else
    K5 x3_5 (x4_5 + (1 : Int32))) else none)
def kX5_barOf_5 (sz : Nat → Int32) (rw : Nat → Int32) (a0 : Int32) (a1 : Int32) : Nat → Int32 → Int32 → Option (Int32)
  | 0, _, _ => none
  | fu + 1, x3_5, x4_5 =>
    (if (398 : Int32) ≤ x4_5 then some ((-10 : Int32) - x3_5) else
    (if x4_5 = 0 then kX5_barOf_48 sz rw a0 a1 x3_5 x4_5 (kX5_barOf_5 sz rw a0 a1 fu) else
    (if x4_5 = (2 : Int32) then kX5_barOf_48 sz rw a0 a1 x3_5 x4_5 (kX5_barOf_5 sz rw a0 a1 fu) else
    (if ¬ (a0 < 0 ∨ 4 ≤ a0.toNatClampNeg) then (fX5_isOf sz rw a0 (sz a0.toNatClampNeg) x4_5).bind fun (r7 : Int32) =>
    (if r7 = 0 then (kX5_barOf_5 sz rw a0 a1 fu) x3_5 (x4_5 + (1 : Int32)) else
    (fX5_isPrime x4_5).bind fun (r9 : Int32) =>
    (if r9 = 0 then (kX5_barOf_5 sz rw a0 a1 fu) x3_5 (x4_5 + (1 : Int32)) else
    kX5_barOf_48 sz rw a0 a1 x3_5 x4_5 (kX5_barOf_5 sz rw a0 a1 fu))) else none))))
def fX5_barOf (sz : Nat → Int32) (rw : Nat → Int32) (a0 : Int32) (a1 : Int32) : Option (Int32) :=
    kX5_barOf_5 sz rw a0 a1 1100 (0 : Int32) (0 : Int32)
def kX5_seeks_98 (x5_28 : Int32) (K28 : Int32 → Int32 → Int32 → Int32 → Int32 → Int32 → Option ((Int32) × (Int32) × (Int32) × (Int32) × (Int32))) (bx_98 : Int32) (by__98 : Int32) (bz_98 : Int32) (bm_98 : Int32) (so_98 : Int32) : Option ((Int32) × (Int32) × (Int32) × (Int32) × (Int32)) :=
    K28 (x5_28 + (1 : Int32)) bx_98 by__98 bz_98 bm_98 (so_98 + (1 : Int32))
def kX5_seeks_75 (x3_7 : Int32) (x4_17 : Int32) (x5_28 : Int32) (K28 : Int32 → Int32 → Int32 → Int32 → Int32 → Int32 → Option ((Int32) × (Int32) × (Int32) × (Int32) × (Int32))) (r3 : Int32) (bx_75 : Int32) (by__75 : Int32) (bz_75 : Int32) (bm_75 : Int32) (so_75 : Int32) : Option ((Int32) × (Int32) × (Int32) × (Int32) × (Int32)) :=
    kX5_seeks_98 x5_28 K28 x3_7 x4_17 x5_28 r3 so_75
def kX5_seeks_28 (sz : Nat → Int32) (rw : Nat → Int32) (a0 : Int32) (a1 : Int32) (x3_7 : Int32) (x4_17 : Int32) (K17 : Int32 → Int32 → Int32 → Int32 → Int32 → Int32 → Option ((Int32) × (Int32) × (Int32) × (Int32) × (Int32))) : Nat → Int32 → Int32 → Int32 → Int32 → Int32 → Int32 → Option ((Int32) × (Int32) × (Int32) × (Int32) × (Int32))
  | 0, _, _, _, _, _, _ => none
  | fu + 1, x5_28, bx_28, by__28, bz_28, bm_28, so_28 =>
    (if (30 : Int32) < x5_28 then K17 (x4_17 + (1 : Int32)) bx_28 by__28 bz_28 bm_28 so_28 else
    (fX5_isSolution sz rw a0 x3_7 x4_17 x5_28).bind fun (r1 : Int32) =>
    (if r1 = 0 then (kX5_seeks_28 sz rw a0 a1 x3_7 x4_17 K17 fu) (x5_28 + (1 : Int32)) bx_28 by__28 bz_28 bm_28 so_28 else
    (fX5_measureOf a1 x3_7 x4_17 x5_28).bind fun (r3 : Int32) =>
    (if so_28 = 0 then kX5_seeks_75 x3_7 x4_17 x5_28 (kX5_seeks_28 sz rw a0 a1 x3_7 x4_17 K17 fu) r3 bx_28 by__28 bz_28 bm_28 so_28 else
    (if bm_28 ≤ r3 then kX5_seeks_98 x5_28 (kX5_seeks_28 sz rw a0 a1 x3_7 x4_17 K17 fu) bx_28 by__28 bz_28 bm_28 so_28 else
    kX5_seeks_75 x3_7 x4_17 x5_28 (kX5_seeks_28 sz rw a0 a1 x3_7 x4_17 K17 fu) r3 bx_28 by__28 bz_28 bm_28 so_28))))
def kX5_seeks_17 (sz : Nat → Int32) (rw : Nat → Int32) (a0 : Int32) (a1 : Int32) (x3_7 : Int32) (K7 : Int32 → Int32 → Int32 → Int32 → Int32 → Int32 → Option ((Int32) × (Int32) × (Int32) × (Int32) × (Int32))) : Nat → Int32 → Int32 → Int32 → Int32 → Int32 → Int32 → Option ((Int32) × (Int32) × (Int32) × (Int32) × (Int32))
  | 0, _, _, _, _, _, _ => none
  | fu + 1, x4_17, bx_17, by__17, bz_17, bm_17, so_17 =>
    (if (30 : Int32) < x4_17 then K7 (x3_7 + (1 : Int32)) bx_17 by__17 bz_17 bm_17 so_17 else
    kX5_seeks_28 sz rw a0 a1 x3_7 x4_17 (kX5_seeks_17 sz rw a0 a1 x3_7 K7 fu) 1100 (-30 : Int32) bx_17 by__17 bz_17 bm_17 so_17)
def kX5_seeks_7 (sz : Nat → Int32) (rw : Nat → Int32) (a0 : Int32) (a1 : Int32) : Nat → Int32 → Int32 → Int32 → Int32 → Int32 → Int32 → Option ((Int32) × (Int32) × (Int32) × (Int32) × (Int32))
  | 0, _, _, _, _, _, _ => none
  | fu + 1, x3_7, bx_7, by__7, bz_7, bm_7, so_7 =>
    (if (30 : Int32) < x3_7 then some (bx_7, by__7, bz_7, bm_7, so_7) else
    kX5_seeks_17 sz rw a0 a1 x3_7 (kX5_seeks_7 sz rw a0 a1 fu) 1100 (-30 : Int32) bx_7 by__7 bz_7 bm_7 so_7)
def fX5_seeks (sz : Nat → Int32) (rw : Nat → Int32) (bx : Int32) (by_ : Int32) (bz : Int32) (bm : Int32) (so : Int32) (a0 : Int32) (a1 : Int32) : Option ((Int32) × (Int32) × (Int32) × (Int32) × (Int32)) :=
    kX5_seeks_7 sz rw a0 a1 1100 (0 : Int32) bx by_ bz bm (0 : Int32)
theorem syX5_without : Vy yX5_without cX5_without 6 (some .long) 2 := ⟨w_374, ⟨w_373, w_s3⟩, w_4, by decide +kernel⟩
set_option maxHeartbeats 4000000 in
set_option maxRecDepth 100000 in
theorem cnX5_without (l : Launch) (G : va_G) (h0 hs hr : Nat) (cI cF : ClassId) (tr : Int64) (sz rw : Nat → Int32) (bx by_ bz bm so : Int32) (hap : mAp h0 hs hr) {a0 : Int64} {a1 : Int32} {r : Int64} {ex_r : Int32} (h : fX5_without sz rw a0 a1 = some (r, ex_r)) : Mu l yX5_without cX5_without 6 (some .long) 0 0 [.ref h0, .long a0, .int a1] (mA h0 hs hr) (mB G h0 hs hr cI cF tr sz rw bx by_ bz bm so) (mBe G h0 hs hr cI cF tr sz rw bx by_ bz bm so ex_r) (some (.long r)) := by
  refine mu_l (plainFor_of_name (by decide)) (Nat.le_of_ble_eq_true rfl) (by first | exact mB_mv | exact mBe_mv) ?_
  intro p e s m args below meth cd Q ls hF hB hl END
  have hF : CallFix p m cd cX5_without 6 s args (wl yX5_without cX5_without 6 (some .long)) RX5 := hF
  obtain ⟨hx, hb, hml, hown, hts⟩ := id hF
  have hl : lv_has ls 6 [(0, .ref h0), (1, .long a0), (3, .int a1)] := hl
  obtain ⟨⟨th, ex, hP⟩, hK⟩ := hB
  have hS : va_S (mA h0 hs hr) s.heap s.heap [] := va_S.rf
  rw [fX5_without] at h
  refine lv_lload_n hx hb dX5_without_0 rfl (lv_at hl 1 rfl) ?_
  refine lv_lstore (lv' := [(4, .long a0), (0, .ref h0), (1, .long a0), (3, .int a1)]) hx hb dX5_without_1 hl (by decide) rfl (fun ls hl => ?_)
  refine lv_aload_n hx hb dX5_without_3 rfl (lv_at hl 1 rfl) ?_
  refine lv_iconst (v := (0 : Int32)) hx hb dX5_without_4 (by decide) ?_
  refine va_put (D := G) (ci := 3) (v := .int (0 : Int32)) (ty := .int) (C := RX5) (T := TX5) (N := 10) hx hb hts (fun w h => wl_in (inX5 w h)) tyX5 tyX5_ok nmX5 hown hK hP (mD hap) hS 0 rfl rfl 9 (by decide) (hts _ (wl_in w_322)) (fun _ h9 => h9) rfl (by decide +kernel) rfl rfl (Nat.le_of_ble_eq_true rfl) dX5_without_5 (fun H locs hP _ hS => ?_)
  have hP : va_P G vwCl (mW h0 hs hr cI th tr sz rw bx by_ bz bm so (0 : Int32)) H := hP
  have J8 : ∀ (n8 : Nat) (x4_8 : Int64) (ex_8 : Int32), kX5_without_8 a1 n8 x4_8 ex_8 = some (r, ex_r) → ∀ (H : Heap) (locs : List Loc) (th_8 : Int32), va_P G vwCl (mW h0 hs hr cI th_8 tr sz rw bx by_ bz bm so ex_8) H → va_S (mA h0 hs hr) s.heap H locs → ∀ (ls : Array Slot), lv_has ls 6 [(0, .ref h0), (3, .int a1), (4, .long x4_8)] → W p l e (rmk 0 0) s m args below meth cd H locs 0 0 Q (F0 m 8 ls []) := by
    intro n8
    induction n8 with
    | zero =>
      intro x4_8 ex_8 h
      rw [kX5_without_8] at h
      cases h
    | succ n8 ih8 =>
      intro x4_8 ex_8 h H locs th_8 hP hS ls hl
      rw [kX5_without_8] at h
      refine lv_lload hx hb dX5_without_8 (lv_at hl 2 rfl) ?_
      refine lv_iload_n hx hb dX5_without_10 rfl (lv_at hl 1 rfl) ?_
      refine lv_i2l (v := a1.toInt64) hx hb dX5_without_11 rfl ?_
      obtain ⟨g1, h⟩ := pg h
      refine lq_lrem hx hb dX5_without_12 g1 ?_
      refine lv_lconst (v := (0 : Int64)) hx hb dX5_without_13 (by decide) ?_
      refine W.lcmp hx hb dX5_without_14 ?_
      refine lv_if_ne (tgt := 38) hx hb dX5_without_15 (by decide) (fun c15 => ?_) (fun c15 => ?_)
      · have h := pf c15 h
        refine lv_lload hx hb dX5_without_38 (lv_at hl 2 rfl) ?_
        have hh := pe h
        simp only [Prod.mk.injEq] at hh
        obtain ⟨z0, z1⟩ := hh
        subst z1
        exact END _ _ 40 ls s _ z0 dX5_without_40 rfl ⟨⟨_, hP⟩, hK⟩ hS
      · have h := pt c15 h
        refine lv_lload hx hb dX5_without_18 (lv_at hl 2 rfl) ?_
        refine lv_iload_n hx hb dX5_without_20 rfl (lv_at hl 1 rfl) ?_
        refine lv_i2l (v := a1.toInt64) hx hb dX5_without_21 rfl ?_
        obtain ⟨g2, h⟩ := pg h
        refine lv_ldiv hx hb dX5_without_22 g2 ?_
        refine lv_lstore (lv' := [(4, .long (x4_8 / a1.toInt64)), (0, .ref h0), (3, .int a1)]) hx hb dX5_without_23 hl (by decide) rfl (fun ls hl => ?_)
        refine lv_aload_n hx hb dX5_without_25 rfl (lv_at hl 1 rfl) ?_
        refine lv_dup hx hb dX5_without_26 rfl ?_
        refine va_get (D := G) (ci := 3) (v := .int ex_8) (C := RX5) (T := TX5) (N := 10) hx hb hts (fun w h => wl_in (inX5 w h)) hown hK hP 0 rfl rfl 9 (by decide) (hts _ (wl_in w_322)) (fun _ h9 => h9) rfl dX5_without_27 ?_
        refine lv_iconst (v := (1 : Int32)) hx hb dX5_without_30 (by decide) ?_
        refine lv_iadd hx hb dX5_without_31 ?_
        refine va_put (D := G) (ci := 3) (v := .int (ex_8 + (1 : Int32))) (ty := .int) (C := RX5) (T := TX5) (N := 10) hx hb hts (fun w h => wl_in (inX5 w h)) tyX5 tyX5_ok nmX5 hown hK hP (mD hap) hS 0 rfl rfl 9 (by decide) (hts _ (wl_in w_322)) (fun _ h9 => h9) rfl (by decide +kernel) rfl rfl (Nat.le_of_ble_eq_true rfl) dX5_without_32 (fun H locs hP _ hS => ?_)
        have hP : va_P G vwCl (mW h0 hs hr cI th_8 tr sz rw bx by_ bz bm so (ex_8 + (1 : Int32))) H := hP
        refine lv_goto (tgt := 8) hx hb dX5_without_35 (by decide) ?_
        exact ih8 _ _ h _ _ _ hP hS _ (lv_sub hl [1, 2, 0] rfl)
  exact J8 _ _ _ h _ _ _ hP hS _ (lv_sub hl [1, 3, 0] rfl)

theorem syX5_signOf : Vy yX5_signOf cX5_signOf 15 (some .int) 3 := ⟨w_370, ⟨w_369, w_s2⟩, w_4, by decide +kernel⟩
set_option maxHeartbeats 4000000 in
set_option maxRecDepth 100000 in
theorem cnX5_signOf (l : Launch) (G : va_G) (h0 hs hr : Nat) (cI cF : ClassId) (tr : Int64) (sz rw : Nat → Int32) (bx by_ bz bm so : Int32) (hap : mAp h0 hs hr) {a0 : Int64} {a1 : Int64} {a2 : Int32} {r : Int32} (h : fX5_signOf sz rw a0 a1 a2 = some r) : Mu l yX5_signOf cX5_signOf 15 (some .int) 1 27 [.ref h0, .long a0, .long a1, .int a2] (mA h0 hs hr) (mB G h0 hs hr cI cF tr sz rw bx by_ bz bm so) (mB G h0 hs hr cI cF tr sz rw bx by_ bz bm so) (some (.int r)) := by
  refine mu_i (plainFor_of_name (by decide)) (Nat.le_of_ble_eq_true rfl) (by first | exact mB_mv | exact mBe_mv) ?_
  intro p e s m args below meth cd Q ls hF hB hl END
  have hF : CallFix p m cd cX5_signOf 15 s args (wl yX5_signOf cX5_signOf 15 (some .int)) RX5 := hF
  obtain ⟨hx, hb, hml, hown, hts⟩ := id hF
  have hl : lv_has ls 15 [(0, .ref h0), (1, .long a0), (3, .long a1), (5, .int a2)] := hl
  obtain ⟨⟨th, ex, hP⟩, hK⟩ := hB
  have hS : va_S (mA h0 hs hr) s.heap s.heap [] := va_S.rf
  rw [fX5_signOf] at h
  refine lv_iload hx hb dX5_signOf_0 (lv_at hl 3 rfl) ?_
  refine lv_if_ne (tgt := 23) hx hb dX5_signOf_2 (by decide) (fun c2 => ?_) (fun c2 => ?_)
  · have h := pf c2 h
    refine lv_aload_n hx hb dX5_signOf_23 rfl (lv_at hl 0 rfl) ?_
    refine lv_lload_n hx hb dX5_signOf_24 rfl (lv_at hl 1 rfl) ?_
    refine lv_iload hx hb dX5_signOf_25 (lv_at hl 3 rfl) ?_
    obtain ⟨⟨r1, exv3⟩, e2, h⟩ := pb h
    refine mu_V (As := [.long a0, .int a2]) (rest := []) hF (fun _ h => wl_in h) (cnX5_without l G h0 hs hr cI cF tr sz rw bx by_ bz bm so hap e2) syX5_without w_371 ⟨Nat.le_of_ble_eq_true rfl, Nat.le_of_ble_eq_true rfl⟩ mB_mv mBe_mv ⟨⟨_, _, hP⟩, hK⟩ (va_recv hK hP (ci := 3) (q0 := 0) rfl rfl) hS (fun _ h => h) rfl hl.1 rfl (Nat.le_of_ble_eq_true rfl) dX5_signOf_27 ⟨Nat.zero_le _, Nat.zero_le _⟩ (fun H locs hB1 _ _ hS => ?_)
    obtain ⟨⟨th4, hP⟩, _⟩ := hB1
    refine W.eq (g2 := F0 m 30 ls [.long r1]) rfl ?_
    refine lv_lstore (lv' := [(6, .long r1), (0, .ref h0), (1, .long a0), (3, .long a1), (5, .int a2)]) hx hb dX5_signOf_30 hl (by decide) rfl (fun ls hl => ?_)
    refine lv_aload_n hx hb dX5_signOf_32 rfl (lv_at hl 1 rfl) ?_
    refine va_get (D := G) (ci := 3) (v := .int exv3) (C := RX5) (T := TX5) (N := 10) hx hb hts (fun w h => wl_in (inX5 w h)) hown hK hP 0 rfl rfl 9 (by decide) (hts _ (wl_in w_322)) (fun _ h9 => h9) rfl dX5_signOf_33 ?_
    refine lv_istore (lv' := [(8, .int exv3), (6, .long r1), (0, .ref h0), (1, .long a0), (3, .long a1), (5, .int a2)]) hx hb dX5_signOf_36 hl (by decide) rfl (fun ls hl => ?_)
    refine lv_aload_n hx hb dX5_signOf_38 rfl (lv_at hl 2 rfl) ?_
    refine lv_lload_n hx hb dX5_signOf_39 rfl (lv_at hl 4 rfl) ?_
    refine lv_iload hx hb dX5_signOf_40 (lv_at hl 5 rfl) ?_
    obtain ⟨⟨r5, exv7⟩, e6, h⟩ := pb h
    refine mu_V (As := [.long a1, .int a2]) (rest := []) hF (fun _ h => wl_in h) (cnX5_without l G h0 hs hr cI cF tr sz rw bx by_ bz bm so hap e6) syX5_without w_371 ⟨Nat.le_of_ble_eq_true rfl, Nat.le_of_ble_eq_true rfl⟩ mB_mv mBe_mv ⟨⟨_, _, hP⟩, hK⟩ (va_recv hK hP (ci := 3) (q0 := 0) rfl rfl) hS (fun _ h => h) rfl hl.1 rfl (Nat.le_of_ble_eq_true rfl) dX5_signOf_42 ⟨Nat.zero_le _, Nat.zero_le _⟩ (fun H locs hB1 _ _ hS => ?_)
    obtain ⟨⟨th8, hP⟩, _⟩ := hB1
    refine W.eq (g2 := F0 m 45 ls [.long r5]) rfl ?_
    refine lv_lstore (lv' := [(9, .long r5), (8, .int exv3), (6, .long r1), (0, .ref h0), (1, .long a0), (3, .long a1), (5, .int a2)]) hx hb dX5_signOf_45 hl (by decide) rfl (fun ls hl => ?_)
    refine lv_aload_n hx hb dX5_signOf_47 rfl (lv_at hl 3 rfl) ?_
    refine va_get (D := G) (ci := 3) (v := .int exv7) (C := RX5) (T := TX5) (N := 10) hx hb hts (fun w h => wl_in (inX5 w h)) hown hK hP 0 rfl rfl 9 (by decide) (hts _ (wl_in w_322)) (fun _ h9 => h9) rfl dX5_signOf_48 ?_
    refine lv_istore (lv' := [(11, .int exv7), (9, .long r5), (8, .int exv3), (6, .long r1), (0, .ref h0), (1, .long a0), (3, .long a1), (5, .int a2)]) hx hb dX5_signOf_51 hl (by decide) rfl (fun ls hl => ?_)
    refine lv_iload hx hb dX5_signOf_53 (lv_at hl 7 rfl) ?_
    refine lv_iconst (v := (2 : Int32)) hx hb dX5_signOf_55 (by decide) ?_
    refine lv_icmp_ne (tgt := 129) hx hb dX5_signOf_56 (by decide) (fun c56 => ?_) (fun c56 => ?_)
    · have h := pf c56 h
      refine lv_iload hx hb dX5_signOf_129 (lv_at hl 2 rfl) ?_
      refine lv_iconst (v := (2 : Int32)) hx hb dX5_signOf_131 (by decide) ?_
      refine lq_irem hx hb dX5_signOf_132 (by decide) ?_
      refine lv_iconst (v := (1 : Int32)) hx hb dX5_signOf_133 (by decide) ?_
      have J162 : ∀ (t0_162 : Int32), kX5_signOf_162 a2 r1 exv3 r5 exv7 t0_162 = some r → ∀ (H : Heap) (locs : List Loc) (th_162 : Int32) (ex_162 : Int32), va_P G vwCl (mW h0 hs hr cI th_162 tr sz rw bx by_ bz bm so ex_162) H → va_S (mA h0 hs hr) s.heap H locs → ∀ (ls : Array Slot), lv_has ls 15 [(11, .int exv7), (9, .long r5), (8, .int exv3), (6, .long r1), (5, .int a2)] → W p l e (rmk 1 27) s m args below meth cd H locs 0 0 Q (F0 m 162 ls [.int t0_162]) := by
        intro t0_162 h H locs th_162 ex_162 hP hS ls hl
        rw [kX5_signOf_162] at h
        refine lv_istore (lv' := [(12, .int t0_162), (11, .int exv7), (9, .long r5), (8, .int exv3), (6, .long r1), (5, .int a2)]) hx hb dX5_signOf_162 hl (by decide) rfl (fun ls hl => ?_)
        refine lv_iload hx hb dX5_signOf_164 (lv_at hl 0 rfl) ?_
        refine lv_iload hx hb dX5_signOf_166 (lv_at hl 1 rfl) ?_
        refine lv_iconst (v := (2 : Int32)) hx hb dX5_signOf_168 (by decide) ?_
        refine lq_irem hx hb dX5_signOf_169 (by decide) ?_
        refine lv_iconst (v := (1 : Int32)) hx hb dX5_signOf_170 (by decide) ?_
        have J185 : ∀ (t0_185 : Int32), kX5_signOf_185 a2 exv3 r5 t0_162 t0_185 = some r → ∀ (H : Heap) (locs : List Loc) (th_185 : Int32) (ex_185 : Int32), va_P G vwCl (mW h0 hs hr cI th_185 tr sz rw bx by_ bz bm so ex_185) H → va_S (mA h0 hs hr) s.heap H locs → ∀ (ls : Array Slot), lv_has ls 15 [(9, .long r5), (8, .int exv3), (5, .int a2)] → W p l e (rmk 1 27) s m args below meth cd H locs 0 0 Q (F0 m 185 ls [.int t0_185, .int t0_162]) := by
          intro t0_185 h H locs th_185 ex_185 hP hS ls hl
          rw [kX5_signOf_185] at h
          refine lv_imul hx hb dX5_signOf_185 ?_
          refine lv_istore (lv' := [(12, .int (t0_162 * t0_185)), (9, .long r5), (8, .int exv3), (5, .int a2)]) hx hb dX5_signOf_186 hl (by decide) rfl (fun ls hl => ?_)
          refine lv_iload hx hb dX5_signOf_188 (lv_at hl 0 rfl) ?_
          refine lv_iload hx hb dX5_signOf_190 (lv_at hl 2 rfl) ?_
          refine lv_iconst (v := (2 : Int32)) hx hb dX5_signOf_192 (by decide) ?_
          refine lq_irem hx hb dX5_signOf_193 (by decide) ?_
          refine lv_iconst (v := (1 : Int32)) hx hb dX5_signOf_194 (by decide) ?_
          refine lv_icmp_ne (tgt := 208) hx hb dX5_signOf_195 (by decide) (fun c195 => ?_) (fun c195 => ?_)
          · have h := pf c195 h
            refine lv_iconst (v := (1 : Int32)) hx hb dX5_signOf_208 (by decide) ?_
            refine lv_imul hx hb dX5_signOf_209 ?_
            exact END _ _ 210 ls s _ (pe h) dX5_signOf_210 rfl ⟨⟨_, _, hP⟩, hK⟩ hS
          · have h := pt c195 h
            refine lv_lload hx hb dX5_signOf_198 (lv_at hl 1 rfl) ?_
            refine lv_iload hx hb dX5_signOf_200 (lv_at hl 3 rfl) ?_
            obtain ⟨r9, e10, h⟩ := pb h
            refine ro_S (As := [.long r5, .int a2]) (rest := [.int (t0_162 * t0_185)]) hF (fun _ h => wl_in h) (cnX5_root l e10) syX5_root w_379 ⟨Nat.le_of_ble_eq_true rfl, Nat.le_of_ble_eq_true rfl⟩ mv0 trivial rfl hl.1 rfl (Nat.le_of_ble_eq_true rfl) dX5_signOf_202 ⟨Nat.zero_le _, Nat.zero_le _⟩ ?_
            refine lv_goto (tgt := 209) hx hb dX5_signOf_205 (by decide) ?_
            refine lv_imul hx hb dX5_signOf_209 ?_
            exact END _ _ 210 ls s _ (pe h) dX5_signOf_210 rfl ⟨⟨_, _, hP⟩, hK⟩ hS
        refine lv_icmp_ne (tgt := 184) hx hb dX5_signOf_171 (by decide) (fun c171 => ?_) (fun c171 => ?_)
        · have h := pf c171 h
          refine lv_iconst (v := (1 : Int32)) hx hb dX5_signOf_184 (by decide) ?_
          exact J185 _ h _ _ _ _ hP hS _ (lv_sub hl [2, 3, 5] rfl)
        · have h := pt c171 h
          refine lv_lload hx hb dX5_signOf_174 (lv_at hl 4 rfl) ?_
          refine lv_iload hx hb dX5_signOf_176 (lv_at hl 5 rfl) ?_
          obtain ⟨r11, e12, h⟩ := pb h
          refine ro_S (As := [.long r1, .int a2]) (rest := [.int t0_162]) hF (fun _ h => wl_in h) (cnX5_root l e12) syX5_root w_379 ⟨Nat.le_of_ble_eq_true rfl, Nat.le_of_ble_eq_true rfl⟩ mv0 trivial rfl hl.1 rfl (Nat.le_of_ble_eq_true rfl) dX5_signOf_178 ⟨Nat.zero_le _, Nat.zero_le _⟩ ?_
          refine lv_goto (tgt := 185) hx hb dX5_signOf_181 (by decide) ?_
          exact J185 _ h _ _ _ _ hP hS _ (lv_sub hl [2, 3, 5] rfl)
      refine lv_icmp_ne (tgt := 161) hx hb dX5_signOf_134 (by decide) (fun c134 => ?_) (fun c134 => ?_)
      · have h := pf c134 h
        refine lv_iconst (v := (1 : Int32)) hx hb dX5_signOf_161 (by decide) ?_
        exact J162 _ h _ _ _ _ hP hS _ (lv_sub hl [0, 1, 2, 3, 7] rfl)
      · have h := pt c134 h
        refine lv_iload hx hb dX5_signOf_137 (lv_at hl 0 rfl) ?_
        refine lv_iconst (v := (2 : Int32)) hx hb dX5_signOf_139 (by decide) ?_
        refine lq_irem hx hb dX5_signOf_140 (by decide) ?_
        refine lv_iconst (v := (1 : Int32)) hx hb dX5_signOf_141 (by decide) ?_
        refine lv_icmp_ne (tgt := 161) hx hb dX5_signOf_142 (by decide) (fun c142 => ?_) (fun c142 => ?_)
        · have h := pf c142 h
          refine lv_iconst (v := (1 : Int32)) hx hb dX5_signOf_161 (by decide) ?_
          exact J162 _ h _ _ _ _ hP hS _ (lv_sub hl [0, 1, 2, 3, 7] rfl)
        · have h := pt c142 h
          refine lv_iload hx hb dX5_signOf_145 (lv_at hl 7 rfl) ?_
          refine lv_iconst (v := (1 : Int32)) hx hb dX5_signOf_147 (by decide) ?_
          refine lv_isub hx hb dX5_signOf_148 ?_
          refine lv_iconst (v := (2 : Int32)) hx hb dX5_signOf_149 (by decide) ?_
          refine lv_idiv hx hb dX5_signOf_150 (by decide) ?_
          refine lv_iconst (v := (2 : Int32)) hx hb dX5_signOf_151 (by decide) ?_
          refine lq_irem hx hb dX5_signOf_152 (by decide) ?_
          refine lv_iconst (v := (1 : Int32)) hx hb dX5_signOf_153 (by decide) ?_
          refine lv_icmp_ne (tgt := 161) hx hb dX5_signOf_154 (by decide) (fun c154 => ?_) (fun c154 => ?_)
          · have h := pf c154 h
            refine lv_iconst (v := (1 : Int32)) hx hb dX5_signOf_161 (by decide) ?_
            exact J162 _ h _ _ _ _ hP hS _ (lv_sub hl [0, 1, 2, 3, 7] rfl)
          · have h := pt c154 h
            refine lv_iconst (v := (-1 : Int32)) hx hb dX5_signOf_157 (by decide) ?_
            refine lv_goto (tgt := 162) hx hb dX5_signOf_158 (by decide) ?_
            exact J162 _ h _ _ _ _ hP hS _ (lv_sub hl [0, 1, 2, 3, 7] rfl)
    · have h := pt c56 h
      refine lv_lload hx hb dX5_signOf_59 (lv_at hl 3 rfl) ?_
      obtain ⟨r13, e14, h⟩ := pb h
      refine ro_S (As := [.long r1]) (rest := []) hF (fun _ h => wl_in h) (cnX5_rest l e14) syX5_rest w_375 ⟨Nat.le_of_ble_eq_true rfl, Nat.le_of_ble_eq_true rfl⟩ mv0 trivial rfl hl.1 rfl (Nat.le_of_ble_eq_true rfl) dX5_signOf_61 ⟨Nat.zero_le _, Nat.zero_le _⟩ ?_
      refine lv_istore (lv' := [(12, .int r13), (11, .int exv7), (9, .long r5), (8, .int exv3), (6, .long r1), (0, .ref h0), (1, .long a0), (3, .long a1), (5, .int a2)]) hx hb dX5_signOf_64 hl (by decide) rfl (fun ls hl => ?_)
      refine lv_lload hx hb dX5_signOf_66 (lv_at hl 2 rfl) ?_
      obtain ⟨r15, e16, h⟩ := pb h
      refine ro_S (As := [.long r5]) (rest := []) hF (fun _ h => wl_in h) (cnX5_rest l e16) syX5_rest w_375 ⟨Nat.le_of_ble_eq_true rfl, Nat.le_of_ble_eq_true rfl⟩ mv0 trivial rfl hl.1 rfl (Nat.le_of_ble_eq_true rfl) dX5_signOf_68 ⟨Nat.zero_le _, Nat.zero_le _⟩ ?_
      refine lv_istore (lv' := [(13, .int r15), (12, .int r13), (11, .int exv7), (9, .long r5), (8, .int exv3), (6, .long r1), (0, .ref h0), (1, .long a0), (3, .long a1), (5, .int a2)]) hx hb dX5_signOf_71 hl (by decide) rfl (fun ls hl => ?_)
      refine lv_iload hx hb dX5_signOf_73 (lv_at hl 1 rfl) ?_
      refine lv_iconst (v := (1 : Int32)) hx hb dX5_signOf_75 (by decide) ?_
      refine lv_isub hx hb dX5_signOf_76 ?_
      refine lv_iconst (v := (2 : Int32)) hx hb dX5_signOf_77 (by decide) ?_
      refine lv_idiv hx hb dX5_signOf_78 (by decide) ?_
      refine lv_iload hx hb dX5_signOf_79 (lv_at hl 0 rfl) ?_
      refine lv_iconst (v := (1 : Int32)) hx hb dX5_signOf_81 (by decide) ?_
      refine lv_isub hx hb dX5_signOf_82 ?_
      refine lv_iconst (v := (2 : Int32)) hx hb dX5_signOf_83 (by decide) ?_
      refine lv_idiv hx hb dX5_signOf_84 (by decide) ?_
      refine lv_imul hx hb dX5_signOf_85 ?_
      refine lv_iload hx hb dX5_signOf_86 (lv_at hl 4 rfl) ?_
      refine lv_iload hx hb dX5_signOf_88 (lv_at hl 0 rfl) ?_
      refine lv_iload hx hb dX5_signOf_90 (lv_at hl 0 rfl) ?_
      refine lv_imul hx hb dX5_signOf_92 ?_
      refine lv_iconst (v := (1 : Int32)) hx hb dX5_signOf_93 (by decide) ?_
      refine lv_isub hx hb dX5_signOf_94 ?_
      refine lv_bipush (v := (8 : Int32)) hx hb dX5_signOf_95 (by decide) ?_
      refine lv_idiv hx hb dX5_signOf_97 (by decide) ?_
      refine lv_imul hx hb dX5_signOf_98 ?_
      refine lv_iadd hx hb dX5_signOf_99 ?_
      refine lv_iload hx hb dX5_signOf_100 (lv_at hl 2 rfl) ?_
      refine lv_iload hx hb dX5_signOf_102 (lv_at hl 1 rfl) ?_
      refine lv_iload hx hb dX5_signOf_104 (lv_at hl 1 rfl) ?_
      refine lv_imul hx hb dX5_signOf_106 ?_
      refine lv_iconst (v := (1 : Int32)) hx hb dX5_signOf_107 (by decide) ?_
      refine lv_isub hx hb dX5_signOf_108 ?_
      refine lv_bipush (v := (8 : Int32)) hx hb dX5_signOf_109 (by decide) ?_
      refine lv_idiv hx hb dX5_signOf_111 (by decide) ?_
      refine lv_imul hx hb dX5_signOf_112 ?_
      refine lv_iadd hx hb dX5_signOf_113 ?_
      refine lv_istore (lv' := [(14, .int (((((r13 - (1 : Int32)) / (2 : Int32)) * ((r15 - (1 : Int32)) / (2 : Int32))) + (exv3 * (((r15 * r15) - (1 : Int32)) / (8 : Int32)))) + (exv7 * (((r13 * r13) - (1 : Int32)) / (8 : Int32))))), (13, .int r15), (12, .int r13), (11, .int exv7), (9, .long r5), (8, .int exv3), (6, .long r1), (0, .ref h0), (1, .long a0), (3, .long a1), (5, .int a2)]) hx hb dX5_signOf_114 hl (by decide) rfl (fun ls hl => ?_)
      refine lv_iload hx hb dX5_signOf_116 (lv_at hl 0 rfl) ?_
      refine lv_iconst (v := (2 : Int32)) hx hb dX5_signOf_118 (by decide) ?_
      refine lq_irem hx hb dX5_signOf_119 (by decide) ?_
      refine lv_if_ne (tgt := 127) hx hb dX5_signOf_120 (by decide) (fun c120 => ?_) (fun c120 => ?_)
      · have h := pf c120 h
        refine lv_iconst (v := (-1 : Int32)) hx hb dX5_signOf_127 (by decide) ?_
        exact END _ _ 128 ls s _ (pe h) dX5_signOf_128 rfl ⟨⟨_, _, hP⟩, hK⟩ hS
      · have h := pt c120 h
        refine lv_iconst (v := (1 : Int32)) hx hb dX5_signOf_123 (by decide) ?_
        refine lv_goto (tgt := 128) hx hb dX5_signOf_124 (by decide) ?_
        exact END _ _ 128 ls s _ (pe h) dX5_signOf_128 rfl ⟨⟨_, _, hP⟩, hK⟩ hS
  · have h := pt c2 h
    refine lv_lload_n hx hb dX5_signOf_5 rfl (lv_at hl 1 rfl) ?_
    refine lv_lconst (v := (0 : Int64)) hx hb dX5_signOf_6 (by decide) ?_
    refine W.lcmp hx hb dX5_signOf_7 ?_
    refine lv_if_ge (tgt := 21) hx hb dX5_signOf_8 (by decide) (fun c8 => ?_) (fun c8 => ?_)
    · have h := pt c8 h
      refine lv_iconst (v := (1 : Int32)) hx hb dX5_signOf_21 (by decide) ?_
      exact END _ _ 22 ls s _ (pe h) dX5_signOf_22 rfl ⟨⟨_, _, hP⟩, hK⟩ hS
    · have h := pf c8 h
      refine lv_lload_n hx hb dX5_signOf_11 rfl (lv_at hl 2 rfl) ?_
      refine lv_lconst (v := (0 : Int64)) hx hb dX5_signOf_12 (by decide) ?_
      refine W.lcmp hx hb dX5_signOf_13 ?_
      refine lv_if_ge (tgt := 21) hx hb dX5_signOf_14 (by decide) (fun c14 => ?_) (fun c14 => ?_)
      · have h := pt c14 h
        refine lv_iconst (v := (1 : Int32)) hx hb dX5_signOf_21 (by decide) ?_
        exact END _ _ 22 ls s _ (pe h) dX5_signOf_22 rfl ⟨⟨_, _, hP⟩, hK⟩ hS
      · have h := pf c14 h
        refine lv_iconst (v := (-1 : Int32)) hx hb dX5_signOf_17 (by decide) ?_
        refine lv_goto (tgt := 22) hx hb dX5_signOf_18 (by decide) ?_
        exact END _ _ 22 ls s _ (pe h) dX5_signOf_22 rfl ⟨⟨_, _, hP⟩, hK⟩ hS

theorem syX5_holdOf : Vy yX5_holdOf cX5_holdOf 7 (some .int) 3 := ⟨w_418, ⟨w_417, w_s6⟩, w_4, by decide +kernel⟩
set_option maxHeartbeats 4000000 in
set_option maxRecDepth 100000 in
theorem cnX5_holdOf (l : Launch) (G : va_G) (h0 hs hr : Nat) (cI cF : ClassId) (tr : Int64) (sz rw : Nat → Int32) (bx by_ bz bm so : Int32) (hap : mAp h0 hs hr) {a0 : Int32} {a1 : Int32} {a2 : Int32} {r : Int32} (h : fX5_holdOf sz rw a0 a1 a2 = some r) : Mu l yX5_holdOf cX5_holdOf 7 (some .int) 2 61 [.ref h0, .int a0, .int a1, .int a2] (mA h0 hs hr) (mB G h0 hs hr cI cF tr sz rw bx by_ bz bm so) (mB G h0 hs hr cI cF tr sz rw bx by_ bz bm so) (some (.int r)) := by
  refine mu_i (plainFor_of_name (by decide)) (Nat.le_of_ble_eq_true rfl) (by first | exact mB_mv | exact mBe_mv) ?_
  intro p e s m args below meth cd Q ls hF hB hl END
  have hF : CallFix p m cd cX5_holdOf 7 s args (wl yX5_holdOf cX5_holdOf 7 (some .int)) RX5 := hF
  obtain ⟨hx, hb, hml, hown, hts⟩ := id hF
  have hl : lv_has ls 7 [(0, .ref h0), (1, .int a0), (2, .int a1), (3, .int a2)] := hl
  obtain ⟨⟨th, ex, hP⟩, hK⟩ := hB
  have hS : va_S (mA h0 hs hr) s.heap s.heap [] := va_S.rf
  rw [fX5_holdOf] at h
  refine lv_iconst (v := (1 : Int32)) hx hb dX5_holdOf_0 (by decide) ?_
  refine lv_istore (lv' := [(4, .int (1 : Int32)), (0, .ref h0), (1, .int a0), (2, .int a1), (3, .int a2)]) hx hb dX5_holdOf_1 hl (by decide) rfl (fun ls hl => ?_)
  refine lv_iconst (v := (0 : Int32)) hx hb dX5_holdOf_3 (by decide) ?_
  refine lv_istore (lv' := [(5, .int (0 : Int32)), (4, .int (1 : Int32)), (0, .ref h0), (1, .int a0), (2, .int a1), (3, .int a2)]) hx hb dX5_holdOf_4 hl (by decide) rfl (fun ls hl => ?_)
  have J6 : ∀ (n6 : Nat) (x4_6 : Int32) (x5_6 : Int32), kX5_holdOf_6 sz rw a0 a1 a2 n6 x4_6 x5_6 = some r → ∀ (H : Heap) (locs : List Loc) (th_6 : Int32) (ex_6 : Int32), va_P G vwCl (mW h0 hs hr cI th_6 tr sz rw bx by_ bz bm so ex_6) H → va_S (mA h0 hs hr) s.heap H locs → ∀ (ls : Array Slot), lv_has ls 7 [(0, .ref h0), (1, .int a0), (2, .int a1), (3, .int a2), (4, .int x4_6), (5, .int x5_6)] → W p l e (rmk 2 61) s m args below meth cd H locs 0 0 Q (F0 m 6 ls []) := by
    intro n6
    induction n6 with
    | zero =>
      intro x4_6 x5_6 h
      rw [kX5_holdOf_6] at h
      cases h
    | succ n6 ih6 =>
      intro x4_6 x5_6 h H locs th_6 ex_6 hP hS ls hl
      rw [kX5_holdOf_6] at h
      refine lv_iload hx hb dX5_holdOf_6 (lv_at hl 5 rfl) ?_
      refine lv_iload_n hx hb dX5_holdOf_8 rfl (lv_at hl 2 rfl) ?_
      refine lv_icmp_ge (tgt := 70) hx hb dX5_holdOf_9 (by decide) (fun c9 => ?_) (fun c9 => ?_)
      · have h := pt c9 h
        refine lv_iload hx hb dX5_holdOf_70 (lv_at hl 4 rfl) ?_
        exact END _ _ 72 ls s _ (pe h) dX5_holdOf_72 rfl ⟨⟨_, _, hP⟩, hK⟩ hS
      · have h := pf c9 h
        refine lv_iconst (v := (0 : Int32)) hx hb dX5_holdOf_12 (by decide) ?_
        refine lv_istore (lv' := [(6, .int (0 : Int32)), (0, .ref h0), (1, .int a0), (2, .int a1), (3, .int a2), (4, .int x4_6), (5, .int x5_6)]) hx hb dX5_holdOf_13 hl (by decide) rfl (fun ls hl => ?_)
        have J15 : ∀ (n15 : Nat) (x4_15 : Int32) (x6_15 : Int32), kX5_holdOf_15 sz rw a0 a2 x5_6 (kX5_holdOf_6 sz rw a0 a1 a2 n6) n15 x4_15 x6_15 = some r → ∀ (H : Heap) (locs : List Loc) (th_15 : Int32) (ex_15 : Int32), va_P G vwCl (mW h0 hs hr cI th_15 tr sz rw bx by_ bz bm so ex_15) H → va_S (mA h0 hs hr) s.heap H locs → ∀ (ls : Array Slot), lv_has ls 7 [(0, .ref h0), (1, .int a0), (2, .int a1), (3, .int a2), (5, .int x5_6), (4, .int x4_15), (6, .int x6_15)] → W p l e (rmk 2 61) s m args below meth cd H locs 0 0 Q (F0 m 15 ls []) := by
          intro n15
          induction n15 with
          | zero =>
            intro x4_15 x6_15 h
            rw [kX5_holdOf_15] at h
            cases h
          | succ n15 ih15 =>
            intro x4_15 x6_15 h H locs th_15 ex_15 hP hS ls hl
            rw [kX5_holdOf_15] at h
            refine lv_iload hx hb dX5_holdOf_15 (lv_at hl 6 rfl) ?_
            refine lv_iload hx hb dX5_holdOf_17 (lv_at hl 4 rfl) ?_
            refine lv_icmp_ge (tgt := 64) hx hb dX5_holdOf_19 (by decide) (fun c19 => ?_) (fun c19 => ?_)
            · have h := pt c19 h
              refine lv_iinc (v := x5_6 + (1 : Int32)) (lv' := [(5, .int (x5_6 + (1 : Int32))), (0, .ref h0), (1, .int a0), (2, .int a1), (3, .int a2), (4, .int x4_15), (6, .int x6_15)]) hx hb dX5_holdOf_64 hl (k := 4) rfl rfl (by decide) rfl (fun ls hl => ?_)
              refine lv_goto (tgt := 6) hx hb dX5_holdOf_67 (by decide) ?_
              exact ih6 _ _ h _ _ _ _ hP hS _ (lv_sub hl [1, 2, 3, 4, 5, 0] rfl)
            · have h := pf c19 h
              refine lv_iload hx hb dX5_holdOf_22 (lv_at hl 5 rfl) ?_
              refine lv_aload_n hx hb dX5_holdOf_24 rfl (lv_at hl 0 rfl) ?_
              refine lv_aload_n hx hb dX5_holdOf_25 rfl (lv_at hl 0 rfl) ?_
              refine va_get (D := G) (ci := 3) (v := .ref hr) (C := RX5) (T := TX5) (N := 10) hx hb hts (fun w h => wl_in (inX5 w h)) hown hK hP 0 rfl rfl 3 (by decide) (hts _ (wl_in w_316)) (fun _ h9 => h9) rfl dX5_holdOf_26 ?_
              refine lv_bipush (v := (6 : Int32)) hx hb dX5_holdOf_29 (by decide) ?_
              refine lv_iload_n hx hb dX5_holdOf_31 rfl (lv_at hl 1 rfl) ?_
              refine lv_imul hx hb dX5_holdOf_32 ?_
              refine lv_iload hx hb dX5_holdOf_33 (lv_at hl 4 rfl) ?_
              refine lv_iadd hx hb dX5_holdOf_35 ?_
              obtain ⟨g1, h⟩ := pg h
              refine va_iald hx hb hK hP 2 0 rfl rfl g1 dX5_holdOf_36 ?_
              refine lv_i2l (v := (rw (((6 : Int32) * a0) + x5_6).toNatClampNeg).toInt64) hx hb dX5_holdOf_37 rfl ?_
              refine lv_aload_n hx hb dX5_holdOf_38 rfl (lv_at hl 0 rfl) ?_
              refine va_get (D := G) (ci := 3) (v := .ref hr) (C := RX5) (T := TX5) (N := 10) hx hb hts (fun w h => wl_in (inX5 w h)) hown hK hP 0 rfl rfl 3 (by decide) (hts _ (wl_in w_316)) (fun _ h9 => h9) rfl dX5_holdOf_39 ?_
              refine lv_bipush (v := (6 : Int32)) hx hb dX5_holdOf_42 (by decide) ?_
              refine lv_iload_n hx hb dX5_holdOf_44 rfl (lv_at hl 1 rfl) ?_
              refine lv_imul hx hb dX5_holdOf_45 ?_
              refine lv_iload hx hb dX5_holdOf_46 (lv_at hl 6 rfl) ?_
              refine lv_iadd hx hb dX5_holdOf_48 ?_
              obtain ⟨g2, h⟩ := pg h
              refine va_iald hx hb hK hP 2 0 rfl rfl g2 dX5_holdOf_49 ?_
              refine lv_i2l (v := (rw (((6 : Int32) * a0) + x6_15).toNatClampNeg).toInt64) hx hb dX5_holdOf_50 rfl ?_
              refine lv_iload_n hx hb dX5_holdOf_51 rfl (lv_at hl 3 rfl) ?_
              obtain ⟨r3, e4, h⟩ := pb h
              refine mu_V (As := [.long ((rw (((6 : Int32) * a0) + x5_6).toNatClampNeg).toInt64), .long ((rw (((6 : Int32) * a0) + x6_15).toNatClampNeg).toInt64), .int a2]) (rest := [.int x4_15]) hF (fun _ h => wl_in h) (cnX5_signOf l G h0 hs hr cI cF tr sz rw bx by_ bz bm so hap e4) syX5_signOf w_367 ⟨Nat.le_of_ble_eq_true rfl, Nat.le_of_ble_eq_true rfl⟩ mB_mv mB_mv ⟨⟨_, _, hP⟩, hK⟩ (va_recv hK hP (ci := 3) (q0 := 0) rfl rfl) hS (fun _ h => h) rfl hl.1 rfl (Nat.le_of_ble_eq_true rfl) dX5_holdOf_52 ⟨Nat.zero_le _, Nat.zero_le _⟩ (fun H locs hB1 _ _ hS => ?_)
              obtain ⟨⟨th5, ex6, hP⟩, _⟩ := hB1
              refine W.eq (g2 := F0 m 55 ls [.int r3, .int x4_15]) rfl ?_
              refine lv_imul hx hb dX5_holdOf_55 ?_
              refine lv_istore (lv' := [(4, .int (x4_15 * r3)), (0, .ref h0), (1, .int a0), (2, .int a1), (3, .int a2), (5, .int x5_6), (6, .int x6_15)]) hx hb dX5_holdOf_56 hl (by decide) rfl (fun ls hl => ?_)
              refine lv_iinc (v := x6_15 + (1 : Int32)) (lv' := [(6, .int (x6_15 + (1 : Int32))), (4, .int (x4_15 * r3)), (0, .ref h0), (1, .int a0), (2, .int a1), (3, .int a2), (5, .int x5_6)]) hx hb dX5_holdOf_58 hl (k := 6) rfl rfl (by decide) rfl (fun ls hl => ?_)
              refine lv_goto (tgt := 15) hx hb dX5_holdOf_61 (by decide) ?_
              exact ih15 _ _ h _ _ _ _ hP hS _ (lv_sub hl [2, 3, 4, 5, 6, 1, 0] rfl)
        exact J15 _ _ _ h _ _ _ _ hP hS _ (lv_sub hl [1, 2, 3, 4, 6, 5, 0] rfl)
  exact J6 _ _ _ h _ _ _ _ hP hS _ (lv_sub hl [2, 3, 4, 5, 1, 0] rfl)

theorem syX5_isSquare : Vy yX5_isSquare cX5_isSquare 6 (some .boolean) 2 := ⟨w_434, ⟨w_433, w_s9⟩, w_4, by decide +kernel⟩
set_option maxHeartbeats 4000000 in
set_option maxRecDepth 100000 in
theorem cnX5_isSquare (l : Launch) (G : va_G) (h0 hs hr : Nat) (cI cF : ClassId) (tr : Int64) (sz rw : Nat → Int32) (bx by_ bz bm so : Int32) (hap : mAp h0 hs hr) {a0 : Int64} {a1 : Int32} {r : Int32} (h : fX5_isSquare sz rw a0 a1 = some r) : Mu l yX5_isSquare cX5_isSquare 6 (some .boolean) 1 27 [.ref h0, .long a0, .int a1] (mA h0 hs hr) (mB G h0 hs hr cI cF tr sz rw bx by_ bz bm so) (mB G h0 hs hr cI cF tr sz rw bx by_ bz bm so) (some (.int r)) := by
  refine mu_z (plainFor_of_name (by decide)) (Nat.le_of_ble_eq_true rfl) (by first | exact mB_mv | exact mBe_mv) ?_
  intro p e s m args below meth cd Q ls hF hB hl END
  have hF : CallFix p m cd cX5_isSquare 6 s args (wl yX5_isSquare cX5_isSquare 6 (some .boolean)) RX5 := hF
  obtain ⟨hx, hb, hml, hown, hts⟩ := id hF
  have hl : lv_has ls 6 [(0, .ref h0), (1, .long a0), (3, .int a1)] := hl
  obtain ⟨⟨th, ex, hP⟩, hK⟩ := hB
  have hS : va_S (mA h0 hs hr) s.heap s.heap [] := va_S.rf
  rw [fX5_isSquare] at h
  refine lv_iload_n hx hb dX5_isSquare_0 rfl (lv_at hl 2 rfl) ?_
  refine lv_if_ne (tgt := 16) hx hb dX5_isSquare_1 (by decide) (fun c1 => ?_) (fun c1 => ?_)
  · have h := pf c1 h
    refine lv_aload_n hx hb dX5_isSquare_16 rfl (lv_at hl 0 rfl) ?_
    refine lv_lload_n hx hb dX5_isSquare_17 rfl (lv_at hl 1 rfl) ?_
    refine lv_iload_n hx hb dX5_isSquare_18 rfl (lv_at hl 2 rfl) ?_
    obtain ⟨⟨r1, exv3⟩, e2, h⟩ := pb h
    refine mu_V (As := [.long a0, .int a1]) (rest := []) hF (fun _ h => wl_in h) (cnX5_without l G h0 hs hr cI cF tr sz rw bx by_ bz bm so hap e2) syX5_without w_371 ⟨Nat.le_of_ble_eq_true rfl, Nat.le_of_ble_eq_true rfl⟩ mB_mv mBe_mv ⟨⟨_, _, hP⟩, hK⟩ (va_recv hK hP (ci := 3) (q0 := 0) rfl rfl) hS (fun _ h => h) rfl hl.1 rfl (Nat.le_of_ble_eq_true rfl) dX5_isSquare_19 ⟨Nat.zero_le _, Nat.zero_le _⟩ (fun H locs hB1 _ _ hS => ?_)
    obtain ⟨⟨th4, hP⟩, _⟩ := hB1
    refine W.eq (g2 := F0 m 22 ls [.long r1]) rfl ?_
    refine lv_lstore (lv' := [(4, .long r1), (0, .ref h0), (1, .long a0), (3, .int a1)]) hx hb dX5_isSquare_22 hl (by decide) rfl (fun ls hl => ?_)
    refine lv_aload_n hx hb dX5_isSquare_24 rfl (lv_at hl 1 rfl) ?_
    refine va_get (D := G) (ci := 3) (v := .int exv3) (C := RX5) (T := TX5) (N := 10) hx hb hts (fun w h => wl_in (inX5 w h)) hown hK hP 0 rfl rfl 9 (by decide) (hts _ (wl_in w_322)) (fun _ h9 => h9) rfl dX5_isSquare_25 ?_
    refine lv_iconst (v := (2 : Int32)) hx hb dX5_isSquare_28 (by decide) ?_
    refine lq_irem hx hb dX5_isSquare_29 (by decide) ?_
    refine lv_if_ne (tgt := 64) hx hb dX5_isSquare_30 (by decide) (fun c30 => ?_) (fun c30 => ?_)
    · have h := pf c30 h
      refine lv_iconst (v := (0 : Int32)) hx hb dX5_isSquare_64 (by decide) ?_
      exact END _ _ 65 ls s _ (pe h) (by rfl) dX5_isSquare_65 rfl ⟨⟨_, _, hP⟩, hK⟩ hS
    · have h := pt c30 h
      refine lv_iload_n hx hb dX5_isSquare_33 rfl (lv_at hl 3 rfl) ?_
      refine lv_iconst (v := (2 : Int32)) hx hb dX5_isSquare_34 (by decide) ?_
      refine lv_icmp_ne (tgt := 50) hx hb dX5_isSquare_35 (by decide) (fun c35 => ?_) (fun c35 => ?_)
      · have h := pf c35 h
        refine lv_lload hx hb dX5_isSquare_50 (lv_at hl 0 rfl) ?_
        refine lv_iload_n hx hb dX5_isSquare_52 rfl (lv_at hl 3 rfl) ?_
        obtain ⟨r5, e6, h⟩ := pb h
        refine ro_S (As := [.long r1, .int a1]) (rest := []) hF (fun _ h => wl_in h) (cnX5_root l e6) syX5_root w_379 ⟨Nat.le_of_ble_eq_true rfl, Nat.le_of_ble_eq_true rfl⟩ mv0 trivial rfl hl.1 rfl (Nat.le_of_ble_eq_true rfl) dX5_isSquare_53 ⟨Nat.zero_le _, Nat.zero_le _⟩ ?_
        refine lv_iconst (v := (1 : Int32)) hx hb dX5_isSquare_56 (by decide) ?_
        refine lv_icmp_ne (tgt := 64) hx hb dX5_isSquare_57 (by decide) (fun c57 => ?_) (fun c57 => ?_)
        · have h := pf c57 h
          refine lv_iconst (v := (0 : Int32)) hx hb dX5_isSquare_64 (by decide) ?_
          exact END _ _ 65 ls s _ (pe h) (by rfl) dX5_isSquare_65 rfl ⟨⟨_, _, hP⟩, hK⟩ hS
        · have h := pt c57 h
          refine lv_iconst (v := (1 : Int32)) hx hb dX5_isSquare_60 (by decide) ?_
          refine lv_goto (tgt := 65) hx hb dX5_isSquare_61 (by decide) ?_
          exact END _ _ 65 ls s _ (pe h) (by rfl) dX5_isSquare_65 rfl ⟨⟨_, _, hP⟩, hK⟩ hS
      · have h := pt c35 h
        refine lv_lload hx hb dX5_isSquare_38 (lv_at hl 0 rfl) ?_
        obtain ⟨r7, e8, h⟩ := pb h
        refine ro_S (As := [.long r1]) (rest := []) hF (fun _ h => wl_in h) (cnX5_rest l e8) syX5_rest w_375 ⟨Nat.le_of_ble_eq_true rfl, Nat.le_of_ble_eq_true rfl⟩ mv0 trivial rfl hl.1 rfl (Nat.le_of_ble_eq_true rfl) dX5_isSquare_40 ⟨Nat.zero_le _, Nat.zero_le _⟩ ?_
        refine lv_iconst (v := (1 : Int32)) hx hb dX5_isSquare_43 (by decide) ?_
        refine lv_icmp_ne (tgt := 64) hx hb dX5_isSquare_44 (by decide) (fun c44 => ?_) (fun c44 => ?_)
        · have h := pf c44 h
          refine lv_iconst (v := (0 : Int32)) hx hb dX5_isSquare_64 (by decide) ?_
          exact END _ _ 65 ls s _ (pe h) (by rfl) dX5_isSquare_65 rfl ⟨⟨_, _, hP⟩, hK⟩ hS
        · have h := pt c44 h
          refine lv_goto (tgt := 60) hx hb dX5_isSquare_47 (by decide) ?_
          refine lv_iconst (v := (1 : Int32)) hx hb dX5_isSquare_60 (by decide) ?_
          refine lv_goto (tgt := 65) hx hb dX5_isSquare_61 (by decide) ?_
          exact END _ _ 65 ls s _ (pe h) (by rfl) dX5_isSquare_65 rfl ⟨⟨_, _, hP⟩, hK⟩ hS
  · have h := pt c1 h
    refine lv_lload_n hx hb dX5_isSquare_4 rfl (lv_at hl 1 rfl) ?_
    refine lv_lconst (v := (0 : Int64)) hx hb dX5_isSquare_5 (by decide) ?_
    refine W.lcmp hx hb dX5_isSquare_6 ?_
    refine lv_if_le (tgt := 14) hx hb dX5_isSquare_7 (by decide) (fun c7 => ?_) (fun c7 => ?_)
    · have h := pt c7 h
      refine lv_iconst (v := (0 : Int32)) hx hb dX5_isSquare_14 (by decide) ?_
      exact END _ _ 15 ls s _ (pe h) (by rfl) dX5_isSquare_15 rfl ⟨⟨_, _, hP⟩, hK⟩ hS
    · have h := pf c7 h
      refine lv_iconst (v := (1 : Int32)) hx hb dX5_isSquare_10 (by decide) ?_
      refine lv_goto (tgt := 15) hx hb dX5_isSquare_11 (by decide) ?_
      exact END _ _ 15 ls s _ (pe h) (by rfl) dX5_isSquare_15 rfl ⟨⟨_, _, hP⟩, hK⟩ hS

theorem syX5_isGoing : Vy yX5_isGoing cX5_isGoing 7 (some .boolean) 3 := ⟨w_426, ⟨w_425, w_s7⟩, w_4, by decide +kernel⟩
set_option maxHeartbeats 4000000 in
set_option maxRecDepth 100000 in
theorem cnX5_isGoing (l : Launch) (G : va_G) (h0 hs hr : Nat) (cI cF : ClassId) (tr : Int64) (sz rw : Nat → Int32) (bx by_ bz bm so : Int32) (hap : mAp h0 hs hr) {a0 : Int32} {a1 : Int32} {a2 : Int32} {r : Int32} (h : fX5_isGoing sz rw a0 a1 a2 = some r) : Mu l yX5_isGoing cX5_isGoing 7 (some .boolean) 3 87 [.ref h0, .int a0, .int a1, .int a2] (mA h0 hs hr) (mB G h0 hs hr cI cF tr sz rw bx by_ bz bm so) (mB G h0 hs hr cI cF tr sz rw bx by_ bz bm so) (some (.int r)) := by
  refine mu_z (plainFor_of_name (by decide)) (Nat.le_of_ble_eq_true rfl) (by first | exact mB_mv | exact mBe_mv) ?_
  intro p e s m args below meth cd Q ls hF hB hl END
  have hF : CallFix p m cd cX5_isGoing 7 s args (wl yX5_isGoing cX5_isGoing 7 (some .boolean)) RX5 := hF
  obtain ⟨hx, hb, hml, hown, hts⟩ := id hF
  have hl : lv_has ls 7 [(0, .ref h0), (1, .int a0), (2, .int a1), (3, .int a2)] := hl
  obtain ⟨⟨th, ex, hP⟩, hK⟩ := hB
  have hS : va_S (mA h0 hs hr) s.heap s.heap [] := va_S.rf
  rw [fX5_isGoing] at h
  refine lv_iload_n hx hb dX5_isGoing_0 rfl (lv_at hl 2 rfl) ?_
  refine lv_iconst (v := (1 : Int32)) hx hb dX5_isGoing_1 (by decide) ?_
  refine lv_icmp_ne (tgt := 7) hx hb dX5_isGoing_2 (by decide) (fun c2 => ?_) (fun c2 => ?_)
  · have h := pf c2 h
    refine lv_iload_n hx hb dX5_isGoing_7 rfl (lv_at hl 3 rfl) ?_
    refine lv_if_ne (tgt := 28) hx hb dX5_isGoing_8 (by decide) (fun c8 => ?_) (fun c8 => ?_)
    · have h := pf c8 h
      refine lv_iload_n hx hb dX5_isGoing_28 rfl (lv_at hl 2 rfl) ?_
      refine lv_iconst (v := (4 : Int32)) hx hb dX5_isGoing_29 (by decide) ?_
      refine lv_icmp_le (tgt := 35) hx hb dX5_isGoing_30 (by decide) (fun c30 => ?_) (fun c30 => ?_)
      · have h := pt c30 h
        refine lv_aload_n hx hb dX5_isGoing_35 rfl (lv_at hl 0 rfl) ?_
        refine lv_iload_n hx hb dX5_isGoing_36 rfl (lv_at hl 1 rfl) ?_
        refine lv_iload_n hx hb dX5_isGoing_37 rfl (lv_at hl 2 rfl) ?_
        obtain ⟨r1, e2, h⟩ := pb h
        refine ro_V (As := [.int a0, .int a1]) (rest := []) hF (fun _ h => wl_in h) (cnX5_productOf l G h0 hs hr cI cF tr sz rw bx by_ bz bm so e2) syX5_productOf w_403 ⟨Nat.le_of_ble_eq_true rfl, Nat.le_of_ble_eq_true rfl⟩ mB_mv ⟨⟨_, _, hP⟩, hK⟩ (va_recv hK hP (ci := 3) (q0 := 0) rfl rfl) rfl hl.1 rfl (Nat.le_of_ble_eq_true rfl) dX5_isGoing_38 ⟨Nat.zero_le _, Nat.zero_le _⟩ ?_
        refine lv_lstore (lv' := [(4, .long r1), (0, .ref h0), (1, .int a0), (2, .int a1), (3, .int a2)]) hx hb dX5_isGoing_41 hl (by decide) rfl (fun ls hl => ?_)
        refine lv_iload_n hx hb dX5_isGoing_43 rfl (lv_at hl 3 rfl) ?_
        refine lv_iconst (v := (2 : Int32)) hx hb dX5_isGoing_44 (by decide) ?_
        refine lv_icmp_ne (tgt := 57) hx hb dX5_isGoing_45 (by decide) (fun c45 => ?_) (fun c45 => ?_)
        · have h := pf c45 h
          refine lv_aload_n hx hb dX5_isGoing_57 rfl (lv_at hl 1 rfl) ?_
          refine lv_iload_n hx hb dX5_isGoing_58 rfl (lv_at hl 2 rfl) ?_
          refine lv_iload_n hx hb dX5_isGoing_59 rfl (lv_at hl 3 rfl) ?_
          refine lv_iload_n hx hb dX5_isGoing_60 rfl (lv_at hl 4 rfl) ?_
          obtain ⟨r3, e4, h⟩ := pb h
          refine mu_V (As := [.int a0, .int a1, .int a2]) (rest := []) hF (fun _ h => wl_in h) (cnX5_holdOf l G h0 hs hr cI cF tr sz rw bx by_ bz bm so hap e4) syX5_holdOf w_415 ⟨Nat.le_of_ble_eq_true rfl, Nat.le_of_ble_eq_true rfl⟩ mB_mv mB_mv ⟨⟨_, _, hP⟩, hK⟩ (va_recv hK hP (ci := 3) (q0 := 0) rfl rfl) hS (fun _ h => h) rfl hl.1 rfl (Nat.le_of_ble_eq_true rfl) dX5_isGoing_61 ⟨Nat.zero_le _, Nat.zero_le _⟩ (fun H locs hB1 _ _ hS => ?_)
          obtain ⟨⟨th5, ex6, hP⟩, _⟩ := hB1
          refine W.eq (g2 := F0 m 64 ls [.int r3]) rfl ?_
          refine lv_istore (lv' := [(6, .int r3), (4, .long r1), (0, .ref h0), (1, .int a0), (2, .int a1), (3, .int a2)]) hx hb dX5_isGoing_64 hl (by decide) rfl (fun ls hl => ?_)
          refine lv_iload_n hx hb dX5_isGoing_66 rfl (lv_at hl 4 rfl) ?_
          refine lv_iconst (v := (3 : Int32)) hx hb dX5_isGoing_67 (by decide) ?_
          refine lv_icmp_ne (tgt := 95) hx hb dX5_isGoing_68 (by decide) (fun c68 => ?_) (fun c68 => ?_)
          · have h := pf c68 h
            refine lv_aload_n hx hb dX5_isGoing_95 rfl (lv_at hl 2 rfl) ?_
            refine lv_lload hx hb dX5_isGoing_96 (lv_at hl 1 rfl) ?_
            refine lv_iload_n hx hb dX5_isGoing_98 rfl (lv_at hl 5 rfl) ?_
            obtain ⟨r7, e8, h⟩ := pb h
            refine mu_V (As := [.long r1, .int a2]) (rest := []) hF (fun _ h => wl_in h) (cnX5_isSquare l G h0 hs hr cI cF tr sz rw bx by_ bz bm so hap e8) syX5_isSquare w_431 ⟨Nat.le_of_ble_eq_true rfl, Nat.le_of_ble_eq_true rfl⟩ mB_mv mB_mv ⟨⟨_, _, hP⟩, hK⟩ (va_recv hK hP (ci := 3) (q0 := 0) rfl rfl) hS (fun _ h => h) rfl hl.1 rfl (Nat.le_of_ble_eq_true rfl) dX5_isGoing_99 ⟨Nat.zero_le _, Nat.zero_le _⟩ (fun H locs hB1 _ _ hS => ?_)
            obtain ⟨⟨th9, ex10, hP⟩, _⟩ := hB1
            refine W.eq (g2 := F0 m 102 ls [.int r7]) rfl ?_
            refine lv_if_eq (tgt := 121) hx hb dX5_isGoing_102 (by decide) (fun c102 => ?_) (fun c102 => ?_)
            · have h := pt c102 h
              refine lv_iconst (v := (1 : Int32)) hx hb dX5_isGoing_121 (by decide) ?_
              refine lv_goto (tgt := 126) hx hb dX5_isGoing_122 (by decide) ?_
              exact END _ _ 126 ls s _ (pe h) (by rfl) dX5_isGoing_126 rfl ⟨⟨_, _, hP⟩, hK⟩ hS
            · have h := pf c102 h
              refine lv_iload hx hb dX5_isGoing_105 (lv_at hl 0 rfl) ?_
              refine lv_aload_n hx hb dX5_isGoing_107 rfl (lv_at hl 2 rfl) ?_
              refine lv_ldc2 (v := (-1 : Int64)) hx hb hown (hts _ (wl_in w_435)) dX5_isGoing_108 ?_
              refine lv_ldc2 (v := (-1 : Int64)) hx hb hown (hts _ (wl_in w_435)) dX5_isGoing_111 ?_
              refine lv_iload_n hx hb dX5_isGoing_114 rfl (lv_at hl 5 rfl) ?_
              obtain ⟨r11, e12, h⟩ := pb h
              refine mu_V (As := [.long (-1 : Int64), .long (-1 : Int64), .int a2]) (rest := [.int r3]) hF (fun _ h => wl_in h) (cnX5_signOf l G h0 hs hr cI cF tr sz rw bx by_ bz bm so hap e12) syX5_signOf w_367 ⟨Nat.le_of_ble_eq_true rfl, Nat.le_of_ble_eq_true rfl⟩ mB_mv mB_mv ⟨⟨_, _, hP⟩, hK⟩ (va_recv hK hP (ci := 3) (q0 := 0) rfl rfl) hS (fun _ h => h) rfl hl.1 rfl (Nat.le_of_ble_eq_true rfl) dX5_isGoing_115 ⟨Nat.zero_le _, Nat.zero_le _⟩ (fun H locs hB1 _ _ hS => ?_)
              obtain ⟨⟨th13, ex14, hP⟩, _⟩ := hB1
              refine W.eq (g2 := F0 m 118 ls [.int r11, .int r3]) rfl ?_
              refine lv_icmp_ne (tgt := 125) hx hb dX5_isGoing_118 (by decide) (fun c118 => ?_) (fun c118 => ?_)
              · have h := pf c118 h
                refine lv_iconst (v := (0 : Int32)) hx hb dX5_isGoing_125 (by decide) ?_
                exact END _ _ 126 ls s _ (pe h) (by rfl) dX5_isGoing_126 rfl ⟨⟨_, _, hP⟩, hK⟩ hS
              · have h := pt c118 h
                refine lv_iconst (v := (1 : Int32)) hx hb dX5_isGoing_121 (by decide) ?_
                refine lv_goto (tgt := 126) hx hb dX5_isGoing_122 (by decide) ?_
                exact END _ _ 126 ls s _ (pe h) (by rfl) dX5_isGoing_126 rfl ⟨⟨_, _, hP⟩, hK⟩ hS
          · have h := pt c68 h
            refine lv_iload hx hb dX5_isGoing_71 (lv_at hl 0 rfl) ?_
            refine lv_aload_n hx hb dX5_isGoing_73 rfl (lv_at hl 2 rfl) ?_
            refine lv_ldc2 (v := (-1 : Int64)) hx hb hown (hts _ (wl_in w_435)) dX5_isGoing_74 ?_
            refine lv_lload hx hb dX5_isGoing_77 (lv_at hl 1 rfl) ?_
            refine lv_lneg hx hb dX5_isGoing_79 ?_
            refine lv_iload_n hx hb dX5_isGoing_80 rfl (lv_at hl 5 rfl) ?_
            obtain ⟨r15, e16, h⟩ := pb h
            refine mu_V (As := [.long (-1 : Int64), .long (-r1), .int a2]) (rest := [.int r3]) hF (fun _ h => wl_in h) (cnX5_signOf l G h0 hs hr cI cF tr sz rw bx by_ bz bm so hap e16) syX5_signOf w_367 ⟨Nat.le_of_ble_eq_true rfl, Nat.le_of_ble_eq_true rfl⟩ mB_mv mB_mv ⟨⟨_, _, hP⟩, hK⟩ (va_recv hK hP (ci := 3) (q0 := 0) rfl rfl) hS (fun _ h => h) rfl hl.1 rfl (Nat.le_of_ble_eq_true rfl) dX5_isGoing_81 ⟨Nat.zero_le _, Nat.zero_le _⟩ (fun H locs hB1 _ _ hS => ?_)
            obtain ⟨⟨th17, ex18, hP⟩, _⟩ := hB1
            refine W.eq (g2 := F0 m 84 ls [.int r15, .int r3]) rfl ?_
            refine lv_icmp_ne (tgt := 91) hx hb dX5_isGoing_84 (by decide) (fun c84 => ?_) (fun c84 => ?_)
            · have h := pf c84 h
              refine lv_iconst (v := (0 : Int32)) hx hb dX5_isGoing_91 (by decide) ?_
              refine lv_goto (tgt := 126) hx hb dX5_isGoing_92 (by decide) ?_
              exact END _ _ 126 ls s _ (pe h) (by rfl) dX5_isGoing_126 rfl ⟨⟨_, _, hP⟩, hK⟩ hS
            · have h := pt c84 h
              refine lv_iconst (v := (1 : Int32)) hx hb dX5_isGoing_87 (by decide) ?_
              refine lv_goto (tgt := 126) hx hb dX5_isGoing_88 (by decide) ?_
              exact END _ _ 126 ls s _ (pe h) (by rfl) dX5_isGoing_126 rfl ⟨⟨_, _, hP⟩, hK⟩ hS
        · have h := pt c45 h
          refine lv_aload_n hx hb dX5_isGoing_48 rfl (lv_at hl 1 rfl) ?_
          refine lv_lload hx hb dX5_isGoing_49 (lv_at hl 0 rfl) ?_
          refine lv_lneg hx hb dX5_isGoing_51 ?_
          refine lv_iload_n hx hb dX5_isGoing_52 rfl (lv_at hl 4 rfl) ?_
          obtain ⟨r19, e20, h⟩ := pb h
          refine mu_V (As := [.long (-r1), .int a2]) (rest := []) hF (fun _ h => wl_in h) (cnX5_isSquare l G h0 hs hr cI cF tr sz rw bx by_ bz bm so hap e20) syX5_isSquare w_431 ⟨Nat.le_of_ble_eq_true rfl, Nat.le_of_ble_eq_true rfl⟩ mB_mv mB_mv ⟨⟨_, _, hP⟩, hK⟩ (va_recv hK hP (ci := 3) (q0 := 0) rfl rfl) hS (fun _ h => h) rfl hl.1 rfl (Nat.le_of_ble_eq_true rfl) dX5_isGoing_53 ⟨Nat.zero_le _, Nat.zero_le _⟩ (fun H locs hB1 _ _ hS => ?_)
          obtain ⟨⟨th21, ex22, hP⟩, _⟩ := hB1
          refine W.eq (g2 := F0 m 56 ls [.int r19]) rfl ?_
          obtain ⟨g23, h⟩ := pg h
          exact END _ _ 56 ls s _ (pe h) (nbool g23) dX5_isGoing_56 rfl ⟨⟨_, _, hP⟩, hK⟩ hS
      · have h := pf c30 h
        refine lv_iconst (v := (1 : Int32)) hx hb dX5_isGoing_33 (by decide) ?_
        exact END _ _ 34 ls s _ (pe h) (by rfl) dX5_isGoing_34 rfl ⟨⟨_, _, hP⟩, hK⟩ hS
    · have h := pt c8 h
      refine lv_aload_n hx hb dX5_isGoing_11 rfl (lv_at hl 0 rfl) ?_
      refine lv_iload_n hx hb dX5_isGoing_12 rfl (lv_at hl 1 rfl) ?_
      refine lv_iload_n hx hb dX5_isGoing_13 rfl (lv_at hl 2 rfl) ?_
      obtain ⟨r24, e25, h⟩ := pb h
      refine ro_V (As := [.int a0, .int a1]) (rest := []) hF (fun _ h => wl_in h) (cnX5_aboveOf l G h0 hs hr cI cF tr sz rw bx by_ bz bm so e25) syX5_aboveOf w_427 ⟨Nat.le_of_ble_eq_true rfl, Nat.le_of_ble_eq_true rfl⟩ mB_mv ⟨⟨_, _, hP⟩, hK⟩ (va_recv hK hP (ci := 3) (q0 := 0) rfl rfl) rfl hl.1 rfl (Nat.le_of_ble_eq_true rfl) dX5_isGoing_14 ⟨Nat.zero_le _, Nat.zero_le _⟩ ?_
      refine lv_iload_n hx hb dX5_isGoing_17 rfl (lv_at hl 2 rfl) ?_
      obtain ⟨g26, h⟩ := pg h
      refine lq_irem hx hb dX5_isGoing_18 g26 ?_
      refine lv_if_eq (tgt := 26) hx hb dX5_isGoing_19 (by decide) (fun c19 => ?_) (fun c19 => ?_)
      · have h := pt c19 h
        refine lv_iconst (v := (0 : Int32)) hx hb dX5_isGoing_26 (by decide) ?_
        exact END _ _ 27 ls s _ (pe h) (by rfl) dX5_isGoing_27 rfl ⟨⟨_, _, hP⟩, hK⟩ hS
      · have h := pf c19 h
        refine lv_iconst (v := (1 : Int32)) hx hb dX5_isGoing_22 (by decide) ?_
        refine lv_goto (tgt := 27) hx hb dX5_isGoing_23 (by decide) ?_
        exact END _ _ 27 ls s _ (pe h) (by rfl) dX5_isGoing_27 rfl ⟨⟨_, _, hP⟩, hK⟩ hS
  · have h := pt c2 h
    refine lv_iconst (v := (0 : Int32)) hx hb dX5_isGoing_5 (by decide) ?_
    exact END _ _ 6 ls s _ (pe h) (by rfl) dX5_isGoing_6 rfl ⟨⟨_, _, hP⟩, hK⟩ hS

theorem syX5_isNought : Vy yX5_isNought cX5_isNought 5 (some .boolean) 2 := ⟨w_443, ⟨w_442, w_s10⟩, w_4, by decide +kernel⟩
set_option maxHeartbeats 4000000 in
set_option maxRecDepth 100000 in
theorem cnX5_isNought (l : Launch) (G : va_G) (h0 hs hr : Nat) (cI cF : ClassId) (tr : Int64) (sz rw : Nat → Int32) (bx by_ bz bm so : Int32) (hap : mAp h0 hs hr) {a0 : Int32} {a1 : Int32} {r : Int32} (h : fX5_isNought sz rw a0 a1 = some r) : Mu l yX5_isNought cX5_isNought 5 (some .boolean) 4 113 [.ref h0, .int a0, .int a1] (mA h0 hs hr) (mB G h0 hs hr cI cF tr sz rw bx by_ bz bm so) (mB G h0 hs hr cI cF tr sz rw bx by_ bz bm so) (some (.int r)) := by
  refine mu_z (plainFor_of_name (by decide)) (Nat.le_of_ble_eq_true rfl) (by first | exact mB_mv | exact mBe_mv) ?_
  intro p e s m args below meth cd Q ls hF hB hl END
  have hF : CallFix p m cd cX5_isNought 5 s args (wl yX5_isNought cX5_isNought 5 (some .boolean)) RX5 := hF
  obtain ⟨hx, hb, hml, hown, hts⟩ := id hF
  have hl : lv_has ls 5 [(0, .ref h0), (1, .int a0), (2, .int a1)] := hl
  obtain ⟨⟨th, ex, hP⟩, hK⟩ := hB
  have hS : va_S (mA h0 hs hr) s.heap s.heap [] := va_S.rf
  rw [fX5_isNought] at h
  refine lv_iload_n hx hb dX5_isNought_0 rfl (lv_at hl 2 rfl) ?_
  refine lv_iconst (v := (2 : Int32)) hx hb dX5_isNought_1 (by decide) ?_
  refine lv_icmp_ne (tgt := 16) hx hb dX5_isNought_2 (by decide) (fun c2 => ?_) (fun c2 => ?_)
  · have h := pf c2 h
    refine lv_iconst (v := (1 : Int32)) hx hb dX5_isNought_16 (by decide) ?_
    refine lv_istore_n (lv' := [(3, .int (1 : Int32)), (0, .ref h0), (1, .int a0), (2, .int a1)]) hx hb dX5_isNought_17 rfl hl (by decide) rfl (fun ls hl => ?_)
    refine lv_iconst (v := (0 : Int32)) hx hb dX5_isNought_18 (by decide) ?_
    refine lv_istore (lv' := [(4, .int (0 : Int32)), (3, .int (1 : Int32)), (0, .ref h0), (1, .int a0), (2, .int a1)]) hx hb dX5_isNought_19 hl (by decide) rfl (fun ls hl => ?_)
    have J21 : ∀ (n21 : Nat) (x3_21 : Int32) (x4_21 : Int32), kX5_isNought_21 sz rw a0 a1 n21 x3_21 x4_21 = some r → ∀ (H : Heap) (locs : List Loc) (th_21 : Int32) (ex_21 : Int32), va_P G vwCl (mW h0 hs hr cI th_21 tr sz rw bx by_ bz bm so ex_21) H → va_S (mA h0 hs hr) s.heap H locs → ∀ (ls : Array Slot), lv_has ls 5 [(0, .ref h0), (1, .int a0), (2, .int a1), (3, .int x3_21), (4, .int x4_21)] → W p l e (rmk 4 113) s m args below meth cd H locs 0 0 Q (F0 m 21 ls []) := by
      intro n21
      induction n21 with
      | zero =>
        intro x3_21 x4_21 h
        rw [kX5_isNought_21] at h
        cases h
      | succ n21 ih21 =>
        intro x3_21 x4_21 h H locs th_21 ex_21 hP hS ls hl
        rw [kX5_isNought_21] at h
        refine lv_iload hx hb dX5_isNought_21 (lv_at hl 4 rfl) ?_
        refine lv_sipush (v := (398 : Int32)) hx hb dX5_isNought_23 (by decide) ?_
        refine lv_icmp_ge (tgt := 78) hx hb dX5_isNought_26 (by decide) (fun c26 => ?_) (fun c26 => ?_)
        · have h := pt c26 h
          refine lv_iload_n hx hb dX5_isNought_78 rfl (lv_at hl 3 rfl) ?_
          obtain ⟨g1, h⟩ := pg h
          exact END _ _ 79 ls s _ (pe h) (nbool g1) dX5_isNought_79 rfl ⟨⟨_, _, hP⟩, hK⟩ hS
        · have h := pf c26 h
          refine lv_iload_n hx hb dX5_isNought_29 rfl (lv_at hl 3 rfl) ?_
          refine lv_if_eq (tgt := 78) hx hb dX5_isNought_30 (by decide) (fun c30 => ?_) (fun c30 => ?_)
          · have h := pt c30 h
            refine lv_iload_n hx hb dX5_isNought_78 rfl (lv_at hl 3 rfl) ?_
            obtain ⟨g2, h⟩ := pg h
            exact END _ _ 79 ls s _ (pe h) (nbool g2) dX5_isNought_79 rfl ⟨⟨_, _, hP⟩, hK⟩ hS
          · have h := pf c30 h
            refine lv_iload hx hb dX5_isNought_33 (lv_at hl 4 rfl) ?_
            have J63 : kX5_isNought_63 sz rw a0 a1 x4_21 (kX5_isNought_21 sz rw a0 a1 n21) = some r → ∀ (H : Heap) (locs : List Loc) (th_63 : Int32) (ex_63 : Int32), va_P G vwCl (mW h0 hs hr cI th_63 tr sz rw bx by_ bz bm so ex_63) H → va_S (mA h0 hs hr) s.heap H locs → ∀ (ls : Array Slot), lv_has ls 5 [(0, .ref h0), (1, .int a0), (2, .int a1), (4, .int x4_21)] → W p l e (rmk 4 113) s m args below meth cd H locs 0 0 Q (F0 m 63 ls []) := by
              intro h H locs th_63 ex_63 hP hS ls hl
              rw [kX5_isNought_63] at h
              refine lv_aload_n hx hb dX5_isNought_63 rfl (lv_at hl 0 rfl) ?_
              refine lv_iload_n hx hb dX5_isNought_64 rfl (lv_at hl 1 rfl) ?_
              refine lv_iload_n hx hb dX5_isNought_65 rfl (lv_at hl 2 rfl) ?_
              refine lv_iload hx hb dX5_isNought_66 (lv_at hl 3 rfl) ?_
              obtain ⟨r3, e4, h⟩ := pb h
              refine mu_V (As := [.int a0, .int a1, .int x4_21]) (rest := []) hF (fun _ h => wl_in h) (cnX5_isGoing l G h0 hs hr cI cF tr sz rw bx by_ bz bm so hap e4) syX5_isGoing w_423 ⟨Nat.le_of_ble_eq_true rfl, Nat.le_of_ble_eq_true rfl⟩ mB_mv mB_mv ⟨⟨_, _, hP⟩, hK⟩ (va_recv hK hP (ci := 3) (q0 := 0) rfl rfl) hS (fun _ h => h) rfl hl.1 rfl (Nat.le_of_ble_eq_true rfl) dX5_isNought_68 ⟨Nat.zero_le _, Nat.zero_le _⟩ (fun H locs hB1 _ _ hS => ?_)
              obtain ⟨⟨th5, ex6, hP⟩, _⟩ := hB1
              refine W.eq (g2 := F0 m 71 ls [.int r3]) rfl ?_
              refine lv_istore_n (lv' := [(3, .int r3), (0, .ref h0), (1, .int a0), (2, .int a1), (4, .int x4_21)]) hx hb dX5_isNought_71 rfl hl (by decide) rfl (fun ls hl => ?_)
              refine lv_iinc (v := x4_21 + (1 : Int32)) (lv' := [(4, .int (x4_21 + (1 : Int32))), (3, .int r3), (0, .ref h0), (1, .int a0), (2, .int a1)]) hx hb dX5_isNought_72 hl (k := 4) rfl rfl (by decide) rfl (fun ls hl => ?_)
              refine lv_goto (tgt := 21) hx hb dX5_isNought_75 (by decide) ?_
              exact ih21 _ _ h _ _ _ _ hP hS _ (lv_sub hl [2, 3, 4, 1, 0] rfl)
            refine lv_if_eq (tgt := 63) hx hb dX5_isNought_35 (by decide) (fun c35 => ?_) (fun c35 => ?_)
            · have h := pt c35 h
              exact J63 h _ _ _ _ hP hS _ (lv_sub hl [0, 1, 2, 4] rfl)
            · have h := pf c35 h
              refine lv_iload hx hb dX5_isNought_38 (lv_at hl 4 rfl) ?_
              refine lv_iconst (v := (2 : Int32)) hx hb dX5_isNought_40 (by decide) ?_
              refine lv_icmp_eq (tgt := 63) hx hb dX5_isNought_41 (by decide) (fun c41 => ?_) (fun c41 => ?_)
              · have h := pt c41 h
                exact J63 h _ _ _ _ hP hS _ (lv_sub hl [0, 1, 2, 4] rfl)
              · have h := pf c41 h
                refine lv_aload_n hx hb dX5_isNought_44 rfl (lv_at hl 0 rfl) ?_
                refine lv_iload_n hx hb dX5_isNought_45 rfl (lv_at hl 1 rfl) ?_
                refine lv_iload_n hx hb dX5_isNought_46 rfl (lv_at hl 2 rfl) ?_
                refine lv_iload hx hb dX5_isNought_47 (lv_at hl 4 rfl) ?_
                obtain ⟨r7, e8, h⟩ := pb h
                refine ro_V (As := [.int a0, .int a1, .int x4_21]) (rest := []) hF (fun _ h => wl_in h) (cnX5_isOf l G h0 hs hr cI cF tr sz rw bx by_ bz bm so e8) syX5_isOf w_447 ⟨Nat.le_of_ble_eq_true rfl, Nat.le_of_ble_eq_true rfl⟩ mB_mv ⟨⟨_, _, hP⟩, hK⟩ (va_recv hK hP (ci := 3) (q0 := 0) rfl rfl) rfl hl.1 rfl (Nat.le_of_ble_eq_true rfl) dX5_isNought_49 ⟨Nat.zero_le _, Nat.zero_le _⟩ ?_
                refine lv_if_eq (tgt := 72) hx hb dX5_isNought_52 (by decide) (fun c52 => ?_) (fun c52 => ?_)
                · have h := pt c52 h
                  refine lv_iinc (v := x4_21 + (1 : Int32)) (lv' := [(4, .int (x4_21 + (1 : Int32))), (0, .ref h0), (1, .int a0), (2, .int a1), (3, .int x3_21)]) hx hb dX5_isNought_72 hl (k := 4) rfl rfl (by decide) rfl (fun ls hl => ?_)
                  refine lv_goto (tgt := 21) hx hb dX5_isNought_75 (by decide) ?_
                  exact ih21 _ _ h _ _ _ _ hP hS _ (lv_sub hl [1, 2, 3, 4, 0] rfl)
                · have h := pf c52 h
                  refine lv_iload hx hb dX5_isNought_55 (lv_at hl 4 rfl) ?_
                  obtain ⟨r9, e10, h⟩ := pb h
                  refine ro_S (As := [.int x4_21]) (rest := []) hF (fun _ h => wl_in h) (cnX5_isPrime l e10) syX5_isPrime w_364 ⟨Nat.le_of_ble_eq_true rfl, Nat.le_of_ble_eq_true rfl⟩ mv0 trivial rfl hl.1 rfl (Nat.le_of_ble_eq_true rfl) dX5_isNought_57 ⟨Nat.zero_le _, Nat.zero_le _⟩ ?_
                  refine lv_if_eq (tgt := 72) hx hb dX5_isNought_60 (by decide) (fun c60 => ?_) (fun c60 => ?_)
                  · have h := pt c60 h
                    refine lv_iinc (v := x4_21 + (1 : Int32)) (lv' := [(4, .int (x4_21 + (1 : Int32))), (0, .ref h0), (1, .int a0), (2, .int a1), (3, .int x3_21)]) hx hb dX5_isNought_72 hl (k := 4) rfl rfl (by decide) rfl (fun ls hl => ?_)
                    refine lv_goto (tgt := 21) hx hb dX5_isNought_75 (by decide) ?_
                    exact ih21 _ _ h _ _ _ _ hP hS _ (lv_sub hl [1, 2, 3, 4, 0] rfl)
                  · have h := pf c60 h
                    exact J63 h _ _ _ _ hP hS _ (lv_sub hl [0, 1, 2, 4] rfl)
    exact J21 _ _ _ h _ _ _ _ hP hS _ (lv_sub hl [2, 3, 4, 1, 0] rfl)
  · have h := pt c2 h
    refine lv_aload_n hx hb dX5_isNought_5 rfl (lv_at hl 0 rfl) ?_
    refine lv_iload_n hx hb dX5_isNought_6 rfl (lv_at hl 1 rfl) ?_
    refine lv_iconst (v := (2 : Int32)) hx hb dX5_isNought_7 (by decide) ?_
    obtain ⟨r11, e12, h⟩ := pb h
    refine ro_V (As := [.int a0, .int (2 : Int32)]) (rest := []) hF (fun _ h => wl_in h) (cnX5_productOf l G h0 hs hr cI cF tr sz rw bx by_ bz bm so e12) syX5_productOf w_403 ⟨Nat.le_of_ble_eq_true rfl, Nat.le_of_ble_eq_true rfl⟩ mB_mv ⟨⟨_, _, hP⟩, hK⟩ (va_recv hK hP (ci := 3) (q0 := 0) rfl rfl) rfl hl.1 rfl (Nat.le_of_ble_eq_true rfl) dX5_isNought_8 ⟨Nat.zero_le _, Nat.zero_le _⟩ ?_
    refine lv_lneg hx hb dX5_isNought_11 ?_
    obtain ⟨r13, e14, h⟩ := pb h
    refine ro_S (As := [.long (-r11)]) (rest := []) hF (fun _ h => wl_in h) (cnX5_isWholeSquare l e14) syX5_isWholeSquare w_444 ⟨Nat.le_of_ble_eq_true rfl, Nat.le_of_ble_eq_true rfl⟩ mv0 trivial rfl hl.1 rfl (Nat.le_of_ble_eq_true rfl) dX5_isNought_12 ⟨Nat.zero_le _, Nat.zero_le _⟩ ?_
    obtain ⟨g15, h⟩ := pg h
    exact END _ _ 15 ls s _ (pe h) (nbool g15) dX5_isNought_15 rfl ⟨⟨_, _, hP⟩, hK⟩ hS

theorem syX5_barOf : Vy yX5_barOf cX5_barOf 5 (some .int) 2 := ⟨w_458, ⟨w_457, w_s12⟩, w_4, by decide +kernel⟩
set_option maxHeartbeats 4000000 in
set_option maxRecDepth 100000 in
theorem cnX5_barOf (l : Launch) (G : va_G) (h0 hs hr : Nat) (cI cF : ClassId) (tr : Int64) (sz rw : Nat → Int32) (bx by_ bz bm so : Int32) (hap : mAp h0 hs hr) {a0 : Int32} {a1 : Int32} {r : Int32} (h : fX5_barOf sz rw a0 a1 = some r) : Mu l yX5_barOf cX5_barOf 5 (some .int) 4 113 [.ref h0, .int a0, .int a1] (mA h0 hs hr) (mB G h0 hs hr cI cF tr sz rw bx by_ bz bm so) (mB G h0 hs hr cI cF tr sz rw bx by_ bz bm so) (some (.int r)) := by
  refine mu_i (plainFor_of_name (by decide)) (Nat.le_of_ble_eq_true rfl) (by first | exact mB_mv | exact mBe_mv) ?_
  intro p e s m args below meth cd Q ls hF hB hl END
  have hF : CallFix p m cd cX5_barOf 5 s args (wl yX5_barOf cX5_barOf 5 (some .int)) RX5 := hF
  obtain ⟨hx, hb, hml, hown, hts⟩ := id hF
  have hl : lv_has ls 5 [(0, .ref h0), (1, .int a0), (2, .int a1)] := hl
  obtain ⟨⟨th, ex, hP⟩, hK⟩ := hB
  have hS : va_S (mA h0 hs hr) s.heap s.heap [] := va_S.rf
  rw [fX5_barOf] at h
  refine lv_iconst (v := (0 : Int32)) hx hb dX5_barOf_0 (by decide) ?_
  refine lv_istore_n (lv' := [(3, .int (0 : Int32)), (0, .ref h0), (1, .int a0), (2, .int a1)]) hx hb dX5_barOf_1 rfl hl (by decide) rfl (fun ls hl => ?_)
  refine lv_iconst (v := (0 : Int32)) hx hb dX5_barOf_2 (by decide) ?_
  refine lv_istore (lv' := [(4, .int (0 : Int32)), (3, .int (0 : Int32)), (0, .ref h0), (1, .int a0), (2, .int a1)]) hx hb dX5_barOf_3 hl (by decide) rfl (fun ls hl => ?_)
  have J5 : ∀ (n5 : Nat) (x3_5 : Int32) (x4_5 : Int32), kX5_barOf_5 sz rw a0 a1 n5 x3_5 x4_5 = some r → ∀ (H : Heap) (locs : List Loc) (th_5 : Int32) (ex_5 : Int32), va_P G vwCl (mW h0 hs hr cI th_5 tr sz rw bx by_ bz bm so ex_5) H → va_S (mA h0 hs hr) s.heap H locs → ∀ (ls : Array Slot), lv_has ls 5 [(0, .ref h0), (1, .int a0), (2, .int a1), (3, .int x3_5), (4, .int x4_5)] → W p l e (rmk 4 113) s m args below meth cd H locs 0 0 Q (F0 m 5 ls []) := by
    intro n5
    induction n5 with
    | zero =>
      intro x3_5 x4_5 h
      rw [kX5_barOf_5] at h
      cases h
    | succ n5 ih5 =>
      intro x3_5 x4_5 h H locs th_5 ex_5 hP hS ls hl
      rw [kX5_barOf_5] at h
      refine lv_iload hx hb dX5_barOf_5 (lv_at hl 4 rfl) ?_
      refine lv_sipush (v := (398 : Int32)) hx hb dX5_barOf_7 (by decide) ?_
      refine lv_icmp_ge (tgt := 81) hx hb dX5_barOf_10 (by decide) (fun c10 => ?_) (fun c10 => ?_)
      · have h := pt c10 h
        refine lv_bipush (v := (-10 : Int32)) hx hb dX5_barOf_81 (by decide) ?_
        refine lv_iload_n hx hb dX5_barOf_83 rfl (lv_at hl 3 rfl) ?_
        refine lv_isub hx hb dX5_barOf_84 ?_
        exact END _ _ 85 ls s _ (pe h) dX5_barOf_85 rfl ⟨⟨_, _, hP⟩, hK⟩ hS
      · have h := pf c10 h
        refine lv_iload hx hb dX5_barOf_13 (lv_at hl 4 rfl) ?_
        have J48 : kX5_barOf_48 sz rw a0 a1 x3_5 x4_5 (kX5_barOf_5 sz rw a0 a1 n5) = some r → ∀ (H : Heap) (locs : List Loc) (th_48 : Int32) (ex_48 : Int32), va_P G vwCl (mW h0 hs hr cI th_48 tr sz rw bx by_ bz bm so ex_48) H → va_S (mA h0 hs hr) s.heap H locs → ∀ (ls : Array Slot), lv_has ls 5 [(0, .ref h0), (1, .int a0), (2, .int a1), (3, .int x3_5), (4, .int x4_5)] → W p l e (rmk 4 113) s m args below meth cd H locs 0 0 Q (F0 m 48 ls []) := by
          intro h H locs th_48 ex_48 hP hS ls hl
          rw [kX5_barOf_48] at h
          refine lv_aload_n hx hb dX5_barOf_48 rfl (lv_at hl 0 rfl) ?_
          refine lv_iload_n hx hb dX5_barOf_49 rfl (lv_at hl 1 rfl) ?_
          refine lv_aload_n hx hb dX5_barOf_50 rfl (lv_at hl 0 rfl) ?_
          refine va_get (D := G) (ci := 3) (v := .ref hs) (C := RX5) (T := TX5) (N := 10) hx hb hts (fun w h => wl_in (inX5 w h)) hown hK hP 0 rfl rfl 2 (by decide) (hts _ (wl_in w_315)) (fun _ h9 => h9) rfl dX5_barOf_51 ?_
          refine lv_iload_n hx hb dX5_barOf_54 rfl (lv_at hl 1 rfl) ?_
          obtain ⟨g1, h⟩ := pg h
          refine va_iald hx hb hK hP 1 0 rfl rfl g1 dX5_barOf_55 ?_
          refine lv_iload hx hb dX5_barOf_56 (lv_at hl 4 rfl) ?_
          obtain ⟨r2, e3, h⟩ := pb h
          refine mu_V (As := [.int a0, .int (sz a0.toNatClampNeg), .int x4_5]) (rest := []) hF (fun _ h => wl_in h) (cnX5_isGoing l G h0 hs hr cI cF tr sz rw bx by_ bz bm so hap e3) syX5_isGoing w_423 ⟨Nat.le_of_ble_eq_true rfl, Nat.le_of_ble_eq_true rfl⟩ mB_mv mB_mv ⟨⟨_, _, hP⟩, hK⟩ (va_recv hK hP (ci := 3) (q0 := 0) rfl rfl) hS (fun _ h => h) rfl hl.1 rfl (Nat.le_of_ble_eq_true rfl) dX5_barOf_58 ⟨Nat.zero_le _, Nat.zero_le _⟩ (fun H locs hB1 _ _ hS => ?_)
          obtain ⟨⟨th4, ex5, hP⟩, _⟩ := hB1
          refine W.eq (g2 := F0 m 61 ls [.int r2]) rfl ?_
          refine lv_if_ne (tgt := 75) hx hb dX5_barOf_61 (by decide) (fun c61 => ?_) (fun c61 => ?_)
          · have h := pf c61 h
            refine lv_iinc (v := x4_5 + (1 : Int32)) (lv' := [(4, .int (x4_5 + (1 : Int32))), (0, .ref h0), (1, .int a0), (2, .int a1), (3, .int x3_5)]) hx hb dX5_barOf_75 hl (k := 4) rfl rfl (by decide) rfl (fun ls hl => ?_)
            refine lv_goto (tgt := 5) hx hb dX5_barOf_78 (by decide) ?_
            exact ih5 _ _ h _ _ _ _ hP hS _ (lv_sub hl [1, 2, 3, 4, 0] rfl)
          · have h := pt c61 h
            refine lv_iload_n hx hb dX5_barOf_64 rfl (lv_at hl 3 rfl) ?_
            refine lv_iload_n hx hb dX5_barOf_65 rfl (lv_at hl 2 rfl) ?_
            refine lv_icmp_ne (tgt := 72) hx hb dX5_barOf_66 (by decide) (fun c66 => ?_) (fun c66 => ?_)
            · have h := pf c66 h
              refine lv_iinc (v := x3_5 + (1 : Int32)) (lv' := [(3, .int (x3_5 + (1 : Int32))), (0, .ref h0), (1, .int a0), (2, .int a1), (4, .int x4_5)]) hx hb dX5_barOf_72 hl (k := 3) rfl rfl (by decide) rfl (fun ls hl => ?_)
              refine lv_iinc (v := x4_5 + (1 : Int32)) (lv' := [(4, .int (x4_5 + (1 : Int32))), (3, .int (x3_5 + (1 : Int32))), (0, .ref h0), (1, .int a0), (2, .int a1)]) hx hb dX5_barOf_75 hl (k := 4) rfl rfl (by decide) rfl (fun ls hl => ?_)
              refine lv_goto (tgt := 5) hx hb dX5_barOf_78 (by decide) ?_
              exact ih5 _ _ h _ _ _ _ hP hS _ (lv_sub hl [2, 3, 4, 1, 0] rfl)
            · have h := pt c66 h
              refine lv_iload hx hb dX5_barOf_69 (lv_at hl 4 rfl) ?_
              exact END _ _ 71 ls s _ (pe h) dX5_barOf_71 rfl ⟨⟨_, _, hP⟩, hK⟩ hS
        refine lv_if_eq (tgt := 48) hx hb dX5_barOf_15 (by decide) (fun c15 => ?_) (fun c15 => ?_)
        · have h := pt c15 h
          exact J48 h _ _ _ _ hP hS _ hl
        · have h := pf c15 h
          refine lv_iload hx hb dX5_barOf_18 (lv_at hl 4 rfl) ?_
          refine lv_iconst (v := (2 : Int32)) hx hb dX5_barOf_20 (by decide) ?_
          refine lv_icmp_eq (tgt := 48) hx hb dX5_barOf_21 (by decide) (fun c21 => ?_) (fun c21 => ?_)
          · have h := pt c21 h
            exact J48 h _ _ _ _ hP hS _ hl
          · have h := pf c21 h
            refine lv_aload_n hx hb dX5_barOf_24 rfl (lv_at hl 0 rfl) ?_
            refine lv_iload_n hx hb dX5_barOf_25 rfl (lv_at hl 1 rfl) ?_
            refine lv_aload_n hx hb dX5_barOf_26 rfl (lv_at hl 0 rfl) ?_
            refine va_get (D := G) (ci := 3) (v := .ref hs) (C := RX5) (T := TX5) (N := 10) hx hb hts (fun w h => wl_in (inX5 w h)) hown hK hP 0 rfl rfl 2 (by decide) (hts _ (wl_in w_315)) (fun _ h9 => h9) rfl dX5_barOf_27 ?_
            refine lv_iload_n hx hb dX5_barOf_30 rfl (lv_at hl 1 rfl) ?_
            obtain ⟨g6, h⟩ := pg h
            refine va_iald hx hb hK hP 1 0 rfl rfl g6 dX5_barOf_31 ?_
            refine lv_iload hx hb dX5_barOf_32 (lv_at hl 4 rfl) ?_
            obtain ⟨r7, e8, h⟩ := pb h
            refine ro_V (As := [.int a0, .int (sz a0.toNatClampNeg), .int x4_5]) (rest := []) hF (fun _ h => wl_in h) (cnX5_isOf l G h0 hs hr cI cF tr sz rw bx by_ bz bm so e8) syX5_isOf w_447 ⟨Nat.le_of_ble_eq_true rfl, Nat.le_of_ble_eq_true rfl⟩ mB_mv ⟨⟨_, _, hP⟩, hK⟩ (va_recv hK hP (ci := 3) (q0 := 0) rfl rfl) rfl hl.1 rfl (Nat.le_of_ble_eq_true rfl) dX5_barOf_34 ⟨Nat.zero_le _, Nat.zero_le _⟩ ?_
            refine lv_if_eq (tgt := 75) hx hb dX5_barOf_37 (by decide) (fun c37 => ?_) (fun c37 => ?_)
            · have h := pt c37 h
              refine lv_iinc (v := x4_5 + (1 : Int32)) (lv' := [(4, .int (x4_5 + (1 : Int32))), (0, .ref h0), (1, .int a0), (2, .int a1), (3, .int x3_5)]) hx hb dX5_barOf_75 hl (k := 4) rfl rfl (by decide) rfl (fun ls hl => ?_)
              refine lv_goto (tgt := 5) hx hb dX5_barOf_78 (by decide) ?_
              exact ih5 _ _ h _ _ _ _ hP hS _ (lv_sub hl [1, 2, 3, 4, 0] rfl)
            · have h := pf c37 h
              refine lv_iload hx hb dX5_barOf_40 (lv_at hl 4 rfl) ?_
              obtain ⟨r9, e10, h⟩ := pb h
              refine ro_S (As := [.int x4_5]) (rest := []) hF (fun _ h => wl_in h) (cnX5_isPrime l e10) syX5_isPrime w_364 ⟨Nat.le_of_ble_eq_true rfl, Nat.le_of_ble_eq_true rfl⟩ mv0 trivial rfl hl.1 rfl (Nat.le_of_ble_eq_true rfl) dX5_barOf_42 ⟨Nat.zero_le _, Nat.zero_le _⟩ ?_
              refine lv_if_eq (tgt := 75) hx hb dX5_barOf_45 (by decide) (fun c45 => ?_) (fun c45 => ?_)
              · have h := pt c45 h
                refine lv_iinc (v := x4_5 + (1 : Int32)) (lv' := [(4, .int (x4_5 + (1 : Int32))), (0, .ref h0), (1, .int a0), (2, .int a1), (3, .int x3_5)]) hx hb dX5_barOf_75 hl (k := 4) rfl rfl (by decide) rfl (fun ls hl => ?_)
                refine lv_goto (tgt := 5) hx hb dX5_barOf_78 (by decide) ?_
                exact ih5 _ _ h _ _ _ _ hP hS _ (lv_sub hl [1, 2, 3, 4, 0] rfl)
              · have h := pf c45 h
                exact J48 h _ _ _ _ hP hS _ hl
  exact J5 _ _ _ h _ _ _ _ hP hS _ (lv_sub hl [2, 3, 4, 1, 0] rfl)

theorem syX5_seeks : Vy yX5_seeks cX5_seeks 7 none 2 := ⟨w_510, ⟨w_509, w_s15⟩, w_4, by decide +kernel⟩
set_option maxHeartbeats 4000000 in
set_option maxRecDepth 100000 in
theorem cnX5_seeks (l : Launch) (G : va_G) (h0 hs hr : Nat) (cI cF : ClassId) (tr : Int64) (sz rw : Nat → Int32) (bx by_ bz bm so : Int32) (hap : mAp h0 hs hr) {a0 : Int32} {a1 : Int32}  {bx_r : Int32} {by__r : Int32} {bz_r : Int32} {bm_r : Int32} {so_r : Int32} (h : fX5_seeks sz rw bx by_ bz bm so a0 a1 = some (bx_r, by__r, bz_r, bm_r, so_r)) : Mu l yX5_seeks cX5_seeks 7 none 2 53 [.ref h0, .int a0, .int a1] (mA h0 hs hr) (mB G h0 hs hr cI cF tr sz rw bx by_ bz bm so) (mB G h0 hs hr cI cF tr sz rw bx_r by__r bz_r bm_r so_r) none := by
  refine mu_v (plainFor_of_name (by decide)) (Nat.le_of_ble_eq_true rfl) (by first | exact mB_mv | exact mBe_mv) ?_
  intro p e s m args below meth cd Q ls hF hB hl END
  have hF : CallFix p m cd cX5_seeks 7 s args (wl yX5_seeks cX5_seeks 7 none) RX5 := hF
  obtain ⟨hx, hb, hml, hown, hts⟩ := id hF
  have hl : lv_has ls 7 [(0, .ref h0), (1, .int a0), (2, .int a1)] := hl
  obtain ⟨⟨th, ex, hP⟩, hK⟩ := hB
  have hS : va_S (mA h0 hs hr) s.heap s.heap [] := va_S.rf
  rw [fX5_seeks] at h
  refine lv_aload_n hx hb dX5_seeks_0 rfl (lv_at hl 0 rfl) ?_
  refine lv_iconst (v := (0 : Int32)) hx hb dX5_seeks_1 (by decide) ?_
  refine va_put (D := G) (ci := 3) (v := .int (0 : Int32)) (ty := .int) (C := RX5) (T := TX5) (N := 10) hx hb hts (fun w h => wl_in (inX5 w h)) tyX5 tyX5_ok nmX5 hown hK hP (mD hap) hS 0 rfl rfl 8 (by decide) (hts _ (wl_in w_321)) (fun _ h9 => h9) rfl (by decide +kernel) rfl rfl (Nat.le_of_ble_eq_true rfl) dX5_seeks_2 (fun H locs hP _ hS => ?_)
  have hP : va_P G vwCl (mW h0 hs hr cI th tr sz rw bx by_ bz bm (0 : Int32) ex) H := hP
  refine lv_iconst (v := (0 : Int32)) hx hb dX5_seeks_5 (by decide) ?_
  refine lv_istore_n (lv' := [(3, .int (0 : Int32)), (0, .ref h0), (1, .int a0), (2, .int a1)]) hx hb dX5_seeks_6 rfl hl (by decide) rfl (fun ls hl => ?_)
  have J7 : ∀ (n7 : Nat) (x3_7 : Int32) (bx_7 : Int32) (by__7 : Int32) (bz_7 : Int32) (bm_7 : Int32) (so_7 : Int32), kX5_seeks_7 sz rw a0 a1 n7 x3_7 bx_7 by__7 bz_7 bm_7 so_7 = some (bx_r, by__r, bz_r, bm_r, so_r) → ∀ (H : Heap) (locs : List Loc) (th_7 : Int32) (ex_7 : Int32), va_P G vwCl (mW h0 hs hr cI th_7 tr sz rw bx_7 by__7 bz_7 bm_7 so_7 ex_7) H → va_S (mA h0 hs hr) s.heap H locs → ∀ (ls : Array Slot), lv_has ls 7 [(0, .ref h0), (1, .int a0), (2, .int a1), (3, .int x3_7)] → W p l e (rmk 2 53) s m args below meth cd H locs 0 0 Q (F0 m 7 ls []) := by
    intro n7
    induction n7 with
    | zero =>
      intro x3_7 bx_7 by__7 bz_7 bm_7 so_7 h
      rw [kX5_seeks_7] at h
      cases h
    | succ n7 ih7 =>
      intro x3_7 bx_7 by__7 bz_7 bm_7 so_7 h H locs th_7 ex_7 hP hS ls hl
      rw [kX5_seeks_7] at h
      refine lv_iload_n hx hb dX5_seeks_7 rfl (lv_at hl 3 rfl) ?_
      refine lv_bipush (v := (30 : Int32)) hx hb dX5_seeks_8 (by decide) ?_
      refine lv_icmp_gt (tgt := 126) hx hb dX5_seeks_10 (by decide) (fun c10 => ?_) (fun c10 => ?_)
      · have h := pt c10 h
        have hh := pe h
        simp only [Prod.mk.injEq] at hh
        obtain ⟨z0, z1, z2, z3, z4⟩ := hh
        subst z0
        subst z1
        subst z2
        subst z3
        subst z4
        exact END _ _ 126 ls s dX5_seeks_126 rfl ⟨⟨_, _, hP⟩, hK⟩ hS
      · have h := pf c10 h
        refine lv_bipush (v := (-30 : Int32)) hx hb dX5_seeks_13 (by decide) ?_
        refine lv_istore (lv' := [(4, .int (-30 : Int32)), (0, .ref h0), (1, .int a0), (2, .int a1), (3, .int x3_7)]) hx hb dX5_seeks_15 hl (by decide) rfl (fun ls hl => ?_)
        have J17 : ∀ (n17 : Nat) (x4_17 : Int32) (bx_17 : Int32) (by__17 : Int32) (bz_17 : Int32) (bm_17 : Int32) (so_17 : Int32), kX5_seeks_17 sz rw a0 a1 x3_7 (kX5_seeks_7 sz rw a0 a1 n7) n17 x4_17 bx_17 by__17 bz_17 bm_17 so_17 = some (bx_r, by__r, bz_r, bm_r, so_r) → ∀ (H : Heap) (locs : List Loc) (th_17 : Int32) (ex_17 : Int32), va_P G vwCl (mW h0 hs hr cI th_17 tr sz rw bx_17 by__17 bz_17 bm_17 so_17 ex_17) H → va_S (mA h0 hs hr) s.heap H locs → ∀ (ls : Array Slot), lv_has ls 7 [(0, .ref h0), (1, .int a0), (2, .int a1), (3, .int x3_7), (4, .int x4_17)] → W p l e (rmk 2 53) s m args below meth cd H locs 0 0 Q (F0 m 17 ls []) := by
          intro n17
          induction n17 with
          | zero =>
            intro x4_17 bx_17 by__17 bz_17 bm_17 so_17 h
            rw [kX5_seeks_17] at h
            cases h
          | succ n17 ih17 =>
            intro x4_17 bx_17 by__17 bz_17 bm_17 so_17 h H locs th_17 ex_17 hP hS ls hl
            rw [kX5_seeks_17] at h
            refine lv_iload hx hb dX5_seeks_17 (lv_at hl 4 rfl) ?_
            refine lv_bipush (v := (30 : Int32)) hx hb dX5_seeks_19 (by decide) ?_
            refine lv_icmp_gt (tgt := 120) hx hb dX5_seeks_21 (by decide) (fun c21 => ?_) (fun c21 => ?_)
            · have h := pt c21 h
              refine lv_iinc (v := x3_7 + (1 : Int32)) (lv' := [(3, .int (x3_7 + (1 : Int32))), (0, .ref h0), (1, .int a0), (2, .int a1), (4, .int x4_17)]) hx hb dX5_seeks_120 hl (k := 3) rfl rfl (by decide) rfl (fun ls hl => ?_)
              refine lv_goto (tgt := 7) hx hb dX5_seeks_123 (by decide) ?_
              exact ih7 _ _ _ _ _ _ h _ _ _ _ hP hS _ (lv_sub hl [1, 2, 3, 0] rfl)
            · have h := pf c21 h
              refine lv_bipush (v := (-30 : Int32)) hx hb dX5_seeks_24 (by decide) ?_
              refine lv_istore (lv' := [(5, .int (-30 : Int32)), (0, .ref h0), (1, .int a0), (2, .int a1), (3, .int x3_7), (4, .int x4_17)]) hx hb dX5_seeks_26 hl (by decide) rfl (fun ls hl => ?_)
              have J28 : ∀ (n28 : Nat) (x5_28 : Int32) (bx_28 : Int32) (by__28 : Int32) (bz_28 : Int32) (bm_28 : Int32) (so_28 : Int32), kX5_seeks_28 sz rw a0 a1 x3_7 x4_17 (kX5_seeks_17 sz rw a0 a1 x3_7 (kX5_seeks_7 sz rw a0 a1 n7) n17) n28 x5_28 bx_28 by__28 bz_28 bm_28 so_28 = some (bx_r, by__r, bz_r, bm_r, so_r) → ∀ (H : Heap) (locs : List Loc) (th_28 : Int32) (ex_28 : Int32), va_P G vwCl (mW h0 hs hr cI th_28 tr sz rw bx_28 by__28 bz_28 bm_28 so_28 ex_28) H → va_S (mA h0 hs hr) s.heap H locs → ∀ (ls : Array Slot), lv_has ls 7 [(0, .ref h0), (1, .int a0), (2, .int a1), (3, .int x3_7), (4, .int x4_17), (5, .int x5_28)] → W p l e (rmk 2 53) s m args below meth cd H locs 0 0 Q (F0 m 28 ls []) := by
                intro n28
                induction n28 with
                | zero =>
                  intro x5_28 bx_28 by__28 bz_28 bm_28 so_28 h
                  rw [kX5_seeks_28] at h
                  cases h
                | succ n28 ih28 =>
                  intro x5_28 bx_28 by__28 bz_28 bm_28 so_28 h H locs th_28 ex_28 hP hS ls hl
                  rw [kX5_seeks_28] at h
                  refine lv_iload hx hb dX5_seeks_28 (lv_at hl 5 rfl) ?_
                  refine lv_bipush (v := (30 : Int32)) hx hb dX5_seeks_30 (by decide) ?_
                  refine lv_icmp_gt (tgt := 114) hx hb dX5_seeks_32 (by decide) (fun c32 => ?_) (fun c32 => ?_)
                  · have h := pt c32 h
                    refine lv_iinc (v := x4_17 + (1 : Int32)) (lv' := [(4, .int (x4_17 + (1 : Int32))), (0, .ref h0), (1, .int a0), (2, .int a1), (3, .int x3_7), (5, .int x5_28)]) hx hb dX5_seeks_114 hl (k := 4) rfl rfl (by decide) rfl (fun ls hl => ?_)
                    refine lv_goto (tgt := 17) hx hb dX5_seeks_117 (by decide) ?_
                    exact ih17 _ _ _ _ _ _ h _ _ _ _ hP hS _ (lv_sub hl [1, 2, 3, 4, 0] rfl)
                  · have h := pf c32 h
                    refine lv_aload_n hx hb dX5_seeks_35 rfl (lv_at hl 0 rfl) ?_
                    refine lv_iload_n hx hb dX5_seeks_36 rfl (lv_at hl 1 rfl) ?_
                    refine lv_iload_n hx hb dX5_seeks_37 rfl (lv_at hl 3 rfl) ?_
                    refine lv_iload hx hb dX5_seeks_38 (lv_at hl 4 rfl) ?_
                    refine lv_iload hx hb dX5_seeks_40 (lv_at hl 5 rfl) ?_
                    obtain ⟨r1, e2, h⟩ := pb h
                    refine ro_V (As := [.int a0, .int x3_7, .int x4_17, .int x5_28]) (rest := []) hF (fun _ h => wl_in h) (cnX5_isSolution l G h0 hs hr cI cF tr sz rw bx_28 by__28 bz_28 bm_28 so_28 e2) syX5_isSolution w_511 ⟨Nat.le_of_ble_eq_true rfl, Nat.le_of_ble_eq_true rfl⟩ mB_mv ⟨⟨_, _, hP⟩, hK⟩ (va_recv hK hP (ci := 3) (q0 := 0) rfl rfl) rfl hl.1 rfl (Nat.le_of_ble_eq_true rfl) dX5_seeks_42 ⟨Nat.zero_le _, Nat.zero_le _⟩ ?_
                    refine lv_if_eq (tgt := 108) hx hb dX5_seeks_45 (by decide) (fun c45 => ?_) (fun c45 => ?_)
                    · have h := pt c45 h
                      refine lv_iinc (v := x5_28 + (1 : Int32)) (lv' := [(5, .int (x5_28 + (1 : Int32))), (0, .ref h0), (1, .int a0), (2, .int a1), (3, .int x3_7), (4, .int x4_17)]) hx hb dX5_seeks_108 hl (k := 5) rfl rfl (by decide) rfl (fun ls hl => ?_)
                      refine lv_goto (tgt := 28) hx hb dX5_seeks_111 (by decide) ?_
                      exact ih28 _ _ _ _ _ _ h _ _ _ _ hP hS _ (lv_sub hl [1, 2, 3, 4, 5, 0] rfl)
                    · have h := pf c45 h
                      refine lv_iload_n hx hb dX5_seeks_48 rfl (lv_at hl 2 rfl) ?_
                      refine lv_iload_n hx hb dX5_seeks_49 rfl (lv_at hl 3 rfl) ?_
                      refine lv_iload hx hb dX5_seeks_50 (lv_at hl 4 rfl) ?_
                      refine lv_iload hx hb dX5_seeks_52 (lv_at hl 5 rfl) ?_
                      obtain ⟨r3, e4, h⟩ := pb h
                      refine ro_S (As := [.int a1, .int x3_7, .int x4_17, .int x5_28]) (rest := []) hF (fun _ h => wl_in h) (cnX5_measureOf l e4) syX5_measureOf w_497 ⟨Nat.le_of_ble_eq_true rfl, Nat.le_of_ble_eq_true rfl⟩ mv0 trivial rfl hl.1 rfl (Nat.le_of_ble_eq_true rfl) dX5_seeks_54 ⟨Nat.zero_le _, Nat.zero_le _⟩ ?_
                      refine lv_istore (lv' := [(6, .int r3), (0, .ref h0), (1, .int a0), (2, .int a1), (3, .int x3_7), (4, .int x4_17), (5, .int x5_28)]) hx hb dX5_seeks_57 hl (by decide) rfl (fun ls hl => ?_)
                      refine lv_aload_n hx hb dX5_seeks_59 rfl (lv_at hl 1 rfl) ?_
                      refine va_get (D := G) (ci := 3) (v := .int so_28) (C := RX5) (T := TX5) (N := 10) hx hb hts (fun w h => wl_in (inX5 w h)) hown hK hP 0 rfl rfl 8 (by decide) (hts _ (wl_in w_321)) (fun _ h9 => h9) rfl dX5_seeks_60 ?_
                      have J98 : ∀ (bx_98 : Int32) (by__98 : Int32) (bz_98 : Int32) (bm_98 : Int32) (so_98 : Int32), kX5_seeks_98 x5_28 (kX5_seeks_28 sz rw a0 a1 x3_7 x4_17 (kX5_seeks_17 sz rw a0 a1 x3_7 (kX5_seeks_7 sz rw a0 a1 n7) n17) n28) bx_98 by__98 bz_98 bm_98 so_98 = some (bx_r, by__r, bz_r, bm_r, so_r) → ∀ (H : Heap) (locs : List Loc) (th_98 : Int32) (ex_98 : Int32), va_P G vwCl (mW h0 hs hr cI th_98 tr sz rw bx_98 by__98 bz_98 bm_98 so_98 ex_98) H → va_S (mA h0 hs hr) s.heap H locs → ∀ (ls : Array Slot), lv_has ls 7 [(0, .ref h0), (1, .int a0), (2, .int a1), (3, .int x3_7), (4, .int x4_17), (5, .int x5_28)] → W p l e (rmk 2 53) s m args below meth cd H locs 0 0 Q (F0 m 98 ls []) := by
                        intro bx_98 by__98 bz_98 bm_98 so_98 h H locs th_98 ex_98 hP hS ls hl
                        rw [kX5_seeks_98] at h
                        refine lv_aload_n hx hb dX5_seeks_98 rfl (lv_at hl 0 rfl) ?_
                        refine lv_dup hx hb dX5_seeks_99 rfl ?_
                        refine va_get (D := G) (ci := 3) (v := .int so_98) (C := RX5) (T := TX5) (N := 10) hx hb hts (fun w h => wl_in (inX5 w h)) hown hK hP 0 rfl rfl 8 (by decide) (hts _ (wl_in w_321)) (fun _ h9 => h9) rfl dX5_seeks_100 ?_
                        refine lv_iconst (v := (1 : Int32)) hx hb dX5_seeks_103 (by decide) ?_
                        refine lv_iadd hx hb dX5_seeks_104 ?_
                        refine va_put (D := G) (ci := 3) (v := .int (so_98 + (1 : Int32))) (ty := .int) (C := RX5) (T := TX5) (N := 10) hx hb hts (fun w h => wl_in (inX5 w h)) tyX5 tyX5_ok nmX5 hown hK hP (mD hap) hS 0 rfl rfl 8 (by decide) (hts _ (wl_in w_321)) (fun _ h9 => h9) rfl (by decide +kernel) rfl rfl (Nat.le_of_ble_eq_true rfl) dX5_seeks_105 (fun H locs hP _ hS => ?_)
                        have hP : va_P G vwCl (mW h0 hs hr cI th_98 tr sz rw bx_98 by__98 bz_98 bm_98 (so_98 + (1 : Int32)) ex_98) H := hP
                        refine lv_iinc (v := x5_28 + (1 : Int32)) (lv' := [(5, .int (x5_28 + (1 : Int32))), (0, .ref h0), (1, .int a0), (2, .int a1), (3, .int x3_7), (4, .int x4_17)]) hx hb dX5_seeks_108 hl (k := 5) rfl rfl (by decide) rfl (fun ls hl => ?_)
                        refine lv_goto (tgt := 28) hx hb dX5_seeks_111 (by decide) ?_
                        exact ih28 _ _ _ _ _ _ h _ _ _ _ hP hS _ (lv_sub hl [1, 2, 3, 4, 5, 0] rfl)
                      have J75 : ∀ (bx_75 : Int32) (by__75 : Int32) (bz_75 : Int32) (bm_75 : Int32) (so_75 : Int32), kX5_seeks_75 x3_7 x4_17 x5_28 (kX5_seeks_28 sz rw a0 a1 x3_7 x4_17 (kX5_seeks_17 sz rw a0 a1 x3_7 (kX5_seeks_7 sz rw a0 a1 n7) n17) n28) r3 bx_75 by__75 bz_75 bm_75 so_75 = some (bx_r, by__r, bz_r, bm_r, so_r) → ∀ (H : Heap) (locs : List Loc) (th_75 : Int32) (ex_75 : Int32), va_P G vwCl (mW h0 hs hr cI th_75 tr sz rw bx_75 by__75 bz_75 bm_75 so_75 ex_75) H → va_S (mA h0 hs hr) s.heap H locs → ∀ (ls : Array Slot), lv_has ls 7 [(6, .int r3), (0, .ref h0), (1, .int a0), (2, .int a1), (3, .int x3_7), (4, .int x4_17), (5, .int x5_28)] → W p l e (rmk 2 53) s m args below meth cd H locs 0 0 Q (F0 m 75 ls []) := by
                        intro bx_75 by__75 bz_75 bm_75 so_75 h H locs th_75 ex_75 hP hS ls hl
                        rw [kX5_seeks_75] at h
                        refine lv_aload_n hx hb dX5_seeks_75 rfl (lv_at hl 1 rfl) ?_
                        refine lv_iload hx hb dX5_seeks_76 (lv_at hl 0 rfl) ?_
                        refine va_put (D := G) (ci := 3) (v := .int r3) (ty := .int) (C := RX5) (T := TX5) (N := 10) hx hb hts (fun w h => wl_in (inX5 w h)) tyX5 tyX5_ok nmX5 hown hK hP (mD hap) hS 0 rfl rfl 7 (by decide) (hts _ (wl_in w_320)) (fun _ h9 => h9) rfl (by decide +kernel) rfl rfl (Nat.le_of_ble_eq_true rfl) dX5_seeks_78 (fun H locs hP _ hS => ?_)
                        have hP : va_P G vwCl (mW h0 hs hr cI th_75 tr sz rw bx_75 by__75 bz_75 r3 so_75 ex_75) H := hP
                        refine lv_aload_n hx hb dX5_seeks_81 rfl (lv_at hl 1 rfl) ?_
                        refine lv_iload_n hx hb dX5_seeks_82 rfl (lv_at hl 4 rfl) ?_
                        refine va_put (D := G) (ci := 3) (v := .int x3_7) (ty := .int) (C := RX5) (T := TX5) (N := 10) hx hb hts (fun w h => wl_in (inX5 w h)) tyX5 tyX5_ok nmX5 hown hK hP (mD hap) hS 0 rfl rfl 4 (by decide) (hts _ (wl_in w_317)) (fun _ h9 => h9) rfl (by decide +kernel) rfl rfl (Nat.le_of_ble_eq_true rfl) dX5_seeks_83 (fun H locs hP _ hS => ?_)
                        have hP : va_P G vwCl (mW h0 hs hr cI th_75 tr sz rw x3_7 by__75 bz_75 r3 so_75 ex_75) H := hP
                        refine lv_aload_n hx hb dX5_seeks_86 rfl (lv_at hl 1 rfl) ?_
                        refine lv_iload hx hb dX5_seeks_87 (lv_at hl 5 rfl) ?_
                        refine va_put (D := G) (ci := 3) (v := .int x4_17) (ty := .int) (C := RX5) (T := TX5) (N := 10) hx hb hts (fun w h => wl_in (inX5 w h)) tyX5 tyX5_ok nmX5 hown hK hP (mD hap) hS 0 rfl rfl 5 (by decide) (hts _ (wl_in w_318)) (fun _ h9 => h9) rfl (by decide +kernel) rfl rfl (Nat.le_of_ble_eq_true rfl) dX5_seeks_89 (fun H locs hP _ hS => ?_)
                        have hP : va_P G vwCl (mW h0 hs hr cI th_75 tr sz rw x3_7 x4_17 bz_75 r3 so_75 ex_75) H := hP
                        refine lv_aload_n hx hb dX5_seeks_92 rfl (lv_at hl 1 rfl) ?_
                        refine lv_iload hx hb dX5_seeks_93 (lv_at hl 6 rfl) ?_
                        refine va_put (D := G) (ci := 3) (v := .int x5_28) (ty := .int) (C := RX5) (T := TX5) (N := 10) hx hb hts (fun w h => wl_in (inX5 w h)) tyX5 tyX5_ok nmX5 hown hK hP (mD hap) hS 0 rfl rfl 6 (by decide) (hts _ (wl_in w_319)) (fun _ h9 => h9) rfl (by decide +kernel) rfl rfl (Nat.le_of_ble_eq_true rfl) dX5_seeks_95 (fun H locs hP _ hS => ?_)
                        have hP : va_P G vwCl (mW h0 hs hr cI th_75 tr sz rw x3_7 x4_17 x5_28 r3 so_75 ex_75) H := hP
                        exact J98 _ _ _ _ _ h _ _ _ _ hP hS _ (lv_sub hl [1, 2, 3, 4, 5, 6] rfl)
                      refine lv_if_eq (tgt := 75) hx hb dX5_seeks_63 (by decide) (fun c63 => ?_) (fun c63 => ?_)
                      · have h := pt c63 h
                        exact J75 _ _ _ _ _ h _ _ _ _ hP hS _ hl
                      · have h := pf c63 h
                        refine lv_iload hx hb dX5_seeks_66 (lv_at hl 0 rfl) ?_
                        refine lv_aload_n hx hb dX5_seeks_68 rfl (lv_at hl 1 rfl) ?_
                        refine va_get (D := G) (ci := 3) (v := .int bm_28) (C := RX5) (T := TX5) (N := 10) hx hb hts (fun w h => wl_in (inX5 w h)) hown hK hP 0 rfl rfl 7 (by decide) (hts _ (wl_in w_320)) (fun _ h9 => h9) rfl dX5_seeks_69 ?_
                        refine lv_icmp_ge (tgt := 98) hx hb dX5_seeks_72 (by decide) (fun c72 => ?_) (fun c72 => ?_)
                        · have h := pt c72 h
                          exact J98 _ _ _ _ _ h _ _ _ _ hP hS _ (lv_sub hl [1, 2, 3, 4, 5, 6] rfl)
                        · have h := pf c72 h
                          exact J75 _ _ _ _ _ h _ _ _ _ hP hS _ hl
              exact J28 _ _ _ _ _ _ _ h _ _ _ _ hP hS _ (lv_sub hl [1, 2, 3, 4, 5, 0] rfl)
        exact J17 _ _ _ _ _ _ _ h _ _ _ _ hP hS _ (lv_sub hl [1, 2, 3, 4, 0] rfl)
  exact J7 _ _ _ _ _ _ _ h _ _ _ _ hP hS _ (lv_sub hl [1, 2, 3, 0] rfl)
