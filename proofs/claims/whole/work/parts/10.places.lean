def kX2_hasOddPower_8 (a1 : Int32) : Nat → Int32 → Int64 → Int32 → Option (Int32)
  | 0, _, _, _ => none
  | fu + 1, x3_8, x4_8, x6_8 =>
    (if (64 : Int32) ≤ x6_8 then (if x3_8 &&& 1 = x3_8 then some x3_8 else none) else
    (if a1 ≤ (1 : Int32) then (if x3_8 &&& 1 = x3_8 then some x3_8 else none) else
    (if (lg_cmp x4_8 (0 : Int64)) = 0 then (if x3_8 &&& 1 = x3_8 then some x3_8 else none) else
    (if ¬ a1.toInt64 = 0 then (if (lg_cmp (lrm x4_8 a1.toInt64) (0 : Int64)) = 0 then (if ¬ a1.toInt64 = 0 then (if x3_8 = 0 then (kX2_hasOddPower_8 a1 fu) (1 : Int32) (x4_8 / a1.toInt64) (x6_8 + (1 : Int32)) else
    (kX2_hasOddPower_8 a1 fu) (0 : Int32) (x4_8 / a1.toInt64) (x6_8 + (1 : Int32))) else none) else
    (if x3_8 &&& 1 = x3_8 then some x3_8 else none)) else none))))
def fX2_hasOddPower (a0 : Int64) (a1 : Int32) : Option (Int32) :=
    kX2_hasOddPower_8 a1 1100 (0 : Int32) a0 (0 : Int32)
def kX2_unit_5 (a1 : Int32) : Nat → Int64 → Int32 → Option (Int64)
  | 0, _, _ => none
  | fu + 1, x3_5, x5_5 =>
    (if (64 : Int32) ≤ x5_5 then some x3_5 else
    (if a1 ≤ (1 : Int32) then some x3_5 else
    (if (lg_cmp x3_5 (0 : Int64)) = 0 then some x3_5 else
    (if ¬ a1.toInt64 = 0 then (if (lg_cmp (lrm x3_5 a1.toInt64) (0 : Int64)) = 0 then (if ¬ a1.toInt64 = 0 then (kX2_unit_5 a1 fu) (x3_5 / a1.toInt64) (x5_5 + (1 : Int32)) else none) else
    some x3_5) else none))))
def fX2_unit (a0 : Int64) (a1 : Int32) : Option (Int64) :=
    kX2_unit_5 a1 1100 a0 (0 : Int32)
def fX2_isThreeOfFour (a0 : Int64) : Option (Int32) :=
    (if (lg_cmp (a0 &&& (3 : Int64)) (3 : Int64)) = 0 then some (1 : Int32) else
    some (0 : Int32))
def kX2_isResidue_58 (a1 : Int32) (K36 : Int32 → Int32 → Int32 → Option (Int32)) (x4_58 : Int32) (x5_58 : Int32) (x6_58 : Int32) : Option (Int32) :=
    (if ¬ a1 = 0 then K36 (irm (x4_58 * x4_58) a1) x5_58 (x6_58 >>> ((1 : Int32) &&& 31)) else none)
def kX2_isResidue_36 (a1 : Int32) : Nat → Int32 → Int32 → Int32 → Option (Int32)
  | 0, _, _, _ => none
  | fu + 1, x4_36, x5_36, x6_36 =>
    (if x6_36 ≤ 0 then (if x5_36 = (1 : Int32) then some (1 : Int32) else
    some (0 : Int32)) else
    (if (x6_36 &&& (1 : Int32)) = (1 : Int32) then (if ¬ a1 = 0 then kX2_isResidue_58 a1 (kX2_isResidue_36 a1 fu) x4_36 (irm (x5_36 * x4_36) a1) x6_36 else none) else
    kX2_isResidue_58 a1 (kX2_isResidue_36 a1 fu) x4_36 x5_36 x6_36))
def kX2_isResidue_24 (a1 : Int32) (t0_24 : Int32) : Option (Int32) :=
    kX2_isResidue_36 a1 1100 t0_24 (1 : Int32) ((a1 - (1 : Int32)) / (2 : Int32))
def fX2_isResidue (a0 : Int64) (a1 : Int32) : Option (Int32) :=
    (if (3 : Int32) ≤ a1 then (if ¬ a1.toInt64 = 0 then (if 0 ≤ ((lrm a0 a1.toInt64).toInt32) then kX2_isResidue_24 a1 ((lrm a0 a1.toInt64).toInt32) else
    kX2_isResidue_24 a1 (((lrm a0 a1.toInt64).toInt32) + a1)) else none) else
    some (1 : Int32))
def fX2_isTurning (a0 : Int64) (a1 : Int32) : Option (Int32) :=
    (if a1 = (2 : Int32) then (if (lg_cmp (a0 &&& (7 : Int64)) (3 : Int64)) = 0 then some (1 : Int32) else
    (if (lg_cmp (a0 &&& (7 : Int64)) (5 : Int64)) = 0 then some (1 : Int32) else
    some (0 : Int32))) else
    (fX2_isResidue a0 a1).bind fun (r1 : Int32) =>
    (if r1 = 0 then some (1 : Int32) else
    some (0 : Int32)))
def fX2_isSquareAtPrime (a0 : Int64) (a1 : Int32) : Option (Int32) :=
    (fX2_hasOddPower a0 a1).bind fun (r1 : Int32) =>
    (if r1 = 0 then (fX2_unit a0 a1).bind fun (r3 : Int64) =>
    (if a1 = (2 : Int32) then (if (lg_cmp (r3 &&& (7 : Int64)) (1 : Int64)) = 0 then some (1 : Int32) else
    some (0 : Int32)) else
    (fX2_isResidue r3 a1).bind fun (r5 : Int32) =>
    (if r5 &&& 1 = r5 then some r5 else none)) else
    some (0 : Int32))
def kX2_signAt_165 (x11_165 : Int32) : Option (Int32) :=
    (if x11_165 = 0 then some (1 : Int32) else
    some (-1 : Int32))
def kX2_signAt_138 (a2 : Int32) (r3 : Int32) (r5 : Int64) (x11_138 : Int32) : Option (Int32) :=
    (if r3 = 0 then kX2_signAt_165 x11_138 else
    (fX2_isTurning r5 a2).bind fun (r9 : Int32) =>
    (if r9 = 0 then kX2_signAt_165 x11_138 else
    (if x11_138 = 0 then kX2_signAt_165 (1 : Int32) else
    kX2_signAt_165 (0 : Int32))))
def kX2_signAt_109 (a2 : Int32) (r1 : Int32) (r3 : Int32) (r5 : Int64) (r7 : Int64) (t0_109 : Int32) : Option (Int32) :=
    (if r1 = 0 then kX2_signAt_138 a2 r3 r5 t0_109 else
    (fX2_isTurning r7 a2).bind fun (r11 : Int32) =>
    (if r11 = 0 then kX2_signAt_138 a2 r3 r5 t0_109 else
    (if t0_109 = 0 then kX2_signAt_138 a2 r3 r5 (1 : Int32) else
    kX2_signAt_138 a2 r3 r5 (0 : Int32))))
def fX2_signAt (a0 : Int64) (a1 : Int64) (a2 : Int32) : Option (Int32) :=
    (if a2 = 0 then (if 0 ≤ (lg_cmp a0 (0 : Int64)) then some (1 : Int32) else
    (if 0 ≤ (lg_cmp a1 (0 : Int64)) then some (1 : Int32) else
    some (-1 : Int32))) else
    (fX2_hasOddPower a0 a2).bind fun (r1 : Int32) =>
    (fX2_hasOddPower a1 a2).bind fun (r3 : Int32) =>
    (fX2_unit a0 a2).bind fun (r5 : Int64) =>
    (fX2_unit a1 a2).bind fun (r7 : Int64) =>
    (if a2 = (2 : Int32) then (fX2_isThreeOfFour r5).bind fun (r15 : Int32) =>
    (if r15 = 0 then kX2_signAt_109 a2 r1 r3 r5 r7 (0 : Int32) else
    (fX2_isThreeOfFour r7).bind fun (r17 : Int32) =>
    (if r17 = 0 then kX2_signAt_109 a2 r1 r3 r5 r7 (0 : Int32) else
    kX2_signAt_109 a2 r1 r3 r5 r7 (1 : Int32))) else
    (if r1 = 0 then kX2_signAt_109 a2 r1 r3 r5 r7 (0 : Int32) else
    (if r3 = 0 then kX2_signAt_109 a2 r1 r3 r5 r7 (0 : Int32) else
    (fX2_isThreeOfFour a2.toInt64).bind fun (r13 : Int32) =>
    (if r13 = 0 then kX2_signAt_109 a2 r1 r3 r5 r7 (0 : Int32) else
    kX2_signAt_109 a2 r1 r3 r5 r7 (1 : Int32))))))
def kX2_isPlace_9 (a0 : Int32) : Nat → Int32 → Option (Int32)
  | 0, _ => none
  | fu + 1, x3_9 =>
    (if (79 : Int32) ≤ x3_9 then some (0 : Int32) else
    (if ¬ (x3_9 < 0 ∨ 79 ≤ x3_9.toNatClampNeg) then (if (allv x3_9.toNatClampNeg) = a0 then some (1 : Int32) else
    (kX2_isPlace_9 a0 fu) (x3_9 + (1 : Int32))) else none))
def fX2_isPlace (a0 : Int32) : Option (Int32) :=
    kX2_isPlace_9 a0 1100 (0 : Int32)
theorem syX2_hasOddPower : Sy yX2_hasOddPower cX2_hasOddPower 7 (some .boolean) 2 := ⟨w_101, w_100, w_5, by decide +kernel⟩
set_option maxHeartbeats 4000000 in
set_option maxRecDepth 100000 in
theorem cnX2_hasOddPower (l : Launch) {a0 : Int64} {a1 : Int32} {r : Int32} (h : fX2_hasOddPower a0 a1 = some r) : Ro l yX2_hasOddPower cX2_hasOddPower 7 (some .boolean) 0 0 [.long a0, .int a1] B0 (.int r) := by
  refine ro_z (plainFor_of_name (by decide)) (Nat.le_of_ble_eq_true rfl) ?_
  intro p e s m args below meth cd Q ls hF hB hl END
  have hF : CallFix p m cd cX2_hasOddPower 7 s args (wl yX2_hasOddPower cX2_hasOddPower 7 (some .boolean)) RX2 := hF
  obtain ⟨hx, hb, hml, hown, hts⟩ := id hF
  have hl : lv_has ls 7 [(0, .long a0), (2, .int a1)] := hl
  rw [fX2_hasOddPower] at h
  refine lv_iconst (v := (0 : Int32)) hx hb dX2_hasOddPower_0 (by decide) ?_
  refine lv_istore_n (lv' := [(3, .int (0 : Int32)), (0, .long a0), (2, .int a1)]) hx hb dX2_hasOddPower_1 rfl hl (by decide) rfl (fun ls hl => ?_)
  refine lv_lload_n hx hb dX2_hasOddPower_2 rfl (lv_at hl 1 rfl) ?_
  refine lv_lstore (lv' := [(4, .long a0), (3, .int (0 : Int32)), (0, .long a0), (2, .int a1)]) hx hb dX2_hasOddPower_3 hl (by decide) rfl (fun ls hl => ?_)
  refine lv_iconst (v := (0 : Int32)) hx hb dX2_hasOddPower_5 (by decide) ?_
  refine lv_istore (lv' := [(6, .int (0 : Int32)), (4, .long a0), (3, .int (0 : Int32)), (0, .long a0), (2, .int a1)]) hx hb dX2_hasOddPower_6 hl (by decide) rfl (fun ls hl => ?_)
  have J8 : ∀ (n8 : Nat) (x3_8 : Int32) (x4_8 : Int64) (x6_8 : Int32), kX2_hasOddPower_8 a1 n8 x3_8 x4_8 x6_8 = some r → ∀ (ls : Array Slot), lv_has ls 7 [(2, .int a1), (3, .int x3_8), (4, .long x4_8), (6, .int x6_8)] → W p l e (rmk 0 0) s m args below meth cd s.heap [] 0 0 Q (F0 m 8 ls []) := by
    intro n8
    induction n8 with
    | zero =>
      intro x3_8 x4_8 x6_8 h
      rw [kX2_hasOddPower_8] at h
      cases h
    | succ n8 ih8 =>
      intro x3_8 x4_8 x6_8 h  ls hl
      rw [kX2_hasOddPower_8] at h
      refine lv_iload hx hb dX2_hasOddPower_8 (lv_at hl 3 rfl) ?_
      refine lv_bipush (v := (64 : Int32)) hx hb dX2_hasOddPower_10 (by decide) ?_
      refine lv_icmp_ge (tgt := 60) hx hb dX2_hasOddPower_12 (by decide) (fun c12 => ?_) (fun c12 => ?_)
      · have h := pt c12 h
        refine lv_iload_n hx hb dX2_hasOddPower_60 rfl (lv_at hl 1 rfl) ?_
        obtain ⟨g1, h⟩ := pg h
        exact END 61 ls _ (pe h) (nbool g1) dX2_hasOddPower_61
      · have h := pf c12 h
        refine lv_iload_n hx hb dX2_hasOddPower_15 rfl (lv_at hl 0 rfl) ?_
        refine lv_iconst (v := (1 : Int32)) hx hb dX2_hasOddPower_16 (by decide) ?_
        refine lv_icmp_le (tgt := 60) hx hb dX2_hasOddPower_17 (by decide) (fun c17 => ?_) (fun c17 => ?_)
        · have h := pt c17 h
          refine lv_iload_n hx hb dX2_hasOddPower_60 rfl (lv_at hl 1 rfl) ?_
          obtain ⟨g2, h⟩ := pg h
          exact END 61 ls _ (pe h) (nbool g2) dX2_hasOddPower_61
        · have h := pf c17 h
          refine lv_lload hx hb dX2_hasOddPower_20 (lv_at hl 2 rfl) ?_
          refine lv_lconst (v := (0 : Int64)) hx hb dX2_hasOddPower_22 (by decide) ?_
          refine W.lcmp hx hb dX2_hasOddPower_23 ?_
          refine lv_if_eq (tgt := 60) hx hb dX2_hasOddPower_24 (by decide) (fun c24 => ?_) (fun c24 => ?_)
          · have h := pt c24 h
            refine lv_iload_n hx hb dX2_hasOddPower_60 rfl (lv_at hl 1 rfl) ?_
            obtain ⟨g3, h⟩ := pg h
            exact END 61 ls _ (pe h) (nbool g3) dX2_hasOddPower_61
          · have h := pf c24 h
            refine lv_lload hx hb dX2_hasOddPower_27 (lv_at hl 2 rfl) ?_
            refine lv_iload_n hx hb dX2_hasOddPower_29 rfl (lv_at hl 0 rfl) ?_
            refine lv_i2l (v := a1.toInt64) hx hb dX2_hasOddPower_30 rfl ?_
            obtain ⟨g4, h⟩ := pg h
            refine lq_lrem hx hb dX2_hasOddPower_31 g4 ?_
            refine lv_lconst (v := (0 : Int64)) hx hb dX2_hasOddPower_32 (by decide) ?_
            refine W.lcmp hx hb dX2_hasOddPower_33 ?_
            refine lv_if_ne (tgt := 60) hx hb dX2_hasOddPower_34 (by decide) (fun c34 => ?_) (fun c34 => ?_)
            · have h := pf c34 h
              refine lv_iload_n hx hb dX2_hasOddPower_60 rfl (lv_at hl 1 rfl) ?_
              obtain ⟨g5, h⟩ := pg h
              exact END 61 ls _ (pe h) (nbool g5) dX2_hasOddPower_61
            · have h := pt c34 h
              refine lv_lload hx hb dX2_hasOddPower_37 (lv_at hl 2 rfl) ?_
              refine lv_iload_n hx hb dX2_hasOddPower_39 rfl (lv_at hl 0 rfl) ?_
              refine lv_i2l (v := a1.toInt64) hx hb dX2_hasOddPower_40 rfl ?_
              obtain ⟨g6, h⟩ := pg h
              refine lv_ldiv hx hb dX2_hasOddPower_41 g6 ?_
              refine lv_lstore (lv' := [(4, .long (x4_8 / a1.toInt64)), (2, .int a1), (3, .int x3_8), (6, .int x6_8)]) hx hb dX2_hasOddPower_42 hl (by decide) rfl (fun ls hl => ?_)
              refine lv_iload_n hx hb dX2_hasOddPower_44 rfl (lv_at hl 2 rfl) ?_
              refine lv_if_ne (tgt := 52) hx hb dX2_hasOddPower_45 (by decide) (fun c45 => ?_) (fun c45 => ?_)
              · have h := pf c45 h
                refine lv_iconst (v := (0 : Int32)) hx hb dX2_hasOddPower_52 (by decide) ?_
                refine lv_istore_n (lv' := [(3, .int (0 : Int32)), (4, .long (x4_8 / a1.toInt64)), (2, .int a1), (6, .int x6_8)]) hx hb dX2_hasOddPower_53 rfl hl (by decide) rfl (fun ls hl => ?_)
                refine lv_iinc (v := x6_8 + (1 : Int32)) (lv' := [(6, .int (x6_8 + (1 : Int32))), (3, .int (0 : Int32)), (4, .long (x4_8 / a1.toInt64)), (2, .int a1)]) hx hb dX2_hasOddPower_54 hl (k := 3) rfl rfl (by decide) rfl (fun ls hl => ?_)
                refine lv_goto (tgt := 8) hx hb dX2_hasOddPower_57 (by decide) ?_
                exact ih8 _ _ _ h  _ (lv_sub hl [3, 1, 2, 0] rfl)
              · have h := pt c45 h
                refine lv_iconst (v := (1 : Int32)) hx hb dX2_hasOddPower_48 (by decide) ?_
                refine lv_goto (tgt := 53) hx hb dX2_hasOddPower_49 (by decide) ?_
                refine lv_istore_n (lv' := [(3, .int (1 : Int32)), (4, .long (x4_8 / a1.toInt64)), (2, .int a1), (6, .int x6_8)]) hx hb dX2_hasOddPower_53 rfl hl (by decide) rfl (fun ls hl => ?_)
                refine lv_iinc (v := x6_8 + (1 : Int32)) (lv' := [(6, .int (x6_8 + (1 : Int32))), (3, .int (1 : Int32)), (4, .long (x4_8 / a1.toInt64)), (2, .int a1)]) hx hb dX2_hasOddPower_54 hl (k := 3) rfl rfl (by decide) rfl (fun ls hl => ?_)
                refine lv_goto (tgt := 8) hx hb dX2_hasOddPower_57 (by decide) ?_
                exact ih8 _ _ _ h  _ (lv_sub hl [3, 1, 2, 0] rfl)
  exact J8 _ _ _ _ h  _ (lv_sub hl [4, 2, 1, 0] rfl)

theorem syX2_unit : Sy yX2_unit cX2_unit 6 (some .long) 2 := ⟨w_104, w_103, w_5, by decide +kernel⟩
set_option maxHeartbeats 4000000 in
set_option maxRecDepth 100000 in
theorem cnX2_unit (l : Launch) {a0 : Int64} {a1 : Int32} {r : Int64} (h : fX2_unit a0 a1 = some r) : Ro l yX2_unit cX2_unit 6 (some .long) 0 0 [.long a0, .int a1] B0 (.long r) := by
  refine ro_l (plainFor_of_name (by decide)) (Nat.le_of_ble_eq_true rfl) ?_
  intro p e s m args below meth cd Q ls hF hB hl END
  have hF : CallFix p m cd cX2_unit 6 s args (wl yX2_unit cX2_unit 6 (some .long)) RX2 := hF
  obtain ⟨hx, hb, hml, hown, hts⟩ := id hF
  have hl : lv_has ls 6 [(0, .long a0), (2, .int a1)] := hl
  rw [fX2_unit] at h
  refine lv_lload_n hx hb dX2_unit_0 rfl (lv_at hl 0 rfl) ?_
  refine lv_lstore_n (lv' := [(3, .long a0), (0, .long a0), (2, .int a1)]) hx hb dX2_unit_1 rfl hl (by decide) rfl (fun ls hl => ?_)
  refine lv_iconst (v := (0 : Int32)) hx hb dX2_unit_2 (by decide) ?_
  refine lv_istore (lv' := [(5, .int (0 : Int32)), (3, .long a0), (0, .long a0), (2, .int a1)]) hx hb dX2_unit_3 hl (by decide) rfl (fun ls hl => ?_)
  have J5 : ∀ (n5 : Nat) (x3_5 : Int64) (x5_5 : Int32), kX2_unit_5 a1 n5 x3_5 x5_5 = some r → ∀ (ls : Array Slot), lv_has ls 6 [(2, .int a1), (3, .long x3_5), (5, .int x5_5)] → W p l e (rmk 0 0) s m args below meth cd s.heap [] 0 0 Q (F0 m 5 ls []) := by
    intro n5
    induction n5 with
    | zero =>
      intro x3_5 x5_5 h
      rw [kX2_unit_5] at h
      cases h
    | succ n5 ih5 =>
      intro x3_5 x5_5 h  ls hl
      rw [kX2_unit_5] at h
      refine lv_iload hx hb dX2_unit_5 (lv_at hl 2 rfl) ?_
      refine lv_bipush (v := (64 : Int32)) hx hb dX2_unit_7 (by decide) ?_
      refine lv_icmp_ge (tgt := 43) hx hb dX2_unit_9 (by decide) (fun c9 => ?_) (fun c9 => ?_)
      · have h := pt c9 h
        refine lv_lload_n hx hb dX2_unit_43 rfl (lv_at hl 1 rfl) ?_
        exact END 44 ls _ (pe h) dX2_unit_44
      · have h := pf c9 h
        refine lv_iload_n hx hb dX2_unit_12 rfl (lv_at hl 0 rfl) ?_
        refine lv_iconst (v := (1 : Int32)) hx hb dX2_unit_13 (by decide) ?_
        refine lv_icmp_le (tgt := 43) hx hb dX2_unit_14 (by decide) (fun c14 => ?_) (fun c14 => ?_)
        · have h := pt c14 h
          refine lv_lload_n hx hb dX2_unit_43 rfl (lv_at hl 1 rfl) ?_
          exact END 44 ls _ (pe h) dX2_unit_44
        · have h := pf c14 h
          refine lv_lload_n hx hb dX2_unit_17 rfl (lv_at hl 1 rfl) ?_
          refine lv_lconst (v := (0 : Int64)) hx hb dX2_unit_18 (by decide) ?_
          refine W.lcmp hx hb dX2_unit_19 ?_
          refine lv_if_eq (tgt := 43) hx hb dX2_unit_20 (by decide) (fun c20 => ?_) (fun c20 => ?_)
          · have h := pt c20 h
            refine lv_lload_n hx hb dX2_unit_43 rfl (lv_at hl 1 rfl) ?_
            exact END 44 ls _ (pe h) dX2_unit_44
          · have h := pf c20 h
            refine lv_lload_n hx hb dX2_unit_23 rfl (lv_at hl 1 rfl) ?_
            refine lv_iload_n hx hb dX2_unit_24 rfl (lv_at hl 0 rfl) ?_
            refine lv_i2l (v := a1.toInt64) hx hb dX2_unit_25 rfl ?_
            obtain ⟨g1, h⟩ := pg h
            refine lq_lrem hx hb dX2_unit_26 g1 ?_
            refine lv_lconst (v := (0 : Int64)) hx hb dX2_unit_27 (by decide) ?_
            refine W.lcmp hx hb dX2_unit_28 ?_
            refine lv_if_ne (tgt := 43) hx hb dX2_unit_29 (by decide) (fun c29 => ?_) (fun c29 => ?_)
            · have h := pf c29 h
              refine lv_lload_n hx hb dX2_unit_43 rfl (lv_at hl 1 rfl) ?_
              exact END 44 ls _ (pe h) dX2_unit_44
            · have h := pt c29 h
              refine lv_lload_n hx hb dX2_unit_32 rfl (lv_at hl 1 rfl) ?_
              refine lv_iload_n hx hb dX2_unit_33 rfl (lv_at hl 0 rfl) ?_
              refine lv_i2l (v := a1.toInt64) hx hb dX2_unit_34 rfl ?_
              obtain ⟨g2, h⟩ := pg h
              refine lv_ldiv hx hb dX2_unit_35 g2 ?_
              refine lv_lstore_n (lv' := [(3, .long (x3_5 / a1.toInt64)), (2, .int a1), (5, .int x5_5)]) hx hb dX2_unit_36 rfl hl (by decide) rfl (fun ls hl => ?_)
              refine lv_iinc (v := x5_5 + (1 : Int32)) (lv' := [(5, .int (x5_5 + (1 : Int32))), (3, .long (x3_5 / a1.toInt64)), (2, .int a1)]) hx hb dX2_unit_37 hl (k := 2) rfl rfl (by decide) rfl (fun ls hl => ?_)
              refine lv_goto (tgt := 5) hx hb dX2_unit_40 (by decide) ?_
              exact ih5 _ _ h  _ (lv_sub hl [2, 1, 0] rfl)
  exact J5 _ _ _ h  _ (lv_sub hl [3, 1, 0] rfl)

theorem syX2_isThreeOfFour : Sy yX2_isThreeOfFour cX2_isThreeOfFour 2 (some .boolean) 1 := ⟨w_107, w_106, w_5, by decide +kernel⟩
set_option maxHeartbeats 4000000 in
set_option maxRecDepth 100000 in
theorem cnX2_isThreeOfFour (l : Launch) {a0 : Int64} {r : Int32} (h : fX2_isThreeOfFour a0 = some r) : Ro l yX2_isThreeOfFour cX2_isThreeOfFour 2 (some .boolean) 0 0 [.long a0] B0 (.int r) := by
  refine ro_z (plainFor_of_name (by decide)) (Nat.le_of_ble_eq_true rfl) ?_
  intro p e s m args below meth cd Q ls hF hB hl END
  have hF : CallFix p m cd cX2_isThreeOfFour 2 s args (wl yX2_isThreeOfFour cX2_isThreeOfFour 2 (some .boolean)) RX2 := hF
  obtain ⟨hx, hb, hml, hown, hts⟩ := id hF
  have hl : lv_has ls 2 [(0, .long a0)] := hl
  rw [fX2_isThreeOfFour] at h
  refine lv_lload_n hx hb dX2_isThreeOfFour_0 rfl (lv_at hl 0 rfl) ?_
  refine lv_ldc2 (v := (3 : Int64)) hx hb hown (hts _ (wl_in w_108)) dX2_isThreeOfFour_1 ?_
  refine lv_land hx hb dX2_isThreeOfFour_4 ?_
  refine lv_ldc2 (v := (3 : Int64)) hx hb hown (hts _ (wl_in w_108)) dX2_isThreeOfFour_5 ?_
  refine W.lcmp hx hb dX2_isThreeOfFour_8 ?_
  refine lv_if_ne (tgt := 16) hx hb dX2_isThreeOfFour_9 (by decide) (fun c9 => ?_) (fun c9 => ?_)
  · have h := pf c9 h
    refine lv_iconst (v := (0 : Int32)) hx hb dX2_isThreeOfFour_16 (by decide) ?_
    exact END 17 ls _ (pe h) (by rfl) dX2_isThreeOfFour_17
  · have h := pt c9 h
    refine lv_iconst (v := (1 : Int32)) hx hb dX2_isThreeOfFour_12 (by decide) ?_
    refine lv_goto (tgt := 17) hx hb dX2_isThreeOfFour_13 (by decide) ?_
    exact END 17 ls _ (pe h) (by rfl) dX2_isThreeOfFour_17

theorem syX2_isResidue : Sy yX2_isResidue cX2_isResidue 7 (some .boolean) 2 := ⟨w_116, w_115, w_5, by decide +kernel⟩
set_option maxHeartbeats 4000000 in
set_option maxRecDepth 100000 in
theorem cnX2_isResidue (l : Launch) {a0 : Int64} {a1 : Int32} {r : Int32} (h : fX2_isResidue a0 a1 = some r) : Ro l yX2_isResidue cX2_isResidue 7 (some .boolean) 0 0 [.long a0, .int a1] B0 (.int r) := by
  refine ro_z (plainFor_of_name (by decide)) (Nat.le_of_ble_eq_true rfl) ?_
  intro p e s m args below meth cd Q ls hF hB hl END
  have hF : CallFix p m cd cX2_isResidue 7 s args (wl yX2_isResidue cX2_isResidue 7 (some .boolean)) RX2 := hF
  obtain ⟨hx, hb, hml, hown, hts⟩ := id hF
  have hl : lv_has ls 7 [(0, .long a0), (2, .int a1)] := hl
  rw [fX2_isResidue] at h
  refine lv_iload_n hx hb dX2_isResidue_0 rfl (lv_at hl 1 rfl) ?_
  refine lv_iconst (v := (3 : Int32)) hx hb dX2_isResidue_1 (by decide) ?_
  refine lv_icmp_ge (tgt := 7) hx hb dX2_isResidue_2 (by decide) (fun c2 => ?_) (fun c2 => ?_)
  · have h := pt c2 h
    refine lv_lload_n hx hb dX2_isResidue_7 rfl (lv_at hl 0 rfl) ?_
    refine lv_iload_n hx hb dX2_isResidue_8 rfl (lv_at hl 1 rfl) ?_
    refine lv_i2l (v := a1.toInt64) hx hb dX2_isResidue_9 rfl ?_
    obtain ⟨g1, h⟩ := pg h
    refine lq_lrem hx hb dX2_isResidue_10 g1 ?_
    refine lv_l2i (v := (lrm a0 a1.toInt64).toInt32) hx hb dX2_isResidue_11 rfl ?_
    refine lv_istore_n (lv' := [(3, .int ((lrm a0 a1.toInt64).toInt32)), (0, .long a0), (2, .int a1)]) hx hb dX2_isResidue_12 rfl hl (by decide) rfl (fun ls hl => ?_)
    refine lv_iload_n hx hb dX2_isResidue_13 rfl (lv_at hl 0 rfl) ?_
    have J24 : ∀ (t0_24 : Int32), kX2_isResidue_24 a1 t0_24 = some r → ∀ (ls : Array Slot), lv_has ls 7 [(2, .int a1)] → W p l e (rmk 0 0) s m args below meth cd s.heap [] 0 0 Q (F0 m 24 ls [.int t0_24]) := by
      intro t0_24 h  ls hl
      rw [kX2_isResidue_24] at h
      refine lv_istore (lv' := [(4, .int t0_24), (2, .int a1)]) hx hb dX2_isResidue_24 hl (by decide) rfl (fun ls hl => ?_)
      refine lv_iconst (v := (1 : Int32)) hx hb dX2_isResidue_26 (by decide) ?_
      refine lv_istore (lv' := [(5, .int (1 : Int32)), (4, .int t0_24), (2, .int a1)]) hx hb dX2_isResidue_27 hl (by decide) rfl (fun ls hl => ?_)
      refine lv_iload_n hx hb dX2_isResidue_29 rfl (lv_at hl 2 rfl) ?_
      refine lv_iconst (v := (1 : Int32)) hx hb dX2_isResidue_30 (by decide) ?_
      refine lv_isub hx hb dX2_isResidue_31 ?_
      refine lv_iconst (v := (2 : Int32)) hx hb dX2_isResidue_32 (by decide) ?_
      refine lv_idiv hx hb dX2_isResidue_33 (by decide) ?_
      refine lv_istore (lv' := [(6, .int ((a1 - (1 : Int32)) / (2 : Int32))), (5, .int (1 : Int32)), (4, .int t0_24), (2, .int a1)]) hx hb dX2_isResidue_34 hl (by decide) rfl (fun ls hl => ?_)
      have J36 : ∀ (n36 : Nat) (x4_36 : Int32) (x5_36 : Int32) (x6_36 : Int32), kX2_isResidue_36 a1 n36 x4_36 x5_36 x6_36 = some r → ∀ (ls : Array Slot), lv_has ls 7 [(2, .int a1), (4, .int x4_36), (5, .int x5_36), (6, .int x6_36)] → W p l e (rmk 0 0) s m args below meth cd s.heap [] 0 0 Q (F0 m 36 ls []) := by
        intro n36
        induction n36 with
        | zero =>
          intro x4_36 x5_36 x6_36 h
          rw [kX2_isResidue_36] at h
          cases h
        | succ n36 ih36 =>
          intro x4_36 x5_36 x6_36 h  ls hl
          rw [kX2_isResidue_36] at h
          refine lv_iload hx hb dX2_isResidue_36 (lv_at hl 3 rfl) ?_
          refine lv_if_le (tgt := 76) hx hb dX2_isResidue_38 (by decide) (fun c38 => ?_) (fun c38 => ?_)
          · have h := pt c38 h
            refine lv_iload hx hb dX2_isResidue_76 (lv_at hl 2 rfl) ?_
            refine lv_iconst (v := (1 : Int32)) hx hb dX2_isResidue_78 (by decide) ?_
            refine lv_icmp_ne (tgt := 86) hx hb dX2_isResidue_79 (by decide) (fun c79 => ?_) (fun c79 => ?_)
            · have h := pf c79 h
              refine lv_iconst (v := (0 : Int32)) hx hb dX2_isResidue_86 (by decide) ?_
              exact END 87 ls _ (pe h) (by rfl) dX2_isResidue_87
            · have h := pt c79 h
              refine lv_iconst (v := (1 : Int32)) hx hb dX2_isResidue_82 (by decide) ?_
              refine lv_goto (tgt := 87) hx hb dX2_isResidue_83 (by decide) ?_
              exact END 87 ls _ (pe h) (by rfl) dX2_isResidue_87
          · have h := pf c38 h
            refine lv_iload hx hb dX2_isResidue_41 (lv_at hl 3 rfl) ?_
            refine lv_iconst (v := (1 : Int32)) hx hb dX2_isResidue_43 (by decide) ?_
            refine lv_iand hx hb dX2_isResidue_44 ?_
            refine lv_iconst (v := (1 : Int32)) hx hb dX2_isResidue_45 (by decide) ?_
            have J58 : ∀ (x4_58 : Int32) (x5_58 : Int32) (x6_58 : Int32), kX2_isResidue_58 a1 (kX2_isResidue_36 a1 n36) x4_58 x5_58 x6_58 = some r → ∀ (ls : Array Slot), lv_has ls 7 [(2, .int a1), (4, .int x4_58), (5, .int x5_58), (6, .int x6_58)] → W p l e (rmk 0 0) s m args below meth cd s.heap [] 0 0 Q (F0 m 58 ls []) := by
              intro x4_58 x5_58 x6_58 h  ls hl
              rw [kX2_isResidue_58] at h
              refine lv_iload hx hb dX2_isResidue_58 (lv_at hl 1 rfl) ?_
              refine lv_iload hx hb dX2_isResidue_60 (lv_at hl 1 rfl) ?_
              refine lv_imul hx hb dX2_isResidue_62 ?_
              refine lv_iload_n hx hb dX2_isResidue_63 rfl (lv_at hl 0 rfl) ?_
              obtain ⟨g2, h⟩ := pg h
              refine lq_irem hx hb dX2_isResidue_64 g2 ?_
              refine lv_istore (lv' := [(4, .int (irm (x4_58 * x4_58) a1)), (2, .int a1), (5, .int x5_58), (6, .int x6_58)]) hx hb dX2_isResidue_65 hl (by decide) rfl (fun ls hl => ?_)
              refine lv_iload hx hb dX2_isResidue_67 (lv_at hl 3 rfl) ?_
              refine lv_iconst (v := (1 : Int32)) hx hb dX2_isResidue_69 (by decide) ?_
              refine lv_ishr hx hb dX2_isResidue_70 ?_
              refine lv_istore (lv' := [(6, .int (x6_58 >>> ((1 : Int32) &&& 31))), (4, .int (irm (x4_58 * x4_58) a1)), (2, .int a1), (5, .int x5_58)]) hx hb dX2_isResidue_71 hl (by decide) rfl (fun ls hl => ?_)
              refine lv_goto (tgt := 36) hx hb dX2_isResidue_73 (by decide) ?_
              exact ih36 _ _ _ h  _ (lv_sub hl [2, 1, 3, 0] rfl)
            refine lv_icmp_ne (tgt := 58) hx hb dX2_isResidue_46 (by decide) (fun c46 => ?_) (fun c46 => ?_)
            · have h := pf c46 h
              exact J58 _ _ _ h  _ hl
            · have h := pt c46 h
              refine lv_iload hx hb dX2_isResidue_49 (lv_at hl 2 rfl) ?_
              refine lv_iload hx hb dX2_isResidue_51 (lv_at hl 1 rfl) ?_
              refine lv_imul hx hb dX2_isResidue_53 ?_
              refine lv_iload_n hx hb dX2_isResidue_54 rfl (lv_at hl 0 rfl) ?_
              obtain ⟨g3, h⟩ := pg h
              refine lq_irem hx hb dX2_isResidue_55 g3 ?_
              refine lv_istore (lv' := [(5, .int (irm (x5_36 * x4_36) a1)), (2, .int a1), (4, .int x4_36), (6, .int x6_36)]) hx hb dX2_isResidue_56 hl (by decide) rfl (fun ls hl => ?_)
              exact J58 _ _ _ h  _ (lv_sub hl [1, 2, 0, 3] rfl)
      exact J36 _ _ _ _ h  _ (lv_sub hl [3, 2, 1, 0] rfl)
    refine lv_if_ge (tgt := 23) hx hb dX2_isResidue_14 (by decide) (fun c14 => ?_) (fun c14 => ?_)
    · have h := pt c14 h
      refine lv_iload_n hx hb dX2_isResidue_23 rfl (lv_at hl 0 rfl) ?_
      exact J24 _ h  _ (lv_sub hl [2] rfl)
    · have h := pf c14 h
      refine lv_iload_n hx hb dX2_isResidue_17 rfl (lv_at hl 0 rfl) ?_
      refine lv_iload_n hx hb dX2_isResidue_18 rfl (lv_at hl 2 rfl) ?_
      refine lv_iadd hx hb dX2_isResidue_19 ?_
      refine lv_goto (tgt := 24) hx hb dX2_isResidue_20 (by decide) ?_
      exact J24 _ h  _ (lv_sub hl [2] rfl)
  · have h := pf c2 h
    refine lv_iconst (v := (1 : Int32)) hx hb dX2_isResidue_5 (by decide) ?_
    exact END 6 ls _ (pe h) (by rfl) dX2_isResidue_6

theorem syX2_isTurning : Sy yX2_isTurning cX2_isTurning 3 (some .boolean) 2 := ⟨w_111, w_110, w_5, by decide +kernel⟩
set_option maxHeartbeats 4000000 in
set_option maxRecDepth 100000 in
theorem cnX2_isTurning (l : Launch) {a0 : Int64} {a1 : Int32} {r : Int32} (h : fX2_isTurning a0 a1 = some r) : Ro l yX2_isTurning cX2_isTurning 3 (some .boolean) 1 26 [.long a0, .int a1] B0 (.int r) := by
  refine ro_z (plainFor_of_name (by decide)) (Nat.le_of_ble_eq_true rfl) ?_
  intro p e s m args below meth cd Q ls hF hB hl END
  have hF : CallFix p m cd cX2_isTurning 3 s args (wl yX2_isTurning cX2_isTurning 3 (some .boolean)) RX2 := hF
  obtain ⟨hx, hb, hml, hown, hts⟩ := id hF
  have hl : lv_has ls 3 [(0, .long a0), (2, .int a1)] := hl
  rw [fX2_isTurning] at h
  refine lv_iload_n hx hb dX2_isTurning_0 rfl (lv_at hl 1 rfl) ?_
  refine lv_iconst (v := (2 : Int32)) hx hb dX2_isTurning_1 (by decide) ?_
  refine lv_icmp_ne (tgt := 35) hx hb dX2_isTurning_2 (by decide) (fun c2 => ?_) (fun c2 => ?_)
  · have h := pf c2 h
    refine lv_lload_n hx hb dX2_isTurning_35 rfl (lv_at hl 0 rfl) ?_
    refine lv_iload_n hx hb dX2_isTurning_36 rfl (lv_at hl 1 rfl) ?_
    obtain ⟨r1, e2, h⟩ := pb h
    refine ro_S (As := [.long a0, .int a1]) (rest := []) hF (fun _ h => wl_in h) (cnX2_isResidue l e2) syX2_isResidue w_114 ⟨Nat.le_of_ble_eq_true rfl, Nat.le_of_ble_eq_true rfl⟩ mv0 trivial rfl hl.1 rfl (Nat.le_of_ble_eq_true rfl) dX2_isTurning_37 ⟨Nat.zero_le _, Nat.zero_le _⟩ ?_
    refine lv_if_ne (tgt := 47) hx hb dX2_isTurning_40 (by decide) (fun c40 => ?_) (fun c40 => ?_)
    · have h := pf c40 h
      refine lv_iconst (v := (0 : Int32)) hx hb dX2_isTurning_47 (by decide) ?_
      exact END 48 ls _ (pe h) (by rfl) dX2_isTurning_48
    · have h := pt c40 h
      refine lv_iconst (v := (1 : Int32)) hx hb dX2_isTurning_43 (by decide) ?_
      refine lv_goto (tgt := 48) hx hb dX2_isTurning_44 (by decide) ?_
      exact END 48 ls _ (pe h) (by rfl) dX2_isTurning_48
  · have h := pt c2 h
    refine lv_lload_n hx hb dX2_isTurning_5 rfl (lv_at hl 0 rfl) ?_
    refine lv_ldc2 (v := (7 : Int64)) hx hb hown (hts _ (wl_in w_112)) dX2_isTurning_6 ?_
    refine lv_land hx hb dX2_isTurning_9 ?_
    refine lv_ldc2 (v := (3 : Int64)) hx hb hown (hts _ (wl_in w_108)) dX2_isTurning_10 ?_
    refine W.lcmp hx hb dX2_isTurning_13 ?_
    refine lv_if_eq (tgt := 29) hx hb dX2_isTurning_14 (by decide) (fun c14 => ?_) (fun c14 => ?_)
    · have h := pt c14 h
      refine lv_iconst (v := (1 : Int32)) hx hb dX2_isTurning_29 (by decide) ?_
      refine lv_goto (tgt := 34) hx hb dX2_isTurning_30 (by decide) ?_
      exact END 34 ls _ (pe h) (by rfl) dX2_isTurning_34
    · have h := pf c14 h
      refine lv_lload_n hx hb dX2_isTurning_17 rfl (lv_at hl 0 rfl) ?_
      refine lv_ldc2 (v := (7 : Int64)) hx hb hown (hts _ (wl_in w_112)) dX2_isTurning_18 ?_
      refine lv_land hx hb dX2_isTurning_21 ?_
      refine lv_ldc2 (v := (5 : Int64)) hx hb hown (hts _ (wl_in w_113)) dX2_isTurning_22 ?_
      refine W.lcmp hx hb dX2_isTurning_25 ?_
      refine lv_if_ne (tgt := 33) hx hb dX2_isTurning_26 (by decide) (fun c26 => ?_) (fun c26 => ?_)
      · have h := pf c26 h
        refine lv_iconst (v := (0 : Int32)) hx hb dX2_isTurning_33 (by decide) ?_
        exact END 34 ls _ (pe h) (by rfl) dX2_isTurning_34
      · have h := pt c26 h
        refine lv_iconst (v := (1 : Int32)) hx hb dX2_isTurning_29 (by decide) ?_
        refine lv_goto (tgt := 34) hx hb dX2_isTurning_30 (by decide) ?_
        exact END 34 ls _ (pe h) (by rfl) dX2_isTurning_34

theorem syX2_isSquareAtPrime : Sy yX2_isSquareAtPrime cX2_isSquareAtPrime 5 (some .boolean) 2 := ⟨w_174, w_173, w_5, by decide +kernel⟩
set_option maxHeartbeats 4000000 in
set_option maxRecDepth 100000 in
theorem cnX2_isSquareAtPrime (l : Launch) {a0 : Int64} {a1 : Int32} {r : Int32} (h : fX2_isSquareAtPrime a0 a1 = some r) : Ro l yX2_isSquareAtPrime cX2_isSquareAtPrime 5 (some .boolean) 1 26 [.long a0, .int a1] B0 (.int r) := by
  refine ro_z (plainFor_of_name (by decide)) (Nat.le_of_ble_eq_true rfl) ?_
  intro p e s m args below meth cd Q ls hF hB hl END
  have hF : CallFix p m cd cX2_isSquareAtPrime 5 s args (wl yX2_isSquareAtPrime cX2_isSquareAtPrime 5 (some .boolean)) RX2 := hF
  obtain ⟨hx, hb, hml, hown, hts⟩ := id hF
  have hl : lv_has ls 5 [(0, .long a0), (2, .int a1)] := hl
  rw [fX2_isSquareAtPrime] at h
  refine lv_lload_n hx hb dX2_isSquareAtPrime_0 rfl (lv_at hl 0 rfl) ?_
  refine lv_iload_n hx hb dX2_isSquareAtPrime_1 rfl (lv_at hl 1 rfl) ?_
  obtain ⟨r1, e2, h⟩ := pb h
  refine ro_S (As := [.long a0, .int a1]) (rest := []) hF (fun _ h => wl_in h) (cnX2_hasOddPower l e2) syX2_hasOddPower w_99 ⟨Nat.le_of_ble_eq_true rfl, Nat.le_of_ble_eq_true rfl⟩ mv0 trivial rfl hl.1 rfl (Nat.le_of_ble_eq_true rfl) dX2_isSquareAtPrime_2 ⟨Nat.zero_le _, Nat.zero_le _⟩ ?_
  refine lv_if_eq (tgt := 10) hx hb dX2_isSquareAtPrime_5 (by decide) (fun c5 => ?_) (fun c5 => ?_)
  · have h := pt c5 h
    refine lv_lload_n hx hb dX2_isSquareAtPrime_10 rfl (lv_at hl 0 rfl) ?_
    refine lv_iload_n hx hb dX2_isSquareAtPrime_11 rfl (lv_at hl 1 rfl) ?_
    obtain ⟨r3, e4, h⟩ := pb h
    refine ro_S (As := [.long a0, .int a1]) (rest := []) hF (fun _ h => wl_in h) (cnX2_unit l e4) syX2_unit w_102 ⟨Nat.le_of_ble_eq_true rfl, Nat.le_of_ble_eq_true rfl⟩ mv0 trivial rfl hl.1 rfl (Nat.le_of_ble_eq_true rfl) dX2_isSquareAtPrime_12 ⟨Nat.zero_le _, Nat.zero_le _⟩ ?_
    refine lv_lstore_n (lv' := [(3, .long r3), (0, .long a0), (2, .int a1)]) hx hb dX2_isSquareAtPrime_15 rfl hl (by decide) rfl (fun ls hl => ?_)
    refine lv_iload_n hx hb dX2_isSquareAtPrime_16 rfl (lv_at hl 2 rfl) ?_
    refine lv_iconst (v := (2 : Int32)) hx hb dX2_isSquareAtPrime_17 (by decide) ?_
    refine lv_icmp_ne (tgt := 39) hx hb dX2_isSquareAtPrime_18 (by decide) (fun c18 => ?_) (fun c18 => ?_)
    · have h := pf c18 h
      refine lv_lload_n hx hb dX2_isSquareAtPrime_39 rfl (lv_at hl 0 rfl) ?_
      refine lv_iload_n hx hb dX2_isSquareAtPrime_40 rfl (lv_at hl 2 rfl) ?_
      obtain ⟨r5, e6, h⟩ := pb h
      refine ro_S (As := [.long r3, .int a1]) (rest := []) hF (fun _ h => wl_in h) (cnX2_isResidue l e6) syX2_isResidue w_114 ⟨Nat.le_of_ble_eq_true rfl, Nat.le_of_ble_eq_true rfl⟩ mv0 trivial rfl hl.1 rfl (Nat.le_of_ble_eq_true rfl) dX2_isSquareAtPrime_41 ⟨Nat.zero_le _, Nat.zero_le _⟩ ?_
      obtain ⟨g7, h⟩ := pg h
      exact END 44 ls _ (pe h) (nbool g7) dX2_isSquareAtPrime_44
    · have h := pt c18 h
      refine lv_lload_n hx hb dX2_isSquareAtPrime_21 rfl (lv_at hl 0 rfl) ?_
      refine lv_ldc2 (v := (7 : Int64)) hx hb hown (hts _ (wl_in w_112)) dX2_isSquareAtPrime_22 ?_
      refine lv_land hx hb dX2_isSquareAtPrime_25 ?_
      refine lv_lconst (v := (1 : Int64)) hx hb dX2_isSquareAtPrime_26 (by decide) ?_
      refine W.lcmp hx hb dX2_isSquareAtPrime_27 ?_
      refine lv_if_ne (tgt := 35) hx hb dX2_isSquareAtPrime_28 (by decide) (fun c28 => ?_) (fun c28 => ?_)
      · have h := pf c28 h
        refine lv_iconst (v := (0 : Int32)) hx hb dX2_isSquareAtPrime_35 (by decide) ?_
        refine lv_goto (tgt := 44) hx hb dX2_isSquareAtPrime_36 (by decide) ?_
        exact END 44 ls _ (pe h) (by rfl) dX2_isSquareAtPrime_44
      · have h := pt c28 h
        refine lv_iconst (v := (1 : Int32)) hx hb dX2_isSquareAtPrime_31 (by decide) ?_
        refine lv_goto (tgt := 44) hx hb dX2_isSquareAtPrime_32 (by decide) ?_
        exact END 44 ls _ (pe h) (by rfl) dX2_isSquareAtPrime_44
  · have h := pf c5 h
    refine lv_iconst (v := (0 : Int32)) hx hb dX2_isSquareAtPrime_8 (by decide) ?_
    exact END 9 ls _ (pe h) (by rfl) dX2_isSquareAtPrime_9

theorem syX2_signAt : Sy yX2_signAt cX2_signAt 12 (some .int) 3 := ⟨w_98, w_97, w_5, by decide +kernel⟩
set_option maxHeartbeats 4000000 in
set_option maxRecDepth 100000 in
theorem cnX2_signAt (l : Launch) {a0 : Int64} {a1 : Int64} {a2 : Int32} {r : Int32} (h : fX2_signAt a0 a1 a2 = some r) : Ro l yX2_signAt cX2_signAt 12 (some .int) 2 48 [.long a0, .long a1, .int a2] B0 (.int r) := by
  refine ro_i (plainFor_of_name (by decide)) (Nat.le_of_ble_eq_true rfl) ?_
  intro p e s m args below meth cd Q ls hF hB hl END
  have hF : CallFix p m cd cX2_signAt 12 s args (wl yX2_signAt cX2_signAt 12 (some .int)) RX2 := hF
  obtain ⟨hx, hb, hml, hown, hts⟩ := id hF
  have hl : lv_has ls 12 [(0, .long a0), (2, .long a1), (4, .int a2)] := hl
  rw [fX2_signAt] at h
  refine lv_iload hx hb dX2_signAt_0 (lv_at hl 2 rfl) ?_
  refine lv_if_ne (tgt := 23) hx hb dX2_signAt_2 (by decide) (fun c2 => ?_) (fun c2 => ?_)
  · have h := pf c2 h
    refine lv_lload_n hx hb dX2_signAt_23 rfl (lv_at hl 0 rfl) ?_
    refine lv_iload hx hb dX2_signAt_24 (lv_at hl 2 rfl) ?_
    obtain ⟨r1, e2, h⟩ := pb h
    refine ro_S (As := [.long a0, .int a2]) (rest := []) hF (fun _ h => wl_in h) (cnX2_hasOddPower l e2) syX2_hasOddPower w_99 ⟨Nat.le_of_ble_eq_true rfl, Nat.le_of_ble_eq_true rfl⟩ mv0 trivial rfl hl.1 rfl (Nat.le_of_ble_eq_true rfl) dX2_signAt_26 ⟨Nat.zero_le _, Nat.zero_le _⟩ ?_
    refine lv_istore (lv' := [(5, .int r1), (0, .long a0), (2, .long a1), (4, .int a2)]) hx hb dX2_signAt_29 hl (by decide) rfl (fun ls hl => ?_)
    refine lv_lload_n hx hb dX2_signAt_31 rfl (lv_at hl 2 rfl) ?_
    refine lv_iload hx hb dX2_signAt_32 (lv_at hl 3 rfl) ?_
    obtain ⟨r3, e4, h⟩ := pb h
    refine ro_S (As := [.long a1, .int a2]) (rest := []) hF (fun _ h => wl_in h) (cnX2_hasOddPower l e4) syX2_hasOddPower w_99 ⟨Nat.le_of_ble_eq_true rfl, Nat.le_of_ble_eq_true rfl⟩ mv0 trivial rfl hl.1 rfl (Nat.le_of_ble_eq_true rfl) dX2_signAt_34 ⟨Nat.zero_le _, Nat.zero_le _⟩ ?_
    refine lv_istore (lv' := [(6, .int r3), (5, .int r1), (0, .long a0), (2, .long a1), (4, .int a2)]) hx hb dX2_signAt_37 hl (by decide) rfl (fun ls hl => ?_)
    refine lv_lload_n hx hb dX2_signAt_39 rfl (lv_at hl 2 rfl) ?_
    refine lv_iload hx hb dX2_signAt_40 (lv_at hl 4 rfl) ?_
    obtain ⟨r5, e6, h⟩ := pb h
    refine ro_S (As := [.long a0, .int a2]) (rest := []) hF (fun _ h => wl_in h) (cnX2_unit l e6) syX2_unit w_102 ⟨Nat.le_of_ble_eq_true rfl, Nat.le_of_ble_eq_true rfl⟩ mv0 trivial rfl hl.1 rfl (Nat.le_of_ble_eq_true rfl) dX2_signAt_42 ⟨Nat.zero_le _, Nat.zero_le _⟩ ?_
    refine lv_lstore (lv' := [(7, .long r5), (6, .int r3), (5, .int r1), (0, .long a0), (2, .long a1), (4, .int a2)]) hx hb dX2_signAt_45 hl (by decide) rfl (fun ls hl => ?_)
    refine lv_lload_n hx hb dX2_signAt_47 rfl (lv_at hl 4 rfl) ?_
    refine lv_iload hx hb dX2_signAt_48 (lv_at hl 5 rfl) ?_
    obtain ⟨r7, e8, h⟩ := pb h
    refine ro_S (As := [.long a1, .int a2]) (rest := []) hF (fun _ h => wl_in h) (cnX2_unit l e8) syX2_unit w_102 ⟨Nat.le_of_ble_eq_true rfl, Nat.le_of_ble_eq_true rfl⟩ mv0 trivial rfl hl.1 rfl (Nat.le_of_ble_eq_true rfl) dX2_signAt_50 ⟨Nat.zero_le _, Nat.zero_le _⟩ ?_
    refine lv_lstore (lv' := [(9, .long r7), (7, .long r5), (6, .int r3), (5, .int r1), (0, .long a0), (2, .long a1), (4, .int a2)]) hx hb dX2_signAt_53 hl (by decide) rfl (fun ls hl => ?_)
    refine lv_iload hx hb dX2_signAt_55 (lv_at hl 6 rfl) ?_
    refine lv_iconst (v := (2 : Int32)) hx hb dX2_signAt_57 (by decide) ?_
    have J109 : ∀ (t0_109 : Int32), kX2_signAt_109 a2 r1 r3 r5 r7 t0_109 = some r → ∀ (ls : Array Slot), lv_has ls 12 [(9, .long r7), (7, .long r5), (6, .int r3), (5, .int r1), (4, .int a2)] → W p l e (rmk 2 48) s m args below meth cd s.heap [] 0 0 Q (F0 m 109 ls [.int t0_109]) := by
      intro t0_109 h  ls hl
      rw [kX2_signAt_109] at h
      refine lv_istore (lv' := [(11, .int t0_109), (9, .long r7), (7, .long r5), (6, .int r3), (5, .int r1), (4, .int a2)]) hx hb dX2_signAt_109 hl (by decide) rfl (fun ls hl => ?_)
      refine lv_iload hx hb dX2_signAt_111 (lv_at hl 4 rfl) ?_
      have J138 : ∀ (x11_138 : Int32), kX2_signAt_138 a2 r3 r5 x11_138 = some r → ∀ (ls : Array Slot), lv_has ls 12 [(7, .long r5), (6, .int r3), (4, .int a2), (11, .int x11_138)] → W p l e (rmk 2 48) s m args below meth cd s.heap [] 0 0 Q (F0 m 138 ls []) := by
        intro x11_138 h  ls hl
        rw [kX2_signAt_138] at h
        refine lv_iload hx hb dX2_signAt_138 (lv_at hl 1 rfl) ?_
        have J165 : ∀ (x11_165 : Int32), kX2_signAt_165 x11_165 = some r → ∀ (ls : Array Slot), lv_has ls 12 [(11, .int x11_165)] → W p l e (rmk 2 48) s m args below meth cd s.heap [] 0 0 Q (F0 m 165 ls []) := by
          intro x11_165 h  ls hl
          rw [kX2_signAt_165] at h
          refine lv_iload hx hb dX2_signAt_165 (lv_at hl 0 rfl) ?_
          refine lv_if_eq (tgt := 174) hx hb dX2_signAt_167 (by decide) (fun c167 => ?_) (fun c167 => ?_)
          · have h := pt c167 h
            refine lv_iconst (v := (1 : Int32)) hx hb dX2_signAt_174 (by decide) ?_
            exact END 175 ls _ (pe h) dX2_signAt_175
          · have h := pf c167 h
            refine lv_iconst (v := (-1 : Int32)) hx hb dX2_signAt_170 (by decide) ?_
            refine lv_goto (tgt := 175) hx hb dX2_signAt_171 (by decide) ?_
            exact END 175 ls _ (pe h) dX2_signAt_175
        refine lv_if_eq (tgt := 165) hx hb dX2_signAt_140 (by decide) (fun c140 => ?_) (fun c140 => ?_)
        · have h := pt c140 h
          exact J165 _ h  _ (lv_sub hl [3] rfl)
        · have h := pf c140 h
          refine lv_lload hx hb dX2_signAt_143 (lv_at hl 0 rfl) ?_
          refine lv_iload hx hb dX2_signAt_145 (lv_at hl 2 rfl) ?_
          obtain ⟨r9, e10, h⟩ := pb h
          refine ro_S (As := [.long r5, .int a2]) (rest := []) hF (fun _ h => wl_in h) (cnX2_isTurning l e10) syX2_isTurning w_109 ⟨Nat.le_of_ble_eq_true rfl, Nat.le_of_ble_eq_true rfl⟩ mv0 trivial rfl hl.1 rfl (Nat.le_of_ble_eq_true rfl) dX2_signAt_147 ⟨Nat.zero_le _, Nat.zero_le _⟩ ?_
          refine lv_if_eq (tgt := 165) hx hb dX2_signAt_150 (by decide) (fun c150 => ?_) (fun c150 => ?_)
          · have h := pt c150 h
            exact J165 _ h  _ (lv_sub hl [3] rfl)
          · have h := pf c150 h
            refine lv_iload hx hb dX2_signAt_153 (lv_at hl 3 rfl) ?_
            refine lv_if_ne (tgt := 162) hx hb dX2_signAt_155 (by decide) (fun c155 => ?_) (fun c155 => ?_)
            · have h := pf c155 h
              refine lv_iconst (v := (0 : Int32)) hx hb dX2_signAt_162 (by decide) ?_
              refine lv_istore (lv' := [(11, .int (0 : Int32)), (7, .long r5), (6, .int r3), (4, .int a2)]) hx hb dX2_signAt_163 hl (by decide) rfl (fun ls hl => ?_)
              exact J165 _ h  _ (lv_sub hl [0] rfl)
            · have h := pt c155 h
              refine lv_iconst (v := (1 : Int32)) hx hb dX2_signAt_158 (by decide) ?_
              refine lv_goto (tgt := 163) hx hb dX2_signAt_159 (by decide) ?_
              refine lv_istore (lv' := [(11, .int (1 : Int32)), (7, .long r5), (6, .int r3), (4, .int a2)]) hx hb dX2_signAt_163 hl (by decide) rfl (fun ls hl => ?_)
              exact J165 _ h  _ (lv_sub hl [0] rfl)
      refine lv_if_eq (tgt := 138) hx hb dX2_signAt_113 (by decide) (fun c113 => ?_) (fun c113 => ?_)
      · have h := pt c113 h
        exact J138 _ h  _ (lv_sub hl [2, 3, 5, 0] rfl)
      · have h := pf c113 h
        refine lv_lload hx hb dX2_signAt_116 (lv_at hl 1 rfl) ?_
        refine lv_iload hx hb dX2_signAt_118 (lv_at hl 5 rfl) ?_
        obtain ⟨r11, e12, h⟩ := pb h
        refine ro_S (As := [.long r7, .int a2]) (rest := []) hF (fun _ h => wl_in h) (cnX2_isTurning l e12) syX2_isTurning w_109 ⟨Nat.le_of_ble_eq_true rfl, Nat.le_of_ble_eq_true rfl⟩ mv0 trivial rfl hl.1 rfl (Nat.le_of_ble_eq_true rfl) dX2_signAt_120 ⟨Nat.zero_le _, Nat.zero_le _⟩ ?_
        refine lv_if_eq (tgt := 138) hx hb dX2_signAt_123 (by decide) (fun c123 => ?_) (fun c123 => ?_)
        · have h := pt c123 h
          exact J138 _ h  _ (lv_sub hl [2, 3, 5, 0] rfl)
        · have h := pf c123 h
          refine lv_iload hx hb dX2_signAt_126 (lv_at hl 0 rfl) ?_
          refine lv_if_ne (tgt := 135) hx hb dX2_signAt_128 (by decide) (fun c128 => ?_) (fun c128 => ?_)
          · have h := pf c128 h
            refine lv_iconst (v := (0 : Int32)) hx hb dX2_signAt_135 (by decide) ?_
            refine lv_istore (lv' := [(11, .int (0 : Int32)), (9, .long r7), (7, .long r5), (6, .int r3), (5, .int r1), (4, .int a2)]) hx hb dX2_signAt_136 hl (by decide) rfl (fun ls hl => ?_)
            exact J138 _ h  _ (lv_sub hl [2, 3, 5, 0] rfl)
          · have h := pt c128 h
            refine lv_iconst (v := (1 : Int32)) hx hb dX2_signAt_131 (by decide) ?_
            refine lv_goto (tgt := 136) hx hb dX2_signAt_132 (by decide) ?_
            refine lv_istore (lv' := [(11, .int (1 : Int32)), (9, .long r7), (7, .long r5), (6, .int r3), (5, .int r1), (4, .int a2)]) hx hb dX2_signAt_136 hl (by decide) rfl (fun ls hl => ?_)
            exact J138 _ h  _ (lv_sub hl [2, 3, 5, 0] rfl)
    refine lv_icmp_ne (tgt := 85) hx hb dX2_signAt_58 (by decide) (fun c58 => ?_) (fun c58 => ?_)
    · have h := pf c58 h
      refine lv_iload hx hb dX2_signAt_85 (lv_at hl 3 rfl) ?_
      refine lv_if_eq (tgt := 108) hx hb dX2_signAt_87 (by decide) (fun c87 => ?_) (fun c87 => ?_)
      · have h := pt c87 h
        refine lv_iconst (v := (0 : Int32)) hx hb dX2_signAt_108 (by decide) ?_
        exact J109 _ h  _ (lv_sub hl [0, 1, 2, 3, 6] rfl)
      · have h := pf c87 h
        refine lv_iload hx hb dX2_signAt_90 (lv_at hl 2 rfl) ?_
        refine lv_if_eq (tgt := 108) hx hb dX2_signAt_92 (by decide) (fun c92 => ?_) (fun c92 => ?_)
        · have h := pt c92 h
          refine lv_iconst (v := (0 : Int32)) hx hb dX2_signAt_108 (by decide) ?_
          exact J109 _ h  _ (lv_sub hl [0, 1, 2, 3, 6] rfl)
        · have h := pf c92 h
          refine lv_iload hx hb dX2_signAt_95 (lv_at hl 6 rfl) ?_
          refine lv_i2l (v := a2.toInt64) hx hb dX2_signAt_97 rfl ?_
          obtain ⟨r13, e14, h⟩ := pb h
          refine ro_S (As := [.long a2.toInt64]) (rest := []) hF (fun _ h => wl_in h) (cnX2_isThreeOfFour l e14) syX2_isThreeOfFour w_105 ⟨Nat.le_of_ble_eq_true rfl, Nat.le_of_ble_eq_true rfl⟩ mv0 trivial rfl hl.1 rfl (Nat.le_of_ble_eq_true rfl) dX2_signAt_98 ⟨Nat.zero_le _, Nat.zero_le _⟩ ?_
          refine lv_if_eq (tgt := 108) hx hb dX2_signAt_101 (by decide) (fun c101 => ?_) (fun c101 => ?_)
          · have h := pt c101 h
            refine lv_iconst (v := (0 : Int32)) hx hb dX2_signAt_108 (by decide) ?_
            exact J109 _ h  _ (lv_sub hl [0, 1, 2, 3, 6] rfl)
          · have h := pf c101 h
            refine lv_iconst (v := (1 : Int32)) hx hb dX2_signAt_104 (by decide) ?_
            refine lv_goto (tgt := 109) hx hb dX2_signAt_105 (by decide) ?_
            exact J109 _ h  _ (lv_sub hl [0, 1, 2, 3, 6] rfl)
    · have h := pt c58 h
      refine lv_lload hx hb dX2_signAt_61 (lv_at hl 1 rfl) ?_
      obtain ⟨r15, e16, h⟩ := pb h
      refine ro_S (As := [.long r5]) (rest := []) hF (fun _ h => wl_in h) (cnX2_isThreeOfFour l e16) syX2_isThreeOfFour w_105 ⟨Nat.le_of_ble_eq_true rfl, Nat.le_of_ble_eq_true rfl⟩ mv0 trivial rfl hl.1 rfl (Nat.le_of_ble_eq_true rfl) dX2_signAt_63 ⟨Nat.zero_le _, Nat.zero_le _⟩ ?_
      refine lv_if_eq (tgt := 81) hx hb dX2_signAt_66 (by decide) (fun c66 => ?_) (fun c66 => ?_)
      · have h := pt c66 h
        refine lv_iconst (v := (0 : Int32)) hx hb dX2_signAt_81 (by decide) ?_
        refine lv_goto (tgt := 109) hx hb dX2_signAt_82 (by decide) ?_
        exact J109 _ h  _ (lv_sub hl [0, 1, 2, 3, 6] rfl)
      · have h := pf c66 h
        refine lv_lload hx hb dX2_signAt_69 (lv_at hl 0 rfl) ?_
        obtain ⟨r17, e18, h⟩ := pb h
        refine ro_S (As := [.long r7]) (rest := []) hF (fun _ h => wl_in h) (cnX2_isThreeOfFour l e18) syX2_isThreeOfFour w_105 ⟨Nat.le_of_ble_eq_true rfl, Nat.le_of_ble_eq_true rfl⟩ mv0 trivial rfl hl.1 rfl (Nat.le_of_ble_eq_true rfl) dX2_signAt_71 ⟨Nat.zero_le _, Nat.zero_le _⟩ ?_
        refine lv_if_eq (tgt := 81) hx hb dX2_signAt_74 (by decide) (fun c74 => ?_) (fun c74 => ?_)
        · have h := pt c74 h
          refine lv_iconst (v := (0 : Int32)) hx hb dX2_signAt_81 (by decide) ?_
          refine lv_goto (tgt := 109) hx hb dX2_signAt_82 (by decide) ?_
          exact J109 _ h  _ (lv_sub hl [0, 1, 2, 3, 6] rfl)
        · have h := pf c74 h
          refine lv_iconst (v := (1 : Int32)) hx hb dX2_signAt_77 (by decide) ?_
          refine lv_goto (tgt := 109) hx hb dX2_signAt_78 (by decide) ?_
          exact J109 _ h  _ (lv_sub hl [0, 1, 2, 3, 6] rfl)
  · have h := pt c2 h
    refine lv_lload_n hx hb dX2_signAt_5 rfl (lv_at hl 0 rfl) ?_
    refine lv_lconst (v := (0 : Int64)) hx hb dX2_signAt_6 (by decide) ?_
    refine W.lcmp hx hb dX2_signAt_7 ?_
    refine lv_if_ge (tgt := 21) hx hb dX2_signAt_8 (by decide) (fun c8 => ?_) (fun c8 => ?_)
    · have h := pt c8 h
      refine lv_iconst (v := (1 : Int32)) hx hb dX2_signAt_21 (by decide) ?_
      exact END 22 ls _ (pe h) dX2_signAt_22
    · have h := pf c8 h
      refine lv_lload_n hx hb dX2_signAt_11 rfl (lv_at hl 1 rfl) ?_
      refine lv_lconst (v := (0 : Int64)) hx hb dX2_signAt_12 (by decide) ?_
      refine W.lcmp hx hb dX2_signAt_13 ?_
      refine lv_if_ge (tgt := 21) hx hb dX2_signAt_14 (by decide) (fun c14 => ?_) (fun c14 => ?_)
      · have h := pt c14 h
        refine lv_iconst (v := (1 : Int32)) hx hb dX2_signAt_21 (by decide) ?_
        exact END 22 ls _ (pe h) dX2_signAt_22
      · have h := pf c14 h
        refine lv_iconst (v := (-1 : Int32)) hx hb dX2_signAt_17 (by decide) ?_
        refine lv_goto (tgt := 22) hx hb dX2_signAt_18 (by decide) ?_
        exact END 22 ls _ (pe h) dX2_signAt_22

theorem syX2_isPlace : Sy yX2_isPlace cX2_isPlace 5 (some .boolean) 1 := ⟨w_93, w_92, w_5, by decide +kernel⟩
set_option maxHeartbeats 4000000 in
set_option maxRecDepth 100000 in
theorem cnX2_isPlace (l : Launch) (A : Nat → Prop) (G : va_G) (cI cF : ClassId) (tA tT : Nat) {a0 : Int32} {r : Int32} (h : fX2_isPlace a0 = some r) : Ro l yX2_isPlace cX2_isPlace 5 (some .boolean) 0 0 [.int a0] (eB A G cI cF tA tT) (.int r) := by
  refine ro_z (plainFor_of_name (by decide)) (Nat.le_of_ble_eq_true rfl) ?_
  intro p e s m args below meth cd Q ls hF hB hl END
  have hF : CallFix p m cd cX2_isPlace 5 s args (wl yX2_isPlace cX2_isPlace 5 (some .boolean)) RX2 := hF
  obtain ⟨hx, hb, hml, hown, hts⟩ := id hF
  have hl : lv_has ls 5 [(0, .int a0)] := hl
  have hE := hB
  obtain ⟨hK, ⟨hZ, hT⟩, ⟨hZ2, hT2⟩⟩ := hB
  have hS : va_S A s.heap s.heap [] := va_S.rf
  rw [fX2_isPlace] at h
  refine va_gets hx hb hZ hS hown (hts _ (wl_in w_94)) (fun _ h9 => h9) dX2_isPlace_0 ?_
  refine lv_astore_n (lv' := [(1, .ref tA), (0, .int a0)]) hx hb dX2_isPlace_3 rfl hl (by decide) rfl (fun ls hl => ?_)
  refine lv_aload_n hx hb dX2_isPlace_4 rfl (lv_at hl 0 rfl) ?_
  refine va_tlen (v := (79 : Int32)) hx hb hT hS rfl dX2_isPlace_5 ?_
  refine lv_istore_n (lv' := [(2, .int (79 : Int32)), (1, .ref tA), (0, .int a0)]) hx hb dX2_isPlace_6 rfl hl (by decide) rfl (fun ls hl => ?_)
  refine lv_iconst (v := (0 : Int32)) hx hb dX2_isPlace_7 (by decide) ?_
  refine lv_istore_n (lv' := [(3, .int (0 : Int32)), (2, .int (79 : Int32)), (1, .ref tA), (0, .int a0)]) hx hb dX2_isPlace_8 rfl hl (by decide) rfl (fun ls hl => ?_)
  have J9 : ∀ (n9 : Nat) (x3_9 : Int32), kX2_isPlace_9 a0 n9 x3_9 = some r → ∀ (ls : Array Slot), lv_has ls 5 [(2, .int (79 : Int32)), (1, .ref tA), (0, .int a0), (3, .int x3_9)] → W p l e (rmk 0 0) s m args below meth cd s.heap [] 0 0 Q (F0 m 9 ls []) := by
    intro n9
    induction n9 with
    | zero =>
      intro x3_9 h
      rw [kX2_isPlace_9] at h
      cases h
    | succ n9 ih9 =>
      intro x3_9 h  ls hl
      rw [kX2_isPlace_9] at h
      refine lv_iload_n hx hb dX2_isPlace_9 rfl (lv_at hl 3 rfl) ?_
      refine lv_iload_n hx hb dX2_isPlace_10 rfl (lv_at hl 0 rfl) ?_
      refine lv_icmp_ge (tgt := 33) hx hb dX2_isPlace_11 (by decide) (fun c11 => ?_) (fun c11 => ?_)
      · have h := pt c11 h
        refine lv_iconst (v := (0 : Int32)) hx hb dX2_isPlace_33 (by decide) ?_
        exact END 34 ls _ (pe h) (by rfl) dX2_isPlace_34
      · have h := pf c11 h
        refine lv_aload_n hx hb dX2_isPlace_14 rfl (lv_at hl 1 rfl) ?_
        refine lv_iload_n hx hb dX2_isPlace_15 rfl (lv_at hl 3 rfl) ?_
        obtain ⟨g1, h⟩ := pg h
        refine va_ti (v := .int (allv x3_9.toNatClampNeg)) hx hb hT hS g1 rfl dX2_isPlace_16 ?_
        refine lv_istore (lv' := [(4, .int (allv x3_9.toNatClampNeg)), (2, .int (79 : Int32)), (1, .ref tA), (0, .int a0), (3, .int x3_9)]) hx hb dX2_isPlace_17 hl (by decide) rfl (fun ls hl => ?_)
        refine lv_iload hx hb dX2_isPlace_19 (lv_at hl 0 rfl) ?_
        refine lv_iload_n hx hb dX2_isPlace_21 rfl (lv_at hl 3 rfl) ?_
        refine lv_icmp_ne (tgt := 27) hx hb dX2_isPlace_22 (by decide) (fun c22 => ?_) (fun c22 => ?_)
        · have h := pf c22 h
          refine lv_iinc (v := x3_9 + (1 : Int32)) (lv' := [(3, .int (x3_9 + (1 : Int32))), (4, .int (allv x3_9.toNatClampNeg)), (2, .int (79 : Int32)), (1, .ref tA), (0, .int a0)]) hx hb dX2_isPlace_27 hl (k := 4) rfl rfl (by decide) rfl (fun ls hl => ?_)
          refine lv_goto (tgt := 9) hx hb dX2_isPlace_30 (by decide) ?_
          exact ih9 _ h  _ (lv_sub hl [2, 3, 4, 0] rfl)
        · have h := pt c22 h
          refine lv_iconst (v := (1 : Int32)) hx hb dX2_isPlace_25 (by decide) ?_
          exact END 26 ls _ (pe h) (by rfl) dX2_isPlace_26
  exact J9 _ _ h  _ (lv_sub hl [1, 2, 3, 0] rfl)
