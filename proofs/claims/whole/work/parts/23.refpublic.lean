def kX5_free_27 (x3_20 : Int32) (K20 : Int32 → Int32 → Option (Int32)) : Nat → Int32 → Option (Int32)
  | 0, _ => none
  | fu + 1, x2_27 =>
    (if ¬ (x3_20 * x3_20) = 0 then (if (irm x2_27 (x3_20 * x3_20)) = 0 then (if ¬ (x3_20 * x3_20) = 0 then (kX5_free_27 x3_20 K20 fu) (x2_27 / (x3_20 * x3_20)) else none) else
    K20 x2_27 (x3_20 + (1 : Int32))) else none)
def kX5_free_20 : Nat → Int32 → Int32 → Option (Int32)
  | 0, _, _ => none
  | fu + 1, x2_20, x3_20 =>
    (if (1000 : Int32) < x3_20 then some x2_20 else
    kX5_free_27 x3_20 (kX5_free_20 fu) 1100 x2_20)
def fX5_free (sz : Nat → Int32) (rw : Nat → Int32) (a0 : Int32) : Option (Int32) :=
    (fX5_isTold a0 (1000000 : Int32)).bind fun (r1 : Int32) =>
    (if r1 = 0 then some (0 : Int32) else
    kX5_free_20 1100 a0 (2 : Int32))
def fX5_sign (sz : Nat → Int32) (rw : Nat → Int32) (a0 : Int32) (a1 : Int32) (a2 : Int32) : Option (Int32) :=
    (fX5_isTold a0 (1000000 : Int32)).bind fun (r1 : Int32) =>
    (if r1 = 0 then some (-3 : Int32) else
    (fX5_isTold a1 (1000000 : Int32)).bind fun (r3 : Int32) =>
    (if r3 = 0 then some (-3 : Int32) else
    (fX5_isPlace a2).bind fun (r5 : Int32) =>
    (if r5 = 0 then some (-3 : Int32) else
    (fX5_signOf sz rw a0.toInt64 a1.toInt64 a2).bind fun (r7 : Int32) =>
    some r7)))
def kX5_odds_68 (x3_33 : Int32) (K33 : Int32 → Int32 → Option (Int32)) (x4_68 : Int32) (t0_68 : Int32) : Option (Int32) :=
    K33 (x3_33 + t0_68) (x4_68 + (1 : Int32))
def kX5_odds_33 (sz : Nat → Int32) (rw : Nat → Int32) (a0 : Int32) (a1 : Int32) : Nat → Int32 → Int32 → Option (Int32)
  | 0, _, _ => none
  | fu + 1, x3_33, x4_33 =>
    (if (398 : Int32) ≤ x4_33 then some x3_33 else
    (fX5_isPlace x4_33).bind fun (r5 : Int32) =>
    (if r5 = 0 then kX5_odds_68 x3_33 (kX5_odds_33 sz rw a0 a1 fu) x4_33 (0 : Int32) else
    (fX5_signOf sz rw a0.toInt64 a1.toInt64 x4_33).bind fun (r7 : Int32) =>
    (if 0 ≤ r7 then kX5_odds_68 x3_33 (kX5_odds_33 sz rw a0 a1 fu) x4_33 (0 : Int32) else
    kX5_odds_68 x3_33 (kX5_odds_33 sz rw a0 a1 fu) x4_33 (1 : Int32))))
def fX5_odds (sz : Nat → Int32) (rw : Nat → Int32) (a0 : Int32) (a1 : Int32) : Option (Int32) :=
    (fX5_isTold a0 (400 : Int32)).bind fun (r1 : Int32) =>
    (if r1 = 0 then some (-3 : Int32) else
    (fX5_isTold a1 (400 : Int32)).bind fun (r3 : Int32) =>
    (if r3 = 0 then some (-3 : Int32) else
    kX5_odds_33 sz rw a0 a1 1100 (0 : Int32) (0 : Int32)))
def fX5_at (sz : Nat → Int32) (rw : Nat → Int32) (a0 : Int32) (a1 : Int32) : Option (Int32) :=
    (fX5_isShelf a0).bind fun (r1 : Int32) =>
    (if r1 = 0 then some (0 : Int32) else
    (if ¬ (a0 < 0 ∨ 4 ≤ a0.toNatClampNeg) then (fX5_in a1.toInt64 (0 : Int64) (((sz a0.toNatClampNeg) - (1 : Int32)).toInt64)).bind fun (r4 : Int32) =>
    (if r4 = 0 then some (0 : Int32) else
    (if ¬ ((((6 : Int32) * a0) + a1) < 0 ∨ 24 ≤ (((6 : Int32) * a0) + a1).toNatClampNeg) then some (rw (((6 : Int32) * a0) + a1).toNatClampNeg) else none)) else none))
def fX5_whole (sz : Nat → Int32) (rw : Nat → Int32) (a0 : Int32) (a1 : Int32) : Option (Int64) :=
    (fX5_isShelf a0).bind fun (r1 : Int32) =>
    (if r1 = 0 then some (0 : Int64) else
    (fX5_in a1.toInt64 (0 : Int64) (1 : Int64)).bind fun (r3 : Int32) =>
    (if r3 = 0 then some (0 : Int64) else
    (if a1 = 0 then (if ¬ (a0 < 0 ∨ 4 ≤ a0.toNatClampNeg) then (fX5_productOf sz rw a0 (sz a0.toNatClampNeg)).bind fun (r8 : Int64) =>
    some r8 else none) else
    (fX5_freeOf sz rw a0).bind fun (r5 : Int64) =>
    some r5)))
def fX5_hold (sz : Nat → Int32) (rw : Nat → Int32) (a0 : Int32) (a1 : Int32) : Option (Int32) :=
    (fX5_isShelf a0).bind fun (r1 : Int32) =>
    (if r1 = 0 then some (-3 : Int32) else
    (fX5_isPlace a1).bind fun (r3 : Int32) =>
    (if r3 = 0 then some (-3 : Int32) else
    (if ¬ (a0 < 0 ∨ 4 ≤ a0.toNatClampNeg) then (fX5_holdOf sz rw a0 (sz a0.toNatClampNeg) a1).bind fun (r6 : Int32) =>
    some r6 else none)))
def fX5_goes (sz : Nat → Int32) (rw : Nat → Int32) (a0 : Int32) (a1 : Int32) : Option (Int32) :=
    (fX5_isShelf a0).bind fun (r1 : Int32) =>
    (if r1 = 0 then some (-3 : Int32) else
    (fX5_isPlace a1).bind fun (r3 : Int32) =>
    (if r3 = 0 then some (-3 : Int32) else
    (if ¬ (a0 < 0 ∨ 4 ≤ a0.toNatClampNeg) then (fX5_isGoing sz rw a0 (sz a0.toNatClampNeg) a1).bind fun (r6 : Int32) =>
    (if r6 = 0 then some (0 : Int32) else
    some (1 : Int32)) else none)))
def fX5_nought (sz : Nat → Int32) (rw : Nat → Int32) (a0 : Int32) : Option (Int32) :=
    (fX5_isShelf a0).bind fun (r1 : Int32) =>
    (if r1 = 0 then some (-3 : Int32) else
    (if ¬ (a0 < 0 ∨ 4 ≤ a0.toNatClampNeg) then (fX5_isNought sz rw a0 (sz a0.toNatClampNeg)).bind fun (r4 : Int32) =>
    (if r4 = 0 then some (0 : Int32) else
    some (1 : Int32)) else none))
def fX5_bars (sz : Nat → Int32) (rw : Nat → Int32) (a0 : Int32) : Option (Int32) :=
    (fX5_isShelf a0).bind fun (r1 : Int32) =>
    (if r1 = 0 then some (-3 : Int32) else
    (fX5_barOf sz rw a0 (-1 : Int32)).bind fun (r3 : Int32) =>
    some ((-10 : Int32) - r3))
def fX5_bar (sz : Nat → Int32) (rw : Nat → Int32) (a0 : Int32) (a1 : Int32) : Option (Int32) :=
    (fX5_isShelf a0).bind fun (r1 : Int32) =>
    (if r1 = 0 then some (-3 : Int32) else
    (if 0 ≤ a1 then (fX5_barOf sz rw a0 a1).bind fun (r3 : Int32) =>
    (if 0 ≤ r3 then some r3 else
    some (-3 : Int32)) else
    some (-3 : Int32)))
def kX5_alike_120 (sz : Nat → Int32) (rw : Nat → Int32) (a0 : Int32) (a1 : Int32) (x4_76 : Int32) (x5_76 : Int32) (K76 : Int32 → Int32 → Option (Int32)) : Option (Int32) :=
    (fX5_holdOf sz rw a0 (sz a0.toNatClampNeg) x5_76).bind fun (r15 : Int32) =>
    (fX5_holdOf sz rw a1 (sz a0.toNatClampNeg) x5_76).bind fun (r19 : Int32) =>
    (if r15 = r19 then K76 (x4_76 &&& (1 : Int32)) (x5_76 + (1 : Int32)) else
    K76 (x4_76 &&& (0 : Int32)) (x5_76 + (1 : Int32)))
def kX5_alike_112 (sz : Nat → Int32) (rw : Nat → Int32) (a0 : Int32) (a1 : Int32) (x4_76 : Int32) (x5_76 : Int32) (K76 : Int32 → Int32 → Option (Int32)) : Option (Int32) :=
    (fX5_isPrime x5_76).bind fun (r25 : Int32) =>
    (if r25 = 0 then K76 x4_76 (x5_76 + (1 : Int32)) else
    kX5_alike_120 sz rw a0 a1 x4_76 x5_76 K76)
def kX5_alike_76 (sz : Nat → Int32) (rw : Nat → Int32) (a0 : Int32) (a1 : Int32) : Nat → Int32 → Int32 → Option (Int32)
  | 0, _, _ => none
  | fu + 1, x4_76, x5_76 =>
    (if (398 : Int32) ≤ x5_76 then (if x4_76 = 0 then some (0 : Int32) else
    some (1 : Int32)) else
    (if x5_76 = (2 : Int32) then kX5_alike_120 sz rw a0 a1 x4_76 x5_76 (kX5_alike_76 sz rw a0 a1 fu) else
    (fX5_isOf sz rw a0 (sz a0.toNatClampNeg) x5_76).bind fun (r23 : Int32) =>
    (if r23 = 0 then (fX5_isOf sz rw a1 (sz a0.toNatClampNeg) x5_76).bind fun (r27 : Int32) =>
    (if r27 = 0 then (kX5_alike_76 sz rw a0 a1 fu) x4_76 (x5_76 + (1 : Int32)) else
    kX5_alike_112 sz rw a0 a1 x4_76 x5_76 (kX5_alike_76 sz rw a0 a1 fu)) else
    kX5_alike_112 sz rw a0 a1 x4_76 x5_76 (kX5_alike_76 sz rw a0 a1 fu))))
def fX5_alike (sz : Nat → Int32) (rw : Nat → Int32) (a0 : Int32) (a1 : Int32) : Option (Int32) :=
    (fX5_isShelf a0).bind fun (r1 : Int32) =>
    (if r1 = 0 then some (-3 : Int32) else
    (fX5_isShelf a1).bind fun (r3 : Int32) =>
    (if r3 = 0 then some (-3 : Int32) else
    (if ¬ (a0 < 0 ∨ 4 ≤ a0.toNatClampNeg) then (if ¬ (a1 < 0 ∨ 4 ≤ a1.toNatClampNeg) then (if (sz a0.toNatClampNeg) = (sz a1.toNatClampNeg) then (fX5_aboveOf sz rw a0 (sz a0.toNatClampNeg)).bind fun (r7 : Int32) =>
    (fX5_aboveOf sz rw a1 (sz a0.toNatClampNeg)).bind fun (r9 : Int32) =>
    (if r7 = r9 then (fX5_freeOf sz rw a0).bind fun (r11 : Int64) =>
    (fX5_freeOf sz rw a1).bind fun (r13 : Int64) =>
    (if (lg_cmp r11 r13) = 0 then kX5_alike_76 sz rw a0 a1 1100 (1 : Int32) (2 : Int32) else
    some (0 : Int32)) else
    some (0 : Int32)) else
    some (0 : Int32)) else none) else none)))
def fX5_worth (sz : Nat → Int32) (rw : Nat → Int32) (a0 : Int32) (a1 : Int32) (a2 : Int32) (a3 : Int32) : Option (Int64) :=
    (fX5_isThree sz rw a0).bind fun (r1 : Int32) =>
    (if r1 = 0 then some (-1000000000000000 : Int64) else
    (fX5_in a1.toInt64 (-1000 : Int64) (1000 : Int64)).bind fun (r3 : Int32) =>
    (if r3 = 0 then some (-1000000000000000 : Int64) else
    (fX5_in a2.toInt64 (-1000 : Int64) (1000 : Int64)).bind fun (r5 : Int32) =>
    (if r5 = 0 then some (-1000000000000000 : Int64) else
    (fX5_in a3.toInt64 (-1000 : Int64) (1000 : Int64)).bind fun (r7 : Int32) =>
    (if r7 = 0 then some (-1000000000000000 : Int64) else
    (fX5_worthOf sz rw a0 a1.toInt64 a2.toInt64 a3.toInt64).bind fun (r9 : Int64) =>
    some r9))))
def kX5_line_276 (rw : Nat → Int32) (a0 : Int32) (a1 : Int32) (a2 : Int32) (a3 : Int32) (a4 : Int32) (a5 : Int32) (a6 : Int32) (a7 : Int32) (r11 : Int64) (t0_276 : Int64) : Option (Int64) :=
    (if a7 = 0 then (if ¬ t0_276 = 0 then some (((r11 * a1.toInt64) - (((2 : Int64) * ((((((rw ((6 : Int32) * a0).toNatClampNeg).toInt64) * a1.toInt64) * a4.toInt64) + ((((rw (((6 : Int32) * a0) + (1 : Int32)).toNatClampNeg).toInt64) * a2.toInt64) * a5.toInt64)) + ((((rw (((6 : Int32) * a0) + (2 : Int32)).toNatClampNeg).toInt64) * a3.toInt64) * a6.toInt64))) * a4.toInt64)) / t0_276) else none) else
    (if a7 = (1 : Int32) then (if ¬ t0_276 = 0 then some (((r11 * a2.toInt64) - (((2 : Int64) * ((((((rw ((6 : Int32) * a0).toNatClampNeg).toInt64) * a1.toInt64) * a4.toInt64) + ((((rw (((6 : Int32) * a0) + (1 : Int32)).toNatClampNeg).toInt64) * a2.toInt64) * a5.toInt64)) + ((((rw (((6 : Int32) * a0) + (2 : Int32)).toNatClampNeg).toInt64) * a3.toInt64) * a6.toInt64))) * a5.toInt64)) / t0_276) else none) else
    (if ¬ t0_276 = 0 then some (((r11 * a3.toInt64) - (((2 : Int64) * ((((((rw ((6 : Int32) * a0).toNatClampNeg).toInt64) * a1.toInt64) * a4.toInt64) + ((((rw (((6 : Int32) * a0) + (1 : Int32)).toNatClampNeg).toInt64) * a2.toInt64) * a5.toInt64)) + ((((rw (((6 : Int32) * a0) + (2 : Int32)).toNatClampNeg).toInt64) * a3.toInt64) * a6.toInt64))) * a6.toInt64)) / t0_276) else none)))
def kX5_line_63 (sz : Nat → Int32) (rw : Nat → Int32) (a0 : Int32) (a1 : Int32) (a2 : Int32) (a3 : Int32) (a4 : Int32) (a5 : Int32) (a6 : Int32) (a7 : Int32) : Option (Int64) :=
    (fX5_isSolution sz rw a0 a1 a2 a3).bind fun (r9 : Int32) =>
    (if r9 = 0 then some (-1000000000000000 : Int64) else
    (fX5_worthOf sz rw a0 a4.toInt64 a5.toInt64 a6.toInt64).bind fun (r11 : Int64) =>
    (if ¬ (((6 : Int32) * a0) < 0 ∨ 24 ≤ ((6 : Int32) * a0).toNatClampNeg) then (if ¬ ((((6 : Int32) * a0) + (1 : Int32)) < 0 ∨ 24 ≤ (((6 : Int32) * a0) + (1 : Int32)).toNatClampNeg) then (if ¬ ((((6 : Int32) * a0) + (2 : Int32)) < 0 ∨ 24 ≤ (((6 : Int32) * a0) + (2 : Int32)).toNatClampNeg) then (fX5_common ((r11 * a1.toInt64) - (((2 : Int64) * ((((((rw ((6 : Int32) * a0).toNatClampNeg).toInt64) * a1.toInt64) * a4.toInt64) + ((((rw (((6 : Int32) * a0) + (1 : Int32)).toNatClampNeg).toInt64) * a2.toInt64) * a5.toInt64)) + ((((rw (((6 : Int32) * a0) + (2 : Int32)).toNatClampNeg).toInt64) * a3.toInt64) * a6.toInt64))) * a4.toInt64)) ((r11 * a2.toInt64) - (((2 : Int64) * ((((((rw ((6 : Int32) * a0).toNatClampNeg).toInt64) * a1.toInt64) * a4.toInt64) + ((((rw (((6 : Int32) * a0) + (1 : Int32)).toNatClampNeg).toInt64) * a2.toInt64) * a5.toInt64)) + ((((rw (((6 : Int32) * a0) + (2 : Int32)).toNatClampNeg).toInt64) * a3.toInt64) * a6.toInt64))) * a5.toInt64))).bind fun (r16 : Int64) =>
    (fX5_common r16 ((r11 * a3.toInt64) - (((2 : Int64) * ((((((rw ((6 : Int32) * a0).toNatClampNeg).toInt64) * a1.toInt64) * a4.toInt64) + ((((rw (((6 : Int32) * a0) + (1 : Int32)).toNatClampNeg).toInt64) * a2.toInt64) * a5.toInt64)) + ((((rw (((6 : Int32) * a0) + (2 : Int32)).toNatClampNeg).toInt64) * a3.toInt64) * a6.toInt64))) * a6.toInt64))).bind fun (r18 : Int64) =>
    (if (lg_cmp r18 (0 : Int64)) = 0 then (if a7 = 0 then some a1.toInt64 else
    (if a7 = (1 : Int32) then some a2.toInt64 else
    some a3.toInt64)) else
    (fX5_isFirstAbove ((r11 * a1.toInt64) - (((2 : Int64) * ((((((rw ((6 : Int32) * a0).toNatClampNeg).toInt64) * a1.toInt64) * a4.toInt64) + ((((rw (((6 : Int32) * a0) + (1 : Int32)).toNatClampNeg).toInt64) * a2.toInt64) * a5.toInt64)) + ((((rw (((6 : Int32) * a0) + (2 : Int32)).toNatClampNeg).toInt64) * a3.toInt64) * a6.toInt64))) * a4.toInt64)) ((r11 * a2.toInt64) - (((2 : Int64) * ((((((rw ((6 : Int32) * a0).toNatClampNeg).toInt64) * a1.toInt64) * a4.toInt64) + ((((rw (((6 : Int32) * a0) + (1 : Int32)).toNatClampNeg).toInt64) * a2.toInt64) * a5.toInt64)) + ((((rw (((6 : Int32) * a0) + (2 : Int32)).toNatClampNeg).toInt64) * a3.toInt64) * a6.toInt64))) * a5.toInt64)) ((r11 * a3.toInt64) - (((2 : Int64) * ((((((rw ((6 : Int32) * a0).toNatClampNeg).toInt64) * a1.toInt64) * a4.toInt64) + ((((rw (((6 : Int32) * a0) + (1 : Int32)).toNatClampNeg).toInt64) * a2.toInt64) * a5.toInt64)) + ((((rw (((6 : Int32) * a0) + (2 : Int32)).toNatClampNeg).toInt64) * a3.toInt64) * a6.toInt64))) * a6.toInt64))).bind fun (r20 : Int32) =>
    (if r20 = 0 then kX5_line_276 rw a0 a1 a2 a3 a4 a5 a6 a7 r11 (-r18) else
    kX5_line_276 rw a0 a1 a2 a3 a4 a5 a6 a7 r11 r18)) else none) else none) else none))
def fX5_line (sz : Nat → Int32) (rw : Nat → Int32) (a0 : Int32) (a1 : Int32) (a2 : Int32) (a3 : Int32) (a4 : Int32) (a5 : Int32) (a6 : Int32) (a7 : Int32) : Option (Int64) :=
    (fX5_isThree sz rw a0).bind fun (r1 : Int32) =>
    (if r1 = 0 then some (-1000000000000000 : Int64) else
    (fX5_in a7.toInt64 (0 : Int64) (2 : Int64)).bind fun (r3 : Int32) =>
    (if r3 = 0 then some (-1000000000000000 : Int64) else
    (fX5_isNear a1 a2 a3).bind fun (r5 : Int32) =>
    (if r5 = 0 then some (-1000000000000000 : Int64) else
    (fX5_isNear a4 a5 a6).bind fun (r7 : Int32) =>
    (if r7 = 0 then some (-1000000000000000 : Int64) else
    (if a4 = 0 then (if a5 = 0 then (if a6 = 0 then some (-1000000000000000 : Int64) else
    kX5_line_63 sz rw a0 a1 a2 a3 a4 a5 a6 a7) else
    kX5_line_63 sz rw a0 a1 a2 a3 a4 a5 a6 a7) else
    kX5_line_63 sz rw a0 a1 a2 a3 a4 a5 a6 a7)))))
def fX5_count (sz : Nat → Int32) (rw : Nat → Int32) (a0 : Int32) (a1 : Int32) : Option (Int32) :=
    (fX5_isShelf a0).bind fun (r1 : Int32) =>
    (if r1 = 0 then some (-3 : Int32) else
    (fX5_in a1.toInt64 (0 : Int64) (1 : Int64)).bind fun (r3 : Int32) =>
    (if r3 = 0 then some (-3 : Int32) else
    (if a1 = 0 then (if ¬ (a0 < 0 ∨ 4 ≤ a0.toNatClampNeg) then some (sz a0.toNatClampNeg) else none) else
    (if ¬ (a0 < 0 ∨ 4 ≤ a0.toNatClampNeg) then (fX5_aboveOf sz rw a0 (sz a0.toNatClampNeg)).bind fun (r6 : Int32) =>
    some r6 else none))))
def fX5_trace (sz : Nat → Int32) (rw : Nat → Int32) (tr : Int64) : Option (Int64) :=
    some tr
def kX5_form_101 (a0 : Int32) (a1 : Int32) (a2 : Int32) (a3 : Int32) (a4 : Int32) (a5 : Int32) (a6 : Int32) (sz_101 : Nat → Int32) (rw_101 : Nat → Int32) : Option (Int32 × (Nat → Int32) × (Nat → Int32)) :=
    (if ¬ (a0 < 0 ∨ 4 ≤ a0.toNatClampNeg) then (if ¬ (((6 : Int32) * a0) < 0 ∨ 24 ≤ ((6 : Int32) * a0).toNatClampNeg) then (if ¬ ((((6 : Int32) * a0) + (1 : Int32)) < 0 ∨ 24 ≤ (((6 : Int32) * a0) + (1 : Int32)).toNatClampNeg) then (if ¬ ((((6 : Int32) * a0) + (2 : Int32)) < 0 ∨ 24 ≤ (((6 : Int32) * a0) + (2 : Int32)).toNatClampNeg) then (if ¬ ((((6 : Int32) * a0) + (3 : Int32)) < 0 ∨ 24 ≤ (((6 : Int32) * a0) + (3 : Int32)).toNatClampNeg) then (if ¬ ((((6 : Int32) * a0) + (4 : Int32)) < 0 ∨ 24 ≤ (((6 : Int32) * a0) + (4 : Int32)).toNatClampNeg) then some (a1, upd sz_101 a0.toNatClampNeg a1, upd (upd (upd (upd (upd rw_101 ((6 : Int32) * a0).toNatClampNeg a2) (((6 : Int32) * a0) + (1 : Int32)).toNatClampNeg a3) (((6 : Int32) * a0) + (2 : Int32)).toNatClampNeg a4) (((6 : Int32) * a0) + (3 : Int32)).toNatClampNeg a5) (((6 : Int32) * a0) + (4 : Int32)).toNatClampNeg a6) else none) else none) else none) else none) else none) else none)
def kX5_form_82 (a0 : Int32) (a1 : Int32) (a2 : Int32) (a3 : Int32) (a4 : Int32) (a5 : Int32) (a6 : Int32) (sz_82 : Nat → Int32) (rw_82 : Nat → Int32) : Option (Int32 × (Nat → Int32) × (Nat → Int32)) :=
    (if a1 ≤ (4 : Int32) then kX5_form_101 a0 a1 a2 a3 a4 a5 a6 sz_82 rw_82 else
    (fX5_isTold a6 (400 : Int32)).bind fun (r13 : Int32) =>
    (if r13 = 0 then some ((-3 : Int32), sz_82, rw_82) else
    kX5_form_101 a0 a1 a2 a3 a4 a5 a6 sz_82 rw_82))
def kX5_form_66 (a0 : Int32) (a1 : Int32) (a2 : Int32) (a3 : Int32) (a4 : Int32) (a5 : Int32) (a6 : Int32) (sz_66 : Nat → Int32) (rw_66 : Nat → Int32) : Option (Int32 × (Nat → Int32) × (Nat → Int32)) :=
    (if a1 ≤ (3 : Int32) then kX5_form_82 a0 a1 a2 a3 a4 a5 a6 sz_66 rw_66 else
    (fX5_isTold a5 (400 : Int32)).bind fun (r15 : Int32) =>
    (if r15 = 0 then some ((-3 : Int32), sz_66, rw_66) else
    kX5_form_82 a0 a1 a2 a3 a4 a5 a6 sz_66 rw_66))
def kX5_form_50 (a0 : Int32) (a1 : Int32) (a2 : Int32) (a3 : Int32) (a4 : Int32) (a5 : Int32) (a6 : Int32) (sz_50 : Nat → Int32) (rw_50 : Nat → Int32) : Option (Int32 × (Nat → Int32) × (Nat → Int32)) :=
    (if a1 ≤ (2 : Int32) then kX5_form_66 a0 a1 a2 a3 a4 a5 a6 sz_50 rw_50 else
    (fX5_isTold a4 (400 : Int32)).bind fun (r17 : Int32) =>
    (if r17 = 0 then some ((-3 : Int32), sz_50, rw_50) else
    kX5_form_66 a0 a1 a2 a3 a4 a5 a6 sz_50 rw_50))
def fX5_form (sz : Nat → Int32) (rw : Nat → Int32) (a0 : Int32) (a1 : Int32) (a2 : Int32) (a3 : Int32) (a4 : Int32) (a5 : Int32) (a6 : Int32) : Option (Int32 × (Nat → Int32) × (Nat → Int32)) :=
    (fX5_isShelf a0).bind fun (r1 : Int32) =>
    (if r1 = 0 then some ((-3 : Int32), sz, rw) else
    (fX5_in a1.toInt64 (1 : Int64) (5 : Int64)).bind fun (r3 : Int32) =>
    (if r3 = 0 then some ((-3 : Int32), sz, rw) else
    (fX5_isTold a2 (400 : Int32)).bind fun (r5 : Int32) =>
    (if r5 = 0 then some ((-3 : Int32), sz, rw) else
    (if a1 ≤ (1 : Int32) then kX5_form_50 a0 a1 a2 a3 a4 a5 a6 sz rw else
    (fX5_isTold a3 (400 : Int32)).bind fun (r19 : Int32) =>
    (if r19 = 0 then some ((-3 : Int32), sz, rw) else
    kX5_form_50 a0 a1 a2 a3 a4 a5 a6 sz rw)))))
def fX5_takes (sz : Nat → Int32) (rw : Nat → Int32) (a0 : Int32) (a1 : Int32) : Option (Int32 × (Nat → Int32)) :=
    (fX5_isShelf a0).bind fun (r1 : Int32) =>
    (if r1 = 0 then some ((-3 : Int32), rw) else
    (fX5_isTold a1 (400 : Int32)).bind fun (r3 : Int32) =>
    (if r3 = 0 then some ((-3 : Int32), rw) else
    (if ¬ (a0 < 0 ∨ 4 ≤ a0.toNatClampNeg) then (if ¬ ((((6 : Int32) * a0) + (sz a0.toNatClampNeg)) < 0 ∨ 24 ≤ (((6 : Int32) * a0) + (sz a0.toNatClampNeg)).toNatClampNeg) then (if ¬ ((((6 : Int32) * a0) + (sz a0.toNatClampNeg)) < 0 ∨ 24 ≤ (((6 : Int32) * a0) + (sz a0.toNatClampNeg)).toNatClampNeg) then (fX5_isNought sz (upd rw (((6 : Int32) * a0) + (sz a0.toNatClampNeg)).toNatClampNeg (-a1)) a0 ((sz a0.toNatClampNeg) + (1 : Int32))).bind fun (r8 : Int32) =>
    (if ¬ ((((6 : Int32) * a0) + (sz a0.toNatClampNeg)) < 0 ∨ 24 ≤ (((6 : Int32) * a0) + (sz a0.toNatClampNeg)).toNatClampNeg) then (if r8 = 0 then some ((0 : Int32), upd (upd rw (((6 : Int32) * a0) + (sz a0.toNatClampNeg)).toNatClampNeg (-a1)) (((6 : Int32) * a0) + (sz a0.toNatClampNeg)).toNatClampNeg (rw (((6 : Int32) * a0) + (sz a0.toNatClampNeg)).toNatClampNeg)) else
    some ((1 : Int32), upd (upd rw (((6 : Int32) * a0) + (sz a0.toNatClampNeg)).toNatClampNeg (-a1)) (((6 : Int32) * a0) + (sz a0.toNatClampNeg)).toNatClampNeg (rw (((6 : Int32) * a0) + (sz a0.toNatClampNeg)).toNatClampNeg))) else none) else none) else none) else none)))
def kX5_measure_57 (tr : Int64) (a0 : Int32) (a1 : Int32) (a2 : Int32) (a3 : Int32) (t0_57 : Int64) (tr_57 : Int64) : Option (Int32 × (Int64)) :=
    (fX5_measureOf a0 a1 a2 a3).bind fun (r5 : Int32) =>
    some (r5, tr + t0_57)
def fX5_measure (sz : Nat → Int32) (rw : Nat → Int32) (tr : Int64) (a0 : Int32) (a1 : Int32) (a2 : Int32) (a3 : Int32) : Option (Int32 × (Int64)) :=
    (fX5_in a0.toInt64 (0 : Int64) (2 : Int64)).bind fun (r1 : Int32) =>
    (if r1 = 0 then some ((-3 : Int32), tr) else
    (fX5_isNear a1 a2 a3).bind fun (r3 : Int32) =>
    (if r3 = 0 then some ((-3 : Int32), tr) else
    (if a0 = 0 then kX5_measure_57 tr a0 a1 a2 a3 (1 : Int64) tr else
    (if a0 = (1 : Int32) then kX5_measure_57 tr a0 a1 a2 a3 (11 : Int64) tr else
    kX5_measure_57 tr a0 a1 a2 a3 (111 : Int64) tr))))
def fX5_least (sz : Nat → Int32) (rw : Nat → Int32) (bx : Int32) (by_ : Int32) (bz : Int32) (bm : Int32) (so : Int32) (a0 : Int32) (a1 : Int32) (a2 : Int32) : Option (Int64 × (Int32) × (Int32) × (Int32) × (Int32) × (Int32)) :=
    (fX5_isThree sz rw a0).bind fun (r1 : Int32) =>
    (if r1 = 0 then some ((-1000000000000000 : Int64), bx, by_, bz, bm, so) else
    (fX5_in a1.toInt64 (0 : Int64) (2 : Int64)).bind fun (r3 : Int32) =>
    (if r3 = 0 then some ((-1000000000000000 : Int64), bx, by_, bz, bm, so) else
    (fX5_in a2.toInt64 (0 : Int64) (3 : Int64)).bind fun (r5 : Int32) =>
    (if r5 = 0 then some ((-1000000000000000 : Int64), bx, by_, bz, bm, so) else
    (fX5_seeks sz rw bx by_ bz bm so a0 a1).bind fun (bxv9, by_v10, bzv11, bmv12, sov13) =>
    (if sov13 = 0 then some ((-999999999999999 : Int64), bxv9, by_v10, bzv11, bmv12, sov13) else
    (if a2 = 0 then some (bxv9.toInt64, bxv9, by_v10, bzv11, bmv12, sov13) else
    (if a2 = (1 : Int32) then some (by_v10.toInt64, bxv9, by_v10, bzv11, bmv12, sov13) else
    (if a2 = (2 : Int32) then some (bzv11.toInt64, bxv9, by_v10, bzv11, bmv12, sov13) else
    some (bmv12.toInt64, bxv9, by_v10, bzv11, bmv12, sov13))))))))
def fX5_many (sz : Nat → Int32) (rw : Nat → Int32) (bx : Int32) (by_ : Int32) (bz : Int32) (bm : Int32) (so : Int32) (a0 : Int32) : Option (Int32 × (Int32) × (Int32) × (Int32) × (Int32) × (Int32)) :=
    (fX5_isThree sz rw a0).bind fun (r1 : Int32) =>
    (if r1 = 0 then some ((-3 : Int32), bx, by_, bz, bm, so) else
    (fX5_seeks sz rw bx by_ bz bm so a0 (0 : Int32)).bind fun (bxv5, by_v6, bzv7, bmv8, sov9) =>
    some (sov9, bxv5, by_v6, bzv7, bmv8, sov9))
theorem syX5_free : Vy yX5_free cX5_free 4 (some .int) 1 := ⟨w_347, ⟨w_345, w_346⟩, w_4, by decide +kernel⟩
set_option maxHeartbeats 4000000 in
set_option maxRecDepth 100000 in
theorem cnX5_free (l : Launch) (G : va_G) (h0 hs hr : Nat) (cI cF : ClassId) (tr : Int64) (sz rw : Nat → Int32) (bx by_ bz bm so : Int32) (hap : mAp h0 hs hr) {a0 : Int32} {r : Int32} (h : fX5_free sz rw a0 = some r) : Mu l yX5_free cX5_free 4 (some .int) 2 46 [.ref h0, .int a0] (mA h0 hs hr) (mB G h0 hs hr cI cF tr sz rw bx by_ bz bm so) (mB G h0 hs hr cI cF tr sz rw bx by_ bz bm so) (some (.int r)) := by
  refine mu_i (plainFor_of_name (by decide)) (Nat.le_of_ble_eq_true rfl) (by first | exact mB_mv | exact mBe_mv) ?_
  intro p e s m args below meth cd Q ls hF hB hl END
  have hF : CallFix p m cd cX5_free 4 s args (wl yX5_free cX5_free 4 (some .int)) RX5 := hF
  obtain ⟨hx, hb, hml, hown, hts⟩ := id hF
  have hl : lv_has ls 4 [(0, .ref h0), (1, .int a0)] := hl
  obtain ⟨⟨th, ex, hP⟩, hK⟩ := hB
  have hS : va_S (mA h0 hs hr) s.heap s.heap [] := va_S.rf
  rw [fX5_free] at h
  refine lv_aload_n hx hb dX5_free_0 rfl (lv_at hl 0 rfl) ?_
  refine lv_iconst (v := (0 : Int32)) hx hb dX5_free_1 (by decide) ?_
  refine va_put (D := G) (ci := 3) (v := .int (0 : Int32)) (ty := .int) (C := RX5) (T := TX5) (N := 10) hx hb hts (fun w h => wl_in (inX5 w h)) tyX5 tyX5_ok nmX5 hown hK hP (mD hap) hS 0 rfl rfl 0 (by decide) (hts _ (wl_in w_313)) (fun _ h9 => h9) rfl (by decide +kernel) rfl rfl (Nat.le_of_ble_eq_true rfl) dX5_free_2 (fun H locs hP _ hS => ?_)
  have hP : va_P G vwCl (mW h0 hs hr cI (0 : Int32) tr sz rw bx by_ bz bm so ex) H := hP
  refine lv_iload_n hx hb dX5_free_5 rfl (lv_at hl 1 rfl) ?_
  refine lv_ldc (v := (1000000 : Int32)) hx hb hown (hts _ (wl_in w_348)) dX5_free_6 ?_
  obtain ⟨r1, e2, h⟩ := pb h
  refine ro_S (As := [.int a0, .int (1000000 : Int32)]) (rest := []) hF (fun _ h => wl_in h) (cnX5_isTold l e2) syX5_isTold w_349 ⟨Nat.le_of_ble_eq_true rfl, Nat.le_of_ble_eq_true rfl⟩ mv0 trivial rfl hl.1 rfl (Nat.le_of_ble_eq_true rfl) dX5_free_8 ⟨Nat.zero_le _, Nat.zero_le _⟩ ?_
  refine lv_if_ne (tgt := 16) hx hb dX5_free_11 (by decide) (fun c11 => ?_) (fun c11 => ?_)
  · have h := pf c11 h
    refine lv_iload_n hx hb dX5_free_16 rfl (lv_at hl 1 rfl) ?_
    refine lv_istore_n (lv' := [(2, .int a0), (0, .ref h0), (1, .int a0)]) hx hb dX5_free_17 rfl hl (by decide) rfl (fun ls hl => ?_)
    refine lv_iconst (v := (2 : Int32)) hx hb dX5_free_18 (by decide) ?_
    refine lv_istore_n (lv' := [(3, .int (2 : Int32)), (2, .int a0), (0, .ref h0), (1, .int a0)]) hx hb dX5_free_19 rfl hl (by decide) rfl (fun ls hl => ?_)
    have J20 : ∀ (n20 : Nat) (x2_20 : Int32) (x3_20 : Int32), kX5_free_20 n20 x2_20 x3_20 = some r → ∀ (H : Heap) (locs : List Loc) (th_20 : Int32) (ex_20 : Int32), va_P G vwCl (mW h0 hs hr cI th_20 tr sz rw bx by_ bz bm so ex_20) H → va_S (mA h0 hs hr) s.heap H locs → ∀ (ls : Array Slot), lv_has ls 4 [(2, .int x2_20), (3, .int x3_20)] → W p l e (rmk 2 46) s m args below meth cd H locs 0 0 Q (F0 m 20 ls []) := by
      intro n20
      induction n20 with
      | zero =>
        intro x2_20 x3_20 h
        rw [kX5_free_20] at h
        cases h
      | succ n20 ih20 =>
        intro x2_20 x3_20 h H locs th_20 ex_20 hP hS ls hl
        rw [kX5_free_20] at h
        refine lv_iload_n hx hb dX5_free_20 rfl (lv_at hl 1 rfl) ?_
        refine lv_sipush (v := (1000 : Int32)) hx hb dX5_free_21 (by decide) ?_
        have J27 : ∀ (n27 : Nat) (x2_27 : Int32), kX5_free_27 x3_20 (kX5_free_20 n20) n27 x2_27 = some r → ∀ (H : Heap) (locs : List Loc) (th_27 : Int32) (ex_27 : Int32), va_P G vwCl (mW h0 hs hr cI th_27 tr sz rw bx by_ bz bm so ex_27) H → va_S (mA h0 hs hr) s.heap H locs → ∀ (ls : Array Slot), lv_has ls 4 [(3, .int x3_20), (2, .int x2_27)] → W p l e (rmk 2 46) s m args below meth cd H locs 0 0 Q (F0 m 27 ls []) := by
          intro n27
          induction n27 with
          | zero =>
            intro x2_27 h
            rw [kX5_free_27] at h
            cases h
          | succ n27 ih27 =>
            intro x2_27 h H locs th_27 ex_27 hP hS ls hl
            rw [kX5_free_27] at h
            refine lv_iload_n hx hb dX5_free_27 rfl (lv_at hl 1 rfl) ?_
            refine lv_iload_n hx hb dX5_free_28 rfl (lv_at hl 0 rfl) ?_
            refine lv_iload_n hx hb dX5_free_29 rfl (lv_at hl 0 rfl) ?_
            refine lv_imul hx hb dX5_free_30 ?_
            obtain ⟨g3, h⟩ := pg h
            refine lq_irem hx hb dX5_free_31 g3 ?_
            refine lv_if_ne (tgt := 44) hx hb dX5_free_32 (by decide) (fun c32 => ?_) (fun c32 => ?_)
            · have h := pf c32 h
              refine lv_iinc (v := x3_20 + (1 : Int32)) (lv' := [(3, .int (x3_20 + (1 : Int32))), (2, .int x2_27)]) hx hb dX5_free_44 hl (k := 0) rfl rfl (by decide) rfl (fun ls hl => ?_)
              refine lv_goto (tgt := 20) hx hb dX5_free_47 (by decide) ?_
              exact ih20 _ _ h _ _ _ _ hP hS _ (lv_sub hl [1, 0] rfl)
            · have h := pt c32 h
              refine lv_iload_n hx hb dX5_free_35 rfl (lv_at hl 1 rfl) ?_
              refine lv_iload_n hx hb dX5_free_36 rfl (lv_at hl 0 rfl) ?_
              refine lv_iload_n hx hb dX5_free_37 rfl (lv_at hl 0 rfl) ?_
              refine lv_imul hx hb dX5_free_38 ?_
              obtain ⟨g4, h⟩ := pg h
              refine lv_idiv hx hb dX5_free_39 g4 ?_
              refine lv_istore_n (lv' := [(2, .int (x2_27 / (x3_20 * x3_20))), (3, .int x3_20)]) hx hb dX5_free_40 rfl hl (by decide) rfl (fun ls hl => ?_)
              refine lv_goto (tgt := 27) hx hb dX5_free_41 (by decide) ?_
              exact ih27 _ h _ _ _ _ hP hS _ (lv_sub hl [1, 0] rfl)
        refine lv_icmp_gt (tgt := 50) hx hb dX5_free_24 (by decide) (fun c24 => ?_) (fun c24 => ?_)
        · have h := pt c24 h
          refine lv_iload_n hx hb dX5_free_50 rfl (lv_at hl 0 rfl) ?_
          exact END _ _ 51 ls s _ (pe h) dX5_free_51 rfl ⟨⟨_, _, hP⟩, hK⟩ hS
        · have h := pf c24 h
          exact J27 _ _ h _ _ _ _ hP hS _ (lv_sub hl [1, 0] rfl)
    exact J20 _ _ _ h _ _ _ _ hP hS _ (lv_sub hl [1, 0] rfl)
  · have h := pt c11 h
    refine lv_iconst (v := (0 : Int32)) hx hb dX5_free_14 (by decide) ?_
    exact END _ _ 15 ls s _ (pe h) dX5_free_15 rfl ⟨⟨_, _, hP⟩, hK⟩ hS

theorem syX5_sign : Vy yX5_sign cX5_sign 4 (some .int) 3 := ⟨w_358, ⟨w_356, w_357⟩, w_4, by decide +kernel⟩
set_option maxHeartbeats 4000000 in
set_option maxRecDepth 100000 in
theorem cnX5_sign (l : Launch) (G : va_G) (h0 hs hr : Nat) (cI cF : ClassId) (tr : Int64) (sz rw : Nat → Int32) (bx by_ bz bm so : Int32) (hap : mAp h0 hs hr) {a0 : Int32} {a1 : Int32} {a2 : Int32} {r : Int32} (h : fX5_sign sz rw a0 a1 a2 = some r) : Mu l yX5_sign cX5_sign 4 (some .int) 2 61 [.ref h0, .int a0, .int a1, .int a2] (mA h0 hs hr) (mB G h0 hs hr cI cF tr sz rw bx by_ bz bm so) (mB G h0 hs hr cI cF tr sz rw bx by_ bz bm so) (some (.int r)) := by
  refine mu_i (plainFor_of_name (by decide)) (Nat.le_of_ble_eq_true rfl) (by first | exact mB_mv | exact mBe_mv) ?_
  intro p e s m args below meth cd Q ls hF hB hl END
  have hF : CallFix p m cd cX5_sign 4 s args (wl yX5_sign cX5_sign 4 (some .int)) RX5 := hF
  obtain ⟨hx, hb, hml, hown, hts⟩ := id hF
  have hl : lv_has ls 4 [(0, .ref h0), (1, .int a0), (2, .int a1), (3, .int a2)] := hl
  obtain ⟨⟨th, ex, hP⟩, hK⟩ := hB
  have hS : va_S (mA h0 hs hr) s.heap s.heap [] := va_S.rf
  rw [fX5_sign] at h
  refine lv_aload_n hx hb dX5_sign_0 rfl (lv_at hl 0 rfl) ?_
  refine lv_iconst (v := (0 : Int32)) hx hb dX5_sign_1 (by decide) ?_
  refine va_put (D := G) (ci := 3) (v := .int (0 : Int32)) (ty := .int) (C := RX5) (T := TX5) (N := 10) hx hb hts (fun w h => wl_in (inX5 w h)) tyX5 tyX5_ok nmX5 hown hK hP (mD hap) hS 0 rfl rfl 0 (by decide) (hts _ (wl_in w_313)) (fun _ h9 => h9) rfl (by decide +kernel) rfl rfl (Nat.le_of_ble_eq_true rfl) dX5_sign_2 (fun H locs hP _ hS => ?_)
  have hP : va_P G vwCl (mW h0 hs hr cI (0 : Int32) tr sz rw bx by_ bz bm so ex) H := hP
  refine lv_iload_n hx hb dX5_sign_5 rfl (lv_at hl 1 rfl) ?_
  refine lv_ldc (v := (1000000 : Int32)) hx hb hown (hts _ (wl_in w_348)) dX5_sign_6 ?_
  obtain ⟨r1, e2, h⟩ := pb h
  refine ro_S (As := [.int a0, .int (1000000 : Int32)]) (rest := []) hF (fun _ h => wl_in h) (cnX5_isTold l e2) syX5_isTold w_349 ⟨Nat.le_of_ble_eq_true rfl, Nat.le_of_ble_eq_true rfl⟩ mv0 trivial rfl hl.1 rfl (Nat.le_of_ble_eq_true rfl) dX5_sign_8 ⟨Nat.zero_le _, Nat.zero_le _⟩ ?_
  refine lv_if_eq (tgt := 42) hx hb dX5_sign_11 (by decide) (fun c11 => ?_) (fun c11 => ?_)
  · have h := pt c11 h
    refine lv_bipush (v := (-3 : Int32)) hx hb dX5_sign_42 (by decide) ?_
    exact END _ _ 44 ls s _ (pe h) dX5_sign_44 rfl ⟨⟨_, _, hP⟩, hK⟩ hS
  · have h := pf c11 h
    refine lv_iload_n hx hb dX5_sign_14 rfl (lv_at hl 2 rfl) ?_
    refine lv_ldc (v := (1000000 : Int32)) hx hb hown (hts _ (wl_in w_348)) dX5_sign_15 ?_
    obtain ⟨r3, e4, h⟩ := pb h
    refine ro_S (As := [.int a1, .int (1000000 : Int32)]) (rest := []) hF (fun _ h => wl_in h) (cnX5_isTold l e4) syX5_isTold w_349 ⟨Nat.le_of_ble_eq_true rfl, Nat.le_of_ble_eq_true rfl⟩ mv0 trivial rfl hl.1 rfl (Nat.le_of_ble_eq_true rfl) dX5_sign_17 ⟨Nat.zero_le _, Nat.zero_le _⟩ ?_
    refine lv_if_eq (tgt := 42) hx hb dX5_sign_20 (by decide) (fun c20 => ?_) (fun c20 => ?_)
    · have h := pt c20 h
      refine lv_bipush (v := (-3 : Int32)) hx hb dX5_sign_42 (by decide) ?_
      exact END _ _ 44 ls s _ (pe h) dX5_sign_44 rfl ⟨⟨_, _, hP⟩, hK⟩ hS
    · have h := pf c20 h
      refine lv_iload_n hx hb dX5_sign_23 rfl (lv_at hl 3 rfl) ?_
      obtain ⟨r5, e6, h⟩ := pb h
      refine ro_S (As := [.int a2]) (rest := []) hF (fun _ h => wl_in h) (cnX5_isPlace l e6) syX5_isPlace w_359 ⟨Nat.le_of_ble_eq_true rfl, Nat.le_of_ble_eq_true rfl⟩ mv0 trivial rfl hl.1 rfl (Nat.le_of_ble_eq_true rfl) dX5_sign_24 ⟨Nat.zero_le _, Nat.zero_le _⟩ ?_
      refine lv_if_eq (tgt := 42) hx hb dX5_sign_27 (by decide) (fun c27 => ?_) (fun c27 => ?_)
      · have h := pt c27 h
        refine lv_bipush (v := (-3 : Int32)) hx hb dX5_sign_42 (by decide) ?_
        exact END _ _ 44 ls s _ (pe h) dX5_sign_44 rfl ⟨⟨_, _, hP⟩, hK⟩ hS
      · have h := pf c27 h
        refine lv_aload_n hx hb dX5_sign_30 rfl (lv_at hl 0 rfl) ?_
        refine lv_iload_n hx hb dX5_sign_31 rfl (lv_at hl 1 rfl) ?_
        refine lv_i2l (v := a0.toInt64) hx hb dX5_sign_32 rfl ?_
        refine lv_iload_n hx hb dX5_sign_33 rfl (lv_at hl 2 rfl) ?_
        refine lv_i2l (v := a1.toInt64) hx hb dX5_sign_34 rfl ?_
        refine lv_iload_n hx hb dX5_sign_35 rfl (lv_at hl 3 rfl) ?_
        obtain ⟨r7, e8, h⟩ := pb h
        refine mu_V (As := [.long a0.toInt64, .long a1.toInt64, .int a2]) (rest := []) hF (fun _ h => wl_in h) (cnX5_signOf l G h0 hs hr cI cF tr sz rw bx by_ bz bm so hap e8) syX5_signOf w_367 ⟨Nat.le_of_ble_eq_true rfl, Nat.le_of_ble_eq_true rfl⟩ mB_mv mB_mv ⟨⟨_, _, hP⟩, hK⟩ (va_recv hK hP (ci := 3) (q0 := 0) rfl rfl) hS (fun _ h => h) rfl hl.1 rfl (Nat.le_of_ble_eq_true rfl) dX5_sign_36 ⟨Nat.zero_le _, Nat.zero_le _⟩ (fun H locs hB1 _ _ hS => ?_)
        obtain ⟨⟨th9, ex10, hP⟩, _⟩ := hB1
        refine W.eq (g2 := F0 m 39 ls [.int r7]) rfl ?_
        refine lv_goto (tgt := 44) hx hb dX5_sign_39 (by decide) ?_
        exact END _ _ 44 ls s _ (pe h) dX5_sign_44 rfl ⟨⟨_, _, hP⟩, hK⟩ hS

theorem syX5_odds : Vy yX5_odds cX5_odds 5 (some .int) 2 := ⟨w_385, ⟨w_383, w_384⟩, w_4, by decide +kernel⟩
set_option maxHeartbeats 4000000 in
set_option maxRecDepth 100000 in
theorem cnX5_odds (l : Launch) (G : va_G) (h0 hs hr : Nat) (cI cF : ClassId) (tr : Int64) (sz rw : Nat → Int32) (bx by_ bz bm so : Int32) (hap : mAp h0 hs hr) {a0 : Int32} {a1 : Int32} {r : Int32} (h : fX5_odds sz rw a0 a1 = some r) : Mu l yX5_odds cX5_odds 5 (some .int) 2 61 [.ref h0, .int a0, .int a1] (mA h0 hs hr) (mB G h0 hs hr cI cF tr sz rw bx by_ bz bm so) (mB G h0 hs hr cI cF tr sz rw bx by_ bz bm so) (some (.int r)) := by
  refine mu_i (plainFor_of_name (by decide)) (Nat.le_of_ble_eq_true rfl) (by first | exact mB_mv | exact mBe_mv) ?_
  intro p e s m args below meth cd Q ls hF hB hl END
  have hF : CallFix p m cd cX5_odds 5 s args (wl yX5_odds cX5_odds 5 (some .int)) RX5 := hF
  obtain ⟨hx, hb, hml, hown, hts⟩ := id hF
  have hl : lv_has ls 5 [(0, .ref h0), (1, .int a0), (2, .int a1)] := hl
  obtain ⟨⟨th, ex, hP⟩, hK⟩ := hB
  have hS : va_S (mA h0 hs hr) s.heap s.heap [] := va_S.rf
  rw [fX5_odds] at h
  refine lv_aload_n hx hb dX5_odds_0 rfl (lv_at hl 0 rfl) ?_
  refine lv_iconst (v := (0 : Int32)) hx hb dX5_odds_1 (by decide) ?_
  refine va_put (D := G) (ci := 3) (v := .int (0 : Int32)) (ty := .int) (C := RX5) (T := TX5) (N := 10) hx hb hts (fun w h => wl_in (inX5 w h)) tyX5 tyX5_ok nmX5 hown hK hP (mD hap) hS 0 rfl rfl 0 (by decide) (hts _ (wl_in w_313)) (fun _ h9 => h9) rfl (by decide +kernel) rfl rfl (Nat.le_of_ble_eq_true rfl) dX5_odds_2 (fun H locs hP _ hS => ?_)
  have hP : va_P G vwCl (mW h0 hs hr cI (0 : Int32) tr sz rw bx by_ bz bm so ex) H := hP
  refine lv_iload_n hx hb dX5_odds_5 rfl (lv_at hl 1 rfl) ?_
  refine lv_sipush (v := (400 : Int32)) hx hb dX5_odds_6 (by decide) ?_
  obtain ⟨r1, e2, h⟩ := pb h
  refine ro_S (As := [.int a0, .int (400 : Int32)]) (rest := []) hF (fun _ h => wl_in h) (cnX5_isTold l e2) syX5_isTold w_349 ⟨Nat.le_of_ble_eq_true rfl, Nat.le_of_ble_eq_true rfl⟩ mv0 trivial rfl hl.1 rfl (Nat.le_of_ble_eq_true rfl) dX5_odds_9 ⟨Nat.zero_le _, Nat.zero_le _⟩ ?_
  refine lv_if_eq (tgt := 25) hx hb dX5_odds_12 (by decide) (fun c12 => ?_) (fun c12 => ?_)
  · have h := pt c12 h
    refine lv_bipush (v := (-3 : Int32)) hx hb dX5_odds_25 (by decide) ?_
    exact END _ _ 27 ls s _ (pe h) dX5_odds_27 rfl ⟨⟨_, _, hP⟩, hK⟩ hS
  · have h := pf c12 h
    refine lv_iload_n hx hb dX5_odds_15 rfl (lv_at hl 2 rfl) ?_
    refine lv_sipush (v := (400 : Int32)) hx hb dX5_odds_16 (by decide) ?_
    obtain ⟨r3, e4, h⟩ := pb h
    refine ro_S (As := [.int a1, .int (400 : Int32)]) (rest := []) hF (fun _ h => wl_in h) (cnX5_isTold l e4) syX5_isTold w_349 ⟨Nat.le_of_ble_eq_true rfl, Nat.le_of_ble_eq_true rfl⟩ mv0 trivial rfl hl.1 rfl (Nat.le_of_ble_eq_true rfl) dX5_odds_19 ⟨Nat.zero_le _, Nat.zero_le _⟩ ?_
    refine lv_if_ne (tgt := 28) hx hb dX5_odds_22 (by decide) (fun c22 => ?_) (fun c22 => ?_)
    · have h := pf c22 h
      refine lv_iconst (v := (0 : Int32)) hx hb dX5_odds_28 (by decide) ?_
      refine lv_istore_n (lv' := [(3, .int (0 : Int32)), (0, .ref h0), (1, .int a0), (2, .int a1)]) hx hb dX5_odds_29 rfl hl (by decide) rfl (fun ls hl => ?_)
      refine lv_iconst (v := (0 : Int32)) hx hb dX5_odds_30 (by decide) ?_
      refine lv_istore (lv' := [(4, .int (0 : Int32)), (3, .int (0 : Int32)), (0, .ref h0), (1, .int a0), (2, .int a1)]) hx hb dX5_odds_31 hl (by decide) rfl (fun ls hl => ?_)
      have J33 : ∀ (n33 : Nat) (x3_33 : Int32) (x4_33 : Int32), kX5_odds_33 sz rw a0 a1 n33 x3_33 x4_33 = some r → ∀ (H : Heap) (locs : List Loc) (th_33 : Int32) (ex_33 : Int32), va_P G vwCl (mW h0 hs hr cI th_33 tr sz rw bx by_ bz bm so ex_33) H → va_S (mA h0 hs hr) s.heap H locs → ∀ (ls : Array Slot), lv_has ls 5 [(0, .ref h0), (1, .int a0), (2, .int a1), (3, .int x3_33), (4, .int x4_33)] → W p l e (rmk 2 61) s m args below meth cd H locs 0 0 Q (F0 m 33 ls []) := by
        intro n33
        induction n33 with
        | zero =>
          intro x3_33 x4_33 h
          rw [kX5_odds_33] at h
          cases h
        | succ n33 ih33 =>
          intro x3_33 x4_33 h H locs th_33 ex_33 hP hS ls hl
          rw [kX5_odds_33] at h
          refine lv_iload hx hb dX5_odds_33 (lv_at hl 4 rfl) ?_
          refine lv_sipush (v := (398 : Int32)) hx hb dX5_odds_35 (by decide) ?_
          refine lv_icmp_ge (tgt := 76) hx hb dX5_odds_38 (by decide) (fun c38 => ?_) (fun c38 => ?_)
          · have h := pt c38 h
            refine lv_iload_n hx hb dX5_odds_76 rfl (lv_at hl 3 rfl) ?_
            exact END _ _ 77 ls s _ (pe h) dX5_odds_77 rfl ⟨⟨_, _, hP⟩, hK⟩ hS
          · have h := pf c38 h
            refine lv_iload_n hx hb dX5_odds_41 rfl (lv_at hl 3 rfl) ?_
            refine lv_iload hx hb dX5_odds_42 (lv_at hl 4 rfl) ?_
            obtain ⟨r5, e6, h⟩ := pb h
            refine ro_S (As := [.int x4_33]) (rest := [.int x3_33]) hF (fun _ h => wl_in h) (cnX5_isPlace l e6) syX5_isPlace w_359 ⟨Nat.le_of_ble_eq_true rfl, Nat.le_of_ble_eq_true rfl⟩ mv0 trivial rfl hl.1 rfl (Nat.le_of_ble_eq_true rfl) dX5_odds_44 ⟨Nat.zero_le _, Nat.zero_le _⟩ ?_
            have J68 : ∀ (x4_68 : Int32) (t0_68 : Int32), kX5_odds_68 x3_33 (kX5_odds_33 sz rw a0 a1 n33) x4_68 t0_68 = some r → ∀ (H : Heap) (locs : List Loc) (th_68 : Int32) (ex_68 : Int32), va_P G vwCl (mW h0 hs hr cI th_68 tr sz rw bx by_ bz bm so ex_68) H → va_S (mA h0 hs hr) s.heap H locs → ∀ (ls : Array Slot), lv_has ls 5 [(0, .ref h0), (1, .int a0), (2, .int a1), (4, .int x4_68)] → W p l e (rmk 2 61) s m args below meth cd H locs 0 0 Q (F0 m 68 ls [.int t0_68, .int x3_33]) := by
              intro x4_68 t0_68 h H locs th_68 ex_68 hP hS ls hl
              rw [kX5_odds_68] at h
              refine lv_iadd hx hb dX5_odds_68 ?_
              refine lv_istore_n (lv' := [(3, .int (x3_33 + t0_68)), (0, .ref h0), (1, .int a0), (2, .int a1), (4, .int x4_68)]) hx hb dX5_odds_69 rfl hl (by decide) rfl (fun ls hl => ?_)
              refine lv_iinc (v := x4_68 + (1 : Int32)) (lv' := [(4, .int (x4_68 + (1 : Int32))), (3, .int (x3_33 + t0_68)), (0, .ref h0), (1, .int a0), (2, .int a1)]) hx hb dX5_odds_70 hl (k := 4) rfl rfl (by decide) rfl (fun ls hl => ?_)
              refine lv_goto (tgt := 33) hx hb dX5_odds_73 (by decide) ?_
              exact ih33 _ _ h _ _ _ _ hP hS _ (lv_sub hl [2, 3, 4, 1, 0] rfl)
            refine lv_if_eq (tgt := 67) hx hb dX5_odds_47 (by decide) (fun c47 => ?_) (fun c47 => ?_)
            · have h := pt c47 h
              refine lv_iconst (v := (0 : Int32)) hx hb dX5_odds_67 (by decide) ?_
              exact J68 _ _ h _ _ _ _ hP hS _ (lv_sub hl [0, 1, 2, 4] rfl)
            · have h := pf c47 h
              refine lv_aload_n hx hb dX5_odds_50 rfl (lv_at hl 0 rfl) ?_
              refine lv_iload_n hx hb dX5_odds_51 rfl (lv_at hl 1 rfl) ?_
              refine lv_i2l (v := a0.toInt64) hx hb dX5_odds_52 rfl ?_
              refine lv_iload_n hx hb dX5_odds_53 rfl (lv_at hl 2 rfl) ?_
              refine lv_i2l (v := a1.toInt64) hx hb dX5_odds_54 rfl ?_
              refine lv_iload hx hb dX5_odds_55 (lv_at hl 4 rfl) ?_
              obtain ⟨r7, e8, h⟩ := pb h
              refine mu_V (As := [.long a0.toInt64, .long a1.toInt64, .int x4_33]) (rest := [.int x3_33]) hF (fun _ h => wl_in h) (cnX5_signOf l G h0 hs hr cI cF tr sz rw bx by_ bz bm so hap e8) syX5_signOf w_367 ⟨Nat.le_of_ble_eq_true rfl, Nat.le_of_ble_eq_true rfl⟩ mB_mv mB_mv ⟨⟨_, _, hP⟩, hK⟩ (va_recv hK hP (ci := 3) (q0 := 0) rfl rfl) hS (fun _ h => h) rfl hl.1 rfl (Nat.le_of_ble_eq_true rfl) dX5_odds_57 ⟨Nat.zero_le _, Nat.zero_le _⟩ (fun H locs hB1 _ _ hS => ?_)
              obtain ⟨⟨th9, ex10, hP⟩, _⟩ := hB1
              refine W.eq (g2 := F0 m 60 ls [.int r7, .int x3_33]) rfl ?_
              refine lv_if_ge (tgt := 67) hx hb dX5_odds_60 (by decide) (fun c60 => ?_) (fun c60 => ?_)
              · have h := pt c60 h
                refine lv_iconst (v := (0 : Int32)) hx hb dX5_odds_67 (by decide) ?_
                exact J68 _ _ h _ _ _ _ hP hS _ (lv_sub hl [0, 1, 2, 4] rfl)
              · have h := pf c60 h
                refine lv_iconst (v := (1 : Int32)) hx hb dX5_odds_63 (by decide) ?_
                refine lv_goto (tgt := 68) hx hb dX5_odds_64 (by decide) ?_
                exact J68 _ _ h _ _ _ _ hP hS _ (lv_sub hl [0, 1, 2, 4] rfl)
      exact J33 _ _ _ h _ _ _ _ hP hS _ (lv_sub hl [2, 3, 4, 1, 0] rfl)
    · have h := pt c22 h
      refine lv_bipush (v := (-3 : Int32)) hx hb dX5_odds_25 (by decide) ?_
      exact END _ _ 27 ls s _ (pe h) dX5_odds_27 rfl ⟨⟨_, _, hP⟩, hK⟩ hS

theorem syX5_at : Vy yX5_at cX5_at 3 (some .int) 2 := ⟨w_398, ⟨w_396, w_397⟩, w_4, by decide +kernel⟩
set_option maxHeartbeats 4000000 in
set_option maxRecDepth 100000 in
theorem cnX5_at (l : Launch) (G : va_G) (h0 hs hr : Nat) (cI cF : ClassId) (tr : Int64) (sz rw : Nat → Int32) (bx by_ bz bm so : Int32) (hap : mAp h0 hs hr) {a0 : Int32} {a1 : Int32} {r : Int32} (h : fX5_at sz rw a0 a1 = some r) : Mu l yX5_at cX5_at 3 (some .int) 2 45 [.ref h0, .int a0, .int a1] (mA h0 hs hr) (mB G h0 hs hr cI cF tr sz rw bx by_ bz bm so) (mB G h0 hs hr cI cF tr sz rw bx by_ bz bm so) (some (.int r)) := by
  refine mu_i (plainFor_of_name (by decide)) (Nat.le_of_ble_eq_true rfl) (by first | exact mB_mv | exact mBe_mv) ?_
  intro p e s m args below meth cd Q ls hF hB hl END
  have hF : CallFix p m cd cX5_at 3 s args (wl yX5_at cX5_at 3 (some .int)) RX5 := hF
  obtain ⟨hx, hb, hml, hown, hts⟩ := id hF
  have hl : lv_has ls 3 [(0, .ref h0), (1, .int a0), (2, .int a1)] := hl
  obtain ⟨⟨th, ex, hP⟩, hK⟩ := hB
  have hS : va_S (mA h0 hs hr) s.heap s.heap [] := va_S.rf
  rw [fX5_at] at h
  refine lv_aload_n hx hb dX5_at_0 rfl (lv_at hl 0 rfl) ?_
  refine lv_iconst (v := (0 : Int32)) hx hb dX5_at_1 (by decide) ?_
  refine va_put (D := G) (ci := 3) (v := .int (0 : Int32)) (ty := .int) (C := RX5) (T := TX5) (N := 10) hx hb hts (fun w h => wl_in (inX5 w h)) tyX5 tyX5_ok nmX5 hown hK hP (mD hap) hS 0 rfl rfl 0 (by decide) (hts _ (wl_in w_313)) (fun _ h9 => h9) rfl (by decide +kernel) rfl rfl (Nat.le_of_ble_eq_true rfl) dX5_at_2 (fun H locs hP _ hS => ?_)
  have hP : va_P G vwCl (mW h0 hs hr cI (0 : Int32) tr sz rw bx by_ bz bm so ex) H := hP
  refine lv_iload_n hx hb dX5_at_5 rfl (lv_at hl 1 rfl) ?_
  obtain ⟨r1, e2, h⟩ := pb h
  refine ro_S (As := [.int a0]) (rest := []) hF (fun _ h => wl_in h) (cnX5_isShelf l e2) syX5_isShelf w_390 ⟨Nat.le_of_ble_eq_true rfl, Nat.le_of_ble_eq_true rfl⟩ mv0 trivial rfl hl.1 rfl (Nat.le_of_ble_eq_true rfl) dX5_at_6 ⟨Nat.zero_le _, Nat.zero_le _⟩ ?_
  refine lv_if_eq (tgt := 44) hx hb dX5_at_9 (by decide) (fun c9 => ?_) (fun c9 => ?_)
  · have h := pt c9 h
    refine lv_iconst (v := (0 : Int32)) hx hb dX5_at_44 (by decide) ?_
    exact END _ _ 45 ls s _ (pe h) dX5_at_45 rfl ⟨⟨_, _, hP⟩, hK⟩ hS
  · have h := pf c9 h
    refine lv_iload_n hx hb dX5_at_12 rfl (lv_at hl 2 rfl) ?_
    refine lv_i2l (v := a1.toInt64) hx hb dX5_at_13 rfl ?_
    refine lv_lconst (v := (0 : Int64)) hx hb dX5_at_14 (by decide) ?_
    refine lv_aload_n hx hb dX5_at_15 rfl (lv_at hl 0 rfl) ?_
    refine va_get (D := G) (ci := 3) (v := .ref hs) (C := RX5) (T := TX5) (N := 10) hx hb hts (fun w h => wl_in (inX5 w h)) hown hK hP 0 rfl rfl 2 (by decide) (hts _ (wl_in w_315)) (fun _ h9 => h9) rfl dX5_at_16 ?_
    refine lv_iload_n hx hb dX5_at_19 rfl (lv_at hl 1 rfl) ?_
    obtain ⟨g3, h⟩ := pg h
    refine va_iald hx hb hK hP 1 0 rfl rfl g3 dX5_at_20 ?_
    refine lv_iconst (v := (1 : Int32)) hx hb dX5_at_21 (by decide) ?_
    refine lv_isub hx hb dX5_at_22 ?_
    refine lv_i2l (v := ((sz a0.toNatClampNeg) - (1 : Int32)).toInt64) hx hb dX5_at_23 rfl ?_
    obtain ⟨r4, e5, h⟩ := pb h
    refine ro_S (As := [.long a1.toInt64, .long (0 : Int64), .long (((sz a0.toNatClampNeg) - (1 : Int32)).toInt64)]) (rest := []) hF (fun _ h => wl_in h) (cnX5_in l e5) syX5_in w_352 ⟨Nat.le_of_ble_eq_true rfl, Nat.le_of_ble_eq_true rfl⟩ mv0 trivial rfl hl.1 rfl (Nat.le_of_ble_eq_true rfl) dX5_at_24 ⟨Nat.zero_le _, Nat.zero_le _⟩ ?_
    refine lv_if_eq (tgt := 44) hx hb dX5_at_27 (by decide) (fun c27 => ?_) (fun c27 => ?_)
    · have h := pt c27 h
      refine lv_iconst (v := (0 : Int32)) hx hb dX5_at_44 (by decide) ?_
      exact END _ _ 45 ls s _ (pe h) dX5_at_45 rfl ⟨⟨_, _, hP⟩, hK⟩ hS
    · have h := pf c27 h
      refine lv_aload_n hx hb dX5_at_30 rfl (lv_at hl 0 rfl) ?_
      refine va_get (D := G) (ci := 3) (v := .ref hr) (C := RX5) (T := TX5) (N := 10) hx hb hts (fun w h => wl_in (inX5 w h)) hown hK hP 0 rfl rfl 3 (by decide) (hts _ (wl_in w_316)) (fun _ h9 => h9) rfl dX5_at_31 ?_
      refine lv_bipush (v := (6 : Int32)) hx hb dX5_at_34 (by decide) ?_
      refine lv_iload_n hx hb dX5_at_36 rfl (lv_at hl 1 rfl) ?_
      refine lv_imul hx hb dX5_at_37 ?_
      refine lv_iload_n hx hb dX5_at_38 rfl (lv_at hl 2 rfl) ?_
      refine lv_iadd hx hb dX5_at_39 ?_
      obtain ⟨g6, h⟩ := pg h
      refine va_iald hx hb hK hP 2 0 rfl rfl g6 dX5_at_40 ?_
      refine lv_goto (tgt := 45) hx hb dX5_at_41 (by decide) ?_
      exact END _ _ 45 ls s _ (pe h) dX5_at_45 rfl ⟨⟨_, _, hP⟩, hK⟩ hS

theorem syX5_whole : Vy yX5_whole cX5_whole 3 (some .long) 2 := ⟨w_402, ⟨w_400, w_401⟩, w_4, by decide +kernel⟩
set_option maxHeartbeats 4000000 in
set_option maxRecDepth 100000 in
theorem cnX5_whole (l : Launch) (G : va_G) (h0 hs hr : Nat) (cI cF : ClassId) (tr : Int64) (sz rw : Nat → Int32) (bx by_ bz bm so : Int32) (hap : mAp h0 hs hr) {a0 : Int32} {a1 : Int32} {r : Int64} (h : fX5_whole sz rw a0 a1 = some r) : Mu l yX5_whole cX5_whole 3 (some .long) 2 49 [.ref h0, .int a0, .int a1] (mA h0 hs hr) (mB G h0 hs hr cI cF tr sz rw bx by_ bz bm so) (mB G h0 hs hr cI cF tr sz rw bx by_ bz bm so) (some (.long r)) := by
  refine mu_l (plainFor_of_name (by decide)) (Nat.le_of_ble_eq_true rfl) (by first | exact mB_mv | exact mBe_mv) ?_
  intro p e s m args below meth cd Q ls hF hB hl END
  have hF : CallFix p m cd cX5_whole 3 s args (wl yX5_whole cX5_whole 3 (some .long)) RX5 := hF
  obtain ⟨hx, hb, hml, hown, hts⟩ := id hF
  have hl : lv_has ls 3 [(0, .ref h0), (1, .int a0), (2, .int a1)] := hl
  obtain ⟨⟨th, ex, hP⟩, hK⟩ := hB
  have hS : va_S (mA h0 hs hr) s.heap s.heap [] := va_S.rf
  rw [fX5_whole] at h
  refine lv_aload_n hx hb dX5_whole_0 rfl (lv_at hl 0 rfl) ?_
  refine lv_iconst (v := (0 : Int32)) hx hb dX5_whole_1 (by decide) ?_
  refine va_put (D := G) (ci := 3) (v := .int (0 : Int32)) (ty := .int) (C := RX5) (T := TX5) (N := 10) hx hb hts (fun w h => wl_in (inX5 w h)) tyX5 tyX5_ok nmX5 hown hK hP (mD hap) hS 0 rfl rfl 0 (by decide) (hts _ (wl_in w_313)) (fun _ h9 => h9) rfl (by decide +kernel) rfl rfl (Nat.le_of_ble_eq_true rfl) dX5_whole_2 (fun H locs hP _ hS => ?_)
  have hP : va_P G vwCl (mW h0 hs hr cI (0 : Int32) tr sz rw bx by_ bz bm so ex) H := hP
  refine lv_iload_n hx hb dX5_whole_5 rfl (lv_at hl 1 rfl) ?_
  obtain ⟨r1, e2, h⟩ := pb h
  refine ro_S (As := [.int a0]) (rest := []) hF (fun _ h => wl_in h) (cnX5_isShelf l e2) syX5_isShelf w_390 ⟨Nat.le_of_ble_eq_true rfl, Nat.le_of_ble_eq_true rfl⟩ mv0 trivial rfl hl.1 rfl (Nat.le_of_ble_eq_true rfl) dX5_whole_6 ⟨Nat.zero_le _, Nat.zero_le _⟩ ?_
  refine lv_if_eq (tgt := 22) hx hb dX5_whole_9 (by decide) (fun c9 => ?_) (fun c9 => ?_)
  · have h := pt c9 h
    refine lv_lconst (v := (0 : Int64)) hx hb dX5_whole_22 (by decide) ?_
    exact END _ _ 23 ls s _ (pe h) dX5_whole_23 rfl ⟨⟨_, _, hP⟩, hK⟩ hS
  · have h := pf c9 h
    refine lv_iload_n hx hb dX5_whole_12 rfl (lv_at hl 2 rfl) ?_
    refine lv_i2l (v := a1.toInt64) hx hb dX5_whole_13 rfl ?_
    refine lv_lconst (v := (0 : Int64)) hx hb dX5_whole_14 (by decide) ?_
    refine lv_lconst (v := (1 : Int64)) hx hb dX5_whole_15 (by decide) ?_
    obtain ⟨r3, e4, h⟩ := pb h
    refine ro_S (As := [.long a1.toInt64, .long (0 : Int64), .long (1 : Int64)]) (rest := []) hF (fun _ h => wl_in h) (cnX5_in l e4) syX5_in w_352 ⟨Nat.le_of_ble_eq_true rfl, Nat.le_of_ble_eq_true rfl⟩ mv0 trivial rfl hl.1 rfl (Nat.le_of_ble_eq_true rfl) dX5_whole_16 ⟨Nat.zero_le _, Nat.zero_le _⟩ ?_
    refine lv_if_ne (tgt := 24) hx hb dX5_whole_19 (by decide) (fun c19 => ?_) (fun c19 => ?_)
    · have h := pf c19 h
      refine lv_iload_n hx hb dX5_whole_24 rfl (lv_at hl 2 rfl) ?_
      refine lv_if_ne (tgt := 42) hx hb dX5_whole_25 (by decide) (fun c25 => ?_) (fun c25 => ?_)
      · have h := pf c25 h
        refine lv_aload_n hx hb dX5_whole_42 rfl (lv_at hl 0 rfl) ?_
        refine lv_iload_n hx hb dX5_whole_43 rfl (lv_at hl 1 rfl) ?_
        obtain ⟨r5, e6, h⟩ := pb h
        refine ro_V (As := [.int a0]) (rest := []) hF (fun _ h => wl_in h) (cnX5_freeOf l G h0 hs hr cI cF tr sz rw bx by_ bz bm so e6) syX5_freeOf w_407 ⟨Nat.le_of_ble_eq_true rfl, Nat.le_of_ble_eq_true rfl⟩ mB_mv ⟨⟨_, _, hP⟩, hK⟩ (va_recv hK hP (ci := 3) (q0 := 0) rfl rfl) rfl hl.1 rfl (Nat.le_of_ble_eq_true rfl) dX5_whole_44 ⟨Nat.zero_le _, Nat.zero_le _⟩ ?_
        exact END _ _ 47 ls s _ (pe h) dX5_whole_47 rfl ⟨⟨_, _, hP⟩, hK⟩ hS
      · have h := pt c25 h
        refine lv_aload_n hx hb dX5_whole_28 rfl (lv_at hl 0 rfl) ?_
        refine lv_iload_n hx hb dX5_whole_29 rfl (lv_at hl 1 rfl) ?_
        refine lv_aload_n hx hb dX5_whole_30 rfl (lv_at hl 0 rfl) ?_
        refine va_get (D := G) (ci := 3) (v := .ref hs) (C := RX5) (T := TX5) (N := 10) hx hb hts (fun w h => wl_in (inX5 w h)) hown hK hP 0 rfl rfl 2 (by decide) (hts _ (wl_in w_315)) (fun _ h9 => h9) rfl dX5_whole_31 ?_
        refine lv_iload_n hx hb dX5_whole_34 rfl (lv_at hl 1 rfl) ?_
        obtain ⟨g7, h⟩ := pg h
        refine va_iald hx hb hK hP 1 0 rfl rfl g7 dX5_whole_35 ?_
        obtain ⟨r8, e9, h⟩ := pb h
        refine ro_V (As := [.int a0, .int (sz a0.toNatClampNeg)]) (rest := []) hF (fun _ h => wl_in h) (cnX5_productOf l G h0 hs hr cI cF tr sz rw bx by_ bz bm so e9) syX5_productOf w_403 ⟨Nat.le_of_ble_eq_true rfl, Nat.le_of_ble_eq_true rfl⟩ mB_mv ⟨⟨_, _, hP⟩, hK⟩ (va_recv hK hP (ci := 3) (q0 := 0) rfl rfl) rfl hl.1 rfl (Nat.le_of_ble_eq_true rfl) dX5_whole_36 ⟨Nat.zero_le _, Nat.zero_le _⟩ ?_
        refine lv_goto (tgt := 47) hx hb dX5_whole_39 (by decide) ?_
        exact END _ _ 47 ls s _ (pe h) dX5_whole_47 rfl ⟨⟨_, _, hP⟩, hK⟩ hS
    · have h := pt c19 h
      refine lv_lconst (v := (0 : Int64)) hx hb dX5_whole_22 (by decide) ?_
      exact END _ _ 23 ls s _ (pe h) dX5_whole_23 rfl ⟨⟨_, _, hP⟩, hK⟩ hS

theorem syX5_hold : Vy yX5_hold cX5_hold 3 (some .int) 2 := ⟨w_414, ⟨w_412, w_413⟩, w_4, by decide +kernel⟩
set_option maxHeartbeats 4000000 in
set_option maxRecDepth 100000 in
theorem cnX5_hold (l : Launch) (G : va_G) (h0 hs hr : Nat) (cI cF : ClassId) (tr : Int64) (sz rw : Nat → Int32) (bx by_ bz bm so : Int32) (hap : mAp h0 hs hr) {a0 : Int32} {a1 : Int32} {r : Int32} (h : fX5_hold sz rw a0 a1 = some r) : Mu l yX5_hold cX5_hold 3 (some .int) 3 87 [.ref h0, .int a0, .int a1] (mA h0 hs hr) (mB G h0 hs hr cI cF tr sz rw bx by_ bz bm so) (mB G h0 hs hr cI cF tr sz rw bx by_ bz bm so) (some (.int r)) := by
  refine mu_i (plainFor_of_name (by decide)) (Nat.le_of_ble_eq_true rfl) (by first | exact mB_mv | exact mBe_mv) ?_
  intro p e s m args below meth cd Q ls hF hB hl END
  have hF : CallFix p m cd cX5_hold 3 s args (wl yX5_hold cX5_hold 3 (some .int)) RX5 := hF
  obtain ⟨hx, hb, hml, hown, hts⟩ := id hF
  have hl : lv_has ls 3 [(0, .ref h0), (1, .int a0), (2, .int a1)] := hl
  obtain ⟨⟨th, ex, hP⟩, hK⟩ := hB
  have hS : va_S (mA h0 hs hr) s.heap s.heap [] := va_S.rf
  rw [fX5_hold] at h
  refine lv_aload_n hx hb dX5_hold_0 rfl (lv_at hl 0 rfl) ?_
  refine lv_iconst (v := (0 : Int32)) hx hb dX5_hold_1 (by decide) ?_
  refine va_put (D := G) (ci := 3) (v := .int (0 : Int32)) (ty := .int) (C := RX5) (T := TX5) (N := 10) hx hb hts (fun w h => wl_in (inX5 w h)) tyX5 tyX5_ok nmX5 hown hK hP (mD hap) hS 0 rfl rfl 0 (by decide) (hts _ (wl_in w_313)) (fun _ h9 => h9) rfl (by decide +kernel) rfl rfl (Nat.le_of_ble_eq_true rfl) dX5_hold_2 (fun H locs hP _ hS => ?_)
  have hP : va_P G vwCl (mW h0 hs hr cI (0 : Int32) tr sz rw bx by_ bz bm so ex) H := hP
  refine lv_iload_n hx hb dX5_hold_5 rfl (lv_at hl 1 rfl) ?_
  obtain ⟨r1, e2, h⟩ := pb h
  refine ro_S (As := [.int a0]) (rest := []) hF (fun _ h => wl_in h) (cnX5_isShelf l e2) syX5_isShelf w_390 ⟨Nat.le_of_ble_eq_true rfl, Nat.le_of_ble_eq_true rfl⟩ mv0 trivial rfl hl.1 rfl (Nat.le_of_ble_eq_true rfl) dX5_hold_6 ⟨Nat.zero_le _, Nat.zero_le _⟩ ?_
  refine lv_if_eq (tgt := 34) hx hb dX5_hold_9 (by decide) (fun c9 => ?_) (fun c9 => ?_)
  · have h := pt c9 h
    refine lv_bipush (v := (-3 : Int32)) hx hb dX5_hold_34 (by decide) ?_
    exact END _ _ 36 ls s _ (pe h) dX5_hold_36 rfl ⟨⟨_, _, hP⟩, hK⟩ hS
  · have h := pf c9 h
    refine lv_iload_n hx hb dX5_hold_12 rfl (lv_at hl 2 rfl) ?_
    obtain ⟨r3, e4, h⟩ := pb h
    refine ro_S (As := [.int a1]) (rest := []) hF (fun _ h => wl_in h) (cnX5_isPlace l e4) syX5_isPlace w_359 ⟨Nat.le_of_ble_eq_true rfl, Nat.le_of_ble_eq_true rfl⟩ mv0 trivial rfl hl.1 rfl (Nat.le_of_ble_eq_true rfl) dX5_hold_13 ⟨Nat.zero_le _, Nat.zero_le _⟩ ?_
    refine lv_if_eq (tgt := 34) hx hb dX5_hold_16 (by decide) (fun c16 => ?_) (fun c16 => ?_)
    · have h := pt c16 h
      refine lv_bipush (v := (-3 : Int32)) hx hb dX5_hold_34 (by decide) ?_
      exact END _ _ 36 ls s _ (pe h) dX5_hold_36 rfl ⟨⟨_, _, hP⟩, hK⟩ hS
    · have h := pf c16 h
      refine lv_aload_n hx hb dX5_hold_19 rfl (lv_at hl 0 rfl) ?_
      refine lv_iload_n hx hb dX5_hold_20 rfl (lv_at hl 1 rfl) ?_
      refine lv_aload_n hx hb dX5_hold_21 rfl (lv_at hl 0 rfl) ?_
      refine va_get (D := G) (ci := 3) (v := .ref hs) (C := RX5) (T := TX5) (N := 10) hx hb hts (fun w h => wl_in (inX5 w h)) hown hK hP 0 rfl rfl 2 (by decide) (hts _ (wl_in w_315)) (fun _ h9 => h9) rfl dX5_hold_22 ?_
      refine lv_iload_n hx hb dX5_hold_25 rfl (lv_at hl 1 rfl) ?_
      obtain ⟨g5, h⟩ := pg h
      refine va_iald hx hb hK hP 1 0 rfl rfl g5 dX5_hold_26 ?_
      refine lv_iload_n hx hb dX5_hold_27 rfl (lv_at hl 2 rfl) ?_
      obtain ⟨r6, e7, h⟩ := pb h
      refine mu_V (As := [.int a0, .int (sz a0.toNatClampNeg), .int a1]) (rest := []) hF (fun _ h => wl_in h) (cnX5_holdOf l G h0 hs hr cI cF tr sz rw bx by_ bz bm so hap e7) syX5_holdOf w_415 ⟨Nat.le_of_ble_eq_true rfl, Nat.le_of_ble_eq_true rfl⟩ mB_mv mB_mv ⟨⟨_, _, hP⟩, hK⟩ (va_recv hK hP (ci := 3) (q0 := 0) rfl rfl) hS (fun _ h => h) rfl hl.1 rfl (Nat.le_of_ble_eq_true rfl) dX5_hold_28 ⟨Nat.zero_le _, Nat.zero_le _⟩ (fun H locs hB1 _ _ hS => ?_)
      obtain ⟨⟨th8, ex9, hP⟩, _⟩ := hB1
      refine W.eq (g2 := F0 m 31 ls [.int r6]) rfl ?_
      refine lv_goto (tgt := 36) hx hb dX5_hold_31 (by decide) ?_
      exact END _ _ 36 ls s _ (pe h) dX5_hold_36 rfl ⟨⟨_, _, hP⟩, hK⟩ hS

theorem syX5_goes : Vy yX5_goes cX5_goes 3 (some .int) 2 := ⟨w_422, ⟨w_420, w_421⟩, w_4, by decide +kernel⟩
set_option maxHeartbeats 4000000 in
set_option maxRecDepth 100000 in
theorem cnX5_goes (l : Launch) (G : va_G) (h0 hs hr : Nat) (cI cF : ClassId) (tr : Int64) (sz rw : Nat → Int32) (bx by_ bz bm so : Int32) (hap : mAp h0 hs hr) {a0 : Int32} {a1 : Int32} {r : Int32} (h : fX5_goes sz rw a0 a1 = some r) : Mu l yX5_goes cX5_goes 3 (some .int) 4 113 [.ref h0, .int a0, .int a1] (mA h0 hs hr) (mB G h0 hs hr cI cF tr sz rw bx by_ bz bm so) (mB G h0 hs hr cI cF tr sz rw bx by_ bz bm so) (some (.int r)) := by
  refine mu_i (plainFor_of_name (by decide)) (Nat.le_of_ble_eq_true rfl) (by first | exact mB_mv | exact mBe_mv) ?_
  intro p e s m args below meth cd Q ls hF hB hl END
  have hF : CallFix p m cd cX5_goes 3 s args (wl yX5_goes cX5_goes 3 (some .int)) RX5 := hF
  obtain ⟨hx, hb, hml, hown, hts⟩ := id hF
  have hl : lv_has ls 3 [(0, .ref h0), (1, .int a0), (2, .int a1)] := hl
  obtain ⟨⟨th, ex, hP⟩, hK⟩ := hB
  have hS : va_S (mA h0 hs hr) s.heap s.heap [] := va_S.rf
  rw [fX5_goes] at h
  refine lv_aload_n hx hb dX5_goes_0 rfl (lv_at hl 0 rfl) ?_
  refine lv_iconst (v := (0 : Int32)) hx hb dX5_goes_1 (by decide) ?_
  refine va_put (D := G) (ci := 3) (v := .int (0 : Int32)) (ty := .int) (C := RX5) (T := TX5) (N := 10) hx hb hts (fun w h => wl_in (inX5 w h)) tyX5 tyX5_ok nmX5 hown hK hP (mD hap) hS 0 rfl rfl 0 (by decide) (hts _ (wl_in w_313)) (fun _ h9 => h9) rfl (by decide +kernel) rfl rfl (Nat.le_of_ble_eq_true rfl) dX5_goes_2 (fun H locs hP _ hS => ?_)
  have hP : va_P G vwCl (mW h0 hs hr cI (0 : Int32) tr sz rw bx by_ bz bm so ex) H := hP
  refine lv_iload_n hx hb dX5_goes_5 rfl (lv_at hl 1 rfl) ?_
  obtain ⟨r1, e2, h⟩ := pb h
  refine ro_S (As := [.int a0]) (rest := []) hF (fun _ h => wl_in h) (cnX5_isShelf l e2) syX5_isShelf w_390 ⟨Nat.le_of_ble_eq_true rfl, Nat.le_of_ble_eq_true rfl⟩ mv0 trivial rfl hl.1 rfl (Nat.le_of_ble_eq_true rfl) dX5_goes_6 ⟨Nat.zero_le _, Nat.zero_le _⟩ ?_
  refine lv_if_eq (tgt := 19) hx hb dX5_goes_9 (by decide) (fun c9 => ?_) (fun c9 => ?_)
  · have h := pt c9 h
    refine lv_bipush (v := (-3 : Int32)) hx hb dX5_goes_19 (by decide) ?_
    refine lv_goto (tgt := 44) hx hb dX5_goes_21 (by decide) ?_
    exact END _ _ 44 ls s _ (pe h) dX5_goes_44 rfl ⟨⟨_, _, hP⟩, hK⟩ hS
  · have h := pf c9 h
    refine lv_iload_n hx hb dX5_goes_12 rfl (lv_at hl 2 rfl) ?_
    obtain ⟨r3, e4, h⟩ := pb h
    refine ro_S (As := [.int a1]) (rest := []) hF (fun _ h => wl_in h) (cnX5_isPlace l e4) syX5_isPlace w_359 ⟨Nat.le_of_ble_eq_true rfl, Nat.le_of_ble_eq_true rfl⟩ mv0 trivial rfl hl.1 rfl (Nat.le_of_ble_eq_true rfl) dX5_goes_13 ⟨Nat.zero_le _, Nat.zero_le _⟩ ?_
    refine lv_if_ne (tgt := 24) hx hb dX5_goes_16 (by decide) (fun c16 => ?_) (fun c16 => ?_)
    · have h := pf c16 h
      refine lv_aload_n hx hb dX5_goes_24 rfl (lv_at hl 0 rfl) ?_
      refine lv_iload_n hx hb dX5_goes_25 rfl (lv_at hl 1 rfl) ?_
      refine lv_aload_n hx hb dX5_goes_26 rfl (lv_at hl 0 rfl) ?_
      refine va_get (D := G) (ci := 3) (v := .ref hs) (C := RX5) (T := TX5) (N := 10) hx hb hts (fun w h => wl_in (inX5 w h)) hown hK hP 0 rfl rfl 2 (by decide) (hts _ (wl_in w_315)) (fun _ h9 => h9) rfl dX5_goes_27 ?_
      refine lv_iload_n hx hb dX5_goes_30 rfl (lv_at hl 1 rfl) ?_
      obtain ⟨g5, h⟩ := pg h
      refine va_iald hx hb hK hP 1 0 rfl rfl g5 dX5_goes_31 ?_
      refine lv_iload_n hx hb dX5_goes_32 rfl (lv_at hl 2 rfl) ?_
      obtain ⟨r6, e7, h⟩ := pb h
      refine mu_V (As := [.int a0, .int (sz a0.toNatClampNeg), .int a1]) (rest := []) hF (fun _ h => wl_in h) (cnX5_isGoing l G h0 hs hr cI cF tr sz rw bx by_ bz bm so hap e7) syX5_isGoing w_423 ⟨Nat.le_of_ble_eq_true rfl, Nat.le_of_ble_eq_true rfl⟩ mB_mv mB_mv ⟨⟨_, _, hP⟩, hK⟩ (va_recv hK hP (ci := 3) (q0 := 0) rfl rfl) hS (fun _ h => h) rfl hl.1 rfl (Nat.le_of_ble_eq_true rfl) dX5_goes_33 ⟨Nat.zero_le _, Nat.zero_le _⟩ (fun H locs hB1 _ _ hS => ?_)
      obtain ⟨⟨th8, ex9, hP⟩, _⟩ := hB1
      refine W.eq (g2 := F0 m 36 ls [.int r6]) rfl ?_
      refine lv_if_eq (tgt := 43) hx hb dX5_goes_36 (by decide) (fun c36 => ?_) (fun c36 => ?_)
      · have h := pt c36 h
        refine lv_iconst (v := (0 : Int32)) hx hb dX5_goes_43 (by decide) ?_
        exact END _ _ 44 ls s _ (pe h) dX5_goes_44 rfl ⟨⟨_, _, hP⟩, hK⟩ hS
      · have h := pf c36 h
        refine lv_iconst (v := (1 : Int32)) hx hb dX5_goes_39 (by decide) ?_
        refine lv_goto (tgt := 44) hx hb dX5_goes_40 (by decide) ?_
        exact END _ _ 44 ls s _ (pe h) dX5_goes_44 rfl ⟨⟨_, _, hP⟩, hK⟩ hS
    · have h := pt c16 h
      refine lv_bipush (v := (-3 : Int32)) hx hb dX5_goes_19 (by decide) ?_
      refine lv_goto (tgt := 44) hx hb dX5_goes_21 (by decide) ?_
      exact END _ _ 44 ls s _ (pe h) dX5_goes_44 rfl ⟨⟨_, _, hP⟩, hK⟩ hS

theorem syX5_nought : Vy yX5_nought cX5_nought 2 (some .int) 1 := ⟨w_439, ⟨w_437, w_438⟩, w_4, by decide +kernel⟩
set_option maxHeartbeats 4000000 in
set_option maxRecDepth 100000 in
theorem cnX5_nought (l : Launch) (G : va_G) (h0 hs hr : Nat) (cI cF : ClassId) (tr : Int64) (sz rw : Nat → Int32) (bx by_ bz bm so : Int32) (hap : mAp h0 hs hr) {a0 : Int32} {r : Int32} (h : fX5_nought sz rw a0 = some r) : Mu l yX5_nought cX5_nought 2 (some .int) 5 137 [.ref h0, .int a0] (mA h0 hs hr) (mB G h0 hs hr cI cF tr sz rw bx by_ bz bm so) (mB G h0 hs hr cI cF tr sz rw bx by_ bz bm so) (some (.int r)) := by
  refine mu_i (plainFor_of_name (by decide)) (Nat.le_of_ble_eq_true rfl) (by first | exact mB_mv | exact mBe_mv) ?_
  intro p e s m args below meth cd Q ls hF hB hl END
  have hF : CallFix p m cd cX5_nought 2 s args (wl yX5_nought cX5_nought 2 (some .int)) RX5 := hF
  obtain ⟨hx, hb, hml, hown, hts⟩ := id hF
  have hl : lv_has ls 2 [(0, .ref h0), (1, .int a0)] := hl
  obtain ⟨⟨th, ex, hP⟩, hK⟩ := hB
  have hS : va_S (mA h0 hs hr) s.heap s.heap [] := va_S.rf
  rw [fX5_nought] at h
  refine lv_aload_n hx hb dX5_nought_0 rfl (lv_at hl 0 rfl) ?_
  refine lv_iconst (v := (0 : Int32)) hx hb dX5_nought_1 (by decide) ?_
  refine va_put (D := G) (ci := 3) (v := .int (0 : Int32)) (ty := .int) (C := RX5) (T := TX5) (N := 10) hx hb hts (fun w h => wl_in (inX5 w h)) tyX5 tyX5_ok nmX5 hown hK hP (mD hap) hS 0 rfl rfl 0 (by decide) (hts _ (wl_in w_313)) (fun _ h9 => h9) rfl (by decide +kernel) rfl rfl (Nat.le_of_ble_eq_true rfl) dX5_nought_2 (fun H locs hP _ hS => ?_)
  have hP : va_P G vwCl (mW h0 hs hr cI (0 : Int32) tr sz rw bx by_ bz bm so ex) H := hP
  refine lv_iload_n hx hb dX5_nought_5 rfl (lv_at hl 1 rfl) ?_
  obtain ⟨r1, e2, h⟩ := pb h
  refine ro_S (As := [.int a0]) (rest := []) hF (fun _ h => wl_in h) (cnX5_isShelf l e2) syX5_isShelf w_390 ⟨Nat.le_of_ble_eq_true rfl, Nat.le_of_ble_eq_true rfl⟩ mv0 trivial rfl hl.1 rfl (Nat.le_of_ble_eq_true rfl) dX5_nought_6 ⟨Nat.zero_le _, Nat.zero_le _⟩ ?_
  refine lv_if_ne (tgt := 17) hx hb dX5_nought_9 (by decide) (fun c9 => ?_) (fun c9 => ?_)
  · have h := pf c9 h
    refine lv_aload_n hx hb dX5_nought_17 rfl (lv_at hl 0 rfl) ?_
    refine lv_iload_n hx hb dX5_nought_18 rfl (lv_at hl 1 rfl) ?_
    refine lv_aload_n hx hb dX5_nought_19 rfl (lv_at hl 0 rfl) ?_
    refine va_get (D := G) (ci := 3) (v := .ref hs) (C := RX5) (T := TX5) (N := 10) hx hb hts (fun w h => wl_in (inX5 w h)) hown hK hP 0 rfl rfl 2 (by decide) (hts _ (wl_in w_315)) (fun _ h9 => h9) rfl dX5_nought_20 ?_
    refine lv_iload_n hx hb dX5_nought_23 rfl (lv_at hl 1 rfl) ?_
    obtain ⟨g3, h⟩ := pg h
    refine va_iald hx hb hK hP 1 0 rfl rfl g3 dX5_nought_24 ?_
    obtain ⟨r4, e5, h⟩ := pb h
    refine mu_V (As := [.int a0, .int (sz a0.toNatClampNeg)]) (rest := []) hF (fun _ h => wl_in h) (cnX5_isNought l G h0 hs hr cI cF tr sz rw bx by_ bz bm so hap e5) syX5_isNought w_440 ⟨Nat.le_of_ble_eq_true rfl, Nat.le_of_ble_eq_true rfl⟩ mB_mv mB_mv ⟨⟨_, _, hP⟩, hK⟩ (va_recv hK hP (ci := 3) (q0 := 0) rfl rfl) hS (fun _ h => h) rfl hl.1 rfl (Nat.le_of_ble_eq_true rfl) dX5_nought_25 ⟨Nat.zero_le _, Nat.zero_le _⟩ (fun H locs hB1 _ _ hS => ?_)
    obtain ⟨⟨th6, ex7, hP⟩, _⟩ := hB1
    refine W.eq (g2 := F0 m 28 ls [.int r4]) rfl ?_
    refine lv_if_eq (tgt := 35) hx hb dX5_nought_28 (by decide) (fun c28 => ?_) (fun c28 => ?_)
    · have h := pt c28 h
      refine lv_iconst (v := (0 : Int32)) hx hb dX5_nought_35 (by decide) ?_
      exact END _ _ 36 ls s _ (pe h) dX5_nought_36 rfl ⟨⟨_, _, hP⟩, hK⟩ hS
    · have h := pf c28 h
      refine lv_iconst (v := (1 : Int32)) hx hb dX5_nought_31 (by decide) ?_
      refine lv_goto (tgt := 36) hx hb dX5_nought_32 (by decide) ?_
      exact END _ _ 36 ls s _ (pe h) dX5_nought_36 rfl ⟨⟨_, _, hP⟩, hK⟩ hS
  · have h := pt c9 h
    refine lv_bipush (v := (-3 : Int32)) hx hb dX5_nought_12 (by decide) ?_
    refine lv_goto (tgt := 36) hx hb dX5_nought_14 (by decide) ?_
    exact END _ _ 36 ls s _ (pe h) dX5_nought_36 rfl ⟨⟨_, _, hP⟩, hK⟩ hS

theorem syX5_bars : Vy yX5_bars cX5_bars 2 (some .int) 1 := ⟨w_454, ⟨w_452, w_453⟩, w_4, by decide +kernel⟩
set_option maxHeartbeats 4000000 in
set_option maxRecDepth 100000 in
theorem cnX5_bars (l : Launch) (G : va_G) (h0 hs hr : Nat) (cI cF : ClassId) (tr : Int64) (sz rw : Nat → Int32) (bx by_ bz bm so : Int32) (hap : mAp h0 hs hr) {a0 : Int32} {r : Int32} (h : fX5_bars sz rw a0 = some r) : Mu l yX5_bars cX5_bars 2 (some .int) 5 137 [.ref h0, .int a0] (mA h0 hs hr) (mB G h0 hs hr cI cF tr sz rw bx by_ bz bm so) (mB G h0 hs hr cI cF tr sz rw bx by_ bz bm so) (some (.int r)) := by
  refine mu_i (plainFor_of_name (by decide)) (Nat.le_of_ble_eq_true rfl) (by first | exact mB_mv | exact mBe_mv) ?_
  intro p e s m args below meth cd Q ls hF hB hl END
  have hF : CallFix p m cd cX5_bars 2 s args (wl yX5_bars cX5_bars 2 (some .int)) RX5 := hF
  obtain ⟨hx, hb, hml, hown, hts⟩ := id hF
  have hl : lv_has ls 2 [(0, .ref h0), (1, .int a0)] := hl
  obtain ⟨⟨th, ex, hP⟩, hK⟩ := hB
  have hS : va_S (mA h0 hs hr) s.heap s.heap [] := va_S.rf
  rw [fX5_bars] at h
  refine lv_aload_n hx hb dX5_bars_0 rfl (lv_at hl 0 rfl) ?_
  refine lv_iconst (v := (0 : Int32)) hx hb dX5_bars_1 (by decide) ?_
  refine va_put (D := G) (ci := 3) (v := .int (0 : Int32)) (ty := .int) (C := RX5) (T := TX5) (N := 10) hx hb hts (fun w h => wl_in (inX5 w h)) tyX5 tyX5_ok nmX5 hown hK hP (mD hap) hS 0 rfl rfl 0 (by decide) (hts _ (wl_in w_313)) (fun _ h9 => h9) rfl (by decide +kernel) rfl rfl (Nat.le_of_ble_eq_true rfl) dX5_bars_2 (fun H locs hP _ hS => ?_)
  have hP : va_P G vwCl (mW h0 hs hr cI (0 : Int32) tr sz rw bx by_ bz bm so ex) H := hP
  refine lv_iload_n hx hb dX5_bars_5 rfl (lv_at hl 1 rfl) ?_
  obtain ⟨r1, e2, h⟩ := pb h
  refine ro_S (As := [.int a0]) (rest := []) hF (fun _ h => wl_in h) (cnX5_isShelf l e2) syX5_isShelf w_390 ⟨Nat.le_of_ble_eq_true rfl, Nat.le_of_ble_eq_true rfl⟩ mv0 trivial rfl hl.1 rfl (Nat.le_of_ble_eq_true rfl) dX5_bars_6 ⟨Nat.zero_le _, Nat.zero_le _⟩ ?_
  refine lv_if_eq (tgt := 24) hx hb dX5_bars_9 (by decide) (fun c9 => ?_) (fun c9 => ?_)
  · have h := pt c9 h
    refine lv_bipush (v := (-3 : Int32)) hx hb dX5_bars_24 (by decide) ?_
    exact END _ _ 26 ls s _ (pe h) dX5_bars_26 rfl ⟨⟨_, _, hP⟩, hK⟩ hS
  · have h := pf c9 h
    refine lv_bipush (v := (-10 : Int32)) hx hb dX5_bars_12 (by decide) ?_
    refine lv_aload_n hx hb dX5_bars_14 rfl (lv_at hl 0 rfl) ?_
    refine lv_iload_n hx hb dX5_bars_15 rfl (lv_at hl 1 rfl) ?_
    refine lv_iconst (v := (-1 : Int32)) hx hb dX5_bars_16 (by decide) ?_
    obtain ⟨r3, e4, h⟩ := pb h
    refine mu_V (As := [.int a0, .int (-1 : Int32)]) (rest := [.int (-10 : Int32)]) hF (fun _ h => wl_in h) (cnX5_barOf l G h0 hs hr cI cF tr sz rw bx by_ bz bm so hap e4) syX5_barOf w_455 ⟨Nat.le_of_ble_eq_true rfl, Nat.le_of_ble_eq_true rfl⟩ mB_mv mB_mv ⟨⟨_, _, hP⟩, hK⟩ (va_recv hK hP (ci := 3) (q0 := 0) rfl rfl) hS (fun _ h => h) rfl hl.1 rfl (Nat.le_of_ble_eq_true rfl) dX5_bars_17 ⟨Nat.zero_le _, Nat.zero_le _⟩ (fun H locs hB1 _ _ hS => ?_)
    obtain ⟨⟨th5, ex6, hP⟩, _⟩ := hB1
    refine W.eq (g2 := F0 m 20 ls [.int r3, .int (-10 : Int32)]) rfl ?_
    refine lv_isub hx hb dX5_bars_20 ?_
    refine lv_goto (tgt := 26) hx hb dX5_bars_21 (by decide) ?_
    exact END _ _ 26 ls s _ (pe h) dX5_bars_26 rfl ⟨⟨_, _, hP⟩, hK⟩ hS

theorem syX5_bar : Vy yX5_bar cX5_bar 4 (some .int) 2 := ⟨w_462, ⟨w_460, w_461⟩, w_4, by decide +kernel⟩
set_option maxHeartbeats 4000000 in
set_option maxRecDepth 100000 in
theorem cnX5_bar (l : Launch) (G : va_G) (h0 hs hr : Nat) (cI cF : ClassId) (tr : Int64) (sz rw : Nat → Int32) (bx by_ bz bm so : Int32) (hap : mAp h0 hs hr) {a0 : Int32} {a1 : Int32} {r : Int32} (h : fX5_bar sz rw a0 a1 = some r) : Mu l yX5_bar cX5_bar 4 (some .int) 5 137 [.ref h0, .int a0, .int a1] (mA h0 hs hr) (mB G h0 hs hr cI cF tr sz rw bx by_ bz bm so) (mB G h0 hs hr cI cF tr sz rw bx by_ bz bm so) (some (.int r)) := by
  refine mu_i (plainFor_of_name (by decide)) (Nat.le_of_ble_eq_true rfl) (by first | exact mB_mv | exact mBe_mv) ?_
  intro p e s m args below meth cd Q ls hF hB hl END
  have hF : CallFix p m cd cX5_bar 4 s args (wl yX5_bar cX5_bar 4 (some .int)) RX5 := hF
  obtain ⟨hx, hb, hml, hown, hts⟩ := id hF
  have hl : lv_has ls 4 [(0, .ref h0), (1, .int a0), (2, .int a1)] := hl
  obtain ⟨⟨th, ex, hP⟩, hK⟩ := hB
  have hS : va_S (mA h0 hs hr) s.heap s.heap [] := va_S.rf
  rw [fX5_bar] at h
  refine lv_aload_n hx hb dX5_bar_0 rfl (lv_at hl 0 rfl) ?_
  refine lv_iconst (v := (0 : Int32)) hx hb dX5_bar_1 (by decide) ?_
  refine va_put (D := G) (ci := 3) (v := .int (0 : Int32)) (ty := .int) (C := RX5) (T := TX5) (N := 10) hx hb hts (fun w h => wl_in (inX5 w h)) tyX5 tyX5_ok nmX5 hown hK hP (mD hap) hS 0 rfl rfl 0 (by decide) (hts _ (wl_in w_313)) (fun _ h9 => h9) rfl (by decide +kernel) rfl rfl (Nat.le_of_ble_eq_true rfl) dX5_bar_2 (fun H locs hP _ hS => ?_)
  have hP : va_P G vwCl (mW h0 hs hr cI (0 : Int32) tr sz rw bx by_ bz bm so ex) H := hP
  refine lv_iload_n hx hb dX5_bar_5 rfl (lv_at hl 1 rfl) ?_
  obtain ⟨r1, e2, h⟩ := pb h
  refine ro_S (As := [.int a0]) (rest := []) hF (fun _ h => wl_in h) (cnX5_isShelf l e2) syX5_isShelf w_390 ⟨Nat.le_of_ble_eq_true rfl, Nat.le_of_ble_eq_true rfl⟩ mv0 trivial rfl hl.1 rfl (Nat.le_of_ble_eq_true rfl) dX5_bar_6 ⟨Nat.zero_le _, Nat.zero_le _⟩ ?_
  refine lv_if_eq (tgt := 16) hx hb dX5_bar_9 (by decide) (fun c9 => ?_) (fun c9 => ?_)
  · have h := pt c9 h
    refine lv_bipush (v := (-3 : Int32)) hx hb dX5_bar_16 (by decide) ?_
    exact END _ _ 18 ls s _ (pe h) dX5_bar_18 rfl ⟨⟨_, _, hP⟩, hK⟩ hS
  · have h := pf c9 h
    refine lv_iload_n hx hb dX5_bar_12 rfl (lv_at hl 2 rfl) ?_
    refine lv_if_ge (tgt := 19) hx hb dX5_bar_13 (by decide) (fun c13 => ?_) (fun c13 => ?_)
    · have h := pt c13 h
      refine lv_aload_n hx hb dX5_bar_19 rfl (lv_at hl 0 rfl) ?_
      refine lv_iload_n hx hb dX5_bar_20 rfl (lv_at hl 1 rfl) ?_
      refine lv_iload_n hx hb dX5_bar_21 rfl (lv_at hl 2 rfl) ?_
      obtain ⟨r3, e4, h⟩ := pb h
      refine mu_V (As := [.int a0, .int a1]) (rest := []) hF (fun _ h => wl_in h) (cnX5_barOf l G h0 hs hr cI cF tr sz rw bx by_ bz bm so hap e4) syX5_barOf w_455 ⟨Nat.le_of_ble_eq_true rfl, Nat.le_of_ble_eq_true rfl⟩ mB_mv mB_mv ⟨⟨_, _, hP⟩, hK⟩ (va_recv hK hP (ci := 3) (q0 := 0) rfl rfl) hS (fun _ h => h) rfl hl.1 rfl (Nat.le_of_ble_eq_true rfl) dX5_bar_22 ⟨Nat.zero_le _, Nat.zero_le _⟩ (fun H locs hB1 _ _ hS => ?_)
      obtain ⟨⟨th5, ex6, hP⟩, _⟩ := hB1
      refine W.eq (g2 := F0 m 25 ls [.int r3]) rfl ?_
      refine lv_istore_n (lv' := [(3, .int r3), (0, .ref h0), (1, .int a0), (2, .int a1)]) hx hb dX5_bar_25 rfl hl (by decide) rfl (fun ls hl => ?_)
      refine lv_iload_n hx hb dX5_bar_26 rfl (lv_at hl 0 rfl) ?_
      refine lv_if_ge (tgt := 35) hx hb dX5_bar_27 (by decide) (fun c27 => ?_) (fun c27 => ?_)
      · have h := pt c27 h
        refine lv_iload_n hx hb dX5_bar_35 rfl (lv_at hl 0 rfl) ?_
        exact END _ _ 36 ls s _ (pe h) dX5_bar_36 rfl ⟨⟨_, _, hP⟩, hK⟩ hS
      · have h := pf c27 h
        refine lv_bipush (v := (-3 : Int32)) hx hb dX5_bar_30 (by decide) ?_
        refine lv_goto (tgt := 36) hx hb dX5_bar_32 (by decide) ?_
        exact END _ _ 36 ls s _ (pe h) dX5_bar_36 rfl ⟨⟨_, _, hP⟩, hK⟩ hS
    · have h := pf c13 h
      refine lv_bipush (v := (-3 : Int32)) hx hb dX5_bar_16 (by decide) ?_
      exact END _ _ 18 ls s _ (pe h) dX5_bar_18 rfl ⟨⟨_, _, hP⟩, hK⟩ hS

theorem syX5_alike : Vy yX5_alike cX5_alike 6 (some .int) 2 := ⟨w_470, ⟨w_468, w_469⟩, w_4, by decide +kernel⟩
set_option maxHeartbeats 4000000 in
set_option maxRecDepth 100000 in
theorem cnX5_alike (l : Launch) (G : va_G) (h0 hs hr : Nat) (cI cF : ClassId) (tr : Int64) (sz rw : Nat → Int32) (bx by_ bz bm so : Int32) (hap : mAp h0 hs hr) {a0 : Int32} {a1 : Int32} {r : Int32} (h : fX5_alike sz rw a0 a1 = some r) : Mu l yX5_alike cX5_alike 6 (some .int) 3 87 [.ref h0, .int a0, .int a1] (mA h0 hs hr) (mB G h0 hs hr cI cF tr sz rw bx by_ bz bm so) (mB G h0 hs hr cI cF tr sz rw bx by_ bz bm so) (some (.int r)) := by
  refine mu_i (plainFor_of_name (by decide)) (Nat.le_of_ble_eq_true rfl) (by first | exact mB_mv | exact mBe_mv) ?_
  intro p e s m args below meth cd Q ls hF hB hl END
  have hF : CallFix p m cd cX5_alike 6 s args (wl yX5_alike cX5_alike 6 (some .int)) RX5 := hF
  obtain ⟨hx, hb, hml, hown, hts⟩ := id hF
  have hl : lv_has ls 6 [(0, .ref h0), (1, .int a0), (2, .int a1)] := hl
  obtain ⟨⟨th, ex, hP⟩, hK⟩ := hB
  have hS : va_S (mA h0 hs hr) s.heap s.heap [] := va_S.rf
  rw [fX5_alike] at h
  refine lv_aload_n hx hb dX5_alike_0 rfl (lv_at hl 0 rfl) ?_
  refine lv_iconst (v := (0 : Int32)) hx hb dX5_alike_1 (by decide) ?_
  refine va_put (D := G) (ci := 3) (v := .int (0 : Int32)) (ty := .int) (C := RX5) (T := TX5) (N := 10) hx hb hts (fun w h => wl_in (inX5 w h)) tyX5 tyX5_ok nmX5 hown hK hP (mD hap) hS 0 rfl rfl 0 (by decide) (hts _ (wl_in w_313)) (fun _ h9 => h9) rfl (by decide +kernel) rfl rfl (Nat.le_of_ble_eq_true rfl) dX5_alike_2 (fun H locs hP _ hS => ?_)
  have hP : va_P G vwCl (mW h0 hs hr cI (0 : Int32) tr sz rw bx by_ bz bm so ex) H := hP
  refine lv_iload_n hx hb dX5_alike_5 rfl (lv_at hl 1 rfl) ?_
  obtain ⟨r1, e2, h⟩ := pb h
  refine ro_S (As := [.int a0]) (rest := []) hF (fun _ h => wl_in h) (cnX5_isShelf l e2) syX5_isShelf w_390 ⟨Nat.le_of_ble_eq_true rfl, Nat.le_of_ble_eq_true rfl⟩ mv0 trivial rfl hl.1 rfl (Nat.le_of_ble_eq_true rfl) dX5_alike_6 ⟨Nat.zero_le _, Nat.zero_le _⟩ ?_
  refine lv_if_eq (tgt := 19) hx hb dX5_alike_9 (by decide) (fun c9 => ?_) (fun c9 => ?_)
  · have h := pt c9 h
    refine lv_bipush (v := (-3 : Int32)) hx hb dX5_alike_19 (by decide) ?_
    exact END _ _ 21 ls s _ (pe h) dX5_alike_21 rfl ⟨⟨_, _, hP⟩, hK⟩ hS
  · have h := pf c9 h
    refine lv_iload_n hx hb dX5_alike_12 rfl (lv_at hl 2 rfl) ?_
    obtain ⟨r3, e4, h⟩ := pb h
    refine ro_S (As := [.int a1]) (rest := []) hF (fun _ h => wl_in h) (cnX5_isShelf l e4) syX5_isShelf w_390 ⟨Nat.le_of_ble_eq_true rfl, Nat.le_of_ble_eq_true rfl⟩ mv0 trivial rfl hl.1 rfl (Nat.le_of_ble_eq_true rfl) dX5_alike_13 ⟨Nat.zero_le _, Nat.zero_le _⟩ ?_
    refine lv_if_ne (tgt := 22) hx hb dX5_alike_16 (by decide) (fun c16 => ?_) (fun c16 => ?_)
    · have h := pf c16 h
      refine lv_aload_n hx hb dX5_alike_22 rfl (lv_at hl 0 rfl) ?_
      refine va_get (D := G) (ci := 3) (v := .ref hs) (C := RX5) (T := TX5) (N := 10) hx hb hts (fun w h => wl_in (inX5 w h)) hown hK hP 0 rfl rfl 2 (by decide) (hts _ (wl_in w_315)) (fun _ h9 => h9) rfl dX5_alike_23 ?_
      refine lv_iload_n hx hb dX5_alike_26 rfl (lv_at hl 1 rfl) ?_
      obtain ⟨g5, h⟩ := pg h
      refine va_iald hx hb hK hP 1 0 rfl rfl g5 dX5_alike_27 ?_
      refine lv_istore_n (lv' := [(3, .int (sz a0.toNatClampNeg)), (0, .ref h0), (1, .int a0), (2, .int a1)]) hx hb dX5_alike_28 rfl hl (by decide) rfl (fun ls hl => ?_)
      refine lv_iload_n hx hb dX5_alike_29 rfl (lv_at hl 0 rfl) ?_
      refine lv_aload_n hx hb dX5_alike_30 rfl (lv_at hl 1 rfl) ?_
      refine va_get (D := G) (ci := 3) (v := .ref hs) (C := RX5) (T := TX5) (N := 10) hx hb hts (fun w h => wl_in (inX5 w h)) hown hK hP 0 rfl rfl 2 (by decide) (hts _ (wl_in w_315)) (fun _ h9 => h9) rfl dX5_alike_31 ?_
      refine lv_iload_n hx hb dX5_alike_34 rfl (lv_at hl 3 rfl) ?_
      obtain ⟨g6, h⟩ := pg h
      refine va_iald hx hb hK hP 1 0 rfl rfl g6 dX5_alike_35 ?_
      refine lv_icmp_ne (tgt := 68) hx hb dX5_alike_36 (by decide) (fun c36 => ?_) (fun c36 => ?_)
      · have h := pf c36 h
        refine lv_iconst (v := (0 : Int32)) hx hb dX5_alike_68 (by decide) ?_
        exact END _ _ 69 ls s _ (pe h) dX5_alike_69 rfl ⟨⟨_, _, hP⟩, hK⟩ hS
      · have h := pt c36 h
        refine lv_aload_n hx hb dX5_alike_39 rfl (lv_at hl 1 rfl) ?_
        refine lv_iload_n hx hb dX5_alike_40 rfl (lv_at hl 2 rfl) ?_
        refine lv_iload_n hx hb dX5_alike_41 rfl (lv_at hl 0 rfl) ?_
        obtain ⟨r7, e8, h⟩ := pb h
        refine ro_V (As := [.int a0, .int (sz a0.toNatClampNeg)]) (rest := []) hF (fun _ h => wl_in h) (cnX5_aboveOf l G h0 hs hr cI cF tr sz rw bx by_ bz bm so e8) syX5_aboveOf w_427 ⟨Nat.le_of_ble_eq_true rfl, Nat.le_of_ble_eq_true rfl⟩ mB_mv ⟨⟨_, _, hP⟩, hK⟩ (va_recv hK hP (ci := 3) (q0 := 0) rfl rfl) rfl hl.1 rfl (Nat.le_of_ble_eq_true rfl) dX5_alike_42 ⟨Nat.zero_le _, Nat.zero_le _⟩ ?_
        refine lv_aload_n hx hb dX5_alike_45 rfl (lv_at hl 1 rfl) ?_
        refine lv_iload_n hx hb dX5_alike_46 rfl (lv_at hl 3 rfl) ?_
        refine lv_iload_n hx hb dX5_alike_47 rfl (lv_at hl 0 rfl) ?_
        obtain ⟨r9, e10, h⟩ := pb h
        refine ro_V (As := [.int a1, .int (sz a0.toNatClampNeg)]) (rest := [.int r7]) hF (fun _ h => wl_in h) (cnX5_aboveOf l G h0 hs hr cI cF tr sz rw bx by_ bz bm so e10) syX5_aboveOf w_427 ⟨Nat.le_of_ble_eq_true rfl, Nat.le_of_ble_eq_true rfl⟩ mB_mv ⟨⟨_, _, hP⟩, hK⟩ (va_recv hK hP (ci := 3) (q0 := 0) rfl rfl) rfl hl.1 rfl (Nat.le_of_ble_eq_true rfl) dX5_alike_48 ⟨Nat.zero_le _, Nat.zero_le _⟩ ?_
        refine lv_icmp_ne (tgt := 68) hx hb dX5_alike_51 (by decide) (fun c51 => ?_) (fun c51 => ?_)
        · have h := pf c51 h
          refine lv_iconst (v := (0 : Int32)) hx hb dX5_alike_68 (by decide) ?_
          exact END _ _ 69 ls s _ (pe h) dX5_alike_69 rfl ⟨⟨_, _, hP⟩, hK⟩ hS
        · have h := pt c51 h
          refine lv_aload_n hx hb dX5_alike_54 rfl (lv_at hl 1 rfl) ?_
          refine lv_iload_n hx hb dX5_alike_55 rfl (lv_at hl 2 rfl) ?_
          obtain ⟨r11, e12, h⟩ := pb h
          refine ro_V (As := [.int a0]) (rest := []) hF (fun _ h => wl_in h) (cnX5_freeOf l G h0 hs hr cI cF tr sz rw bx by_ bz bm so e12) syX5_freeOf w_407 ⟨Nat.le_of_ble_eq_true rfl, Nat.le_of_ble_eq_true rfl⟩ mB_mv ⟨⟨_, _, hP⟩, hK⟩ (va_recv hK hP (ci := 3) (q0 := 0) rfl rfl) rfl hl.1 rfl (Nat.le_of_ble_eq_true rfl) dX5_alike_56 ⟨Nat.zero_le _, Nat.zero_le _⟩ ?_
          refine lv_aload_n hx hb dX5_alike_59 rfl (lv_at hl 1 rfl) ?_
          refine lv_iload_n hx hb dX5_alike_60 rfl (lv_at hl 3 rfl) ?_
          obtain ⟨r13, e14, h⟩ := pb h
          refine ro_V (As := [.int a1]) (rest := [.long r11]) hF (fun _ h => wl_in h) (cnX5_freeOf l G h0 hs hr cI cF tr sz rw bx by_ bz bm so e14) syX5_freeOf w_407 ⟨Nat.le_of_ble_eq_true rfl, Nat.le_of_ble_eq_true rfl⟩ mB_mv ⟨⟨_, _, hP⟩, hK⟩ (va_recv hK hP (ci := 3) (q0 := 0) rfl rfl) rfl hl.1 rfl (Nat.le_of_ble_eq_true rfl) dX5_alike_61 ⟨Nat.zero_le _, Nat.zero_le _⟩ ?_
          refine W.lcmp hx hb dX5_alike_64 ?_
          refine lv_if_eq (tgt := 70) hx hb dX5_alike_65 (by decide) (fun c65 => ?_) (fun c65 => ?_)
          · have h := pt c65 h
            refine lv_iconst (v := (1 : Int32)) hx hb dX5_alike_70 (by decide) ?_
            refine lv_istore (lv' := [(4, .int (1 : Int32)), (3, .int (sz a0.toNatClampNeg)), (0, .ref h0), (1, .int a0), (2, .int a1)]) hx hb dX5_alike_71 hl (by decide) rfl (fun ls hl => ?_)
            refine lv_iconst (v := (2 : Int32)) hx hb dX5_alike_73 (by decide) ?_
            refine lv_istore (lv' := [(5, .int (2 : Int32)), (4, .int (1 : Int32)), (3, .int (sz a0.toNatClampNeg)), (0, .ref h0), (1, .int a0), (2, .int a1)]) hx hb dX5_alike_74 hl (by decide) rfl (fun ls hl => ?_)
            have J76 : ∀ (n76 : Nat) (x4_76 : Int32) (x5_76 : Int32), kX5_alike_76 sz rw a0 a1 n76 x4_76 x5_76 = some r → ∀ (H : Heap) (locs : List Loc) (th_76 : Int32) (ex_76 : Int32), va_P G vwCl (mW h0 hs hr cI th_76 tr sz rw bx by_ bz bm so ex_76) H → va_S (mA h0 hs hr) s.heap H locs → ∀ (ls : Array Slot), lv_has ls 6 [(3, .int (sz a0.toNatClampNeg)), (0, .ref h0), (1, .int a0), (2, .int a1), (4, .int x4_76), (5, .int x5_76)] → W p l e (rmk 3 87) s m args below meth cd H locs 0 0 Q (F0 m 76 ls []) := by
              intro n76
              induction n76 with
              | zero =>
                intro x4_76 x5_76 h
                rw [kX5_alike_76] at h
                cases h
              | succ n76 ih76 =>
                intro x4_76 x5_76 h H locs th_76 ex_76 hP hS ls hl
                rw [kX5_alike_76] at h
                refine lv_iload hx hb dX5_alike_76 (lv_at hl 5 rfl) ?_
                refine lv_sipush (v := (398 : Int32)) hx hb dX5_alike_78 (by decide) ?_
                refine lv_icmp_ge (tgt := 155) hx hb dX5_alike_81 (by decide) (fun c81 => ?_) (fun c81 => ?_)
                · have h := pt c81 h
                  refine lv_iload hx hb dX5_alike_155 (lv_at hl 4 rfl) ?_
                  refine lv_if_eq (tgt := 164) hx hb dX5_alike_157 (by decide) (fun c157 => ?_) (fun c157 => ?_)
                  · have h := pt c157 h
                    refine lv_iconst (v := (0 : Int32)) hx hb dX5_alike_164 (by decide) ?_
                    exact END _ _ 165 ls s _ (pe h) dX5_alike_165 rfl ⟨⟨_, _, hP⟩, hK⟩ hS
                  · have h := pf c157 h
                    refine lv_iconst (v := (1 : Int32)) hx hb dX5_alike_160 (by decide) ?_
                    refine lv_goto (tgt := 165) hx hb dX5_alike_161 (by decide) ?_
                    exact END _ _ 165 ls s _ (pe h) dX5_alike_165 rfl ⟨⟨_, _, hP⟩, hK⟩ hS
                · have h := pf c81 h
                  refine lv_iload hx hb dX5_alike_84 (lv_at hl 5 rfl) ?_
                  refine lv_iconst (v := (2 : Int32)) hx hb dX5_alike_86 (by decide) ?_
                  have J120 : kX5_alike_120 sz rw a0 a1 x4_76 x5_76 (kX5_alike_76 sz rw a0 a1 n76) = some r → ∀ (H : Heap) (locs : List Loc) (th_120 : Int32) (ex_120 : Int32), va_P G vwCl (mW h0 hs hr cI th_120 tr sz rw bx by_ bz bm so ex_120) H → va_S (mA h0 hs hr) s.heap H locs → ∀ (ls : Array Slot), lv_has ls 6 [(3, .int (sz a0.toNatClampNeg)), (0, .ref h0), (1, .int a0), (2, .int a1), (4, .int x4_76), (5, .int x5_76)] → W p l e (rmk 3 87) s m args below meth cd H locs 0 0 Q (F0 m 120 ls []) := by
                    intro h H locs th_120 ex_120 hP hS ls hl
                    rw [kX5_alike_120] at h
                    refine lv_iload hx hb dX5_alike_120 (lv_at hl 4 rfl) ?_
                    refine lv_aload_n hx hb dX5_alike_122 rfl (lv_at hl 1 rfl) ?_
                    refine lv_iload_n hx hb dX5_alike_123 rfl (lv_at hl 2 rfl) ?_
                    refine lv_iload_n hx hb dX5_alike_124 rfl (lv_at hl 0 rfl) ?_
                    refine lv_iload hx hb dX5_alike_125 (lv_at hl 5 rfl) ?_
                    obtain ⟨r15, e16, h⟩ := pb h
                    refine mu_V (As := [.int a0, .int (sz a0.toNatClampNeg), .int x5_76]) (rest := [.int x4_76]) hF (fun _ h => wl_in h) (cnX5_holdOf l G h0 hs hr cI cF tr sz rw bx by_ bz bm so hap e16) syX5_holdOf w_415 ⟨Nat.le_of_ble_eq_true rfl, Nat.le_of_ble_eq_true rfl⟩ mB_mv mB_mv ⟨⟨_, _, hP⟩, hK⟩ (va_recv hK hP (ci := 3) (q0 := 0) rfl rfl) hS (fun _ h => h) rfl hl.1 rfl (Nat.le_of_ble_eq_true rfl) dX5_alike_127 ⟨Nat.zero_le _, Nat.zero_le _⟩ (fun H locs hB1 _ _ hS => ?_)
                    obtain ⟨⟨th17, ex18, hP⟩, _⟩ := hB1
                    refine W.eq (g2 := F0 m 130 ls [.int r15, .int x4_76]) rfl ?_
                    refine lv_aload_n hx hb dX5_alike_130 rfl (lv_at hl 1 rfl) ?_
                    refine lv_iload_n hx hb dX5_alike_131 rfl (lv_at hl 3 rfl) ?_
                    refine lv_iload_n hx hb dX5_alike_132 rfl (lv_at hl 0 rfl) ?_
                    refine lv_iload hx hb dX5_alike_133 (lv_at hl 5 rfl) ?_
                    obtain ⟨r19, e20, h⟩ := pb h
                    refine mu_V (As := [.int a1, .int (sz a0.toNatClampNeg), .int x5_76]) (rest := [.int r15, .int x4_76]) hF (fun _ h => wl_in h) (cnX5_holdOf l G h0 hs hr cI cF tr sz rw bx by_ bz bm so hap e20) syX5_holdOf w_415 ⟨Nat.le_of_ble_eq_true rfl, Nat.le_of_ble_eq_true rfl⟩ mB_mv mB_mv ⟨⟨_, _, hP⟩, hK⟩ (va_recv hK hP (ci := 3) (q0 := 0) rfl rfl) hS (fun _ h => h) rfl hl.1 rfl (Nat.le_of_ble_eq_true rfl) dX5_alike_135 ⟨Nat.zero_le _, Nat.zero_le _⟩ (fun H locs hB1 _ _ hS => ?_)
                    obtain ⟨⟨th21, ex22, hP⟩, _⟩ := hB1
                    refine W.eq (g2 := F0 m 138 ls [.int r19, .int r15, .int x4_76]) rfl ?_
                    refine lv_icmp_ne (tgt := 145) hx hb dX5_alike_138 (by decide) (fun c138 => ?_) (fun c138 => ?_)
                    · have h := pf c138 h
                      refine lv_iconst (v := (0 : Int32)) hx hb dX5_alike_145 (by decide) ?_
                      refine lv_iand hx hb dX5_alike_146 ?_
                      refine lv_istore (lv' := [(4, .int (x4_76 &&& (0 : Int32))), (3, .int (sz a0.toNatClampNeg)), (0, .ref h0), (1, .int a0), (2, .int a1), (5, .int x5_76)]) hx hb dX5_alike_147 hl (by decide) rfl (fun ls hl => ?_)
                      refine lv_iinc (v := x5_76 + (1 : Int32)) (lv' := [(5, .int (x5_76 + (1 : Int32))), (4, .int (x4_76 &&& (0 : Int32))), (3, .int (sz a0.toNatClampNeg)), (0, .ref h0), (1, .int a0), (2, .int a1)]) hx hb dX5_alike_149 hl (k := 5) rfl rfl (by decide) rfl (fun ls hl => ?_)
                      refine lv_goto (tgt := 76) hx hb dX5_alike_152 (by decide) ?_
                      exact ih76 _ _ h _ _ _ _ hP hS _ (lv_sub hl [2, 3, 4, 5, 1, 0] rfl)
                    · have h := pt c138 h
                      refine lv_iconst (v := (1 : Int32)) hx hb dX5_alike_141 (by decide) ?_
                      refine lv_goto (tgt := 146) hx hb dX5_alike_142 (by decide) ?_
                      refine lv_iand hx hb dX5_alike_146 ?_
                      refine lv_istore (lv' := [(4, .int (x4_76 &&& (1 : Int32))), (3, .int (sz a0.toNatClampNeg)), (0, .ref h0), (1, .int a0), (2, .int a1), (5, .int x5_76)]) hx hb dX5_alike_147 hl (by decide) rfl (fun ls hl => ?_)
                      refine lv_iinc (v := x5_76 + (1 : Int32)) (lv' := [(5, .int (x5_76 + (1 : Int32))), (4, .int (x4_76 &&& (1 : Int32))), (3, .int (sz a0.toNatClampNeg)), (0, .ref h0), (1, .int a0), (2, .int a1)]) hx hb dX5_alike_149 hl (k := 5) rfl rfl (by decide) rfl (fun ls hl => ?_)
                      refine lv_goto (tgt := 76) hx hb dX5_alike_152 (by decide) ?_
                      exact ih76 _ _ h _ _ _ _ hP hS _ (lv_sub hl [2, 3, 4, 5, 1, 0] rfl)
                  refine lv_icmp_eq (tgt := 120) hx hb dX5_alike_87 (by decide) (fun c87 => ?_) (fun c87 => ?_)
                  · have h := pt c87 h
                    exact J120 h _ _ _ _ hP hS _ hl
                  · have h := pf c87 h
                    refine lv_aload_n hx hb dX5_alike_90 rfl (lv_at hl 1 rfl) ?_
                    refine lv_iload_n hx hb dX5_alike_91 rfl (lv_at hl 2 rfl) ?_
                    refine lv_iload_n hx hb dX5_alike_92 rfl (lv_at hl 0 rfl) ?_
                    refine lv_iload hx hb dX5_alike_93 (lv_at hl 5 rfl) ?_
                    obtain ⟨r23, e24, h⟩ := pb h
                    refine ro_V (As := [.int a0, .int (sz a0.toNatClampNeg), .int x5_76]) (rest := []) hF (fun _ h => wl_in h) (cnX5_isOf l G h0 hs hr cI cF tr sz rw bx by_ bz bm so e24) syX5_isOf w_447 ⟨Nat.le_of_ble_eq_true rfl, Nat.le_of_ble_eq_true rfl⟩ mB_mv ⟨⟨_, _, hP⟩, hK⟩ (va_recv hK hP (ci := 3) (q0 := 0) rfl rfl) rfl hl.1 rfl (Nat.le_of_ble_eq_true rfl) dX5_alike_95 ⟨Nat.zero_le _, Nat.zero_le _⟩ ?_
                    have J112 : kX5_alike_112 sz rw a0 a1 x4_76 x5_76 (kX5_alike_76 sz rw a0 a1 n76) = some r → ∀ (H : Heap) (locs : List Loc) (th_112 : Int32) (ex_112 : Int32), va_P G vwCl (mW h0 hs hr cI th_112 tr sz rw bx by_ bz bm so ex_112) H → va_S (mA h0 hs hr) s.heap H locs → ∀ (ls : Array Slot), lv_has ls 6 [(3, .int (sz a0.toNatClampNeg)), (0, .ref h0), (1, .int a0), (2, .int a1), (4, .int x4_76), (5, .int x5_76)] → W p l e (rmk 3 87) s m args below meth cd H locs 0 0 Q (F0 m 112 ls []) := by
                      intro h H locs th_112 ex_112 hP hS ls hl
                      rw [kX5_alike_112] at h
                      refine lv_iload hx hb dX5_alike_112 (lv_at hl 5 rfl) ?_
                      obtain ⟨r25, e26, h⟩ := pb h
                      refine ro_S (As := [.int x5_76]) (rest := []) hF (fun _ h => wl_in h) (cnX5_isPrime l e26) syX5_isPrime w_364 ⟨Nat.le_of_ble_eq_true rfl, Nat.le_of_ble_eq_true rfl⟩ mv0 trivial rfl hl.1 rfl (Nat.le_of_ble_eq_true rfl) dX5_alike_114 ⟨Nat.zero_le _, Nat.zero_le _⟩ ?_
                      refine lv_if_eq (tgt := 149) hx hb dX5_alike_117 (by decide) (fun c117 => ?_) (fun c117 => ?_)
                      · have h := pt c117 h
                        refine lv_iinc (v := x5_76 + (1 : Int32)) (lv' := [(5, .int (x5_76 + (1 : Int32))), (3, .int (sz a0.toNatClampNeg)), (0, .ref h0), (1, .int a0), (2, .int a1), (4, .int x4_76)]) hx hb dX5_alike_149 hl (k := 5) rfl rfl (by decide) rfl (fun ls hl => ?_)
                        refine lv_goto (tgt := 76) hx hb dX5_alike_152 (by decide) ?_
                        exact ih76 _ _ h _ _ _ _ hP hS _ (lv_sub hl [1, 2, 3, 4, 5, 0] rfl)
                      · have h := pf c117 h
                        exact J120 h _ _ _ _ hP hS _ hl
                    refine lv_if_ne (tgt := 112) hx hb dX5_alike_98 (by decide) (fun c98 => ?_) (fun c98 => ?_)
                    · have h := pf c98 h
                      exact J112 h _ _ _ _ hP hS _ hl
                    · have h := pt c98 h
                      refine lv_aload_n hx hb dX5_alike_101 rfl (lv_at hl 1 rfl) ?_
                      refine lv_iload_n hx hb dX5_alike_102 rfl (lv_at hl 3 rfl) ?_
                      refine lv_iload_n hx hb dX5_alike_103 rfl (lv_at hl 0 rfl) ?_
                      refine lv_iload hx hb dX5_alike_104 (lv_at hl 5 rfl) ?_
                      obtain ⟨r27, e28, h⟩ := pb h
                      refine ro_V (As := [.int a1, .int (sz a0.toNatClampNeg), .int x5_76]) (rest := []) hF (fun _ h => wl_in h) (cnX5_isOf l G h0 hs hr cI cF tr sz rw bx by_ bz bm so e28) syX5_isOf w_447 ⟨Nat.le_of_ble_eq_true rfl, Nat.le_of_ble_eq_true rfl⟩ mB_mv ⟨⟨_, _, hP⟩, hK⟩ (va_recv hK hP (ci := 3) (q0 := 0) rfl rfl) rfl hl.1 rfl (Nat.le_of_ble_eq_true rfl) dX5_alike_106 ⟨Nat.zero_le _, Nat.zero_le _⟩ ?_
                      refine lv_if_eq (tgt := 149) hx hb dX5_alike_109 (by decide) (fun c109 => ?_) (fun c109 => ?_)
                      · have h := pt c109 h
                        refine lv_iinc (v := x5_76 + (1 : Int32)) (lv' := [(5, .int (x5_76 + (1 : Int32))), (3, .int (sz a0.toNatClampNeg)), (0, .ref h0), (1, .int a0), (2, .int a1), (4, .int x4_76)]) hx hb dX5_alike_149 hl (k := 5) rfl rfl (by decide) rfl (fun ls hl => ?_)
                        refine lv_goto (tgt := 76) hx hb dX5_alike_152 (by decide) ?_
                        exact ih76 _ _ h _ _ _ _ hP hS _ (lv_sub hl [1, 2, 3, 4, 5, 0] rfl)
                      · have h := pf c109 h
                        exact J112 h _ _ _ _ hP hS _ hl
            exact J76 _ _ _ h _ _ _ _ hP hS _ (lv_sub hl [2, 3, 4, 5, 1, 0] rfl)
          · have h := pf c65 h
            refine lv_iconst (v := (0 : Int32)) hx hb dX5_alike_68 (by decide) ?_
            exact END _ _ 69 ls s _ (pe h) dX5_alike_69 rfl ⟨⟨_, _, hP⟩, hK⟩ hS
    · have h := pt c16 h
      refine lv_bipush (v := (-3 : Int32)) hx hb dX5_alike_19 (by decide) ?_
      exact END _ _ 21 ls s _ (pe h) dX5_alike_21 rfl ⟨⟨_, _, hP⟩, hK⟩ hS

theorem syX5_worth : Vy yX5_worth cX5_worth 5 (some .long) 4 := ⟨w_474, ⟨w_472, w_473⟩, w_4, by decide +kernel⟩
set_option maxHeartbeats 4000000 in
set_option maxRecDepth 100000 in
theorem cnX5_worth (l : Launch) (G : va_G) (h0 hs hr : Nat) (cI cF : ClassId) (tr : Int64) (sz rw : Nat → Int32) (bx by_ bz bm so : Int32) (hap : mAp h0 hs hr) {a0 : Int32} {a1 : Int32} {a2 : Int32} {a3 : Int32} {r : Int64} (h : fX5_worth sz rw a0 a1 a2 a3 = some r) : Mu l yX5_worth cX5_worth 5 (some .long) 3 66 [.ref h0, .int a0, .int a1, .int a2, .int a3] (mA h0 hs hr) (mB G h0 hs hr cI cF tr sz rw bx by_ bz bm so) (mB G h0 hs hr cI cF tr sz rw bx by_ bz bm so) (some (.long r)) := by
  refine mu_l (plainFor_of_name (by decide)) (Nat.le_of_ble_eq_true rfl) (by first | exact mB_mv | exact mBe_mv) ?_
  intro p e s m args below meth cd Q ls hF hB hl END
  have hF : CallFix p m cd cX5_worth 5 s args (wl yX5_worth cX5_worth 5 (some .long)) RX5 := hF
  obtain ⟨hx, hb, hml, hown, hts⟩ := id hF
  have hl : lv_has ls 5 [(0, .ref h0), (1, .int a0), (2, .int a1), (3, .int a2), (4, .int a3)] := hl
  obtain ⟨⟨th, ex, hP⟩, hK⟩ := hB
  have hS : va_S (mA h0 hs hr) s.heap s.heap [] := va_S.rf
  rw [fX5_worth] at h
  refine lv_aload_n hx hb dX5_worth_0 rfl (lv_at hl 0 rfl) ?_
  refine lv_iconst (v := (0 : Int32)) hx hb dX5_worth_1 (by decide) ?_
  refine va_put (D := G) (ci := 3) (v := .int (0 : Int32)) (ty := .int) (C := RX5) (T := TX5) (N := 10) hx hb hts (fun w h => wl_in (inX5 w h)) tyX5 tyX5_ok nmX5 hown hK hP (mD hap) hS 0 rfl rfl 0 (by decide) (hts _ (wl_in w_313)) (fun _ h9 => h9) rfl (by decide +kernel) rfl rfl (Nat.le_of_ble_eq_true rfl) dX5_worth_2 (fun H locs hP _ hS => ?_)
  have hP : va_P G vwCl (mW h0 hs hr cI (0 : Int32) tr sz rw bx by_ bz bm so ex) H := hP
  refine lv_aload_n hx hb dX5_worth_5 rfl (lv_at hl 0 rfl) ?_
  refine lv_iload_n hx hb dX5_worth_6 rfl (lv_at hl 1 rfl) ?_
  obtain ⟨r1, e2, h⟩ := pb h
  refine ro_V (As := [.int a0]) (rest := []) hF (fun _ h => wl_in h) (cnX5_isThree l G h0 hs hr cI cF tr sz rw bx by_ bz bm so e2) syX5_isThree w_475 ⟨Nat.le_of_ble_eq_true rfl, Nat.le_of_ble_eq_true rfl⟩ mB_mv ⟨⟨_, _, hP⟩, hK⟩ (va_recv hK hP (ci := 3) (q0 := 0) rfl rfl) rfl hl.1 rfl (Nat.le_of_ble_eq_true rfl) dX5_worth_7 ⟨Nat.zero_le _, Nat.zero_le _⟩ ?_
  refine lv_if_eq (tgt := 71) hx hb dX5_worth_10 (by decide) (fun c10 => ?_) (fun c10 => ?_)
  · have h := pt c10 h
    refine lv_ldc2 (v := (-1000000000000000 : Int64)) hx hb hown (hts _ (wl_in w_485)) dX5_worth_71 ?_
    exact END _ _ 74 ls s _ (pe h) dX5_worth_74 rfl ⟨⟨_, _, hP⟩, hK⟩ hS
  · have h := pf c10 h
    refine lv_iload_n hx hb dX5_worth_13 rfl (lv_at hl 2 rfl) ?_
    refine lv_i2l (v := a1.toInt64) hx hb dX5_worth_14 rfl ?_
    refine lv_ldc2 (v := (-1000 : Int64)) hx hb hown (hts _ (wl_in w_479)) dX5_worth_15 ?_
    refine lv_ldc2 (v := (1000 : Int64)) hx hb hown (hts _ (wl_in w_480)) dX5_worth_18 ?_
    obtain ⟨r3, e4, h⟩ := pb h
    refine ro_S (As := [.long a1.toInt64, .long (-1000 : Int64), .long (1000 : Int64)]) (rest := []) hF (fun _ h => wl_in h) (cnX5_in l e4) syX5_in w_352 ⟨Nat.le_of_ble_eq_true rfl, Nat.le_of_ble_eq_true rfl⟩ mv0 trivial rfl hl.1 rfl (Nat.le_of_ble_eq_true rfl) dX5_worth_21 ⟨Nat.zero_le _, Nat.zero_le _⟩ ?_
    refine lv_if_eq (tgt := 71) hx hb dX5_worth_24 (by decide) (fun c24 => ?_) (fun c24 => ?_)
    · have h := pt c24 h
      refine lv_ldc2 (v := (-1000000000000000 : Int64)) hx hb hown (hts _ (wl_in w_485)) dX5_worth_71 ?_
      exact END _ _ 74 ls s _ (pe h) dX5_worth_74 rfl ⟨⟨_, _, hP⟩, hK⟩ hS
    · have h := pf c24 h
      refine lv_iload_n hx hb dX5_worth_27 rfl (lv_at hl 3 rfl) ?_
      refine lv_i2l (v := a2.toInt64) hx hb dX5_worth_28 rfl ?_
      refine lv_ldc2 (v := (-1000 : Int64)) hx hb hown (hts _ (wl_in w_479)) dX5_worth_29 ?_
      refine lv_ldc2 (v := (1000 : Int64)) hx hb hown (hts _ (wl_in w_480)) dX5_worth_32 ?_
      obtain ⟨r5, e6, h⟩ := pb h
      refine ro_S (As := [.long a2.toInt64, .long (-1000 : Int64), .long (1000 : Int64)]) (rest := []) hF (fun _ h => wl_in h) (cnX5_in l e6) syX5_in w_352 ⟨Nat.le_of_ble_eq_true rfl, Nat.le_of_ble_eq_true rfl⟩ mv0 trivial rfl hl.1 rfl (Nat.le_of_ble_eq_true rfl) dX5_worth_35 ⟨Nat.zero_le _, Nat.zero_le _⟩ ?_
      refine lv_if_eq (tgt := 71) hx hb dX5_worth_38 (by decide) (fun c38 => ?_) (fun c38 => ?_)
      · have h := pt c38 h
        refine lv_ldc2 (v := (-1000000000000000 : Int64)) hx hb hown (hts _ (wl_in w_485)) dX5_worth_71 ?_
        exact END _ _ 74 ls s _ (pe h) dX5_worth_74 rfl ⟨⟨_, _, hP⟩, hK⟩ hS
      · have h := pf c38 h
        refine lv_iload hx hb dX5_worth_41 (lv_at hl 4 rfl) ?_
        refine lv_i2l (v := a3.toInt64) hx hb dX5_worth_43 rfl ?_
        refine lv_ldc2 (v := (-1000 : Int64)) hx hb hown (hts _ (wl_in w_479)) dX5_worth_44 ?_
        refine lv_ldc2 (v := (1000 : Int64)) hx hb hown (hts _ (wl_in w_480)) dX5_worth_47 ?_
        obtain ⟨r7, e8, h⟩ := pb h
        refine ro_S (As := [.long a3.toInt64, .long (-1000 : Int64), .long (1000 : Int64)]) (rest := []) hF (fun _ h => wl_in h) (cnX5_in l e8) syX5_in w_352 ⟨Nat.le_of_ble_eq_true rfl, Nat.le_of_ble_eq_true rfl⟩ mv0 trivial rfl hl.1 rfl (Nat.le_of_ble_eq_true rfl) dX5_worth_50 ⟨Nat.zero_le _, Nat.zero_le _⟩ ?_
        refine lv_if_eq (tgt := 71) hx hb dX5_worth_53 (by decide) (fun c53 => ?_) (fun c53 => ?_)
        · have h := pt c53 h
          refine lv_ldc2 (v := (-1000000000000000 : Int64)) hx hb hown (hts _ (wl_in w_485)) dX5_worth_71 ?_
          exact END _ _ 74 ls s _ (pe h) dX5_worth_74 rfl ⟨⟨_, _, hP⟩, hK⟩ hS
        · have h := pf c53 h
          refine lv_aload_n hx hb dX5_worth_56 rfl (lv_at hl 0 rfl) ?_
          refine lv_iload_n hx hb dX5_worth_57 rfl (lv_at hl 1 rfl) ?_
          refine lv_iload_n hx hb dX5_worth_58 rfl (lv_at hl 2 rfl) ?_
          refine lv_i2l (v := a1.toInt64) hx hb dX5_worth_59 rfl ?_
          refine lv_iload_n hx hb dX5_worth_60 rfl (lv_at hl 3 rfl) ?_
          refine lv_i2l (v := a2.toInt64) hx hb dX5_worth_61 rfl ?_
          refine lv_iload hx hb dX5_worth_62 (lv_at hl 4 rfl) ?_
          refine lv_i2l (v := a3.toInt64) hx hb dX5_worth_64 rfl ?_
          obtain ⟨r9, e10, h⟩ := pb h
          refine ro_V (As := [.int a0, .long a1.toInt64, .long a2.toInt64, .long a3.toInt64]) (rest := []) hF (fun _ h => wl_in h) (cnX5_worthOf l G h0 hs hr cI cF tr sz rw bx by_ bz bm so e10) syX5_worthOf w_481 ⟨Nat.le_of_ble_eq_true rfl, Nat.le_of_ble_eq_true rfl⟩ mB_mv ⟨⟨_, _, hP⟩, hK⟩ (va_recv hK hP (ci := 3) (q0 := 0) rfl rfl) rfl hl.1 rfl (Nat.le_of_ble_eq_true rfl) dX5_worth_65 ⟨Nat.zero_le _, Nat.zero_le _⟩ ?_
          refine lv_goto (tgt := 74) hx hb dX5_worth_68 (by decide) ?_
          exact END _ _ 74 ls s _ (pe h) dX5_worth_74 rfl ⟨⟨_, _, hP⟩, hK⟩ hS

theorem syX5_line : Vy yX5_line cX5_line 21 (some .long) 8 := ⟨w_529, ⟨w_527, w_528⟩, w_4, by decide +kernel⟩
set_option maxHeartbeats 4000000 in
set_option maxRecDepth 100000 in
theorem cnX5_line (l : Launch) (G : va_G) (h0 hs hr : Nat) (cI cF : ClassId) (tr : Int64) (sz rw : Nat → Int32) (bx by_ bz bm so : Int32) (hap : mAp h0 hs hr) {a0 : Int32} {a1 : Int32} {a2 : Int32} {a3 : Int32} {a4 : Int32} {a5 : Int32} {a6 : Int32} {a7 : Int32} {r : Int64} (h : fX5_line sz rw a0 a1 a2 a3 a4 a5 a6 a7 = some r) : Mu l yX5_line cX5_line 21 (some .long) 3 66 [.ref h0, .int a0, .int a1, .int a2, .int a3, .int a4, .int a5, .int a6, .int a7] (mA h0 hs hr) (mB G h0 hs hr cI cF tr sz rw bx by_ bz bm so) (mB G h0 hs hr cI cF tr sz rw bx by_ bz bm so) (some (.long r)) := by
  refine mu_l (plainFor_of_name (by decide)) (Nat.le_of_ble_eq_true rfl) (by first | exact mB_mv | exact mBe_mv) ?_
  intro p e s m args below meth cd Q ls hF hB hl END
  have hF : CallFix p m cd cX5_line 21 s args (wl yX5_line cX5_line 21 (some .long)) RX5 := hF
  obtain ⟨hx, hb, hml, hown, hts⟩ := id hF
  have hl : lv_has ls 21 [(0, .ref h0), (1, .int a0), (2, .int a1), (3, .int a2), (4, .int a3), (5, .int a4), (6, .int a5), (7, .int a6), (8, .int a7)] := hl
  obtain ⟨⟨th, ex, hP⟩, hK⟩ := hB
  have hS : va_S (mA h0 hs hr) s.heap s.heap [] := va_S.rf
  rw [fX5_line] at h
  refine lv_aload_n hx hb dX5_line_0 rfl (lv_at hl 0 rfl) ?_
  refine lv_iconst (v := (0 : Int32)) hx hb dX5_line_1 (by decide) ?_
  refine va_put (D := G) (ci := 3) (v := .int (0 : Int32)) (ty := .int) (C := RX5) (T := TX5) (N := 10) hx hb hts (fun w h => wl_in (inX5 w h)) tyX5 tyX5_ok nmX5 hown hK hP (mD hap) hS 0 rfl rfl 0 (by decide) (hts _ (wl_in w_313)) (fun _ h9 => h9) rfl (by decide +kernel) rfl rfl (Nat.le_of_ble_eq_true rfl) dX5_line_2 (fun H locs hP _ hS => ?_)
  have hP : va_P G vwCl (mW h0 hs hr cI (0 : Int32) tr sz rw bx by_ bz bm so ex) H := hP
  refine lv_aload_n hx hb dX5_line_5 rfl (lv_at hl 0 rfl) ?_
  refine lv_iload_n hx hb dX5_line_6 rfl (lv_at hl 1 rfl) ?_
  obtain ⟨r1, e2, h⟩ := pb h
  refine ro_V (As := [.int a0]) (rest := []) hF (fun _ h => wl_in h) (cnX5_isThree l G h0 hs hr cI cF tr sz rw bx by_ bz bm so e2) syX5_isThree w_475 ⟨Nat.le_of_ble_eq_true rfl, Nat.le_of_ble_eq_true rfl⟩ mB_mv ⟨⟨_, _, hP⟩, hK⟩ (va_recv hK hP (ci := 3) (q0 := 0) rfl rfl) rfl hl.1 rfl (Nat.le_of_ble_eq_true rfl) dX5_line_7 ⟨Nat.zero_le _, Nat.zero_le _⟩ ?_
  refine lv_if_eq (tgt := 75) hx hb dX5_line_10 (by decide) (fun c10 => ?_) (fun c10 => ?_)
  · have h := pt c10 h
    refine lv_ldc2 (v := (-1000000000000000 : Int64)) hx hb hown (hts _ (wl_in w_485)) dX5_line_75 ?_
    exact END _ _ 78 ls s _ (pe h) dX5_line_78 rfl ⟨⟨_, _, hP⟩, hK⟩ hS
  · have h := pf c10 h
    refine lv_iload hx hb dX5_line_13 (lv_at hl 8 rfl) ?_
    refine lv_i2l (v := a7.toInt64) hx hb dX5_line_15 rfl ?_
    refine lv_lconst (v := (0 : Int64)) hx hb dX5_line_16 (by decide) ?_
    refine lv_ldc2 (v := (2 : Int64)) hx hb hown (hts _ (wl_in w_362)) dX5_line_17 ?_
    obtain ⟨r3, e4, h⟩ := pb h
    refine ro_S (As := [.long a7.toInt64, .long (0 : Int64), .long (2 : Int64)]) (rest := []) hF (fun _ h => wl_in h) (cnX5_in l e4) syX5_in w_352 ⟨Nat.le_of_ble_eq_true rfl, Nat.le_of_ble_eq_true rfl⟩ mv0 trivial rfl hl.1 rfl (Nat.le_of_ble_eq_true rfl) dX5_line_20 ⟨Nat.zero_le _, Nat.zero_le _⟩ ?_
    refine lv_if_eq (tgt := 75) hx hb dX5_line_23 (by decide) (fun c23 => ?_) (fun c23 => ?_)
    · have h := pt c23 h
      refine lv_ldc2 (v := (-1000000000000000 : Int64)) hx hb hown (hts _ (wl_in w_485)) dX5_line_75 ?_
      exact END _ _ 78 ls s _ (pe h) dX5_line_78 rfl ⟨⟨_, _, hP⟩, hK⟩ hS
    · have h := pf c23 h
      refine lv_iload_n hx hb dX5_line_26 rfl (lv_at hl 2 rfl) ?_
      refine lv_iload_n hx hb dX5_line_27 rfl (lv_at hl 3 rfl) ?_
      refine lv_iload hx hb dX5_line_28 (lv_at hl 4 rfl) ?_
      obtain ⟨r5, e6, h⟩ := pb h
      refine ro_S (As := [.int a1, .int a2, .int a3]) (rest := []) hF (fun _ h => wl_in h) (cnX5_isNear l e6) syX5_isNear w_490 ⟨Nat.le_of_ble_eq_true rfl, Nat.le_of_ble_eq_true rfl⟩ mv0 trivial rfl hl.1 rfl (Nat.le_of_ble_eq_true rfl) dX5_line_30 ⟨Nat.zero_le _, Nat.zero_le _⟩ ?_
      refine lv_if_eq (tgt := 75) hx hb dX5_line_33 (by decide) (fun c33 => ?_) (fun c33 => ?_)
      · have h := pt c33 h
        refine lv_ldc2 (v := (-1000000000000000 : Int64)) hx hb hown (hts _ (wl_in w_485)) dX5_line_75 ?_
        exact END _ _ 78 ls s _ (pe h) dX5_line_78 rfl ⟨⟨_, _, hP⟩, hK⟩ hS
      · have h := pf c33 h
        refine lv_iload hx hb dX5_line_36 (lv_at hl 5 rfl) ?_
        refine lv_iload hx hb dX5_line_38 (lv_at hl 6 rfl) ?_
        refine lv_iload hx hb dX5_line_40 (lv_at hl 7 rfl) ?_
        obtain ⟨r7, e8, h⟩ := pb h
        refine ro_S (As := [.int a4, .int a5, .int a6]) (rest := []) hF (fun _ h => wl_in h) (cnX5_isNear l e8) syX5_isNear w_490 ⟨Nat.le_of_ble_eq_true rfl, Nat.le_of_ble_eq_true rfl⟩ mv0 trivial rfl hl.1 rfl (Nat.le_of_ble_eq_true rfl) dX5_line_42 ⟨Nat.zero_le _, Nat.zero_le _⟩ ?_
        refine lv_if_eq (tgt := 75) hx hb dX5_line_45 (by decide) (fun c45 => ?_) (fun c45 => ?_)
        · have h := pt c45 h
          refine lv_ldc2 (v := (-1000000000000000 : Int64)) hx hb hown (hts _ (wl_in w_485)) dX5_line_75 ?_
          exact END _ _ 78 ls s _ (pe h) dX5_line_78 rfl ⟨⟨_, _, hP⟩, hK⟩ hS
        · have h := pf c45 h
          refine lv_iload hx hb dX5_line_48 (lv_at hl 5 rfl) ?_
          have J63 : kX5_line_63 sz rw a0 a1 a2 a3 a4 a5 a6 a7 = some r → ∀ (H : Heap) (locs : List Loc) (th_63 : Int32) (ex_63 : Int32), va_P G vwCl (mW h0 hs hr cI th_63 tr sz rw bx by_ bz bm so ex_63) H → va_S (mA h0 hs hr) s.heap H locs → ∀ (ls : Array Slot), lv_has ls 21 [(0, .ref h0), (1, .int a0), (2, .int a1), (3, .int a2), (4, .int a3), (5, .int a4), (6, .int a5), (7, .int a6), (8, .int a7)] → W p l e (rmk 3 66) s m args below meth cd H locs 0 0 Q (F0 m 63 ls []) := by
            intro h H locs th_63 ex_63 hP hS ls hl
            rw [kX5_line_63] at h
            refine lv_aload_n hx hb dX5_line_63 rfl (lv_at hl 0 rfl) ?_
            refine lv_iload_n hx hb dX5_line_64 rfl (lv_at hl 1 rfl) ?_
            refine lv_iload_n hx hb dX5_line_65 rfl (lv_at hl 2 rfl) ?_
            refine lv_iload_n hx hb dX5_line_66 rfl (lv_at hl 3 rfl) ?_
            refine lv_iload hx hb dX5_line_67 (lv_at hl 4 rfl) ?_
            obtain ⟨r9, e10, h⟩ := pb h
            refine ro_V (As := [.int a0, .int a1, .int a2, .int a3]) (rest := []) hF (fun _ h => wl_in h) (cnX5_isSolution l G h0 hs hr cI cF tr sz rw bx by_ bz bm so e10) syX5_isSolution w_511 ⟨Nat.le_of_ble_eq_true rfl, Nat.le_of_ble_eq_true rfl⟩ mB_mv ⟨⟨_, _, hP⟩, hK⟩ (va_recv hK hP (ci := 3) (q0 := 0) rfl rfl) rfl hl.1 rfl (Nat.le_of_ble_eq_true rfl) dX5_line_69 ⟨Nat.zero_le _, Nat.zero_le _⟩ ?_
            refine lv_if_ne (tgt := 79) hx hb dX5_line_72 (by decide) (fun c72 => ?_) (fun c72 => ?_)
            · have h := pf c72 h
              refine lv_aload_n hx hb dX5_line_79 rfl (lv_at hl 0 rfl) ?_
              refine lv_iload_n hx hb dX5_line_80 rfl (lv_at hl 1 rfl) ?_
              refine lv_iload hx hb dX5_line_81 (lv_at hl 5 rfl) ?_
              refine lv_i2l (v := a4.toInt64) hx hb dX5_line_83 rfl ?_
              refine lv_iload hx hb dX5_line_84 (lv_at hl 6 rfl) ?_
              refine lv_i2l (v := a5.toInt64) hx hb dX5_line_86 rfl ?_
              refine lv_iload hx hb dX5_line_87 (lv_at hl 7 rfl) ?_
              refine lv_i2l (v := a6.toInt64) hx hb dX5_line_89 rfl ?_
              obtain ⟨r11, e12, h⟩ := pb h
              refine ro_V (As := [.int a0, .long a4.toInt64, .long a5.toInt64, .long a6.toInt64]) (rest := []) hF (fun _ h => wl_in h) (cnX5_worthOf l G h0 hs hr cI cF tr sz rw bx by_ bz bm so e12) syX5_worthOf w_481 ⟨Nat.le_of_ble_eq_true rfl, Nat.le_of_ble_eq_true rfl⟩ mB_mv ⟨⟨_, _, hP⟩, hK⟩ (va_recv hK hP (ci := 3) (q0 := 0) rfl rfl) rfl hl.1 rfl (Nat.le_of_ble_eq_true rfl) dX5_line_90 ⟨Nat.zero_le _, Nat.zero_le _⟩ ?_
              refine lv_lstore (lv' := [(9, .long r11), (0, .ref h0), (1, .int a0), (2, .int a1), (3, .int a2), (4, .int a3), (5, .int a4), (6, .int a5), (7, .int a6), (8, .int a7)]) hx hb dX5_line_93 hl (by decide) rfl (fun ls hl => ?_)
              refine lv_aload_n hx hb dX5_line_95 rfl (lv_at hl 1 rfl) ?_
              refine va_get (D := G) (ci := 3) (v := .ref hr) (C := RX5) (T := TX5) (N := 10) hx hb hts (fun w h => wl_in (inX5 w h)) hown hK hP 0 rfl rfl 3 (by decide) (hts _ (wl_in w_316)) (fun _ h9 => h9) rfl dX5_line_96 ?_
              refine lv_bipush (v := (6 : Int32)) hx hb dX5_line_99 (by decide) ?_
              refine lv_iload_n hx hb dX5_line_101 rfl (lv_at hl 2 rfl) ?_
              refine lv_imul hx hb dX5_line_102 ?_
              obtain ⟨g13, h⟩ := pg h
              refine va_iald hx hb hK hP 2 0 rfl rfl g13 dX5_line_103 ?_
              refine lv_i2l (v := (rw ((6 : Int32) * a0).toNatClampNeg).toInt64) hx hb dX5_line_104 rfl ?_
              refine lv_iload_n hx hb dX5_line_105 rfl (lv_at hl 3 rfl) ?_
              refine lv_i2l (v := a1.toInt64) hx hb dX5_line_106 rfl ?_
              refine lv_lmul hx hb dX5_line_107 ?_
              refine lv_iload hx hb dX5_line_108 (lv_at hl 6 rfl) ?_
              refine lv_i2l (v := a4.toInt64) hx hb dX5_line_110 rfl ?_
              refine lv_lmul hx hb dX5_line_111 ?_
              refine lv_aload_n hx hb dX5_line_112 rfl (lv_at hl 1 rfl) ?_
              refine va_get (D := G) (ci := 3) (v := .ref hr) (C := RX5) (T := TX5) (N := 10) hx hb hts (fun w h => wl_in (inX5 w h)) hown hK hP 0 rfl rfl 3 (by decide) (hts _ (wl_in w_316)) (fun _ h9 => h9) rfl dX5_line_113 ?_
              refine lv_bipush (v := (6 : Int32)) hx hb dX5_line_116 (by decide) ?_
              refine lv_iload_n hx hb dX5_line_118 rfl (lv_at hl 2 rfl) ?_
              refine lv_imul hx hb dX5_line_119 ?_
              refine lv_iconst (v := (1 : Int32)) hx hb dX5_line_120 (by decide) ?_
              refine lv_iadd hx hb dX5_line_121 ?_
              obtain ⟨g14, h⟩ := pg h
              refine va_iald hx hb hK hP 2 0 rfl rfl g14 dX5_line_122 ?_
              refine lv_i2l (v := (rw (((6 : Int32) * a0) + (1 : Int32)).toNatClampNeg).toInt64) hx hb dX5_line_123 rfl ?_
              refine lv_iload_n hx hb dX5_line_124 rfl (lv_at hl 4 rfl) ?_
              refine lv_i2l (v := a2.toInt64) hx hb dX5_line_125 rfl ?_
              refine lv_lmul hx hb dX5_line_126 ?_
              refine lv_iload hx hb dX5_line_127 (lv_at hl 7 rfl) ?_
              refine lv_i2l (v := a5.toInt64) hx hb dX5_line_129 rfl ?_
              refine lv_lmul hx hb dX5_line_130 ?_
              refine lv_ladd hx hb dX5_line_131 ?_
              refine lv_aload_n hx hb dX5_line_132 rfl (lv_at hl 1 rfl) ?_
              refine va_get (D := G) (ci := 3) (v := .ref hr) (C := RX5) (T := TX5) (N := 10) hx hb hts (fun w h => wl_in (inX5 w h)) hown hK hP 0 rfl rfl 3 (by decide) (hts _ (wl_in w_316)) (fun _ h9 => h9) rfl dX5_line_133 ?_
              refine lv_bipush (v := (6 : Int32)) hx hb dX5_line_136 (by decide) ?_
              refine lv_iload_n hx hb dX5_line_138 rfl (lv_at hl 2 rfl) ?_
              refine lv_imul hx hb dX5_line_139 ?_
              refine lv_iconst (v := (2 : Int32)) hx hb dX5_line_140 (by decide) ?_
              refine lv_iadd hx hb dX5_line_141 ?_
              obtain ⟨g15, h⟩ := pg h
              refine va_iald hx hb hK hP 2 0 rfl rfl g15 dX5_line_142 ?_
              refine lv_i2l (v := (rw (((6 : Int32) * a0) + (2 : Int32)).toNatClampNeg).toInt64) hx hb dX5_line_143 rfl ?_
              refine lv_iload hx hb dX5_line_144 (lv_at hl 5 rfl) ?_
              refine lv_i2l (v := a3.toInt64) hx hb dX5_line_146 rfl ?_
              refine lv_lmul hx hb dX5_line_147 ?_
              refine lv_iload hx hb dX5_line_148 (lv_at hl 8 rfl) ?_
              refine lv_i2l (v := a6.toInt64) hx hb dX5_line_150 rfl ?_
              refine lv_lmul hx hb dX5_line_151 ?_
              refine lv_ladd hx hb dX5_line_152 ?_
              refine lv_lstore (lv' := [(11, .long ((((((rw ((6 : Int32) * a0).toNatClampNeg).toInt64) * a1.toInt64) * a4.toInt64) + ((((rw (((6 : Int32) * a0) + (1 : Int32)).toNatClampNeg).toInt64) * a2.toInt64) * a5.toInt64)) + ((((rw (((6 : Int32) * a0) + (2 : Int32)).toNatClampNeg).toInt64) * a3.toInt64) * a6.toInt64))), (9, .long r11), (0, .ref h0), (1, .int a0), (2, .int a1), (3, .int a2), (4, .int a3), (5, .int a4), (6, .int a5), (7, .int a6), (8, .int a7)]) hx hb dX5_line_153 hl (by decide) rfl (fun ls hl => ?_)
              refine lv_lload hx hb dX5_line_155 (lv_at hl 1 rfl) ?_
              refine lv_iload_n hx hb dX5_line_157 rfl (lv_at hl 4 rfl) ?_
              refine lv_i2l (v := a1.toInt64) hx hb dX5_line_158 rfl ?_
              refine lv_lmul hx hb dX5_line_159 ?_
              refine lv_ldc2 (v := (2 : Int64)) hx hb hown (hts _ (wl_in w_362)) dX5_line_160 ?_
              refine lv_lload hx hb dX5_line_163 (lv_at hl 0 rfl) ?_
              refine lv_lmul hx hb dX5_line_165 ?_
              refine lv_iload hx hb dX5_line_166 (lv_at hl 7 rfl) ?_
              refine lv_i2l (v := a4.toInt64) hx hb dX5_line_168 rfl ?_
              refine lv_lmul hx hb dX5_line_169 ?_
              refine lv_lsub hx hb dX5_line_170 ?_
              refine lv_lstore (lv' := [(13, .long ((r11 * a1.toInt64) - (((2 : Int64) * ((((((rw ((6 : Int32) * a0).toNatClampNeg).toInt64) * a1.toInt64) * a4.toInt64) + ((((rw (((6 : Int32) * a0) + (1 : Int32)).toNatClampNeg).toInt64) * a2.toInt64) * a5.toInt64)) + ((((rw (((6 : Int32) * a0) + (2 : Int32)).toNatClampNeg).toInt64) * a3.toInt64) * a6.toInt64))) * a4.toInt64))), (11, .long ((((((rw ((6 : Int32) * a0).toNatClampNeg).toInt64) * a1.toInt64) * a4.toInt64) + ((((rw (((6 : Int32) * a0) + (1 : Int32)).toNatClampNeg).toInt64) * a2.toInt64) * a5.toInt64)) + ((((rw (((6 : Int32) * a0) + (2 : Int32)).toNatClampNeg).toInt64) * a3.toInt64) * a6.toInt64))), (9, .long r11), (0, .ref h0), (1, .int a0), (2, .int a1), (3, .int a2), (4, .int a3), (5, .int a4), (6, .int a5), (7, .int a6), (8, .int a7)]) hx hb dX5_line_171 hl (by decide) rfl (fun ls hl => ?_)
              refine lv_lload hx hb dX5_line_173 (lv_at hl 2 rfl) ?_
              refine lv_iload_n hx hb dX5_line_175 rfl (lv_at hl 6 rfl) ?_
              refine lv_i2l (v := a2.toInt64) hx hb dX5_line_176 rfl ?_
              refine lv_lmul hx hb dX5_line_177 ?_
              refine lv_ldc2 (v := (2 : Int64)) hx hb hown (hts _ (wl_in w_362)) dX5_line_178 ?_
              refine lv_lload hx hb dX5_line_181 (lv_at hl 1 rfl) ?_
              refine lv_lmul hx hb dX5_line_183 ?_
              refine lv_iload hx hb dX5_line_184 (lv_at hl 9 rfl) ?_
              refine lv_i2l (v := a5.toInt64) hx hb dX5_line_186 rfl ?_
              refine lv_lmul hx hb dX5_line_187 ?_
              refine lv_lsub hx hb dX5_line_188 ?_
              refine lv_lstore (lv' := [(15, .long ((r11 * a2.toInt64) - (((2 : Int64) * ((((((rw ((6 : Int32) * a0).toNatClampNeg).toInt64) * a1.toInt64) * a4.toInt64) + ((((rw (((6 : Int32) * a0) + (1 : Int32)).toNatClampNeg).toInt64) * a2.toInt64) * a5.toInt64)) + ((((rw (((6 : Int32) * a0) + (2 : Int32)).toNatClampNeg).toInt64) * a3.toInt64) * a6.toInt64))) * a5.toInt64))), (13, .long ((r11 * a1.toInt64) - (((2 : Int64) * ((((((rw ((6 : Int32) * a0).toNatClampNeg).toInt64) * a1.toInt64) * a4.toInt64) + ((((rw (((6 : Int32) * a0) + (1 : Int32)).toNatClampNeg).toInt64) * a2.toInt64) * a5.toInt64)) + ((((rw (((6 : Int32) * a0) + (2 : Int32)).toNatClampNeg).toInt64) * a3.toInt64) * a6.toInt64))) * a4.toInt64))), (11, .long ((((((rw ((6 : Int32) * a0).toNatClampNeg).toInt64) * a1.toInt64) * a4.toInt64) + ((((rw (((6 : Int32) * a0) + (1 : Int32)).toNatClampNeg).toInt64) * a2.toInt64) * a5.toInt64)) + ((((rw (((6 : Int32) * a0) + (2 : Int32)).toNatClampNeg).toInt64) * a3.toInt64) * a6.toInt64))), (9, .long r11), (0, .ref h0), (1, .int a0), (2, .int a1), (3, .int a2), (4, .int a3), (5, .int a4), (6, .int a5), (7, .int a6), (8, .int a7)]) hx hb dX5_line_189 hl (by decide) rfl (fun ls hl => ?_)
              refine lv_lload hx hb dX5_line_191 (lv_at hl 3 rfl) ?_
              refine lv_iload hx hb dX5_line_193 (lv_at hl 8 rfl) ?_
              refine lv_i2l (v := a3.toInt64) hx hb dX5_line_195 rfl ?_
              refine lv_lmul hx hb dX5_line_196 ?_
              refine lv_ldc2 (v := (2 : Int64)) hx hb hown (hts _ (wl_in w_362)) dX5_line_197 ?_
              refine lv_lload hx hb dX5_line_200 (lv_at hl 2 rfl) ?_
              refine lv_lmul hx hb dX5_line_202 ?_
              refine lv_iload hx hb dX5_line_203 (lv_at hl 11 rfl) ?_
              refine lv_i2l (v := a6.toInt64) hx hb dX5_line_205 rfl ?_
              refine lv_lmul hx hb dX5_line_206 ?_
              refine lv_lsub hx hb dX5_line_207 ?_
              refine lv_lstore (lv' := [(17, .long ((r11 * a3.toInt64) - (((2 : Int64) * ((((((rw ((6 : Int32) * a0).toNatClampNeg).toInt64) * a1.toInt64) * a4.toInt64) + ((((rw (((6 : Int32) * a0) + (1 : Int32)).toNatClampNeg).toInt64) * a2.toInt64) * a5.toInt64)) + ((((rw (((6 : Int32) * a0) + (2 : Int32)).toNatClampNeg).toInt64) * a3.toInt64) * a6.toInt64))) * a6.toInt64))), (15, .long ((r11 * a2.toInt64) - (((2 : Int64) * ((((((rw ((6 : Int32) * a0).toNatClampNeg).toInt64) * a1.toInt64) * a4.toInt64) + ((((rw (((6 : Int32) * a0) + (1 : Int32)).toNatClampNeg).toInt64) * a2.toInt64) * a5.toInt64)) + ((((rw (((6 : Int32) * a0) + (2 : Int32)).toNatClampNeg).toInt64) * a3.toInt64) * a6.toInt64))) * a5.toInt64))), (13, .long ((r11 * a1.toInt64) - (((2 : Int64) * ((((((rw ((6 : Int32) * a0).toNatClampNeg).toInt64) * a1.toInt64) * a4.toInt64) + ((((rw (((6 : Int32) * a0) + (1 : Int32)).toNatClampNeg).toInt64) * a2.toInt64) * a5.toInt64)) + ((((rw (((6 : Int32) * a0) + (2 : Int32)).toNatClampNeg).toInt64) * a3.toInt64) * a6.toInt64))) * a4.toInt64))), (11, .long ((((((rw ((6 : Int32) * a0).toNatClampNeg).toInt64) * a1.toInt64) * a4.toInt64) + ((((rw (((6 : Int32) * a0) + (1 : Int32)).toNatClampNeg).toInt64) * a2.toInt64) * a5.toInt64)) + ((((rw (((6 : Int32) * a0) + (2 : Int32)).toNatClampNeg).toInt64) * a3.toInt64) * a6.toInt64))), (9, .long r11), (0, .ref h0), (1, .int a0), (2, .int a1), (3, .int a2), (4, .int a3), (5, .int a4), (6, .int a5), (7, .int a6), (8, .int a7)]) hx hb dX5_line_208 hl (by decide) rfl (fun ls hl => ?_)
              refine lv_lload hx hb dX5_line_210 (lv_at hl 2 rfl) ?_
              refine lv_lload hx hb dX5_line_212 (lv_at hl 1 rfl) ?_
              obtain ⟨r16, e17, h⟩ := pb h
              refine ro_S (As := [.long ((r11 * a1.toInt64) - (((2 : Int64) * ((((((rw ((6 : Int32) * a0).toNatClampNeg).toInt64) * a1.toInt64) * a4.toInt64) + ((((rw (((6 : Int32) * a0) + (1 : Int32)).toNatClampNeg).toInt64) * a2.toInt64) * a5.toInt64)) + ((((rw (((6 : Int32) * a0) + (2 : Int32)).toNatClampNeg).toInt64) * a3.toInt64) * a6.toInt64))) * a4.toInt64)), .long ((r11 * a2.toInt64) - (((2 : Int64) * ((((((rw ((6 : Int32) * a0).toNatClampNeg).toInt64) * a1.toInt64) * a4.toInt64) + ((((rw (((6 : Int32) * a0) + (1 : Int32)).toNatClampNeg).toInt64) * a2.toInt64) * a5.toInt64)) + ((((rw (((6 : Int32) * a0) + (2 : Int32)).toNatClampNeg).toInt64) * a3.toInt64) * a6.toInt64))) * a5.toInt64))]) (rest := []) hF (fun _ h => wl_in h) (cnX5_common l e17) syX5_common w_518 ⟨Nat.le_of_ble_eq_true rfl, Nat.le_of_ble_eq_true rfl⟩ mv0 trivial rfl hl.1 rfl (Nat.le_of_ble_eq_true rfl) dX5_line_214 ⟨Nat.zero_le _, Nat.zero_le _⟩ ?_
              refine lv_lload hx hb dX5_line_217 (lv_at hl 0 rfl) ?_
              obtain ⟨r18, e19, h⟩ := pb h
              refine ro_S (As := [.long r16, .long ((r11 * a3.toInt64) - (((2 : Int64) * ((((((rw ((6 : Int32) * a0).toNatClampNeg).toInt64) * a1.toInt64) * a4.toInt64) + ((((rw (((6 : Int32) * a0) + (1 : Int32)).toNatClampNeg).toInt64) * a2.toInt64) * a5.toInt64)) + ((((rw (((6 : Int32) * a0) + (2 : Int32)).toNatClampNeg).toInt64) * a3.toInt64) * a6.toInt64))) * a6.toInt64))]) (rest := []) hF (fun _ h => wl_in h) (cnX5_common l e19) syX5_common w_518 ⟨Nat.le_of_ble_eq_true rfl, Nat.le_of_ble_eq_true rfl⟩ mv0 trivial rfl hl.1 rfl (Nat.le_of_ble_eq_true rfl) dX5_line_219 ⟨Nat.zero_le _, Nat.zero_le _⟩ ?_
              refine lv_lstore (lv' := [(19, .long r18), (17, .long ((r11 * a3.toInt64) - (((2 : Int64) * ((((((rw ((6 : Int32) * a0).toNatClampNeg).toInt64) * a1.toInt64) * a4.toInt64) + ((((rw (((6 : Int32) * a0) + (1 : Int32)).toNatClampNeg).toInt64) * a2.toInt64) * a5.toInt64)) + ((((rw (((6 : Int32) * a0) + (2 : Int32)).toNatClampNeg).toInt64) * a3.toInt64) * a6.toInt64))) * a6.toInt64))), (15, .long ((r11 * a2.toInt64) - (((2 : Int64) * ((((((rw ((6 : Int32) * a0).toNatClampNeg).toInt64) * a1.toInt64) * a4.toInt64) + ((((rw (((6 : Int32) * a0) + (1 : Int32)).toNatClampNeg).toInt64) * a2.toInt64) * a5.toInt64)) + ((((rw (((6 : Int32) * a0) + (2 : Int32)).toNatClampNeg).toInt64) * a3.toInt64) * a6.toInt64))) * a5.toInt64))), (13, .long ((r11 * a1.toInt64) - (((2 : Int64) * ((((((rw ((6 : Int32) * a0).toNatClampNeg).toInt64) * a1.toInt64) * a4.toInt64) + ((((rw (((6 : Int32) * a0) + (1 : Int32)).toNatClampNeg).toInt64) * a2.toInt64) * a5.toInt64)) + ((((rw (((6 : Int32) * a0) + (2 : Int32)).toNatClampNeg).toInt64) * a3.toInt64) * a6.toInt64))) * a4.toInt64))), (11, .long ((((((rw ((6 : Int32) * a0).toNatClampNeg).toInt64) * a1.toInt64) * a4.toInt64) + ((((rw (((6 : Int32) * a0) + (1 : Int32)).toNatClampNeg).toInt64) * a2.toInt64) * a5.toInt64)) + ((((rw (((6 : Int32) * a0) + (2 : Int32)).toNatClampNeg).toInt64) * a3.toInt64) * a6.toInt64))), (9, .long r11), (0, .ref h0), (1, .int a0), (2, .int a1), (3, .int a2), (4, .int a3), (5, .int a4), (6, .int a5), (7, .int a6), (8, .int a7)]) hx hb dX5_line_222 hl (by decide) rfl (fun ls hl => ?_)
              refine lv_lload hx hb dX5_line_224 (lv_at hl 0 rfl) ?_
              refine lv_lconst (v := (0 : Int64)) hx hb dX5_line_226 (by decide) ?_
              refine W.lcmp hx hb dX5_line_227 ?_
              refine lv_if_ne (tgt := 256) hx hb dX5_line_228 (by decide) (fun c228 => ?_) (fun c228 => ?_)
              · have h := pf c228 h
                refine lv_lload hx hb dX5_line_256 (lv_at hl 3 rfl) ?_
                refine lv_lload hx hb dX5_line_258 (lv_at hl 2 rfl) ?_
                refine lv_lload hx hb dX5_line_260 (lv_at hl 1 rfl) ?_
                obtain ⟨r20, e21, h⟩ := pb h
                refine ro_S (As := [.long ((r11 * a1.toInt64) - (((2 : Int64) * ((((((rw ((6 : Int32) * a0).toNatClampNeg).toInt64) * a1.toInt64) * a4.toInt64) + ((((rw (((6 : Int32) * a0) + (1 : Int32)).toNatClampNeg).toInt64) * a2.toInt64) * a5.toInt64)) + ((((rw (((6 : Int32) * a0) + (2 : Int32)).toNatClampNeg).toInt64) * a3.toInt64) * a6.toInt64))) * a4.toInt64)), .long ((r11 * a2.toInt64) - (((2 : Int64) * ((((((rw ((6 : Int32) * a0).toNatClampNeg).toInt64) * a1.toInt64) * a4.toInt64) + ((((rw (((6 : Int32) * a0) + (1 : Int32)).toNatClampNeg).toInt64) * a2.toInt64) * a5.toInt64)) + ((((rw (((6 : Int32) * a0) + (2 : Int32)).toNatClampNeg).toInt64) * a3.toInt64) * a6.toInt64))) * a5.toInt64)), .long ((r11 * a3.toInt64) - (((2 : Int64) * ((((((rw ((6 : Int32) * a0).toNatClampNeg).toInt64) * a1.toInt64) * a4.toInt64) + ((((rw (((6 : Int32) * a0) + (1 : Int32)).toNatClampNeg).toInt64) * a2.toInt64) * a5.toInt64)) + ((((rw (((6 : Int32) * a0) + (2 : Int32)).toNatClampNeg).toInt64) * a3.toInt64) * a6.toInt64))) * a6.toInt64))]) (rest := []) hF (fun _ h => wl_in h) (cnX5_isFirstAbove l e21) syX5_isFirstAbove w_515 ⟨Nat.le_of_ble_eq_true rfl, Nat.le_of_ble_eq_true rfl⟩ mv0 trivial rfl hl.1 rfl (Nat.le_of_ble_eq_true rfl) dX5_line_262 ⟨Nat.zero_le _, Nat.zero_le _⟩ ?_
                have J276 : ∀ (t0_276 : Int64), kX5_line_276 rw a0 a1 a2 a3 a4 a5 a6 a7 r11 t0_276 = some r → ∀ (H : Heap) (locs : List Loc) (th_276 : Int32) (ex_276 : Int32), va_P G vwCl (mW h0 hs hr cI th_276 tr sz rw bx by_ bz bm so ex_276) H → va_S (mA h0 hs hr) s.heap H locs → ∀ (ls : Array Slot), lv_has ls 21 [(17, .long ((r11 * a3.toInt64) - (((2 : Int64) * ((((((rw ((6 : Int32) * a0).toNatClampNeg).toInt64) * a1.toInt64) * a4.toInt64) + ((((rw (((6 : Int32) * a0) + (1 : Int32)).toNatClampNeg).toInt64) * a2.toInt64) * a5.toInt64)) + ((((rw (((6 : Int32) * a0) + (2 : Int32)).toNatClampNeg).toInt64) * a3.toInt64) * a6.toInt64))) * a6.toInt64))), (15, .long ((r11 * a2.toInt64) - (((2 : Int64) * ((((((rw ((6 : Int32) * a0).toNatClampNeg).toInt64) * a1.toInt64) * a4.toInt64) + ((((rw (((6 : Int32) * a0) + (1 : Int32)).toNatClampNeg).toInt64) * a2.toInt64) * a5.toInt64)) + ((((rw (((6 : Int32) * a0) + (2 : Int32)).toNatClampNeg).toInt64) * a3.toInt64) * a6.toInt64))) * a5.toInt64))), (13, .long ((r11 * a1.toInt64) - (((2 : Int64) * ((((((rw ((6 : Int32) * a0).toNatClampNeg).toInt64) * a1.toInt64) * a4.toInt64) + ((((rw (((6 : Int32) * a0) + (1 : Int32)).toNatClampNeg).toInt64) * a2.toInt64) * a5.toInt64)) + ((((rw (((6 : Int32) * a0) + (2 : Int32)).toNatClampNeg).toInt64) * a3.toInt64) * a6.toInt64))) * a4.toInt64))), (8, .int a7)] → W p l e (rmk 3 66) s m args below meth cd H locs 0 0 Q (F0 m 276 ls [.long t0_276]) := by
                  intro t0_276 h H locs th_276 ex_276 hP hS ls hl
                  rw [kX5_line_276] at h
                  refine lv_lstore (lv' := [(19, .long t0_276), (17, .long ((r11 * a3.toInt64) - (((2 : Int64) * ((((((rw ((6 : Int32) * a0).toNatClampNeg).toInt64) * a1.toInt64) * a4.toInt64) + ((((rw (((6 : Int32) * a0) + (1 : Int32)).toNatClampNeg).toInt64) * a2.toInt64) * a5.toInt64)) + ((((rw (((6 : Int32) * a0) + (2 : Int32)).toNatClampNeg).toInt64) * a3.toInt64) * a6.toInt64))) * a6.toInt64))), (15, .long ((r11 * a2.toInt64) - (((2 : Int64) * ((((((rw ((6 : Int32) * a0).toNatClampNeg).toInt64) * a1.toInt64) * a4.toInt64) + ((((rw (((6 : Int32) * a0) + (1 : Int32)).toNatClampNeg).toInt64) * a2.toInt64) * a5.toInt64)) + ((((rw (((6 : Int32) * a0) + (2 : Int32)).toNatClampNeg).toInt64) * a3.toInt64) * a6.toInt64))) * a5.toInt64))), (13, .long ((r11 * a1.toInt64) - (((2 : Int64) * ((((((rw ((6 : Int32) * a0).toNatClampNeg).toInt64) * a1.toInt64) * a4.toInt64) + ((((rw (((6 : Int32) * a0) + (1 : Int32)).toNatClampNeg).toInt64) * a2.toInt64) * a5.toInt64)) + ((((rw (((6 : Int32) * a0) + (2 : Int32)).toNatClampNeg).toInt64) * a3.toInt64) * a6.toInt64))) * a4.toInt64))), (8, .int a7)]) hx hb dX5_line_276 hl (by decide) rfl (fun ls hl => ?_)
                  refine lv_iload hx hb dX5_line_278 (lv_at hl 4 rfl) ?_
                  refine lv_if_ne (tgt := 291) hx hb dX5_line_280 (by decide) (fun c280 => ?_) (fun c280 => ?_)
                  · have h := pf c280 h
                    refine lv_iload hx hb dX5_line_291 (lv_at hl 4 rfl) ?_
                    refine lv_iconst (v := (1 : Int32)) hx hb dX5_line_293 (by decide) ?_
                    refine lv_icmp_ne (tgt := 305) hx hb dX5_line_294 (by decide) (fun c294 => ?_) (fun c294 => ?_)
                    · have h := pf c294 h
                      refine lv_lload hx hb dX5_line_305 (lv_at hl 1 rfl) ?_
                      refine lv_lload hx hb dX5_line_307 (lv_at hl 0 rfl) ?_
                      obtain ⟨g22, h⟩ := pg h
                      refine lv_ldiv hx hb dX5_line_309 g22 ?_
                      exact END _ _ 310 ls s _ (pe h) dX5_line_310 rfl ⟨⟨_, _, hP⟩, hK⟩ hS
                    · have h := pt c294 h
                      refine lv_lload hx hb dX5_line_297 (lv_at hl 2 rfl) ?_
                      refine lv_lload hx hb dX5_line_299 (lv_at hl 0 rfl) ?_
                      obtain ⟨g23, h⟩ := pg h
                      refine lv_ldiv hx hb dX5_line_301 g23 ?_
                      refine lv_goto (tgt := 310) hx hb dX5_line_302 (by decide) ?_
                      exact END _ _ 310 ls s _ (pe h) dX5_line_310 rfl ⟨⟨_, _, hP⟩, hK⟩ hS
                  · have h := pt c280 h
                    refine lv_lload hx hb dX5_line_283 (lv_at hl 3 rfl) ?_
                    refine lv_lload hx hb dX5_line_285 (lv_at hl 0 rfl) ?_
                    obtain ⟨g24, h⟩ := pg h
                    refine lv_ldiv hx hb dX5_line_287 g24 ?_
                    refine lv_goto (tgt := 310) hx hb dX5_line_288 (by decide) ?_
                    exact END _ _ 310 ls s _ (pe h) dX5_line_310 rfl ⟨⟨_, _, hP⟩, hK⟩ hS
                refine lv_if_eq (tgt := 273) hx hb dX5_line_265 (by decide) (fun c265 => ?_) (fun c265 => ?_)
                · have h := pt c265 h
                  refine lv_lload hx hb dX5_line_273 (lv_at hl 0 rfl) ?_
                  refine lv_lneg hx hb dX5_line_275 ?_
                  exact J276 _ h _ _ _ _ hP hS _ (lv_sub hl [1, 2, 3, 14] rfl)
                · have h := pf c265 h
                  refine lv_lload hx hb dX5_line_268 (lv_at hl 0 rfl) ?_
                  refine lv_goto (tgt := 276) hx hb dX5_line_270 (by decide) ?_
                  exact J276 _ h _ _ _ _ hP hS _ (lv_sub hl [1, 2, 3, 14] rfl)
              · have h := pt c228 h
                refine lv_iload hx hb dX5_line_231 (lv_at hl 14 rfl) ?_
                refine lv_if_ne (tgt := 241) hx hb dX5_line_233 (by decide) (fun c233 => ?_) (fun c233 => ?_)
                · have h := pf c233 h
                  refine lv_iload hx hb dX5_line_241 (lv_at hl 14 rfl) ?_
                  refine lv_iconst (v := (1 : Int32)) hx hb dX5_line_243 (by decide) ?_
                  refine lv_icmp_ne (tgt := 252) hx hb dX5_line_244 (by decide) (fun c244 => ?_) (fun c244 => ?_)
                  · have h := pf c244 h
                    refine lv_iload hx hb dX5_line_252 (lv_at hl 10 rfl) ?_
                    refine lv_i2l (v := a3.toInt64) hx hb dX5_line_254 rfl ?_
                    exact END _ _ 255 ls s _ (pe h) dX5_line_255 rfl ⟨⟨_, _, hP⟩, hK⟩ hS
                  · have h := pt c244 h
                    refine lv_iload_n hx hb dX5_line_247 rfl (lv_at hl 9 rfl) ?_
                    refine lv_i2l (v := a2.toInt64) hx hb dX5_line_248 rfl ?_
                    refine lv_goto (tgt := 255) hx hb dX5_line_249 (by decide) ?_
                    exact END _ _ 255 ls s _ (pe h) dX5_line_255 rfl ⟨⟨_, _, hP⟩, hK⟩ hS
                · have h := pt c233 h
                  refine lv_iload_n hx hb dX5_line_236 rfl (lv_at hl 8 rfl) ?_
                  refine lv_i2l (v := a1.toInt64) hx hb dX5_line_237 rfl ?_
                  refine lv_goto (tgt := 255) hx hb dX5_line_238 (by decide) ?_
                  exact END _ _ 255 ls s _ (pe h) dX5_line_255 rfl ⟨⟨_, _, hP⟩, hK⟩ hS
            · have h := pt c72 h
              refine lv_ldc2 (v := (-1000000000000000 : Int64)) hx hb hown (hts _ (wl_in w_485)) dX5_line_75 ?_
              exact END _ _ 78 ls s _ (pe h) dX5_line_78 rfl ⟨⟨_, _, hP⟩, hK⟩ hS
          refine lv_if_ne (tgt := 63) hx hb dX5_line_50 (by decide) (fun c50 => ?_) (fun c50 => ?_)
          · have h := pf c50 h
            exact J63 h _ _ _ _ hP hS _ hl
          · have h := pt c50 h
            refine lv_iload hx hb dX5_line_53 (lv_at hl 6 rfl) ?_
            refine lv_if_ne (tgt := 63) hx hb dX5_line_55 (by decide) (fun c55 => ?_) (fun c55 => ?_)
            · have h := pf c55 h
              exact J63 h _ _ _ _ hP hS _ hl
            · have h := pt c55 h
              refine lv_iload hx hb dX5_line_58 (lv_at hl 7 rfl) ?_
              refine lv_if_eq (tgt := 75) hx hb dX5_line_60 (by decide) (fun c60 => ?_) (fun c60 => ?_)
              · have h := pt c60 h
                refine lv_ldc2 (v := (-1000000000000000 : Int64)) hx hb hown (hts _ (wl_in w_485)) dX5_line_75 ?_
                exact END _ _ 78 ls s _ (pe h) dX5_line_78 rfl ⟨⟨_, _, hP⟩, hK⟩ hS
              · have h := pf c60 h
                exact J63 h _ _ _ _ hP hS _ hl

theorem syX5_count : Vy yX5_count cX5_count 3 (some .int) 2 := ⟨w_533, ⟨w_531, w_532⟩, w_4, by decide +kernel⟩
set_option maxHeartbeats 4000000 in
set_option maxRecDepth 100000 in
theorem cnX5_count (l : Launch) (G : va_G) (h0 hs hr : Nat) (cI cF : ClassId) (tr : Int64) (sz rw : Nat → Int32) (bx by_ bz bm so : Int32) (hap : mAp h0 hs hr) {a0 : Int32} {a1 : Int32} {r : Int32} (h : fX5_count sz rw a0 a1 = some r) : Mu l yX5_count cX5_count 3 (some .int) 2 45 [.ref h0, .int a0, .int a1] (mA h0 hs hr) (mB G h0 hs hr cI cF tr sz rw bx by_ bz bm so) (mB G h0 hs hr cI cF tr sz rw bx by_ bz bm so) (some (.int r)) := by
  refine mu_i (plainFor_of_name (by decide)) (Nat.le_of_ble_eq_true rfl) (by first | exact mB_mv | exact mBe_mv) ?_
  intro p e s m args below meth cd Q ls hF hB hl END
  have hF : CallFix p m cd cX5_count 3 s args (wl yX5_count cX5_count 3 (some .int)) RX5 := hF
  obtain ⟨hx, hb, hml, hown, hts⟩ := id hF
  have hl : lv_has ls 3 [(0, .ref h0), (1, .int a0), (2, .int a1)] := hl
  obtain ⟨⟨th, ex, hP⟩, hK⟩ := hB
  have hS : va_S (mA h0 hs hr) s.heap s.heap [] := va_S.rf
  rw [fX5_count] at h
  refine lv_aload_n hx hb dX5_count_0 rfl (lv_at hl 0 rfl) ?_
  refine lv_iconst (v := (0 : Int32)) hx hb dX5_count_1 (by decide) ?_
  refine va_put (D := G) (ci := 3) (v := .int (0 : Int32)) (ty := .int) (C := RX5) (T := TX5) (N := 10) hx hb hts (fun w h => wl_in (inX5 w h)) tyX5 tyX5_ok nmX5 hown hK hP (mD hap) hS 0 rfl rfl 0 (by decide) (hts _ (wl_in w_313)) (fun _ h9 => h9) rfl (by decide +kernel) rfl rfl (Nat.le_of_ble_eq_true rfl) dX5_count_2 (fun H locs hP _ hS => ?_)
  have hP : va_P G vwCl (mW h0 hs hr cI (0 : Int32) tr sz rw bx by_ bz bm so ex) H := hP
  refine lv_iload_n hx hb dX5_count_5 rfl (lv_at hl 1 rfl) ?_
  obtain ⟨r1, e2, h⟩ := pb h
  refine ro_S (As := [.int a0]) (rest := []) hF (fun _ h => wl_in h) (cnX5_isShelf l e2) syX5_isShelf w_390 ⟨Nat.le_of_ble_eq_true rfl, Nat.le_of_ble_eq_true rfl⟩ mv0 trivial rfl hl.1 rfl (Nat.le_of_ble_eq_true rfl) dX5_count_6 ⟨Nat.zero_le _, Nat.zero_le _⟩ ?_
  refine lv_if_eq (tgt := 22) hx hb dX5_count_9 (by decide) (fun c9 => ?_) (fun c9 => ?_)
  · have h := pt c9 h
    refine lv_bipush (v := (-3 : Int32)) hx hb dX5_count_22 (by decide) ?_
    exact END _ _ 24 ls s _ (pe h) dX5_count_24 rfl ⟨⟨_, _, hP⟩, hK⟩ hS
  · have h := pf c9 h
    refine lv_iload_n hx hb dX5_count_12 rfl (lv_at hl 2 rfl) ?_
    refine lv_i2l (v := a1.toInt64) hx hb dX5_count_13 rfl ?_
    refine lv_lconst (v := (0 : Int64)) hx hb dX5_count_14 (by decide) ?_
    refine lv_lconst (v := (1 : Int64)) hx hb dX5_count_15 (by decide) ?_
    obtain ⟨r3, e4, h⟩ := pb h
    refine ro_S (As := [.long a1.toInt64, .long (0 : Int64), .long (1 : Int64)]) (rest := []) hF (fun _ h => wl_in h) (cnX5_in l e4) syX5_in w_352 ⟨Nat.le_of_ble_eq_true rfl, Nat.le_of_ble_eq_true rfl⟩ mv0 trivial rfl hl.1 rfl (Nat.le_of_ble_eq_true rfl) dX5_count_16 ⟨Nat.zero_le _, Nat.zero_le _⟩ ?_
    refine lv_if_ne (tgt := 25) hx hb dX5_count_19 (by decide) (fun c19 => ?_) (fun c19 => ?_)
    · have h := pf c19 h
      refine lv_iload_n hx hb dX5_count_25 rfl (lv_at hl 2 rfl) ?_
      refine lv_if_ne (tgt := 38) hx hb dX5_count_26 (by decide) (fun c26 => ?_) (fun c26 => ?_)
      · have h := pf c26 h
        refine lv_aload_n hx hb dX5_count_38 rfl (lv_at hl 0 rfl) ?_
        refine lv_iload_n hx hb dX5_count_39 rfl (lv_at hl 1 rfl) ?_
        refine lv_aload_n hx hb dX5_count_40 rfl (lv_at hl 0 rfl) ?_
        refine va_get (D := G) (ci := 3) (v := .ref hs) (C := RX5) (T := TX5) (N := 10) hx hb hts (fun w h => wl_in (inX5 w h)) hown hK hP 0 rfl rfl 2 (by decide) (hts _ (wl_in w_315)) (fun _ h9 => h9) rfl dX5_count_41 ?_
        refine lv_iload_n hx hb dX5_count_44 rfl (lv_at hl 1 rfl) ?_
        obtain ⟨g5, h⟩ := pg h
        refine va_iald hx hb hK hP 1 0 rfl rfl g5 dX5_count_45 ?_
        obtain ⟨r6, e7, h⟩ := pb h
        refine ro_V (As := [.int a0, .int (sz a0.toNatClampNeg)]) (rest := []) hF (fun _ h => wl_in h) (cnX5_aboveOf l G h0 hs hr cI cF tr sz rw bx by_ bz bm so e7) syX5_aboveOf w_427 ⟨Nat.le_of_ble_eq_true rfl, Nat.le_of_ble_eq_true rfl⟩ mB_mv ⟨⟨_, _, hP⟩, hK⟩ (va_recv hK hP (ci := 3) (q0 := 0) rfl rfl) rfl hl.1 rfl (Nat.le_of_ble_eq_true rfl) dX5_count_46 ⟨Nat.zero_le _, Nat.zero_le _⟩ ?_
        exact END _ _ 49 ls s _ (pe h) dX5_count_49 rfl ⟨⟨_, _, hP⟩, hK⟩ hS
      · have h := pt c26 h
        refine lv_aload_n hx hb dX5_count_29 rfl (lv_at hl 0 rfl) ?_
        refine va_get (D := G) (ci := 3) (v := .ref hs) (C := RX5) (T := TX5) (N := 10) hx hb hts (fun w h => wl_in (inX5 w h)) hown hK hP 0 rfl rfl 2 (by decide) (hts _ (wl_in w_315)) (fun _ h9 => h9) rfl dX5_count_30 ?_
        refine lv_iload_n hx hb dX5_count_33 rfl (lv_at hl 1 rfl) ?_
        obtain ⟨g8, h⟩ := pg h
        refine va_iald hx hb hK hP 1 0 rfl rfl g8 dX5_count_34 ?_
        refine lv_goto (tgt := 49) hx hb dX5_count_35 (by decide) ?_
        exact END _ _ 49 ls s _ (pe h) dX5_count_49 rfl ⟨⟨_, _, hP⟩, hK⟩ hS
    · have h := pt c19 h
      refine lv_bipush (v := (-3 : Int32)) hx hb dX5_count_22 (by decide) ?_
      exact END _ _ 24 ls s _ (pe h) dX5_count_24 rfl ⟨⟨_, _, hP⟩, hK⟩ hS

theorem syX5_trace : Vy yX5_trace cX5_trace 1 (some .long) 0 := ⟨w_537, ⟨w_535, w_536⟩, w_4, by decide +kernel⟩
set_option maxHeartbeats 4000000 in
set_option maxRecDepth 100000 in
theorem cnX5_trace (l : Launch) (G : va_G) (h0 hs hr : Nat) (cI cF : ClassId) (tr : Int64) (sz rw : Nat → Int32) (bx by_ bz bm so : Int32) (hap : mAp h0 hs hr) {r : Int64} (h : fX5_trace sz rw tr = some r) : Mu l yX5_trace cX5_trace 1 (some .long) 0 0 [.ref h0] (mA h0 hs hr) (mB G h0 hs hr cI cF tr sz rw bx by_ bz bm so) (mB G h0 hs hr cI cF tr sz rw bx by_ bz bm so) (some (.long r)) := by
  refine mu_l (plainFor_of_name (by decide)) (Nat.le_of_ble_eq_true rfl) (by first | exact mB_mv | exact mBe_mv) ?_
  intro p e s m args below meth cd Q ls hF hB hl END
  have hF : CallFix p m cd cX5_trace 1 s args (wl yX5_trace cX5_trace 1 (some .long)) RX5 := hF
  obtain ⟨hx, hb, hml, hown, hts⟩ := id hF
  have hl : lv_has ls 1 [(0, .ref h0)] := hl
  obtain ⟨⟨th, ex, hP⟩, hK⟩ := hB
  have hS : va_S (mA h0 hs hr) s.heap s.heap [] := va_S.rf
  rw [fX5_trace] at h
  refine lv_aload_n hx hb dX5_trace_0 rfl (lv_at hl 0 rfl) ?_
  refine lv_iconst (v := (0 : Int32)) hx hb dX5_trace_1 (by decide) ?_
  refine va_put (D := G) (ci := 3) (v := .int (0 : Int32)) (ty := .int) (C := RX5) (T := TX5) (N := 10) hx hb hts (fun w h => wl_in (inX5 w h)) tyX5 tyX5_ok nmX5 hown hK hP (mD hap) hS 0 rfl rfl 0 (by decide) (hts _ (wl_in w_313)) (fun _ h9 => h9) rfl (by decide +kernel) rfl rfl (Nat.le_of_ble_eq_true rfl) dX5_trace_2 (fun H locs hP _ hS => ?_)
  have hP : va_P G vwCl (mW h0 hs hr cI (0 : Int32) tr sz rw bx by_ bz bm so ex) H := hP
  refine lv_aload_n hx hb dX5_trace_5 rfl (lv_at hl 0 rfl) ?_
  refine va_get (D := G) (ci := 3) (v := .long tr) (C := RX5) (T := TX5) (N := 10) hx hb hts (fun w h => wl_in (inX5 w h)) hown hK hP 0 rfl rfl 1 (by decide) (hts _ (wl_in w_314)) (fun _ h9 => h9) rfl dX5_trace_6 ?_
  exact END _ _ 9 ls s _ (pe h) dX5_trace_9 rfl ⟨⟨_, _, hP⟩, hK⟩ hS

theorem syX5_form : Vy yX5_form cX5_form 9 (some .int) 7 := ⟨w_389, ⟨w_387, w_388⟩, w_4, by decide +kernel⟩
set_option maxHeartbeats 4000000 in
set_option maxRecDepth 100000 in
theorem cnX5_form (l : Launch) (G : va_G) (h0 hs hr : Nat) (cI cF : ClassId) (tr : Int64) (sz rw : Nat → Int32) (bx by_ bz bm so : Int32) (hap : mAp h0 hs hr) {a0 : Int32} {a1 : Int32} {a2 : Int32} {a3 : Int32} {a4 : Int32} {a5 : Int32} {a6 : Int32} {r : Int32} {sz_r : Nat → Int32} {rw_r : Nat → Int32} (h : fX5_form sz rw a0 a1 a2 a3 a4 a5 a6 = some (r, sz_r, rw_r)) : Mu l yX5_form cX5_form 9 (some .int) 2 46 [.ref h0, .int a0, .int a1, .int a2, .int a3, .int a4, .int a5, .int a6] (mA h0 hs hr) (mB G h0 hs hr cI cF tr sz rw bx by_ bz bm so) (mB G h0 hs hr cI cF tr sz_r rw_r bx by_ bz bm so) (some (.int r)) := by
  refine mu_i (plainFor_of_name (by decide)) (Nat.le_of_ble_eq_true rfl) (by first | exact mB_mv | exact mBe_mv) ?_
  intro p e s m args below meth cd Q ls hF hB hl END
  have hF : CallFix p m cd cX5_form 9 s args (wl yX5_form cX5_form 9 (some .int)) RX5 := hF
  obtain ⟨hx, hb, hml, hown, hts⟩ := id hF
  have hl : lv_has ls 9 [(0, .ref h0), (1, .int a0), (2, .int a1), (3, .int a2), (4, .int a3), (5, .int a4), (6, .int a5), (7, .int a6)] := hl
  obtain ⟨⟨th, ex, hP⟩, hK⟩ := hB
  have hS : va_S (mA h0 hs hr) s.heap s.heap [] := va_S.rf
  rw [fX5_form] at h
  refine lv_aload_n hx hb dX5_form_0 rfl (lv_at hl 0 rfl) ?_
  refine lv_iconst (v := (0 : Int32)) hx hb dX5_form_1 (by decide) ?_
  refine va_put (D := G) (ci := 3) (v := .int (0 : Int32)) (ty := .int) (C := RX5) (T := TX5) (N := 10) hx hb hts (fun w h => wl_in (inX5 w h)) tyX5 tyX5_ok nmX5 hown hK hP (mD hap) hS 0 rfl rfl 0 (by decide) (hts _ (wl_in w_313)) (fun _ h9 => h9) rfl (by decide +kernel) rfl rfl (Nat.le_of_ble_eq_true rfl) dX5_form_2 (fun H locs hP _ hS => ?_)
  have hP : va_P G vwCl (mW h0 hs hr cI (0 : Int32) tr sz rw bx by_ bz bm so ex) H := hP
  refine lv_iload_n hx hb dX5_form_5 rfl (lv_at hl 1 rfl) ?_
  obtain ⟨r1, e2, h⟩ := pb h
  refine ro_S (As := [.int a0]) (rest := []) hF (fun _ h => wl_in h) (cnX5_isShelf l e2) syX5_isShelf w_390 ⟨Nat.le_of_ble_eq_true rfl, Nat.le_of_ble_eq_true rfl⟩ mv0 trivial rfl hl.1 rfl (Nat.le_of_ble_eq_true rfl) dX5_form_6 ⟨Nat.zero_le _, Nat.zero_le _⟩ ?_
  refine lv_if_eq (tgt := 98) hx hb dX5_form_9 (by decide) (fun c9 => ?_) (fun c9 => ?_)
  · have h := pt c9 h
    refine lv_bipush (v := (-3 : Int32)) hx hb dX5_form_98 (by decide) ?_
    have hh := pe h
    simp only [Prod.mk.injEq] at hh
    obtain ⟨z0, z1, z2⟩ := hh
    subst z1
    subst z2
    exact END _ _ 100 ls s _ z0 dX5_form_100 rfl ⟨⟨_, _, hP⟩, hK⟩ hS
  · have h := pf c9 h
    refine lv_iload_n hx hb dX5_form_12 rfl (lv_at hl 2 rfl) ?_
    refine lv_i2l (v := a1.toInt64) hx hb dX5_form_13 rfl ?_
    refine lv_lconst (v := (1 : Int64)) hx hb dX5_form_14 (by decide) ?_
    refine lv_ldc2 (v := (5 : Int64)) hx hb hown (hts _ (wl_in w_394)) dX5_form_15 ?_
    obtain ⟨r3, e4, h⟩ := pb h
    refine ro_S (As := [.long a1.toInt64, .long (1 : Int64), .long (5 : Int64)]) (rest := []) hF (fun _ h => wl_in h) (cnX5_in l e4) syX5_in w_352 ⟨Nat.le_of_ble_eq_true rfl, Nat.le_of_ble_eq_true rfl⟩ mv0 trivial rfl hl.1 rfl (Nat.le_of_ble_eq_true rfl) dX5_form_18 ⟨Nat.zero_le _, Nat.zero_le _⟩ ?_
    refine lv_if_eq (tgt := 98) hx hb dX5_form_21 (by decide) (fun c21 => ?_) (fun c21 => ?_)
    · have h := pt c21 h
      refine lv_bipush (v := (-3 : Int32)) hx hb dX5_form_98 (by decide) ?_
      have hh := pe h
      simp only [Prod.mk.injEq] at hh
      obtain ⟨z0, z1, z2⟩ := hh
      subst z1
      subst z2
      exact END _ _ 100 ls s _ z0 dX5_form_100 rfl ⟨⟨_, _, hP⟩, hK⟩ hS
    · have h := pf c21 h
      refine lv_iload_n hx hb dX5_form_24 rfl (lv_at hl 3 rfl) ?_
      refine lv_sipush (v := (400 : Int32)) hx hb dX5_form_25 (by decide) ?_
      obtain ⟨r5, e6, h⟩ := pb h
      refine ro_S (As := [.int a2, .int (400 : Int32)]) (rest := []) hF (fun _ h => wl_in h) (cnX5_isTold l e6) syX5_isTold w_349 ⟨Nat.le_of_ble_eq_true rfl, Nat.le_of_ble_eq_true rfl⟩ mv0 trivial rfl hl.1 rfl (Nat.le_of_ble_eq_true rfl) dX5_form_28 ⟨Nat.zero_le _, Nat.zero_le _⟩ ?_
      refine lv_if_eq (tgt := 98) hx hb dX5_form_31 (by decide) (fun c31 => ?_) (fun c31 => ?_)
      · have h := pt c31 h
        refine lv_bipush (v := (-3 : Int32)) hx hb dX5_form_98 (by decide) ?_
        have hh := pe h
        simp only [Prod.mk.injEq] at hh
        obtain ⟨z0, z1, z2⟩ := hh
        subst z1
        subst z2
        exact END _ _ 100 ls s _ z0 dX5_form_100 rfl ⟨⟨_, _, hP⟩, hK⟩ hS
      · have h := pf c31 h
        refine lv_iload_n hx hb dX5_form_34 rfl (lv_at hl 2 rfl) ?_
        refine lv_iconst (v := (1 : Int32)) hx hb dX5_form_35 (by decide) ?_
        have J50 : ∀ (sz_50 : Nat → Int32) (rw_50 : Nat → Int32), kX5_form_50 a0 a1 a2 a3 a4 a5 a6 sz_50 rw_50 = some (r, sz_r, rw_r) → ∀ (H : Heap) (locs : List Loc) (th_50 : Int32) (ex_50 : Int32), va_P G vwCl (mW h0 hs hr cI th_50 tr sz_50 rw_50 bx by_ bz bm so ex_50) H → va_S (mA h0 hs hr) s.heap H locs → ∀ (ls : Array Slot), lv_has ls 9 [(0, .ref h0), (1, .int a0), (2, .int a1), (3, .int a2), (4, .int a3), (5, .int a4), (6, .int a5), (7, .int a6)] → W p l e (rmk 2 46) s m args below meth cd H locs 0 0 Q (F0 m 50 ls []) := by
          intro sz_50 rw_50 h H locs th_50 ex_50 hP hS ls hl
          rw [kX5_form_50] at h
          refine lv_iload_n hx hb dX5_form_50 rfl (lv_at hl 2 rfl) ?_
          refine lv_iconst (v := (2 : Int32)) hx hb dX5_form_51 (by decide) ?_
          have J66 : ∀ (sz_66 : Nat → Int32) (rw_66 : Nat → Int32), kX5_form_66 a0 a1 a2 a3 a4 a5 a6 sz_66 rw_66 = some (r, sz_r, rw_r) → ∀ (H : Heap) (locs : List Loc) (th_66 : Int32) (ex_66 : Int32), va_P G vwCl (mW h0 hs hr cI th_66 tr sz_66 rw_66 bx by_ bz bm so ex_66) H → va_S (mA h0 hs hr) s.heap H locs → ∀ (ls : Array Slot), lv_has ls 9 [(0, .ref h0), (1, .int a0), (2, .int a1), (3, .int a2), (4, .int a3), (5, .int a4), (6, .int a5), (7, .int a6)] → W p l e (rmk 2 46) s m args below meth cd H locs 0 0 Q (F0 m 66 ls []) := by
            intro sz_66 rw_66 h H locs th_66 ex_66 hP hS ls hl
            rw [kX5_form_66] at h
            refine lv_iload_n hx hb dX5_form_66 rfl (lv_at hl 2 rfl) ?_
            refine lv_iconst (v := (3 : Int32)) hx hb dX5_form_67 (by decide) ?_
            have J82 : ∀ (sz_82 : Nat → Int32) (rw_82 : Nat → Int32), kX5_form_82 a0 a1 a2 a3 a4 a5 a6 sz_82 rw_82 = some (r, sz_r, rw_r) → ∀ (H : Heap) (locs : List Loc) (th_82 : Int32) (ex_82 : Int32), va_P G vwCl (mW h0 hs hr cI th_82 tr sz_82 rw_82 bx by_ bz bm so ex_82) H → va_S (mA h0 hs hr) s.heap H locs → ∀ (ls : Array Slot), lv_has ls 9 [(0, .ref h0), (1, .int a0), (2, .int a1), (3, .int a2), (4, .int a3), (5, .int a4), (6, .int a5), (7, .int a6)] → W p l e (rmk 2 46) s m args below meth cd H locs 0 0 Q (F0 m 82 ls []) := by
              intro sz_82 rw_82 h H locs th_82 ex_82 hP hS ls hl
              rw [kX5_form_82] at h
              refine lv_iload_n hx hb dX5_form_82 rfl (lv_at hl 2 rfl) ?_
              refine lv_iconst (v := (4 : Int32)) hx hb dX5_form_83 (by decide) ?_
              have J101 : ∀ (sz_101 : Nat → Int32) (rw_101 : Nat → Int32), kX5_form_101 a0 a1 a2 a3 a4 a5 a6 sz_101 rw_101 = some (r, sz_r, rw_r) → ∀ (H : Heap) (locs : List Loc) (th_101 : Int32) (ex_101 : Int32), va_P G vwCl (mW h0 hs hr cI th_101 tr sz_101 rw_101 bx by_ bz bm so ex_101) H → va_S (mA h0 hs hr) s.heap H locs → ∀ (ls : Array Slot), lv_has ls 9 [(0, .ref h0), (1, .int a0), (2, .int a1), (3, .int a2), (4, .int a3), (5, .int a4), (6, .int a5), (7, .int a6)] → W p l e (rmk 2 46) s m args below meth cd H locs 0 0 Q (F0 m 101 ls []) := by
                intro sz_101 rw_101 h H locs th_101 ex_101 hP hS ls hl
                rw [kX5_form_101] at h
                refine lv_bipush (v := (6 : Int32)) hx hb dX5_form_101 (by decide) ?_
                refine lv_iload_n hx hb dX5_form_103 rfl (lv_at hl 1 rfl) ?_
                refine lv_imul hx hb dX5_form_104 ?_
                refine lv_istore (lv' := [(8, .int ((6 : Int32) * a0)), (0, .ref h0), (1, .int a0), (2, .int a1), (3, .int a2), (4, .int a3), (5, .int a4), (6, .int a5), (7, .int a6)]) hx hb dX5_form_105 hl (by decide) rfl (fun ls hl => ?_)
                refine lv_aload_n hx hb dX5_form_107 rfl (lv_at hl 1 rfl) ?_
                refine va_get (D := G) (ci := 3) (v := .ref hs) (C := RX5) (T := TX5) (N := 10) hx hb hts (fun w h => wl_in (inX5 w h)) hown hK hP 0 rfl rfl 2 (by decide) (hts _ (wl_in w_315)) (fun _ h9 => h9) rfl dX5_form_108 ?_
                refine lv_iload_n hx hb dX5_form_111 rfl (lv_at hl 2 rfl) ?_
                refine lv_iload_n hx hb dX5_form_112 rfl (lv_at hl 3 rfl) ?_
                obtain ⟨g7, h⟩ := pg h
                refine va_iast hx hb hK hP (mD hap) hS 1 0 rfl rfl g7 dX5_form_113 (fun H locs hP _ hS => ?_)
                have hP : va_P G vwCl (mW h0 hs hr cI th_101 tr (upd sz_101 a0.toNatClampNeg a1) rw_101 bx by_ bz bm so ex_101) H := hP
                refine lv_aload_n hx hb dX5_form_114 rfl (lv_at hl 1 rfl) ?_
                refine va_get (D := G) (ci := 3) (v := .ref hr) (C := RX5) (T := TX5) (N := 10) hx hb hts (fun w h => wl_in (inX5 w h)) hown hK hP 0 rfl rfl 3 (by decide) (hts _ (wl_in w_316)) (fun _ h9 => h9) rfl dX5_form_115 ?_
                refine lv_iload hx hb dX5_form_118 (lv_at hl 0 rfl) ?_
                refine lv_iload_n hx hb dX5_form_120 rfl (lv_at hl 4 rfl) ?_
                obtain ⟨g8, h⟩ := pg h
                refine va_iast hx hb hK hP (mD hap) hS 2 0 rfl rfl g8 dX5_form_121 (fun H locs hP _ hS => ?_)
                have hP : va_P G vwCl (mW h0 hs hr cI th_101 tr (upd sz_101 a0.toNatClampNeg a1) (upd rw_101 ((6 : Int32) * a0).toNatClampNeg a2) bx by_ bz bm so ex_101) H := hP
                refine lv_aload_n hx hb dX5_form_122 rfl (lv_at hl 1 rfl) ?_
                refine va_get (D := G) (ci := 3) (v := .ref hr) (C := RX5) (T := TX5) (N := 10) hx hb hts (fun w h => wl_in (inX5 w h)) hown hK hP 0 rfl rfl 3 (by decide) (hts _ (wl_in w_316)) (fun _ h9 => h9) rfl dX5_form_123 ?_
                refine lv_iload hx hb dX5_form_126 (lv_at hl 0 rfl) ?_
                refine lv_iconst (v := (1 : Int32)) hx hb dX5_form_128 (by decide) ?_
                refine lv_iadd hx hb dX5_form_129 ?_
                refine lv_iload hx hb dX5_form_130 (lv_at hl 5 rfl) ?_
                obtain ⟨g9, h⟩ := pg h
                refine va_iast hx hb hK hP (mD hap) hS 2 0 rfl rfl g9 dX5_form_132 (fun H locs hP _ hS => ?_)
                have hP : va_P G vwCl (mW h0 hs hr cI th_101 tr (upd sz_101 a0.toNatClampNeg a1) (upd (upd rw_101 ((6 : Int32) * a0).toNatClampNeg a2) (((6 : Int32) * a0) + (1 : Int32)).toNatClampNeg a3) bx by_ bz bm so ex_101) H := hP
                refine lv_aload_n hx hb dX5_form_133 rfl (lv_at hl 1 rfl) ?_
                refine va_get (D := G) (ci := 3) (v := .ref hr) (C := RX5) (T := TX5) (N := 10) hx hb hts (fun w h => wl_in (inX5 w h)) hown hK hP 0 rfl rfl 3 (by decide) (hts _ (wl_in w_316)) (fun _ h9 => h9) rfl dX5_form_134 ?_
                refine lv_iload hx hb dX5_form_137 (lv_at hl 0 rfl) ?_
                refine lv_iconst (v := (2 : Int32)) hx hb dX5_form_139 (by decide) ?_
                refine lv_iadd hx hb dX5_form_140 ?_
                refine lv_iload hx hb dX5_form_141 (lv_at hl 6 rfl) ?_
                obtain ⟨g10, h⟩ := pg h
                refine va_iast hx hb hK hP (mD hap) hS 2 0 rfl rfl g10 dX5_form_143 (fun H locs hP _ hS => ?_)
                have hP : va_P G vwCl (mW h0 hs hr cI th_101 tr (upd sz_101 a0.toNatClampNeg a1) (upd (upd (upd rw_101 ((6 : Int32) * a0).toNatClampNeg a2) (((6 : Int32) * a0) + (1 : Int32)).toNatClampNeg a3) (((6 : Int32) * a0) + (2 : Int32)).toNatClampNeg a4) bx by_ bz bm so ex_101) H := hP
                refine lv_aload_n hx hb dX5_form_144 rfl (lv_at hl 1 rfl) ?_
                refine va_get (D := G) (ci := 3) (v := .ref hr) (C := RX5) (T := TX5) (N := 10) hx hb hts (fun w h => wl_in (inX5 w h)) hown hK hP 0 rfl rfl 3 (by decide) (hts _ (wl_in w_316)) (fun _ h9 => h9) rfl dX5_form_145 ?_
                refine lv_iload hx hb dX5_form_148 (lv_at hl 0 rfl) ?_
                refine lv_iconst (v := (3 : Int32)) hx hb dX5_form_150 (by decide) ?_
                refine lv_iadd hx hb dX5_form_151 ?_
                refine lv_iload hx hb dX5_form_152 (lv_at hl 7 rfl) ?_
                obtain ⟨g11, h⟩ := pg h
                refine va_iast hx hb hK hP (mD hap) hS 2 0 rfl rfl g11 dX5_form_154 (fun H locs hP _ hS => ?_)
                have hP : va_P G vwCl (mW h0 hs hr cI th_101 tr (upd sz_101 a0.toNatClampNeg a1) (upd (upd (upd (upd rw_101 ((6 : Int32) * a0).toNatClampNeg a2) (((6 : Int32) * a0) + (1 : Int32)).toNatClampNeg a3) (((6 : Int32) * a0) + (2 : Int32)).toNatClampNeg a4) (((6 : Int32) * a0) + (3 : Int32)).toNatClampNeg a5) bx by_ bz bm so ex_101) H := hP
                refine lv_aload_n hx hb dX5_form_155 rfl (lv_at hl 1 rfl) ?_
                refine va_get (D := G) (ci := 3) (v := .ref hr) (C := RX5) (T := TX5) (N := 10) hx hb hts (fun w h => wl_in (inX5 w h)) hown hK hP 0 rfl rfl 3 (by decide) (hts _ (wl_in w_316)) (fun _ h9 => h9) rfl dX5_form_156 ?_
                refine lv_iload hx hb dX5_form_159 (lv_at hl 0 rfl) ?_
                refine lv_iconst (v := (4 : Int32)) hx hb dX5_form_161 (by decide) ?_
                refine lv_iadd hx hb dX5_form_162 ?_
                refine lv_iload hx hb dX5_form_163 (lv_at hl 8 rfl) ?_
                obtain ⟨g12, h⟩ := pg h
                refine va_iast hx hb hK hP (mD hap) hS 2 0 rfl rfl g12 dX5_form_165 (fun H locs hP _ hS => ?_)
                have hP : va_P G vwCl (mW h0 hs hr cI th_101 tr (upd sz_101 a0.toNatClampNeg a1) (upd (upd (upd (upd (upd rw_101 ((6 : Int32) * a0).toNatClampNeg a2) (((6 : Int32) * a0) + (1 : Int32)).toNatClampNeg a3) (((6 : Int32) * a0) + (2 : Int32)).toNatClampNeg a4) (((6 : Int32) * a0) + (3 : Int32)).toNatClampNeg a5) (((6 : Int32) * a0) + (4 : Int32)).toNatClampNeg a6) bx by_ bz bm so ex_101) H := hP
                refine lv_iload_n hx hb dX5_form_166 rfl (lv_at hl 3 rfl) ?_
                have hh := pe h
                simp only [Prod.mk.injEq] at hh
                obtain ⟨z0, z1, z2⟩ := hh
                subst z1
                subst z2
                exact END _ _ 167 ls s _ z0 dX5_form_167 rfl ⟨⟨_, _, hP⟩, hK⟩ hS
              refine lv_icmp_le (tgt := 101) hx hb dX5_form_84 (by decide) (fun c84 => ?_) (fun c84 => ?_)
              · have h := pt c84 h
                exact J101 _ _ h _ _ _ _ hP hS _ hl
              · have h := pf c84 h
                refine lv_iload hx hb dX5_form_87 (lv_at hl 7 rfl) ?_
                refine lv_sipush (v := (400 : Int32)) hx hb dX5_form_89 (by decide) ?_
                obtain ⟨r13, e14, h⟩ := pb h
                refine ro_S (As := [.int a6, .int (400 : Int32)]) (rest := []) hF (fun _ h => wl_in h) (cnX5_isTold l e14) syX5_isTold w_349 ⟨Nat.le_of_ble_eq_true rfl, Nat.le_of_ble_eq_true rfl⟩ mv0 trivial rfl hl.1 rfl (Nat.le_of_ble_eq_true rfl) dX5_form_92 ⟨Nat.zero_le _, Nat.zero_le _⟩ ?_
                refine lv_if_ne (tgt := 101) hx hb dX5_form_95 (by decide) (fun c95 => ?_) (fun c95 => ?_)
                · have h := pf c95 h
                  exact J101 _ _ h _ _ _ _ hP hS _ hl
                · have h := pt c95 h
                  refine lv_bipush (v := (-3 : Int32)) hx hb dX5_form_98 (by decide) ?_
                  have hh := pe h
                  simp only [Prod.mk.injEq] at hh
                  obtain ⟨z0, z1, z2⟩ := hh
                  subst z1
                  subst z2
                  exact END _ _ 100 ls s _ z0 dX5_form_100 rfl ⟨⟨_, _, hP⟩, hK⟩ hS
            refine lv_icmp_le (tgt := 82) hx hb dX5_form_68 (by decide) (fun c68 => ?_) (fun c68 => ?_)
            · have h := pt c68 h
              exact J82 _ _ h _ _ _ _ hP hS _ hl
            · have h := pf c68 h
              refine lv_iload hx hb dX5_form_71 (lv_at hl 6 rfl) ?_
              refine lv_sipush (v := (400 : Int32)) hx hb dX5_form_73 (by decide) ?_
              obtain ⟨r15, e16, h⟩ := pb h
              refine ro_S (As := [.int a5, .int (400 : Int32)]) (rest := []) hF (fun _ h => wl_in h) (cnX5_isTold l e16) syX5_isTold w_349 ⟨Nat.le_of_ble_eq_true rfl, Nat.le_of_ble_eq_true rfl⟩ mv0 trivial rfl hl.1 rfl (Nat.le_of_ble_eq_true rfl) dX5_form_76 ⟨Nat.zero_le _, Nat.zero_le _⟩ ?_
              refine lv_if_eq (tgt := 98) hx hb dX5_form_79 (by decide) (fun c79 => ?_) (fun c79 => ?_)
              · have h := pt c79 h
                refine lv_bipush (v := (-3 : Int32)) hx hb dX5_form_98 (by decide) ?_
                have hh := pe h
                simp only [Prod.mk.injEq] at hh
                obtain ⟨z0, z1, z2⟩ := hh
                subst z1
                subst z2
                exact END _ _ 100 ls s _ z0 dX5_form_100 rfl ⟨⟨_, _, hP⟩, hK⟩ hS
              · have h := pf c79 h
                exact J82 _ _ h _ _ _ _ hP hS _ hl
          refine lv_icmp_le (tgt := 66) hx hb dX5_form_52 (by decide) (fun c52 => ?_) (fun c52 => ?_)
          · have h := pt c52 h
            exact J66 _ _ h _ _ _ _ hP hS _ hl
          · have h := pf c52 h
            refine lv_iload hx hb dX5_form_55 (lv_at hl 5 rfl) ?_
            refine lv_sipush (v := (400 : Int32)) hx hb dX5_form_57 (by decide) ?_
            obtain ⟨r17, e18, h⟩ := pb h
            refine ro_S (As := [.int a4, .int (400 : Int32)]) (rest := []) hF (fun _ h => wl_in h) (cnX5_isTold l e18) syX5_isTold w_349 ⟨Nat.le_of_ble_eq_true rfl, Nat.le_of_ble_eq_true rfl⟩ mv0 trivial rfl hl.1 rfl (Nat.le_of_ble_eq_true rfl) dX5_form_60 ⟨Nat.zero_le _, Nat.zero_le _⟩ ?_
            refine lv_if_eq (tgt := 98) hx hb dX5_form_63 (by decide) (fun c63 => ?_) (fun c63 => ?_)
            · have h := pt c63 h
              refine lv_bipush (v := (-3 : Int32)) hx hb dX5_form_98 (by decide) ?_
              have hh := pe h
              simp only [Prod.mk.injEq] at hh
              obtain ⟨z0, z1, z2⟩ := hh
              subst z1
              subst z2
              exact END _ _ 100 ls s _ z0 dX5_form_100 rfl ⟨⟨_, _, hP⟩, hK⟩ hS
            · have h := pf c63 h
              exact J66 _ _ h _ _ _ _ hP hS _ hl
        refine lv_icmp_le (tgt := 50) hx hb dX5_form_36 (by decide) (fun c36 => ?_) (fun c36 => ?_)
        · have h := pt c36 h
          exact J50 _ _ h _ _ _ _ hP hS _ hl
        · have h := pf c36 h
          refine lv_iload hx hb dX5_form_39 (lv_at hl 4 rfl) ?_
          refine lv_sipush (v := (400 : Int32)) hx hb dX5_form_41 (by decide) ?_
          obtain ⟨r19, e20, h⟩ := pb h
          refine ro_S (As := [.int a3, .int (400 : Int32)]) (rest := []) hF (fun _ h => wl_in h) (cnX5_isTold l e20) syX5_isTold w_349 ⟨Nat.le_of_ble_eq_true rfl, Nat.le_of_ble_eq_true rfl⟩ mv0 trivial rfl hl.1 rfl (Nat.le_of_ble_eq_true rfl) dX5_form_44 ⟨Nat.zero_le _, Nat.zero_le _⟩ ?_
          refine lv_if_eq (tgt := 98) hx hb dX5_form_47 (by decide) (fun c47 => ?_) (fun c47 => ?_)
          · have h := pt c47 h
            refine lv_bipush (v := (-3 : Int32)) hx hb dX5_form_98 (by decide) ?_
            have hh := pe h
            simp only [Prod.mk.injEq] at hh
            obtain ⟨z0, z1, z2⟩ := hh
            subst z1
            subst z2
            exact END _ _ 100 ls s _ z0 dX5_form_100 rfl ⟨⟨_, _, hP⟩, hK⟩ hS
          · have h := pf c47 h
            exact J50 _ _ h _ _ _ _ hP hS _ hl

theorem syX5_takes : Vy yX5_takes cX5_takes 6 (some .int) 2 := ⟨w_466, ⟨w_464, w_465⟩, w_4, by decide +kernel⟩
set_option maxHeartbeats 4000000 in
set_option maxRecDepth 100000 in
theorem cnX5_takes (l : Launch) (G : va_G) (h0 hs hr : Nat) (cI cF : ClassId) (tr : Int64) (sz rw : Nat → Int32) (bx by_ bz bm so : Int32) (hap : mAp h0 hs hr) {a0 : Int32} {a1 : Int32} {r : Int32} {rw_r : Nat → Int32} (h : fX5_takes sz rw a0 a1 = some (r, rw_r)) : Mu l yX5_takes cX5_takes 6 (some .int) 5 137 [.ref h0, .int a0, .int a1] (mA h0 hs hr) (mB G h0 hs hr cI cF tr sz rw bx by_ bz bm so) (mB G h0 hs hr cI cF tr sz rw_r bx by_ bz bm so) (some (.int r)) := by
  refine mu_i (plainFor_of_name (by decide)) (Nat.le_of_ble_eq_true rfl) (by first | exact mB_mv | exact mBe_mv) ?_
  intro p e s m args below meth cd Q ls hF hB hl END
  have hF : CallFix p m cd cX5_takes 6 s args (wl yX5_takes cX5_takes 6 (some .int)) RX5 := hF
  obtain ⟨hx, hb, hml, hown, hts⟩ := id hF
  have hl : lv_has ls 6 [(0, .ref h0), (1, .int a0), (2, .int a1)] := hl
  obtain ⟨⟨th, ex, hP⟩, hK⟩ := hB
  have hS : va_S (mA h0 hs hr) s.heap s.heap [] := va_S.rf
  rw [fX5_takes] at h
  refine lv_aload_n hx hb dX5_takes_0 rfl (lv_at hl 0 rfl) ?_
  refine lv_iconst (v := (0 : Int32)) hx hb dX5_takes_1 (by decide) ?_
  refine va_put (D := G) (ci := 3) (v := .int (0 : Int32)) (ty := .int) (C := RX5) (T := TX5) (N := 10) hx hb hts (fun w h => wl_in (inX5 w h)) tyX5 tyX5_ok nmX5 hown hK hP (mD hap) hS 0 rfl rfl 0 (by decide) (hts _ (wl_in w_313)) (fun _ h9 => h9) rfl (by decide +kernel) rfl rfl (Nat.le_of_ble_eq_true rfl) dX5_takes_2 (fun H locs hP _ hS => ?_)
  have hP : va_P G vwCl (mW h0 hs hr cI (0 : Int32) tr sz rw bx by_ bz bm so ex) H := hP
  refine lv_iload_n hx hb dX5_takes_5 rfl (lv_at hl 1 rfl) ?_
  obtain ⟨r1, e2, h⟩ := pb h
  refine ro_S (As := [.int a0]) (rest := []) hF (fun _ h => wl_in h) (cnX5_isShelf l e2) syX5_isShelf w_390 ⟨Nat.le_of_ble_eq_true rfl, Nat.le_of_ble_eq_true rfl⟩ mv0 trivial rfl hl.1 rfl (Nat.le_of_ble_eq_true rfl) dX5_takes_6 ⟨Nat.zero_le _, Nat.zero_le _⟩ ?_
  refine lv_if_eq (tgt := 22) hx hb dX5_takes_9 (by decide) (fun c9 => ?_) (fun c9 => ?_)
  · have h := pt c9 h
    refine lv_bipush (v := (-3 : Int32)) hx hb dX5_takes_22 (by decide) ?_
    have hh := pe h
    simp only [Prod.mk.injEq] at hh
    obtain ⟨z0, z1⟩ := hh
    subst z1
    exact END _ _ 24 ls s _ z0 dX5_takes_24 rfl ⟨⟨_, _, hP⟩, hK⟩ hS
  · have h := pf c9 h
    refine lv_iload_n hx hb dX5_takes_12 rfl (lv_at hl 2 rfl) ?_
    refine lv_sipush (v := (400 : Int32)) hx hb dX5_takes_13 (by decide) ?_
    obtain ⟨r3, e4, h⟩ := pb h
    refine ro_S (As := [.int a1, .int (400 : Int32)]) (rest := []) hF (fun _ h => wl_in h) (cnX5_isTold l e4) syX5_isTold w_349 ⟨Nat.le_of_ble_eq_true rfl, Nat.le_of_ble_eq_true rfl⟩ mv0 trivial rfl hl.1 rfl (Nat.le_of_ble_eq_true rfl) dX5_takes_16 ⟨Nat.zero_le _, Nat.zero_le _⟩ ?_
    refine lv_if_ne (tgt := 25) hx hb dX5_takes_19 (by decide) (fun c19 => ?_) (fun c19 => ?_)
    · have h := pf c19 h
      refine lv_aload_n hx hb dX5_takes_25 rfl (lv_at hl 0 rfl) ?_
      refine va_get (D := G) (ci := 3) (v := .ref hs) (C := RX5) (T := TX5) (N := 10) hx hb hts (fun w h => wl_in (inX5 w h)) hown hK hP 0 rfl rfl 2 (by decide) (hts _ (wl_in w_315)) (fun _ h9 => h9) rfl dX5_takes_26 ?_
      refine lv_iload_n hx hb dX5_takes_29 rfl (lv_at hl 1 rfl) ?_
      obtain ⟨g5, h⟩ := pg h
      refine va_iald hx hb hK hP 1 0 rfl rfl g5 dX5_takes_30 ?_
      refine lv_istore_n (lv' := [(3, .int (sz a0.toNatClampNeg)), (0, .ref h0), (1, .int a0), (2, .int a1)]) hx hb dX5_takes_31 rfl hl (by decide) rfl (fun ls hl => ?_)
      refine lv_aload_n hx hb dX5_takes_32 rfl (lv_at hl 1 rfl) ?_
      refine va_get (D := G) (ci := 3) (v := .ref hr) (C := RX5) (T := TX5) (N := 10) hx hb hts (fun w h => wl_in (inX5 w h)) hown hK hP 0 rfl rfl 3 (by decide) (hts _ (wl_in w_316)) (fun _ h9 => h9) rfl dX5_takes_33 ?_
      refine lv_bipush (v := (6 : Int32)) hx hb dX5_takes_36 (by decide) ?_
      refine lv_iload_n hx hb dX5_takes_38 rfl (lv_at hl 2 rfl) ?_
      refine lv_imul hx hb dX5_takes_39 ?_
      refine lv_iload_n hx hb dX5_takes_40 rfl (lv_at hl 0 rfl) ?_
      refine lv_iadd hx hb dX5_takes_41 ?_
      obtain ⟨g6, h⟩ := pg h
      refine va_iald hx hb hK hP 2 0 rfl rfl g6 dX5_takes_42 ?_
      refine lv_istore (lv' := [(4, .int (rw (((6 : Int32) * a0) + (sz a0.toNatClampNeg)).toNatClampNeg)), (3, .int (sz a0.toNatClampNeg)), (0, .ref h0), (1, .int a0), (2, .int a1)]) hx hb dX5_takes_43 hl (by decide) rfl (fun ls hl => ?_)
      refine lv_aload_n hx hb dX5_takes_45 rfl (lv_at hl 2 rfl) ?_
      refine va_get (D := G) (ci := 3) (v := .ref hr) (C := RX5) (T := TX5) (N := 10) hx hb hts (fun w h => wl_in (inX5 w h)) hown hK hP 0 rfl rfl 3 (by decide) (hts _ (wl_in w_316)) (fun _ h9 => h9) rfl dX5_takes_46 ?_
      refine lv_bipush (v := (6 : Int32)) hx hb dX5_takes_49 (by decide) ?_
      refine lv_iload_n hx hb dX5_takes_51 rfl (lv_at hl 3 rfl) ?_
      refine lv_imul hx hb dX5_takes_52 ?_
      refine lv_iload_n hx hb dX5_takes_53 rfl (lv_at hl 1 rfl) ?_
      refine lv_iadd hx hb dX5_takes_54 ?_
      refine lv_iload_n hx hb dX5_takes_55 rfl (lv_at hl 4 rfl) ?_
      refine lv_ineg hx hb dX5_takes_56 ?_
      obtain ⟨g7, h⟩ := pg h
      refine va_iast hx hb hK hP (mD hap) hS 2 0 rfl rfl g7 dX5_takes_57 (fun H locs hP _ hS => ?_)
      have hP : va_P G vwCl (mW h0 hs hr cI (0 : Int32) tr sz (upd rw (((6 : Int32) * a0) + (sz a0.toNatClampNeg)).toNatClampNeg (-a1)) bx by_ bz bm so ex) H := hP
      refine lv_aload_n hx hb dX5_takes_58 rfl (lv_at hl 2 rfl) ?_
      refine lv_iload_n hx hb dX5_takes_59 rfl (lv_at hl 3 rfl) ?_
      refine lv_iload_n hx hb dX5_takes_60 rfl (lv_at hl 1 rfl) ?_
      refine lv_iconst (v := (1 : Int32)) hx hb dX5_takes_61 (by decide) ?_
      refine lv_iadd hx hb dX5_takes_62 ?_
      obtain ⟨r8, e9, h⟩ := pb h
      refine mu_V (As := [.int a0, .int ((sz a0.toNatClampNeg) + (1 : Int32))]) (rest := []) hF (fun _ h => wl_in h) (cnX5_isNought l G h0 hs hr cI cF tr sz (upd rw (((6 : Int32) * a0) + (sz a0.toNatClampNeg)).toNatClampNeg (-a1)) bx by_ bz bm so hap e9) syX5_isNought w_440 ⟨Nat.le_of_ble_eq_true rfl, Nat.le_of_ble_eq_true rfl⟩ mB_mv mB_mv ⟨⟨_, _, hP⟩, hK⟩ (va_recv hK hP (ci := 3) (q0 := 0) rfl rfl) hS (fun _ h => h) rfl hl.1 rfl (Nat.le_of_ble_eq_true rfl) dX5_takes_63 ⟨Nat.zero_le _, Nat.zero_le _⟩ (fun H locs hB1 _ _ hS => ?_)
      obtain ⟨⟨th10, ex11, hP⟩, _⟩ := hB1
      refine W.eq (g2 := F0 m 66 ls [.int r8]) rfl ?_
      refine lv_istore (lv' := [(5, .int r8), (4, .int (rw (((6 : Int32) * a0) + (sz a0.toNatClampNeg)).toNatClampNeg)), (3, .int (sz a0.toNatClampNeg)), (0, .ref h0), (1, .int a0), (2, .int a1)]) hx hb dX5_takes_66 hl (by decide) rfl (fun ls hl => ?_)
      refine lv_aload_n hx hb dX5_takes_68 rfl (lv_at hl 3 rfl) ?_
      refine va_get (D := G) (ci := 3) (v := .ref hr) (C := RX5) (T := TX5) (N := 10) hx hb hts (fun w h => wl_in (inX5 w h)) hown hK hP 0 rfl rfl 3 (by decide) (hts _ (wl_in w_316)) (fun _ h9 => h9) rfl dX5_takes_69 ?_
      refine lv_bipush (v := (6 : Int32)) hx hb dX5_takes_72 (by decide) ?_
      refine lv_iload_n hx hb dX5_takes_74 rfl (lv_at hl 4 rfl) ?_
      refine lv_imul hx hb dX5_takes_75 ?_
      refine lv_iload_n hx hb dX5_takes_76 rfl (lv_at hl 2 rfl) ?_
      refine lv_iadd hx hb dX5_takes_77 ?_
      refine lv_iload hx hb dX5_takes_78 (lv_at hl 1 rfl) ?_
      obtain ⟨g12, h⟩ := pg h
      refine va_iast hx hb hK hP (mD hap) hS 2 0 rfl rfl g12 dX5_takes_80 (fun H locs hP _ hS => ?_)
      have hP : va_P G vwCl (mW h0 hs hr cI th10 tr sz (upd (upd rw (((6 : Int32) * a0) + (sz a0.toNatClampNeg)).toNatClampNeg (-a1)) (((6 : Int32) * a0) + (sz a0.toNatClampNeg)).toNatClampNeg (rw (((6 : Int32) * a0) + (sz a0.toNatClampNeg)).toNatClampNeg)) bx by_ bz bm so ex11) H := hP
      refine lv_iload hx hb dX5_takes_81 (lv_at hl 0 rfl) ?_
      refine lv_if_eq (tgt := 90) hx hb dX5_takes_83 (by decide) (fun c83 => ?_) (fun c83 => ?_)
      · have h := pt c83 h
        refine lv_iconst (v := (0 : Int32)) hx hb dX5_takes_90 (by decide) ?_
        have hh := pe h
        simp only [Prod.mk.injEq] at hh
        obtain ⟨z0, z1⟩ := hh
        subst z1
        exact END _ _ 91 ls s _ z0 dX5_takes_91 rfl ⟨⟨_, _, hP⟩, hK⟩ hS
      · have h := pf c83 h
        refine lv_iconst (v := (1 : Int32)) hx hb dX5_takes_86 (by decide) ?_
        refine lv_goto (tgt := 91) hx hb dX5_takes_87 (by decide) ?_
        have hh := pe h
        simp only [Prod.mk.injEq] at hh
        obtain ⟨z0, z1⟩ := hh
        subst z1
        exact END _ _ 91 ls s _ z0 dX5_takes_91 rfl ⟨⟨_, _, hP⟩, hK⟩ hS
    · have h := pt c19 h
      refine lv_bipush (v := (-3 : Int32)) hx hb dX5_takes_22 (by decide) ?_
      have hh := pe h
      simp only [Prod.mk.injEq] at hh
      obtain ⟨z0, z1⟩ := hh
      subst z1
      exact END _ _ 24 ls s _ z0 dX5_takes_24 rfl ⟨⟨_, _, hP⟩, hK⟩ hS

theorem syX5_measure : Vy yX5_measure cX5_measure 5 (some .int) 4 := ⟨w_489, ⟨w_487, w_488⟩, w_4, by decide +kernel⟩
set_option maxHeartbeats 4000000 in
set_option maxRecDepth 100000 in
theorem cnX5_measure (l : Launch) (G : va_G) (h0 hs hr : Nat) (cI cF : ClassId) (tr : Int64) (sz rw : Nat → Int32) (bx by_ bz bm so : Int32) (hap : mAp h0 hs hr) {a0 : Int32} {a1 : Int32} {a2 : Int32} {a3 : Int32} {r : Int32} {tr_r : Int64} (h : fX5_measure sz rw tr a0 a1 a2 a3 = some (r, tr_r)) : Mu l yX5_measure cX5_measure 5 (some .int) 2 47 [.ref h0, .int a0, .int a1, .int a2, .int a3] (mA h0 hs hr) (mB G h0 hs hr cI cF tr sz rw bx by_ bz bm so) (mB G h0 hs hr cI cF tr_r sz rw bx by_ bz bm so) (some (.int r)) := by
  refine mu_i (plainFor_of_name (by decide)) (Nat.le_of_ble_eq_true rfl) (by first | exact mB_mv | exact mBe_mv) ?_
  intro p e s m args below meth cd Q ls hF hB hl END
  have hF : CallFix p m cd cX5_measure 5 s args (wl yX5_measure cX5_measure 5 (some .int)) RX5 := hF
  obtain ⟨hx, hb, hml, hown, hts⟩ := id hF
  have hl : lv_has ls 5 [(0, .ref h0), (1, .int a0), (2, .int a1), (3, .int a2), (4, .int a3)] := hl
  obtain ⟨⟨th, ex, hP⟩, hK⟩ := hB
  have hS : va_S (mA h0 hs hr) s.heap s.heap [] := va_S.rf
  rw [fX5_measure] at h
  refine lv_aload_n hx hb dX5_measure_0 rfl (lv_at hl 0 rfl) ?_
  refine lv_iconst (v := (0 : Int32)) hx hb dX5_measure_1 (by decide) ?_
  refine va_put (D := G) (ci := 3) (v := .int (0 : Int32)) (ty := .int) (C := RX5) (T := TX5) (N := 10) hx hb hts (fun w h => wl_in (inX5 w h)) tyX5 tyX5_ok nmX5 hown hK hP (mD hap) hS 0 rfl rfl 0 (by decide) (hts _ (wl_in w_313)) (fun _ h9 => h9) rfl (by decide +kernel) rfl rfl (Nat.le_of_ble_eq_true rfl) dX5_measure_2 (fun H locs hP _ hS => ?_)
  have hP : va_P G vwCl (mW h0 hs hr cI (0 : Int32) tr sz rw bx by_ bz bm so ex) H := hP
  refine lv_iload_n hx hb dX5_measure_5 rfl (lv_at hl 1 rfl) ?_
  refine lv_i2l (v := a0.toInt64) hx hb dX5_measure_6 rfl ?_
  refine lv_lconst (v := (0 : Int64)) hx hb dX5_measure_7 (by decide) ?_
  refine lv_ldc2 (v := (2 : Int64)) hx hb hown (hts _ (wl_in w_362)) dX5_measure_8 ?_
  obtain ⟨r1, e2, h⟩ := pb h
  refine ro_S (As := [.long a0.toInt64, .long (0 : Int64), .long (2 : Int64)]) (rest := []) hF (fun _ h => wl_in h) (cnX5_in l e2) syX5_in w_352 ⟨Nat.le_of_ble_eq_true rfl, Nat.le_of_ble_eq_true rfl⟩ mv0 trivial rfl hl.1 rfl (Nat.le_of_ble_eq_true rfl) dX5_measure_11 ⟨Nat.zero_le _, Nat.zero_le _⟩ ?_
  refine lv_if_eq (tgt := 27) hx hb dX5_measure_14 (by decide) (fun c14 => ?_) (fun c14 => ?_)
  · have h := pt c14 h
    refine lv_bipush (v := (-3 : Int32)) hx hb dX5_measure_27 (by decide) ?_
    have hh := pe h
    simp only [Prod.mk.injEq] at hh
    obtain ⟨z0, z1⟩ := hh
    subst z1
    exact END _ _ 29 ls s _ z0 dX5_measure_29 rfl ⟨⟨_, _, hP⟩, hK⟩ hS
  · have h := pf c14 h
    refine lv_iload_n hx hb dX5_measure_17 rfl (lv_at hl 2 rfl) ?_
    refine lv_iload_n hx hb dX5_measure_18 rfl (lv_at hl 3 rfl) ?_
    refine lv_iload hx hb dX5_measure_19 (lv_at hl 4 rfl) ?_
    obtain ⟨r3, e4, h⟩ := pb h
    refine ro_S (As := [.int a1, .int a2, .int a3]) (rest := []) hF (fun _ h => wl_in h) (cnX5_isNear l e4) syX5_isNear w_490 ⟨Nat.le_of_ble_eq_true rfl, Nat.le_of_ble_eq_true rfl⟩ mv0 trivial rfl hl.1 rfl (Nat.le_of_ble_eq_true rfl) dX5_measure_21 ⟨Nat.zero_le _, Nat.zero_le _⟩ ?_
    refine lv_if_ne (tgt := 30) hx hb dX5_measure_24 (by decide) (fun c24 => ?_) (fun c24 => ?_)
    · have h := pf c24 h
      refine lv_aload_n hx hb dX5_measure_30 rfl (lv_at hl 0 rfl) ?_
      refine lv_dup hx hb dX5_measure_31 rfl ?_
      refine va_get (D := G) (ci := 3) (v := .long tr) (C := RX5) (T := TX5) (N := 10) hx hb hts (fun w h => wl_in (inX5 w h)) hown hK hP 0 rfl rfl 1 (by decide) (hts _ (wl_in w_314)) (fun _ h9 => h9) rfl dX5_measure_32 ?_
      refine lv_iload_n hx hb dX5_measure_35 rfl (lv_at hl 1 rfl) ?_
      have J57 : ∀ (t0_57 : Int64) (tr_57 : Int64), kX5_measure_57 tr a0 a1 a2 a3 t0_57 tr_57 = some (r, tr_r) → ∀ (H : Heap) (locs : List Loc) (th_57 : Int32) (ex_57 : Int32), va_P G vwCl (mW h0 hs hr cI th_57 tr_57 sz rw bx by_ bz bm so ex_57) H → va_S (mA h0 hs hr) s.heap H locs → ∀ (ls : Array Slot), lv_has ls 5 [(1, .int a0), (2, .int a1), (3, .int a2), (4, .int a3)] → W p l e (rmk 2 47) s m args below meth cd H locs 0 0 Q (F0 m 57 ls [.long t0_57, .long tr, .ref h0]) := by
        intro t0_57 tr_57 h H locs th_57 ex_57 hP hS ls hl
        rw [kX5_measure_57] at h
        refine lv_ladd hx hb dX5_measure_57 ?_
        refine va_put (D := G) (ci := 3) (v := .long (tr + t0_57)) (ty := .long) (C := RX5) (T := TX5) (N := 10) hx hb hts (fun w h => wl_in (inX5 w h)) tyX5 tyX5_ok nmX5 hown hK hP (mD hap) hS 0 rfl rfl 1 (by decide) (hts _ (wl_in w_314)) (fun _ h9 => h9) rfl (by decide +kernel) rfl rfl (Nat.le_of_ble_eq_true rfl) dX5_measure_58 (fun H locs hP _ hS => ?_)
        have hP : va_P G vwCl (mW h0 hs hr cI th_57 (tr + t0_57) sz rw bx by_ bz bm so ex_57) H := hP
        refine lv_iload_n hx hb dX5_measure_61 rfl (lv_at hl 0 rfl) ?_
        refine lv_iload_n hx hb dX5_measure_62 rfl (lv_at hl 1 rfl) ?_
        refine lv_iload_n hx hb dX5_measure_63 rfl (lv_at hl 2 rfl) ?_
        refine lv_iload hx hb dX5_measure_64 (lv_at hl 3 rfl) ?_
        obtain ⟨r5, e6, h⟩ := pb h
        refine ro_S (As := [.int a0, .int a1, .int a2, .int a3]) (rest := []) hF (fun _ h => wl_in h) (cnX5_measureOf l e6) syX5_measureOf w_497 ⟨Nat.le_of_ble_eq_true rfl, Nat.le_of_ble_eq_true rfl⟩ mv0 trivial rfl hl.1 rfl (Nat.le_of_ble_eq_true rfl) dX5_measure_66 ⟨Nat.zero_le _, Nat.zero_le _⟩ ?_
        have hh := pe h
        simp only [Prod.mk.injEq] at hh
        obtain ⟨z0, z1⟩ := hh
        subst z1
        exact END _ _ 69 ls s _ z0 dX5_measure_69 rfl ⟨⟨_, _, hP⟩, hK⟩ hS
      refine lv_if_ne (tgt := 43) hx hb dX5_measure_36 (by decide) (fun c36 => ?_) (fun c36 => ?_)
      · have h := pf c36 h
        refine lv_iload_n hx hb dX5_measure_43 rfl (lv_at hl 1 rfl) ?_
        refine lv_iconst (v := (1 : Int32)) hx hb dX5_measure_44 (by decide) ?_
        refine lv_icmp_ne (tgt := 54) hx hb dX5_measure_45 (by decide) (fun c45 => ?_) (fun c45 => ?_)
        · have h := pf c45 h
          refine lv_ldc2 (v := (111 : Int64)) hx hb hown (hts _ (wl_in w_496)) dX5_measure_54 ?_
          exact J57 _ _ h _ _ _ _ hP hS _ (lv_sub hl [1, 2, 3, 4] rfl)
        · have h := pt c45 h
          refine lv_ldc2 (v := (11 : Int64)) hx hb hown (hts _ (wl_in w_495)) dX5_measure_48 ?_
          refine lv_goto (tgt := 57) hx hb dX5_measure_51 (by decide) ?_
          exact J57 _ _ h _ _ _ _ hP hS _ (lv_sub hl [1, 2, 3, 4] rfl)
      · have h := pt c36 h
        refine lv_lconst (v := (1 : Int64)) hx hb dX5_measure_39 (by decide) ?_
        refine lv_goto (tgt := 57) hx hb dX5_measure_40 (by decide) ?_
        exact J57 _ _ h _ _ _ _ hP hS _ (lv_sub hl [1, 2, 3, 4] rfl)
    · have h := pt c24 h
      refine lv_bipush (v := (-3 : Int32)) hx hb dX5_measure_27 (by decide) ?_
      have hh := pe h
      simp only [Prod.mk.injEq] at hh
      obtain ⟨z0, z1⟩ := hh
      subst z1
      exact END _ _ 29 ls s _ z0 dX5_measure_29 rfl ⟨⟨_, _, hP⟩, hK⟩ hS

theorem syX5_least : Vy yX5_least cX5_least 4 (some .long) 3 := ⟨w_506, ⟨w_504, w_505⟩, w_4, by decide +kernel⟩
set_option maxHeartbeats 4000000 in
set_option maxRecDepth 100000 in
theorem cnX5_least (l : Launch) (G : va_G) (h0 hs hr : Nat) (cI cF : ClassId) (tr : Int64) (sz rw : Nat → Int32) (bx by_ bz bm so : Int32) (hap : mAp h0 hs hr) {a0 : Int32} {a1 : Int32} {a2 : Int32} {r : Int64} {bx_r : Int32} {by__r : Int32} {bz_r : Int32} {bm_r : Int32} {so_r : Int32} (h : fX5_least sz rw bx by_ bz bm so a0 a1 a2 = some (r, bx_r, by__r, bz_r, bm_r, so_r)) : Mu l yX5_least cX5_least 4 (some .long) 3 79 [.ref h0, .int a0, .int a1, .int a2] (mA h0 hs hr) (mB G h0 hs hr cI cF tr sz rw bx by_ bz bm so) (mB G h0 hs hr cI cF tr sz rw bx_r by__r bz_r bm_r so_r) (some (.long r)) := by
  refine mu_l (plainFor_of_name (by decide)) (Nat.le_of_ble_eq_true rfl) (by first | exact mB_mv | exact mBe_mv) ?_
  intro p e s m args below meth cd Q ls hF hB hl END
  have hF : CallFix p m cd cX5_least 4 s args (wl yX5_least cX5_least 4 (some .long)) RX5 := hF
  obtain ⟨hx, hb, hml, hown, hts⟩ := id hF
  have hl : lv_has ls 4 [(0, .ref h0), (1, .int a0), (2, .int a1), (3, .int a2)] := hl
  obtain ⟨⟨th, ex, hP⟩, hK⟩ := hB
  have hS : va_S (mA h0 hs hr) s.heap s.heap [] := va_S.rf
  rw [fX5_least] at h
  refine lv_aload_n hx hb dX5_least_0 rfl (lv_at hl 0 rfl) ?_
  refine lv_iconst (v := (0 : Int32)) hx hb dX5_least_1 (by decide) ?_
  refine va_put (D := G) (ci := 3) (v := .int (0 : Int32)) (ty := .int) (C := RX5) (T := TX5) (N := 10) hx hb hts (fun w h => wl_in (inX5 w h)) tyX5 tyX5_ok nmX5 hown hK hP (mD hap) hS 0 rfl rfl 0 (by decide) (hts _ (wl_in w_313)) (fun _ h9 => h9) rfl (by decide +kernel) rfl rfl (Nat.le_of_ble_eq_true rfl) dX5_least_2 (fun H locs hP _ hS => ?_)
  have hP : va_P G vwCl (mW h0 hs hr cI (0 : Int32) tr sz rw bx by_ bz bm so ex) H := hP
  refine lv_aload_n hx hb dX5_least_5 rfl (lv_at hl 0 rfl) ?_
  refine lv_iload_n hx hb dX5_least_6 rfl (lv_at hl 1 rfl) ?_
  obtain ⟨r1, e2, h⟩ := pb h
  refine ro_V (As := [.int a0]) (rest := []) hF (fun _ h => wl_in h) (cnX5_isThree l G h0 hs hr cI cF tr sz rw bx by_ bz bm so e2) syX5_isThree w_475 ⟨Nat.le_of_ble_eq_true rfl, Nat.le_of_ble_eq_true rfl⟩ mB_mv ⟨⟨_, _, hP⟩, hK⟩ (va_recv hK hP (ci := 3) (q0 := 0) rfl rfl) rfl hl.1 rfl (Nat.le_of_ble_eq_true rfl) dX5_least_7 ⟨Nat.zero_le _, Nat.zero_le _⟩ ?_
  refine lv_if_eq (tgt := 37) hx hb dX5_least_10 (by decide) (fun c10 => ?_) (fun c10 => ?_)
  · have h := pt c10 h
    refine lv_ldc2 (v := (-1000000000000000 : Int64)) hx hb hown (hts _ (wl_in w_485)) dX5_least_37 ?_
    have hh := pe h
    simp only [Prod.mk.injEq] at hh
    obtain ⟨z0, z1, z2, z3, z4, z5⟩ := hh
    subst z1
    subst z2
    subst z3
    subst z4
    subst z5
    exact END _ _ 40 ls s _ z0 dX5_least_40 rfl ⟨⟨_, _, hP⟩, hK⟩ hS
  · have h := pf c10 h
    refine lv_iload_n hx hb dX5_least_13 rfl (lv_at hl 2 rfl) ?_
    refine lv_i2l (v := a1.toInt64) hx hb dX5_least_14 rfl ?_
    refine lv_lconst (v := (0 : Int64)) hx hb dX5_least_15 (by decide) ?_
    refine lv_ldc2 (v := (2 : Int64)) hx hb hown (hts _ (wl_in w_362)) dX5_least_16 ?_
    obtain ⟨r3, e4, h⟩ := pb h
    refine ro_S (As := [.long a1.toInt64, .long (0 : Int64), .long (2 : Int64)]) (rest := []) hF (fun _ h => wl_in h) (cnX5_in l e4) syX5_in w_352 ⟨Nat.le_of_ble_eq_true rfl, Nat.le_of_ble_eq_true rfl⟩ mv0 trivial rfl hl.1 rfl (Nat.le_of_ble_eq_true rfl) dX5_least_19 ⟨Nat.zero_le _, Nat.zero_le _⟩ ?_
    refine lv_if_eq (tgt := 37) hx hb dX5_least_22 (by decide) (fun c22 => ?_) (fun c22 => ?_)
    · have h := pt c22 h
      refine lv_ldc2 (v := (-1000000000000000 : Int64)) hx hb hown (hts _ (wl_in w_485)) dX5_least_37 ?_
      have hh := pe h
      simp only [Prod.mk.injEq] at hh
      obtain ⟨z0, z1, z2, z3, z4, z5⟩ := hh
      subst z1
      subst z2
      subst z3
      subst z4
      subst z5
      exact END _ _ 40 ls s _ z0 dX5_least_40 rfl ⟨⟨_, _, hP⟩, hK⟩ hS
    · have h := pf c22 h
      refine lv_iload_n hx hb dX5_least_25 rfl (lv_at hl 3 rfl) ?_
      refine lv_i2l (v := a2.toInt64) hx hb dX5_least_26 rfl ?_
      refine lv_lconst (v := (0 : Int64)) hx hb dX5_least_27 (by decide) ?_
      refine lv_ldc2 (v := (3 : Int64)) hx hb hown (hts _ (wl_in w_393)) dX5_least_28 ?_
      obtain ⟨r5, e6, h⟩ := pb h
      refine ro_S (As := [.long a2.toInt64, .long (0 : Int64), .long (3 : Int64)]) (rest := []) hF (fun _ h => wl_in h) (cnX5_in l e6) syX5_in w_352 ⟨Nat.le_of_ble_eq_true rfl, Nat.le_of_ble_eq_true rfl⟩ mv0 trivial rfl hl.1 rfl (Nat.le_of_ble_eq_true rfl) dX5_least_31 ⟨Nat.zero_le _, Nat.zero_le _⟩ ?_
      refine lv_if_ne (tgt := 41) hx hb dX5_least_34 (by decide) (fun c34 => ?_) (fun c34 => ?_)
      · have h := pf c34 h
        refine lv_aload_n hx hb dX5_least_41 rfl (lv_at hl 0 rfl) ?_
        refine lv_iload_n hx hb dX5_least_42 rfl (lv_at hl 1 rfl) ?_
        refine lv_iload_n hx hb dX5_least_43 rfl (lv_at hl 2 rfl) ?_
        obtain ⟨⟨bxv9, by_v10, bzv11, bmv12, sov13⟩, e8, h⟩ := pb h
        refine mu_V (As := [.int a0, .int a1]) (rest := []) hF (fun _ h => wl_in h) (cnX5_seeks l G h0 hs hr cI cF tr sz rw bx by_ bz bm so hap e8) syX5_seeks w_507 ⟨Nat.le_of_ble_eq_true rfl, Nat.le_of_ble_eq_true rfl⟩ mB_mv mB_mv ⟨⟨_, _, hP⟩, hK⟩ (va_recv hK hP (ci := 3) (q0 := 0) rfl rfl) hS (fun _ h => h) rfl hl.1 rfl (Nat.le_of_ble_eq_true rfl) dX5_least_44 ⟨Nat.zero_le _, Nat.zero_le _⟩ (fun H locs hB1 _ _ hS => ?_)
        obtain ⟨⟨th14, ex15, hP⟩, _⟩ := hB1
        refine W.eq (g2 := F0 m 47 ls []) rfl ?_
        refine lv_aload_n hx hb dX5_least_47 rfl (lv_at hl 0 rfl) ?_
        refine va_get (D := G) (ci := 3) (v := .int sov13) (C := RX5) (T := TX5) (N := 10) hx hb hts (fun w h => wl_in (inX5 w h)) hown hK hP 0 rfl rfl 8 (by decide) (hts _ (wl_in w_321)) (fun _ h9 => h9) rfl dX5_least_48 ?_
        refine lv_if_ne (tgt := 58) hx hb dX5_least_51 (by decide) (fun c51 => ?_) (fun c51 => ?_)
        · have h := pf c51 h
          refine lv_iload_n hx hb dX5_least_58 rfl (lv_at hl 3 rfl) ?_
          refine lv_if_ne (tgt := 70) hx hb dX5_least_59 (by decide) (fun c59 => ?_) (fun c59 => ?_)
          · have h := pf c59 h
            refine lv_iload_n hx hb dX5_least_70 rfl (lv_at hl 3 rfl) ?_
            refine lv_iconst (v := (1 : Int32)) hx hb dX5_least_71 (by decide) ?_
            refine lv_icmp_ne (tgt := 83) hx hb dX5_least_72 (by decide) (fun c72 => ?_) (fun c72 => ?_)
            · have h := pf c72 h
              refine lv_iload_n hx hb dX5_least_83 rfl (lv_at hl 3 rfl) ?_
              refine lv_iconst (v := (2 : Int32)) hx hb dX5_least_84 (by decide) ?_
              refine lv_icmp_ne (tgt := 96) hx hb dX5_least_85 (by decide) (fun c85 => ?_) (fun c85 => ?_)
              · have h := pf c85 h
                refine lv_aload_n hx hb dX5_least_96 rfl (lv_at hl 0 rfl) ?_
                refine va_get (D := G) (ci := 3) (v := .int bmv12) (C := RX5) (T := TX5) (N := 10) hx hb hts (fun w h => wl_in (inX5 w h)) hown hK hP 0 rfl rfl 7 (by decide) (hts _ (wl_in w_320)) (fun _ h9 => h9) rfl dX5_least_97 ?_
                refine lv_i2l (v := bmv12.toInt64) hx hb dX5_least_100 rfl ?_
                have hh := pe h
                simp only [Prod.mk.injEq] at hh
                obtain ⟨z0, z1, z2, z3, z4, z5⟩ := hh
                subst z1
                subst z2
                subst z3
                subst z4
                subst z5
                exact END _ _ 101 ls s _ z0 dX5_least_101 rfl ⟨⟨_, _, hP⟩, hK⟩ hS
              · have h := pt c85 h
                refine lv_aload_n hx hb dX5_least_88 rfl (lv_at hl 0 rfl) ?_
                refine va_get (D := G) (ci := 3) (v := .int bzv11) (C := RX5) (T := TX5) (N := 10) hx hb hts (fun w h => wl_in (inX5 w h)) hown hK hP 0 rfl rfl 6 (by decide) (hts _ (wl_in w_319)) (fun _ h9 => h9) rfl dX5_least_89 ?_
                refine lv_i2l (v := bzv11.toInt64) hx hb dX5_least_92 rfl ?_
                refine lv_goto (tgt := 101) hx hb dX5_least_93 (by decide) ?_
                have hh := pe h
                simp only [Prod.mk.injEq] at hh
                obtain ⟨z0, z1, z2, z3, z4, z5⟩ := hh
                subst z1
                subst z2
                subst z3
                subst z4
                subst z5
                exact END _ _ 101 ls s _ z0 dX5_least_101 rfl ⟨⟨_, _, hP⟩, hK⟩ hS
            · have h := pt c72 h
              refine lv_aload_n hx hb dX5_least_75 rfl (lv_at hl 0 rfl) ?_
              refine va_get (D := G) (ci := 3) (v := .int by_v10) (C := RX5) (T := TX5) (N := 10) hx hb hts (fun w h => wl_in (inX5 w h)) hown hK hP 0 rfl rfl 5 (by decide) (hts _ (wl_in w_318)) (fun _ h9 => h9) rfl dX5_least_76 ?_
              refine lv_i2l (v := by_v10.toInt64) hx hb dX5_least_79 rfl ?_
              refine lv_goto (tgt := 101) hx hb dX5_least_80 (by decide) ?_
              have hh := pe h
              simp only [Prod.mk.injEq] at hh
              obtain ⟨z0, z1, z2, z3, z4, z5⟩ := hh
              subst z1
              subst z2
              subst z3
              subst z4
              subst z5
              exact END _ _ 101 ls s _ z0 dX5_least_101 rfl ⟨⟨_, _, hP⟩, hK⟩ hS
          · have h := pt c59 h
            refine lv_aload_n hx hb dX5_least_62 rfl (lv_at hl 0 rfl) ?_
            refine va_get (D := G) (ci := 3) (v := .int bxv9) (C := RX5) (T := TX5) (N := 10) hx hb hts (fun w h => wl_in (inX5 w h)) hown hK hP 0 rfl rfl 4 (by decide) (hts _ (wl_in w_317)) (fun _ h9 => h9) rfl dX5_least_63 ?_
            refine lv_i2l (v := bxv9.toInt64) hx hb dX5_least_66 rfl ?_
            refine lv_goto (tgt := 101) hx hb dX5_least_67 (by decide) ?_
            have hh := pe h
            simp only [Prod.mk.injEq] at hh
            obtain ⟨z0, z1, z2, z3, z4, z5⟩ := hh
            subst z1
            subst z2
            subst z3
            subst z4
            subst z5
            exact END _ _ 101 ls s _ z0 dX5_least_101 rfl ⟨⟨_, _, hP⟩, hK⟩ hS
        · have h := pt c51 h
          refine lv_ldc2 (v := (-999999999999999 : Int64)) hx hb hown (hts _ (wl_in w_521)) dX5_least_54 ?_
          have hh := pe h
          simp only [Prod.mk.injEq] at hh
          obtain ⟨z0, z1, z2, z3, z4, z5⟩ := hh
          subst z1
          subst z2
          subst z3
          subst z4
          subst z5
          exact END _ _ 57 ls s _ z0 dX5_least_57 rfl ⟨⟨_, _, hP⟩, hK⟩ hS
      · have h := pt c34 h
        refine lv_ldc2 (v := (-1000000000000000 : Int64)) hx hb hown (hts _ (wl_in w_485)) dX5_least_37 ?_
        have hh := pe h
        simp only [Prod.mk.injEq] at hh
        obtain ⟨z0, z1, z2, z3, z4, z5⟩ := hh
        subst z1
        subst z2
        subst z3
        subst z4
        subst z5
        exact END _ _ 40 ls s _ z0 dX5_least_40 rfl ⟨⟨_, _, hP⟩, hK⟩ hS

theorem syX5_many : Vy yX5_many cX5_many 2 (some .int) 1 := ⟨w_525, ⟨w_523, w_524⟩, w_4, by decide +kernel⟩
set_option maxHeartbeats 4000000 in
set_option maxRecDepth 100000 in
theorem cnX5_many (l : Launch) (G : va_G) (h0 hs hr : Nat) (cI cF : ClassId) (tr : Int64) (sz rw : Nat → Int32) (bx by_ bz bm so : Int32) (hap : mAp h0 hs hr) {a0 : Int32} {r : Int32} {bx_r : Int32} {by__r : Int32} {bz_r : Int32} {bm_r : Int32} {so_r : Int32} (h : fX5_many sz rw bx by_ bz bm so a0 = some (r, bx_r, by__r, bz_r, bm_r, so_r)) : Mu l yX5_many cX5_many 2 (some .int) 3 79 [.ref h0, .int a0] (mA h0 hs hr) (mB G h0 hs hr cI cF tr sz rw bx by_ bz bm so) (mB G h0 hs hr cI cF tr sz rw bx_r by__r bz_r bm_r so_r) (some (.int r)) := by
  refine mu_i (plainFor_of_name (by decide)) (Nat.le_of_ble_eq_true rfl) (by first | exact mB_mv | exact mBe_mv) ?_
  intro p e s m args below meth cd Q ls hF hB hl END
  have hF : CallFix p m cd cX5_many 2 s args (wl yX5_many cX5_many 2 (some .int)) RX5 := hF
  obtain ⟨hx, hb, hml, hown, hts⟩ := id hF
  have hl : lv_has ls 2 [(0, .ref h0), (1, .int a0)] := hl
  obtain ⟨⟨th, ex, hP⟩, hK⟩ := hB
  have hS : va_S (mA h0 hs hr) s.heap s.heap [] := va_S.rf
  rw [fX5_many] at h
  refine lv_aload_n hx hb dX5_many_0 rfl (lv_at hl 0 rfl) ?_
  refine lv_iconst (v := (0 : Int32)) hx hb dX5_many_1 (by decide) ?_
  refine va_put (D := G) (ci := 3) (v := .int (0 : Int32)) (ty := .int) (C := RX5) (T := TX5) (N := 10) hx hb hts (fun w h => wl_in (inX5 w h)) tyX5 tyX5_ok nmX5 hown hK hP (mD hap) hS 0 rfl rfl 0 (by decide) (hts _ (wl_in w_313)) (fun _ h9 => h9) rfl (by decide +kernel) rfl rfl (Nat.le_of_ble_eq_true rfl) dX5_many_2 (fun H locs hP _ hS => ?_)
  have hP : va_P G vwCl (mW h0 hs hr cI (0 : Int32) tr sz rw bx by_ bz bm so ex) H := hP
  refine lv_aload_n hx hb dX5_many_5 rfl (lv_at hl 0 rfl) ?_
  refine lv_iload_n hx hb dX5_many_6 rfl (lv_at hl 1 rfl) ?_
  obtain ⟨r1, e2, h⟩ := pb h
  refine ro_V (As := [.int a0]) (rest := []) hF (fun _ h => wl_in h) (cnX5_isThree l G h0 hs hr cI cF tr sz rw bx by_ bz bm so e2) syX5_isThree w_475 ⟨Nat.le_of_ble_eq_true rfl, Nat.le_of_ble_eq_true rfl⟩ mB_mv ⟨⟨_, _, hP⟩, hK⟩ (va_recv hK hP (ci := 3) (q0 := 0) rfl rfl) rfl hl.1 rfl (Nat.le_of_ble_eq_true rfl) dX5_many_7 ⟨Nat.zero_le _, Nat.zero_le _⟩ ?_
  refine lv_if_ne (tgt := 16) hx hb dX5_many_10 (by decide) (fun c10 => ?_) (fun c10 => ?_)
  · have h := pf c10 h
    refine lv_aload_n hx hb dX5_many_16 rfl (lv_at hl 0 rfl) ?_
    refine lv_iload_n hx hb dX5_many_17 rfl (lv_at hl 1 rfl) ?_
    refine lv_iconst (v := (0 : Int32)) hx hb dX5_many_18 (by decide) ?_
    obtain ⟨⟨bxv5, by_v6, bzv7, bmv8, sov9⟩, e4, h⟩ := pb h
    refine mu_V (As := [.int a0, .int (0 : Int32)]) (rest := []) hF (fun _ h => wl_in h) (cnX5_seeks l G h0 hs hr cI cF tr sz rw bx by_ bz bm so hap e4) syX5_seeks w_507 ⟨Nat.le_of_ble_eq_true rfl, Nat.le_of_ble_eq_true rfl⟩ mB_mv mB_mv ⟨⟨_, _, hP⟩, hK⟩ (va_recv hK hP (ci := 3) (q0 := 0) rfl rfl) hS (fun _ h => h) rfl hl.1 rfl (Nat.le_of_ble_eq_true rfl) dX5_many_19 ⟨Nat.zero_le _, Nat.zero_le _⟩ (fun H locs hB1 _ _ hS => ?_)
    obtain ⟨⟨th10, ex11, hP⟩, _⟩ := hB1
    refine W.eq (g2 := F0 m 22 ls []) rfl ?_
    refine lv_aload_n hx hb dX5_many_22 rfl (lv_at hl 0 rfl) ?_
    refine va_get (D := G) (ci := 3) (v := .int sov9) (C := RX5) (T := TX5) (N := 10) hx hb hts (fun w h => wl_in (inX5 w h)) hown hK hP 0 rfl rfl 8 (by decide) (hts _ (wl_in w_321)) (fun _ h9 => h9) rfl dX5_many_23 ?_
    have hh := pe h
    simp only [Prod.mk.injEq] at hh
    obtain ⟨z0, z1, z2, z3, z4, z5⟩ := hh
    subst z1
    subst z2
    subst z3
    subst z4
    subst z5
    exact END _ _ 26 ls s _ z0 dX5_many_26 rfl ⟨⟨_, _, hP⟩, hK⟩ hS
  · have h := pt c10 h
    refine lv_bipush (v := (-3 : Int32)) hx hb dX5_many_13 (by decide) ?_
    have hh := pe h
    simp only [Prod.mk.injEq] at hh
    obtain ⟨z0, z1, z2, z3, z4, z5⟩ := hh
    subst z1
    subst z2
    subst z3
    subst z4
    subst z5
    exact END _ _ 15 ls s _ z0 dX5_many_15 rfl ⟨⟨_, _, hP⟩, hK⟩ hS
