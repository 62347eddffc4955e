def kX4_free_15 (a0 : Int32) : Nat → Int32 → Option (Int32)
  | 0, _ => none
  | fu + 1, x2_15 =>
    (if x2_15 ≤ (1 : Int32) then some a0 else
    (if ¬ (x2_15 * x2_15) = 0 then (if (irm a0 (x2_15 * x2_15)) = 0 then (if ¬ (x2_15 * x2_15) = 0 then some (a0 / (x2_15 * x2_15)) else none) else
    (kX4_free_15 a0 fu) (x2_15 + (-1 : Int32))) else none))
def fX4_free (n : Nat → Int32) (f : Nat → Nat → Int32) (tr : Int64) (a0 : Int32) : Option (Int32) :=
    (fX4_isNumber a0 (1000000 : Int32)).bind fun (r1 : Int32) =>
    (if r1 = 0 then some (0 : Int32) else
    kX4_free_15 a0 1100 (1000 : Int32))
def fX4_sign (n : Nat → Int32) (f : Nat → Nat → Int32) (tr : Int64) (a0 : Int32) (a1 : Int32) (a2 : Int32) : Option (Int32) :=
    (fX4_isNumber a0 (1000000 : Int32)).bind fun (r1 : Int32) =>
    (if r1 = 0 then some (-3 : Int32) else
    (fX4_isNumber a1 (1000000 : Int32)).bind fun (r3 : Int32) =>
    (if r3 = 0 then some (-3 : Int32) else
    (fX2_isPlace a2).bind fun (r5 : Int32) =>
    (if r5 = 0 then some (-3 : Int32) else
    (fX2_signAt a0.toInt64 a1.toInt64 a2).bind fun (r7 : Int32) =>
    some r7)))
def kX4_odds_38 (a0 : Int32) (a1 : Int32) : Nat → Int32 → Int32 → Option (Int32)
  | 0, _, _ => none
  | fu + 1, x3_38, x6_38 =>
    (if (79 : Int32) ≤ x6_38 then some x3_38 else
    (if ¬ (x6_38 < 0 ∨ 79 ≤ x6_38.toNatClampNeg) then (fX2_signAt a0.toInt64 a1.toInt64 (allv x6_38.toNatClampNeg)).bind fun (r6 : Int32) =>
    (if 0 ≤ r6 then (kX4_odds_38 a0 a1 fu) x3_38 (x6_38 + (1 : Int32)) else
    (kX4_odds_38 a0 a1 fu) (x3_38 + (1 : Int32)) (x6_38 + (1 : Int32))) else none))
def fX4_odds (n : Nat → Int32) (f : Nat → Nat → Int32) (tr : Int64) (a0 : Int32) (a1 : Int32) : Option (Int32) :=
    (fX4_isNumber a0 (400 : Int32)).bind fun (r1 : Int32) =>
    (if r1 = 0 then some (-3 : Int32) else
    (fX4_isNumber a1 (400 : Int32)).bind fun (r3 : Int32) =>
    (if r3 = 0 then some (-3 : Int32) else
    kX4_odds_38 a0 a1 1100 (0 : Int32) (0 : Int32)))
def fX4_at (n : Nat → Int32) (f : Nat → Nat → Int32) (tr : Int64) (a0 : Int32) (a1 : Int32) : Option (Int32) :=
    (fX4_isShelf a0).bind fun (r1 : Int32) =>
    (if r1 = 0 then some (0 : Int32) else
    (if a1 < 0 then some (0 : Int32) else
    (if ¬ (a0 < 0 ∨ 4 ≤ a0.toNatClampNeg) then (if a1 < (n a0.toNatClampNeg) then (if ¬ (a0 < 0 ∨ 4 ≤ a0.toNatClampNeg) then (if ¬ (a1 < 0 ∨ 6 ≤ a1.toNatClampNeg) then some ((f a0.toNatClampNeg) a1.toNatClampNeg) else none) else none) else
    some (0 : Int32)) else none)))
def fX4_whole (n : Nat → Int32) (f : Nat → Nat → Int32) (tr : Int64) (a0 : Int32) (a1 : Int32) : Option (Int64) :=
    (fX4_isShelf a0).bind fun (r1 : Int32) =>
    (if r1 = 0 then some (0 : Int64) else
    (if a1 < 0 then some (0 : Int64) else
    (if a1 ≤ (1 : Int32) then (if a1 = 0 then (if ¬ (a0 < 0 ∨ 4 ≤ a0.toNatClampNeg) then (fX0_product (n a0.toNatClampNeg) (f a0.toNatClampNeg)).bind fun (r9 : Int64) =>
    some r9 else none) else
    (if ¬ (a0 < 0 ∨ 4 ≤ a0.toNatClampNeg) then (fX0_freeProduct (n a0.toNatClampNeg) (f a0.toNatClampNeg)).bind fun (r5 : Int64) =>
    some r5 else none)) else
    some (0 : Int64))))
def fX4_hold (n : Nat → Int32) (f : Nat → Nat → Int32) (tr : Int64) (a0 : Int32) (a1 : Int32) : Option (Int32) :=
    (fX4_isShelf a0).bind fun (r1 : Int32) =>
    (if r1 = 0 then some (-3 : Int32) else
    (fX2_isPlace a1).bind fun (r3 : Int32) =>
    (if r3 = 0 then some (-3 : Int32) else
    (if ¬ (a0 < 0 ∨ 4 ≤ a0.toNatClampNeg) then (fX0_signsAt (n a0.toNatClampNeg) (f a0.toNatClampNeg) a1).bind fun (r7 : Int32) =>
    some r7 else none)))
def fX4_goes (n : Nat → Int32) (f : Nat → Nat → Int32) (tr : Int64) (a0 : Int32) (a1 : Int32) : Option (Int32) :=
    (fX4_isShelf a0).bind fun (r1 : Int32) =>
    (if r1 = 0 then some (-3 : Int32) else
    (fX2_isPlace a1).bind fun (r3 : Int32) =>
    (if r3 = 0 then some (-3 : Int32) else
    (if ¬ (a0 < 0 ∨ 4 ≤ a0.toNatClampNeg) then (fX0_goesAt (n a0.toNatClampNeg) (f a0.toNatClampNeg) a1).bind fun (r7 : Int32) =>
    (if r7 = 0 then some (0 : Int32) else
    some (1 : Int32)) else none)))
def fX4_nought (n : Nat → Int32) (f : Nat → Nat → Int32) (tr : Int64) (a0 : Int32) : Option (Int32) :=
    (fX4_isShelf a0).bind fun (r1 : Int32) =>
    (if r1 = 0 then some (-3 : Int32) else
    (if ¬ (a0 < 0 ∨ 4 ≤ a0.toNatClampNeg) then (fX0_countBars (n a0.toNatClampNeg) (f a0.toNatClampNeg)).bind fun (r5 : Int32) =>
    (if r5 = 0 then some (1 : Int32) else
    some (0 : Int32)) else none))
def fX4_bars (n : Nat → Int32) (f : Nat → Nat → Int32) (tr : Int64) (a0 : Int32) : Option (Int32) :=
    (fX4_isShelf a0).bind fun (r1 : Int32) =>
    (if r1 = 0 then some (-3 : Int32) else
    (if ¬ (a0 < 0 ∨ 4 ≤ a0.toNatClampNeg) then (fX0_countBars (n a0.toNatClampNeg) (f a0.toNatClampNeg)).bind fun (r5 : Int32) =>
    some r5 else none))
def fX4_bar (n : Nat → Int32) (f : Nat → Nat → Int32) (tr : Int64) (a0 : Int32) (a1 : Int32) : Option (Int32) :=
    (fX4_isShelf a0).bind fun (r1 : Int32) =>
    (if r1 = 0 then some (-3 : Int32) else
    (if 0 ≤ a1 then (if ¬ (a0 < 0 ∨ 4 ≤ a0.toNatClampNeg) then (fX0_findBar (n a0.toNatClampNeg) (f a0.toNatClampNeg) a1).bind fun (r5 : Int32) =>
    (if 0 ≤ r5 then some r5 else
    some (-3 : Int32)) else none) else
    some (-3 : Int32)))
def fX4_alike (n : Nat → Int32) (f : Nat → Nat → Int32) (tr : Int64) (a0 : Int32) (a1 : Int32) : Option (Int32) :=
    (fX4_isShelf a0).bind fun (r1 : Int32) =>
    (if r1 = 0 then some (-3 : Int32) else
    (fX4_isShelf a1).bind fun (r3 : Int32) =>
    (if r3 = 0 then some (-3 : Int32) else
    (if ¬ (a0 < 0 ∨ 4 ≤ a0.toNatClampNeg) then (if ¬ (a1 < 0 ∨ 4 ≤ a1.toNatClampNeg) then (fX0_isAlike (n a0.toNatClampNeg) (f a0.toNatClampNeg) (n a1.toNatClampNeg) (f a1.toNatClampNeg)).bind fun (r9 : Int32) =>
    (if r9 = 0 then some (0 : Int32) else
    some (1 : Int32)) else none) else none)))
def fX4_worth (n : Nat → Int32) (f : Nat → Nat → Int32) (tr : Int64) (a0 : Int32) (a1 : Int32) (a2 : Int32) (a3 : Int32) : Option (Int64) :=
    (fX4_isShelf a0).bind fun (r1 : Int32) =>
    (if r1 = 0 then some (-1000000000000000 : Int64) else
    (if ¬ (a0 < 0 ∨ 4 ≤ a0.toNatClampNeg) then (if (n a0.toNatClampNeg) = (3 : Int32) then (fX4_areWithin a1 a2 a3 (1000 : Int32)).bind fun (r5 : Int32) =>
    (if r5 = 0 then some (-1000000000000000 : Int64) else
    (if ¬ (a0 < 0 ∨ 4 ≤ a0.toNatClampNeg) then (fX0_pairing (n a0.toNatClampNeg) (f a0.toNatClampNeg) a1 a2 a3 a1 a2 a3).bind fun (r9 : Int64) =>
    some r9 else none)) else
    some (-1000000000000000 : Int64)) else none))
def kX4_line_120 (n : Nat → Int32) (f : Nat → Nat → Int32) (a0 : Int32) (a1 : Int32) (a2 : Int32) (a3 : Int32) (a4 : Int32) (a5 : Int32) (a6 : Int32) (a7 : Int32) : Option (Int64) :=
    (fX0_pairing (n a0.toNatClampNeg) (f a0.toNatClampNeg) a4 a5 a6 a4 a5 a6).bind fun (r15 : Int64) =>
    (fX0_pairing (n a0.toNatClampNeg) (f a0.toNatClampNeg) a1 a2 a3 a4 a5 a6).bind fun (r17 : Int64) =>
    (fX4_reducer ((r15 * a1.toInt64) - (((2 : Int64) * r17) * a4.toInt64)) ((r15 * a2.toInt64) - (((2 : Int64) * r17) * a5.toInt64)) ((r15 * a3.toInt64) - (((2 : Int64) * r17) * a6.toInt64))).bind fun (r19 : Int64) =>
    (if (lg_cmp r19 (0 : Int64)) = 0 then (fX4_pick a7 a1.toInt64 a2.toInt64 a3.toInt64).bind fun (r24 : Int64) =>
    some r24 else
    (fX4_pick a7 ((r15 * a1.toInt64) - (((2 : Int64) * r17) * a4.toInt64)) ((r15 * a2.toInt64) - (((2 : Int64) * r17) * a5.toInt64)) ((r15 * a3.toInt64) - (((2 : Int64) * r17) * a6.toInt64))).bind fun (r21 : Int64) =>
    (if ¬ r19 = 0 then some (r21 / r19) else none))
def fX4_line (n : Nat → Int32) (f : Nat → Nat → Int32) (tr : Int64) (a0 : Int32) (a1 : Int32) (a2 : Int32) (a3 : Int32) (a4 : Int32) (a5 : Int32) (a6 : Int32) (a7 : Int32) : Option (Int64) :=
    (fX4_isShelf a0).bind fun (r1 : Int32) =>
    (if r1 = 0 then some (-1000000000000000 : Int64) else
    (if ¬ (a0 < 0 ∨ 4 ≤ a0.toNatClampNeg) then (if (n a0.toNatClampNeg) = (3 : Int32) then (if a7 < 0 then some (-1000000000000000 : Int64) else
    (if a7 ≤ (2 : Int32) then (if ¬ (a0 < 0 ∨ 4 ≤ a0.toNatClampNeg) then (fX4_areWithin a1 a2 a3 (30 : Int32)).bind fun (r7 : Int32) =>
    (if r7 = 0 then some (-1000000000000000 : Int64) else
    (fX4_isReduced a1 a2 a3).bind fun (r9 : Int32) =>
    (if r9 = 0 then some (-1000000000000000 : Int64) else
    (fX0_pairing (n a0.toNatClampNeg) (f a0.toNatClampNeg) a1 a2 a3 a1 a2 a3).bind fun (r11 : Int64) =>
    (if (lg_cmp r11 (0 : Int64)) = 0 then (fX4_areWithin a4 a5 a6 (30 : Int32)).bind fun (r13 : Int32) =>
    (if r13 = 0 then some (-1000000000000000 : Int64) else
    (if a4 = 0 then (if a5 = 0 then (if a6 = 0 then some (-1000000000000000 : Int64) else
    kX4_line_120 n f a0 a1 a2 a3 a4 a5 a6 a7) else
    kX4_line_120 n f a0 a1 a2 a3 a4 a5 a6 a7) else
    kX4_line_120 n f a0 a1 a2 a3 a4 a5 a6 a7)) else
    some (-1000000000000000 : Int64)))) else none) else
    some (-1000000000000000 : Int64))) else
    some (-1000000000000000 : Int64)) else none))
def fX4_count (n : Nat → Int32) (f : Nat → Nat → Int32) (tr : Int64) (a0 : Int32) (a1 : Int32) : Option (Int32) :=
    (fX4_isShelf a0).bind fun (r1 : Int32) =>
    (if r1 = 0 then some (-3 : Int32) else
    (if a1 < 0 then some (-3 : Int32) else
    (if a1 ≤ (1 : Int32) then (if a1 = 0 then (if ¬ (a0 < 0 ∨ 4 ≤ a0.toNatClampNeg) then some (n a0.toNatClampNeg) else none) else
    (if ¬ (a0 < 0 ∨ 4 ≤ a0.toNatClampNeg) then (fX0_countAbove (n a0.toNatClampNeg) (f a0.toNatClampNeg)).bind fun (r5 : Int32) =>
    some r5 else none)) else
    some (-3 : Int32))))
def fX4_trace (n : Nat → Int32) (f : Nat → Nat → Int32) (tr : Int64) : Option (Int64) :=
    some tr
theorem syX4_free : Vy yX4_free cX4_free 3 (some .int) 1 := ⟨w_79, ⟨w_77, w_78⟩, w_1, by decide +kernel⟩
set_option maxHeartbeats 4000000 in
set_option maxRecDepth 100000 in
theorem cnX4_free (l : Launch) (A : Nat → Prop) (G : va_G) (cI cF : ClassId) (tA tT : Nat) (o sh xx xc gv se : Nat) (fa ca : Nat → Nat) (n : Nat → Int32) (f : Nat → Nat → Int32) (xn : Int32) (xf gf : Nat → Int32) (s0 s1 s2 s3 s4 : Int32) (tr : Int64) {a0 : Int32} {r : Int32} (h : fX4_free n f tr a0 = some r) : Ro l yX4_free cX4_free 3 (some .int) 2 42 [.ref o, .int a0] (cB A G cI cF tA tT o sh xx xc gv se fa ca n f xn xf gf s0 s1 s2 s3 s4 tr) (.int r) := by
  refine ro_i (plainFor_of_name (by decide)) (Nat.le_of_ble_eq_true rfl) ?_
  intro p e s m args below meth cd Q ls hF hB hl END
  have hF : CallFix p m cd cX4_free 3 s args (wl yX4_free cX4_free 3 (some .int)) RX4 := hF
  obtain ⟨hx, hb, hml, hown, hts⟩ := id hF
  have hl : lv_has ls 3 [(0, .ref o), (1, .int a0)] := hl
  obtain ⟨hE, hP⟩ := id hB
  obtain ⟨hK, ⟨hZ, hT⟩, ⟨hZ2, hT2⟩⟩ := id hE
  have hS : va_S A s.heap s.heap [] := va_S.rf
  rw [fX4_free] at h
  refine lv_iload_n hx hb dX4_free_0 rfl (lv_at hl 1 rfl) ?_
  refine lv_ldc (v := (1000000 : Int32)) hx hb hown (hts _ (wl_in w_80)) dX4_free_1 ?_
  obtain ⟨r1, e2, h⟩ := pb h
  refine ro_S (As := [.int a0, .int (1000000 : Int32)]) (rest := []) hF (fun _ h => wl_in h) (cnX4_isNumber l e2) syX4_isNumber w_81 ⟨Nat.le_of_ble_eq_true rfl, Nat.le_of_ble_eq_true rfl⟩ mv0 trivial rfl hl.1 rfl (Nat.le_of_ble_eq_true rfl) dX4_free_3 ⟨Nat.zero_le _, Nat.zero_le _⟩ ?_
  refine lv_if_ne (tgt := 11) hx hb dX4_free_6 (by decide) (fun c6 => ?_) (fun c6 => ?_)
  · have h := pf c6 h
    refine lv_sipush (v := (1000 : Int32)) hx hb dX4_free_11 (by decide) ?_
    refine lv_istore_n (lv' := [(2, .int (1000 : Int32)), (0, .ref o), (1, .int a0)]) hx hb dX4_free_14 rfl hl (by decide) rfl (fun ls hl => ?_)
    have J15 : ∀ (n15 : Nat) (x2_15 : Int32), kX4_free_15 a0 n15 x2_15 = some r → ∀ (ls : Array Slot), lv_has ls 3 [(1, .int a0), (2, .int x2_15)] → W p l e (rmk 2 42) s m args below meth cd s.heap [] 0 0 Q (F0 m 15 ls []) := by
      intro n15
      induction n15 with
      | zero =>
        intro x2_15 h
        rw [kX4_free_15] at h
        cases h
      | succ n15 ih15 =>
        intro x2_15 h  ls hl
        rw [kX4_free_15] at h
        refine lv_iload_n hx hb dX4_free_15 rfl (lv_at hl 1 rfl) ?_
        refine lv_iconst (v := (1 : Int32)) hx hb dX4_free_16 (by decide) ?_
        refine lv_icmp_le (tgt := 40) hx hb dX4_free_17 (by decide) (fun c17 => ?_) (fun c17 => ?_)
        · have h := pt c17 h
          refine lv_iload_n hx hb dX4_free_40 rfl (lv_at hl 0 rfl) ?_
          exact END 41 ls _ (pe h) dX4_free_41
        · have h := pf c17 h
          refine lv_iload_n hx hb dX4_free_20 rfl (lv_at hl 0 rfl) ?_
          refine lv_iload_n hx hb dX4_free_21 rfl (lv_at hl 1 rfl) ?_
          refine lv_iload_n hx hb dX4_free_22 rfl (lv_at hl 1 rfl) ?_
          refine lv_imul hx hb dX4_free_23 ?_
          obtain ⟨g3, h⟩ := pg h
          refine lq_irem hx hb dX4_free_24 g3 ?_
          refine lv_if_ne (tgt := 34) hx hb dX4_free_25 (by decide) (fun c25 => ?_) (fun c25 => ?_)
          · have h := pf c25 h
            refine lv_iinc (v := x2_15 + (-1 : Int32)) (lv' := [(2, .int (x2_15 + (-1 : Int32))), (1, .int a0)]) hx hb dX4_free_34 hl (k := 1) rfl rfl (by decide) rfl (fun ls hl => ?_)
            refine lv_goto (tgt := 15) hx hb dX4_free_37 (by decide) ?_
            exact ih15 _ h  _ (lv_sub hl [1, 0] rfl)
          · have h := pt c25 h
            refine lv_iload_n hx hb dX4_free_28 rfl (lv_at hl 0 rfl) ?_
            refine lv_iload_n hx hb dX4_free_29 rfl (lv_at hl 1 rfl) ?_
            refine lv_iload_n hx hb dX4_free_30 rfl (lv_at hl 1 rfl) ?_
            refine lv_imul hx hb dX4_free_31 ?_
            obtain ⟨g4, h⟩ := pg h
            refine lv_idiv hx hb dX4_free_32 g4 ?_
            exact END 33 ls _ (pe h) dX4_free_33
    exact J15 _ _ h  _ (lv_sub hl [2, 0] rfl)
  · have h := pt c6 h
    refine lv_iconst (v := (0 : Int32)) hx hb dX4_free_9 (by decide) ?_
    exact END 10 ls _ (pe h) dX4_free_10

theorem syX4_sign : Vy yX4_sign cX4_sign 4 (some .int) 3 := ⟨w_90, ⟨w_88, w_89⟩, w_1, by decide +kernel⟩
set_option maxHeartbeats 4000000 in
set_option maxRecDepth 100000 in
theorem cnX4_sign (l : Launch) (A : Nat → Prop) (G : va_G) (cI cF : ClassId) (tA tT : Nat) (o sh xx xc gv se : Nat) (fa ca : Nat → Nat) (n : Nat → Int32) (f : Nat → Nat → Int32) (xn : Int32) (xf gf : Nat → Int32) (s0 s1 s2 s3 s4 : Int32) (tr : Int64) {a0 : Int32} {a1 : Int32} {a2 : Int32} {r : Int32} (h : fX4_sign n f tr a0 a1 a2 = some r) : Ro l yX4_sign cX4_sign 4 (some .int) 3 79 [.ref o, .int a0, .int a1, .int a2] (cB A G cI cF tA tT o sh xx xc gv se fa ca n f xn xf gf s0 s1 s2 s3 s4 tr) (.int r) := by
  refine ro_i (plainFor_of_name (by decide)) (Nat.le_of_ble_eq_true rfl) ?_
  intro p e s m args below meth cd Q ls hF hB hl END
  have hF : CallFix p m cd cX4_sign 4 s args (wl yX4_sign cX4_sign 4 (some .int)) RX4 := hF
  obtain ⟨hx, hb, hml, hown, hts⟩ := id hF
  have hl : lv_has ls 4 [(0, .ref o), (1, .int a0), (2, .int a1), (3, .int a2)] := hl
  obtain ⟨hE, hP⟩ := id hB
  obtain ⟨hK, ⟨hZ, hT⟩, ⟨hZ2, hT2⟩⟩ := id hE
  have hS : va_S A s.heap s.heap [] := va_S.rf
  rw [fX4_sign] at h
  refine lv_iload_n hx hb dX4_sign_0 rfl (lv_at hl 1 rfl) ?_
  refine lv_ldc (v := (1000000 : Int32)) hx hb hown (hts _ (wl_in w_80)) dX4_sign_1 ?_
  obtain ⟨r1, e2, h⟩ := pb h
  refine ro_S (As := [.int a0, .int (1000000 : Int32)]) (rest := []) hF (fun _ h => wl_in h) (cnX4_isNumber l e2) syX4_isNumber w_81 ⟨Nat.le_of_ble_eq_true rfl, Nat.le_of_ble_eq_true rfl⟩ mv0 trivial rfl hl.1 rfl (Nat.le_of_ble_eq_true rfl) dX4_sign_3 ⟨Nat.zero_le _, Nat.zero_le _⟩ ?_
  refine lv_if_eq (tgt := 25) hx hb dX4_sign_6 (by decide) (fun c6 => ?_) (fun c6 => ?_)
  · have h := pt c6 h
    refine lv_bipush (v := (-3 : Int32)) hx hb dX4_sign_25 (by decide) ?_
    exact END 27 ls _ (pe h) dX4_sign_27
  · have h := pf c6 h
    refine lv_iload_n hx hb dX4_sign_9 rfl (lv_at hl 2 rfl) ?_
    refine lv_ldc (v := (1000000 : Int32)) hx hb hown (hts _ (wl_in w_80)) dX4_sign_10 ?_
    obtain ⟨r3, e4, h⟩ := pb h
    refine ro_S (As := [.int a1, .int (1000000 : Int32)]) (rest := []) hF (fun _ h => wl_in h) (cnX4_isNumber l e4) syX4_isNumber w_81 ⟨Nat.le_of_ble_eq_true rfl, Nat.le_of_ble_eq_true rfl⟩ mv0 trivial rfl hl.1 rfl (Nat.le_of_ble_eq_true rfl) dX4_sign_12 ⟨Nat.zero_le _, Nat.zero_le _⟩ ?_
    refine lv_if_eq (tgt := 25) hx hb dX4_sign_15 (by decide) (fun c15 => ?_) (fun c15 => ?_)
    · have h := pt c15 h
      refine lv_bipush (v := (-3 : Int32)) hx hb dX4_sign_25 (by decide) ?_
      exact END 27 ls _ (pe h) dX4_sign_27
    · have h := pf c15 h
      refine lv_iload_n hx hb dX4_sign_18 rfl (lv_at hl 3 rfl) ?_
      obtain ⟨r5, e6, h⟩ := pb h
      refine ro_S (As := [.int a2]) (rest := []) hF (fun _ h => wl_in h) (cnX2_isPlace l A G cI cF tA tT e6) syX2_isPlace w_91 ⟨Nat.le_of_ble_eq_true rfl, Nat.le_of_ble_eq_true rfl⟩ eB_mv hE rfl hl.1 rfl (Nat.le_of_ble_eq_true rfl) dX4_sign_19 ⟨Nat.zero_le _, Nat.zero_le _⟩ ?_
      refine lv_if_ne (tgt := 28) hx hb dX4_sign_22 (by decide) (fun c22 => ?_) (fun c22 => ?_)
      · have h := pf c22 h
        refine lv_iload_n hx hb dX4_sign_28 rfl (lv_at hl 1 rfl) ?_
        refine lv_i2l (v := a0.toInt64) hx hb dX4_sign_29 rfl ?_
        refine lv_iload_n hx hb dX4_sign_30 rfl (lv_at hl 2 rfl) ?_
        refine lv_i2l (v := a1.toInt64) hx hb dX4_sign_31 rfl ?_
        refine lv_iload_n hx hb dX4_sign_32 rfl (lv_at hl 3 rfl) ?_
        obtain ⟨r7, e8, h⟩ := pb h
        refine ro_S (As := [.long a0.toInt64, .long a1.toInt64, .int a2]) (rest := []) hF (fun _ h => wl_in h) (cnX2_signAt l e8) syX2_signAt w_96 ⟨Nat.le_of_ble_eq_true rfl, Nat.le_of_ble_eq_true rfl⟩ mv0 trivial rfl hl.1 rfl (Nat.le_of_ble_eq_true rfl) dX4_sign_33 ⟨Nat.zero_le _, Nat.zero_le _⟩ ?_
        exact END 36 ls _ (pe h) dX4_sign_36
      · have h := pt c22 h
        refine lv_bipush (v := (-3 : Int32)) hx hb dX4_sign_25 (by decide) ?_
        exact END 27 ls _ (pe h) dX4_sign_27

theorem syX4_odds : Vy yX4_odds cX4_odds 8 (some .int) 2 := ⟨w_120, ⟨w_118, w_119⟩, w_1, by decide +kernel⟩
set_option maxHeartbeats 4000000 in
set_option maxRecDepth 100000 in
theorem cnX4_odds (l : Launch) (A : Nat → Prop) (G : va_G) (cI cF : ClassId) (tA tT : Nat) (o sh xx xc gv se : Nat) (fa ca : Nat → Nat) (n : Nat → Int32) (f : Nat → Nat → Int32) (xn : Int32) (xf gf : Nat → Int32) (s0 s1 s2 s3 s4 : Int32) (tr : Int64) {a0 : Int32} {a1 : Int32} {r : Int32} (h : fX4_odds n f tr a0 a1 = some r) : Ro l yX4_odds cX4_odds 8 (some .int) 3 79 [.ref o, .int a0, .int a1] (cB A G cI cF tA tT o sh xx xc gv se fa ca n f xn xf gf s0 s1 s2 s3 s4 tr) (.int r) := by
  refine ro_i (plainFor_of_name (by decide)) (Nat.le_of_ble_eq_true rfl) ?_
  intro p e s m args below meth cd Q ls hF hB hl END
  have hF : CallFix p m cd cX4_odds 8 s args (wl yX4_odds cX4_odds 8 (some .int)) RX4 := hF
  obtain ⟨hx, hb, hml, hown, hts⟩ := id hF
  have hl : lv_has ls 8 [(0, .ref o), (1, .int a0), (2, .int a1)] := hl
  obtain ⟨hE, hP⟩ := id hB
  obtain ⟨hK, ⟨hZ, hT⟩, ⟨hZ2, hT2⟩⟩ := id hE
  have hS : va_S A s.heap s.heap [] := va_S.rf
  rw [fX4_odds] at h
  refine lv_iload_n hx hb dX4_odds_0 rfl (lv_at hl 1 rfl) ?_
  refine lv_sipush (v := (400 : Int32)) hx hb dX4_odds_1 (by decide) ?_
  obtain ⟨r1, e2, h⟩ := pb h
  refine ro_S (As := [.int a0, .int (400 : Int32)]) (rest := []) hF (fun _ h => wl_in h) (cnX4_isNumber l e2) syX4_isNumber w_81 ⟨Nat.le_of_ble_eq_true rfl, Nat.le_of_ble_eq_true rfl⟩ mv0 trivial rfl hl.1 rfl (Nat.le_of_ble_eq_true rfl) dX4_odds_4 ⟨Nat.zero_le _, Nat.zero_le _⟩ ?_
  refine lv_if_eq (tgt := 20) hx hb dX4_odds_7 (by decide) (fun c7 => ?_) (fun c7 => ?_)
  · have h := pt c7 h
    refine lv_bipush (v := (-3 : Int32)) hx hb dX4_odds_20 (by decide) ?_
    exact END 22 ls _ (pe h) dX4_odds_22
  · have h := pf c7 h
    refine lv_iload_n hx hb dX4_odds_10 rfl (lv_at hl 2 rfl) ?_
    refine lv_sipush (v := (400 : Int32)) hx hb dX4_odds_11 (by decide) ?_
    obtain ⟨r3, e4, h⟩ := pb h
    refine ro_S (As := [.int a1, .int (400 : Int32)]) (rest := []) hF (fun _ h => wl_in h) (cnX4_isNumber l e4) syX4_isNumber w_81 ⟨Nat.le_of_ble_eq_true rfl, Nat.le_of_ble_eq_true rfl⟩ mv0 trivial rfl hl.1 rfl (Nat.le_of_ble_eq_true rfl) dX4_odds_14 ⟨Nat.zero_le _, Nat.zero_le _⟩ ?_
    refine lv_if_ne (tgt := 23) hx hb dX4_odds_17 (by decide) (fun c17 => ?_) (fun c17 => ?_)
    · have h := pf c17 h
      refine lv_iconst (v := (0 : Int32)) hx hb dX4_odds_23 (by decide) ?_
      refine lv_istore_n (lv' := [(3, .int (0 : Int32)), (0, .ref o), (1, .int a0), (2, .int a1)]) hx hb dX4_odds_24 rfl hl (by decide) rfl (fun ls hl => ?_)
      refine va_gets hx hb hZ hS hown (hts _ (wl_in w_121)) (fun _ h9 => h9) dX4_odds_25 ?_
      refine lv_astore (lv' := [(4, .ref tA), (3, .int (0 : Int32)), (0, .ref o), (1, .int a0), (2, .int a1)]) hx hb dX4_odds_28 hl (by decide) rfl (fun ls hl => ?_)
      refine lv_aload hx hb dX4_odds_30 (lv_at hl 0 rfl) ?_
      refine va_tlen (v := (79 : Int32)) hx hb hT hS rfl dX4_odds_32 ?_
      refine lv_istore (lv' := [(5, .int (79 : Int32)), (4, .ref tA), (3, .int (0 : Int32)), (0, .ref o), (1, .int a0), (2, .int a1)]) hx hb dX4_odds_33 hl (by decide) rfl (fun ls hl => ?_)
      refine lv_iconst (v := (0 : Int32)) hx hb dX4_odds_35 (by decide) ?_
      refine lv_istore (lv' := [(6, .int (0 : Int32)), (5, .int (79 : Int32)), (4, .ref tA), (3, .int (0 : Int32)), (0, .ref o), (1, .int a0), (2, .int a1)]) hx hb dX4_odds_36 hl (by decide) rfl (fun ls hl => ?_)
      have J38 : ∀ (n38 : Nat) (x3_38 : Int32) (x6_38 : Int32), kX4_odds_38 a0 a1 n38 x3_38 x6_38 = some r → ∀ (ls : Array Slot), lv_has ls 8 [(5, .int (79 : Int32)), (4, .ref tA), (1, .int a0), (2, .int a1), (3, .int x3_38), (6, .int x6_38)] → W p l e (rmk 3 79) s m args below meth cd s.heap [] 0 0 Q (F0 m 38 ls []) := by
        intro n38
        induction n38 with
        | zero =>
          intro x3_38 x6_38 h
          rw [kX4_odds_38] at h
          cases h
        | succ n38 ih38 =>
          intro x3_38 x6_38 h  ls hl
          rw [kX4_odds_38] at h
          refine lv_iload hx hb dX4_odds_38 (lv_at hl 5 rfl) ?_
          refine lv_iload hx hb dX4_odds_40 (lv_at hl 0 rfl) ?_
          refine lv_icmp_ge (tgt := 73) hx hb dX4_odds_42 (by decide) (fun c42 => ?_) (fun c42 => ?_)
          · have h := pt c42 h
            refine lv_iload_n hx hb dX4_odds_73 rfl (lv_at hl 4 rfl) ?_
            exact END 74 ls _ (pe h) dX4_odds_74
          · have h := pf c42 h
            refine lv_aload hx hb dX4_odds_45 (lv_at hl 1 rfl) ?_
            refine lv_iload hx hb dX4_odds_47 (lv_at hl 5 rfl) ?_
            obtain ⟨g5, h⟩ := pg h
            refine va_ti (v := .int (allv x6_38.toNatClampNeg)) hx hb hT hS g5 rfl dX4_odds_49 ?_
            refine lv_istore (lv' := [(7, .int (allv x6_38.toNatClampNeg)), (5, .int (79 : Int32)), (4, .ref tA), (1, .int a0), (2, .int a1), (3, .int x3_38), (6, .int x6_38)]) hx hb dX4_odds_50 hl (by decide) rfl (fun ls hl => ?_)
            refine lv_iload_n hx hb dX4_odds_52 rfl (lv_at hl 3 rfl) ?_
            refine lv_i2l (v := a0.toInt64) hx hb dX4_odds_53 rfl ?_
            refine lv_iload_n hx hb dX4_odds_54 rfl (lv_at hl 4 rfl) ?_
            refine lv_i2l (v := a1.toInt64) hx hb dX4_odds_55 rfl ?_
            refine lv_iload hx hb dX4_odds_56 (lv_at hl 0 rfl) ?_
            obtain ⟨r6, e7, h⟩ := pb h
            refine ro_S (As := [.long a0.toInt64, .long a1.toInt64, .int (allv x6_38.toNatClampNeg)]) (rest := []) hF (fun _ h => wl_in h) (cnX2_signAt l e7) syX2_signAt w_96 ⟨Nat.le_of_ble_eq_true rfl, Nat.le_of_ble_eq_true rfl⟩ mv0 trivial rfl hl.1 rfl (Nat.le_of_ble_eq_true rfl) dX4_odds_58 ⟨Nat.zero_le _, Nat.zero_le _⟩ ?_
            refine lv_if_ge (tgt := 67) hx hb dX4_odds_61 (by decide) (fun c61 => ?_) (fun c61 => ?_)
            · have h := pt c61 h
              refine lv_iinc (v := x6_38 + (1 : Int32)) (lv' := [(6, .int (x6_38 + (1 : Int32))), (7, .int (allv x6_38.toNatClampNeg)), (5, .int (79 : Int32)), (4, .ref tA), (1, .int a0), (2, .int a1), (3, .int x3_38)]) hx hb dX4_odds_67 hl (k := 6) rfl rfl (by decide) rfl (fun ls hl => ?_)
              refine lv_goto (tgt := 38) hx hb dX4_odds_70 (by decide) ?_
              exact ih38 _ _ h  _ (lv_sub hl [2, 3, 4, 5, 6, 0] rfl)
            · have h := pf c61 h
              refine lv_iinc (v := x3_38 + (1 : Int32)) (lv' := [(3, .int (x3_38 + (1 : Int32))), (7, .int (allv x6_38.toNatClampNeg)), (5, .int (79 : Int32)), (4, .ref tA), (1, .int a0), (2, .int a1), (6, .int x6_38)]) hx hb dX4_odds_64 hl (k := 5) rfl rfl (by decide) rfl (fun ls hl => ?_)
              refine lv_iinc (v := x6_38 + (1 : Int32)) (lv' := [(6, .int (x6_38 + (1 : Int32))), (3, .int (x3_38 + (1 : Int32))), (7, .int (allv x6_38.toNatClampNeg)), (5, .int (79 : Int32)), (4, .ref tA), (1, .int a0), (2, .int a1)]) hx hb dX4_odds_67 hl (k := 6) rfl rfl (by decide) rfl (fun ls hl => ?_)
              refine lv_goto (tgt := 38) hx hb dX4_odds_70 (by decide) ?_
              exact ih38 _ _ h  _ (lv_sub hl [3, 4, 5, 6, 1, 0] rfl)
      exact J38 _ _ _ h  _ (lv_sub hl [1, 2, 5, 6, 3, 0] rfl)
    · have h := pt c17 h
      refine lv_bipush (v := (-3 : Int32)) hx hb dX4_odds_20 (by decide) ?_
      exact END 22 ls _ (pe h) dX4_odds_22

theorem syX4_at : Vy yX4_at cX4_at 3 (some .int) 2 := ⟨w_136, ⟨w_134, w_135⟩, w_1, by decide +kernel⟩
set_option maxHeartbeats 4000000 in
set_option maxRecDepth 100000 in
theorem cnX4_at (l : Launch) (A : Nat → Prop) (G : va_G) (cI cF : ClassId) (tA tT : Nat) (o sh xx xc gv se : Nat) (fa ca : Nat → Nat) (n : Nat → Int32) (f : Nat → Nat → Int32) (xn : Int32) (xf gf : Nat → Int32) (s0 s1 s2 s3 s4 : Int32) (tr : Int64) {a0 : Int32} {a1 : Int32} {r : Int32} (h : fX4_at n f tr a0 a1 = some r) : Ro l yX4_at cX4_at 3 (some .int) 1 20 [.ref o, .int a0, .int a1] (cB A G cI cF tA tT o sh xx xc gv se fa ca n f xn xf gf s0 s1 s2 s3 s4 tr) (.int r) := by
  refine ro_i (plainFor_of_name (by decide)) (Nat.le_of_ble_eq_true rfl) ?_
  intro p e s m args below meth cd Q ls hF hB hl END
  have hF : CallFix p m cd cX4_at 3 s args (wl yX4_at cX4_at 3 (some .int)) RX4 := hF
  obtain ⟨hx, hb, hml, hown, hts⟩ := id hF
  have hl : lv_has ls 3 [(0, .ref o), (1, .int a0), (2, .int a1)] := hl
  obtain ⟨hE, hP⟩ := id hB
  obtain ⟨hK, ⟨hZ, hT⟩, ⟨hZ2, hT2⟩⟩ := id hE
  have hS : va_S A s.heap s.heap [] := va_S.rf
  rw [fX4_at] at h
  refine lv_iload_n hx hb dX4_at_0 rfl (lv_at hl 1 rfl) ?_
  obtain ⟨r1, e2, h⟩ := pb h
  refine ro_S (As := [.int a0]) (rest := []) hF (fun _ h => wl_in h) (cnX4_isShelf l e2) syX4_isShelf w_126 ⟨Nat.le_of_ble_eq_true rfl, Nat.le_of_ble_eq_true rfl⟩ mv0 trivial rfl hl.1 rfl (Nat.le_of_ble_eq_true rfl) dX4_at_1 ⟨Nat.zero_le _, Nat.zero_le _⟩ ?_
  refine lv_if_eq (tgt := 24) hx hb dX4_at_4 (by decide) (fun c4 => ?_) (fun c4 => ?_)
  · have h := pt c4 h
    refine lv_iconst (v := (0 : Int32)) hx hb dX4_at_24 (by decide) ?_
    exact END 25 ls _ (pe h) dX4_at_25
  · have h := pf c4 h
    refine lv_iload_n hx hb dX4_at_7 rfl (lv_at hl 2 rfl) ?_
    refine lv_if_lt (tgt := 24) hx hb dX4_at_8 (by decide) (fun c8 => ?_) (fun c8 => ?_)
    · have h := pt c8 h
      refine lv_iconst (v := (0 : Int32)) hx hb dX4_at_24 (by decide) ?_
      exact END 25 ls _ (pe h) dX4_at_25
    · have h := pf c8 h
      refine lv_iload_n hx hb dX4_at_11 rfl (lv_at hl 2 rfl) ?_
      refine lv_aload_n hx hb dX4_at_12 rfl (lv_at hl 0 rfl) ?_
      refine va_get (D := G) (ci := 2) (v := .ref sh) (C := RX4) (T := TX4) (N := 5) hx hb hts (fun w h => wl_in (inX4 w h)) hown hK hP 0 rfl rfl 0 (by decide) (hts _ (wl_in w_60)) (fun _ h9 => h9) rfl dX4_at_13 ?_
      refine lv_iload_n hx hb dX4_at_16 rfl (lv_at hl 1 rfl) ?_
      obtain ⟨g3, h⟩ := pg h
      refine c_aald hx hb hK hP g3 dX4_at_17 ?_
      have hPj4 := cP_form hP (vin_lt g3)
      refine va_get (D := G) (ci := 0) (v := .int (n a0.toNatClampNeg)) (C := RX0) (T := TX0) (N := 2) hx hb hts (fun w h => wl_in (inX0 w h)) hown hK hPj4 0 rfl rfl 0 (by decide) (hts _ (wl_in w_24)) (fun _ h9 => h9) rfl dX4_at_18 ?_
      refine lv_icmp_lt (tgt := 26) hx hb dX4_at_21 (by decide) (fun c21 => ?_) (fun c21 => ?_)
      · have h := pt c21 h
        refine lv_aload_n hx hb dX4_at_26 rfl (lv_at hl 0 rfl) ?_
        refine va_get (D := G) (ci := 2) (v := .ref sh) (C := RX4) (T := TX4) (N := 5) hx hb hts (fun w h => wl_in (inX4 w h)) hown hK hP 0 rfl rfl 0 (by decide) (hts _ (wl_in w_60)) (fun _ h9 => h9) rfl dX4_at_27 ?_
        refine lv_iload_n hx hb dX4_at_30 rfl (lv_at hl 1 rfl) ?_
        obtain ⟨g5, h⟩ := pg h
        refine c_aald hx hb hK hP g5 dX4_at_31 ?_
        have hPj6 := cP_form hP (vin_lt g5)
        refine va_get (D := G) (ci := 0) (v := .ref (ca a0.toNatClampNeg)) (C := RX0) (T := TX0) (N := 2) hx hb hts (fun w h => wl_in (inX0 w h)) hown hK hPj6 0 rfl rfl 1 (by decide) (hts _ (wl_in w_26)) (fun _ h9 => h9) rfl dX4_at_32 ?_
        refine lv_iload_n hx hb dX4_at_35 rfl (lv_at hl 2 rfl) ?_
        obtain ⟨g7, h⟩ := pg h
        refine va_iald hx hb hK hPj6 1 0 rfl rfl g7 dX4_at_36 ?_
        exact END 37 ls _ (pe h) dX4_at_37
      · have h := pf c21 h
        refine lv_iconst (v := (0 : Int32)) hx hb dX4_at_24 (by decide) ?_
        exact END 25 ls _ (pe h) dX4_at_25

theorem syX4_whole : Vy yX4_whole cX4_whole 3 (some .long) 2 := ⟨w_140, ⟨w_138, w_139⟩, w_1, by decide +kernel⟩
set_option maxHeartbeats 4000000 in
set_option maxRecDepth 100000 in
theorem cnX4_whole (l : Launch) (A : Nat → Prop) (G : va_G) (cI cF : ClassId) (tA tT : Nat) (o sh xx xc gv se : Nat) (fa ca : Nat → Nat) (n : Nat → Int32) (f : Nat → Nat → Int32) (xn : Int32) (xf gf : Nat → Int32) (s0 s1 s2 s3 s4 : Int32) (tr : Int64) {a0 : Int32} {a1 : Int32} {r : Int64} (h : fX4_whole n f tr a0 a1 = some r) : Ro l yX4_whole cX4_whole 3 (some .long) 2 51 [.ref o, .int a0, .int a1] (cB A G cI cF tA tT o sh xx xc gv se fa ca n f xn xf gf s0 s1 s2 s3 s4 tr) (.long r) := by
  refine ro_l (plainFor_of_name (by decide)) (Nat.le_of_ble_eq_true rfl) ?_
  intro p e s m args below meth cd Q ls hF hB hl END
  have hF : CallFix p m cd cX4_whole 3 s args (wl yX4_whole cX4_whole 3 (some .long)) RX4 := hF
  obtain ⟨hx, hb, hml, hown, hts⟩ := id hF
  have hl : lv_has ls 3 [(0, .ref o), (1, .int a0), (2, .int a1)] := hl
  obtain ⟨hE, hP⟩ := id hB
  obtain ⟨hK, ⟨hZ, hT⟩, ⟨hZ2, hT2⟩⟩ := id hE
  have hS : va_S A s.heap s.heap [] := va_S.rf
  rw [fX4_whole] at h
  refine lv_iload_n hx hb dX4_whole_0 rfl (lv_at hl 1 rfl) ?_
  obtain ⟨r1, e2, h⟩ := pb h
  refine ro_S (As := [.int a0]) (rest := []) hF (fun _ h => wl_in h) (cnX4_isShelf l e2) syX4_isShelf w_126 ⟨Nat.le_of_ble_eq_true rfl, Nat.le_of_ble_eq_true rfl⟩ mv0 trivial rfl hl.1 rfl (Nat.le_of_ble_eq_true rfl) dX4_whole_1 ⟨Nat.zero_le _, Nat.zero_le _⟩ ?_
  refine lv_if_eq (tgt := 16) hx hb dX4_whole_4 (by decide) (fun c4 => ?_) (fun c4 => ?_)
  · have h := pt c4 h
    refine lv_lconst (v := (0 : Int64)) hx hb dX4_whole_16 (by decide) ?_
    exact END 17 ls _ (pe h) dX4_whole_17
  · have h := pf c4 h
    refine lv_iload_n hx hb dX4_whole_7 rfl (lv_at hl 2 rfl) ?_
    refine lv_if_lt (tgt := 16) hx hb dX4_whole_8 (by decide) (fun c8 => ?_) (fun c8 => ?_)
    · have h := pt c8 h
      refine lv_lconst (v := (0 : Int64)) hx hb dX4_whole_16 (by decide) ?_
      exact END 17 ls _ (pe h) dX4_whole_17
    · have h := pf c8 h
      refine lv_iload_n hx hb dX4_whole_11 rfl (lv_at hl 2 rfl) ?_
      refine lv_iconst (v := (1 : Int32)) hx hb dX4_whole_12 (by decide) ?_
      refine lv_icmp_le (tgt := 18) hx hb dX4_whole_13 (by decide) (fun c13 => ?_) (fun c13 => ?_)
      · have h := pt c13 h
        refine lv_iload_n hx hb dX4_whole_18 rfl (lv_at hl 2 rfl) ?_
        refine lv_if_ne (tgt := 34) hx hb dX4_whole_19 (by decide) (fun c19 => ?_) (fun c19 => ?_)
        · have h := pf c19 h
          refine lv_aload_n hx hb dX4_whole_34 rfl (lv_at hl 0 rfl) ?_
          refine va_get (D := G) (ci := 2) (v := .ref sh) (C := RX4) (T := TX4) (N := 5) hx hb hts (fun w h => wl_in (inX4 w h)) hown hK hP 0 rfl rfl 0 (by decide) (hts _ (wl_in w_60)) (fun _ h9 => h9) rfl dX4_whole_35 ?_
          refine lv_iload_n hx hb dX4_whole_38 rfl (lv_at hl 1 rfl) ?_
          obtain ⟨g3, h⟩ := pg h
          refine c_aald hx hb hK hP g3 dX4_whole_39 ?_
          have hPj4 := cP_form hP (vin_lt g3)
          obtain ⟨r5, e6, h⟩ := pb h
          refine ro_V (As := []) (rest := []) hF (fun _ h => wl_in h) (cnX0_freeProduct l A G cI cF tA tT (fa a0.toNatClampNeg) (ca a0.toNatClampNeg) (n a0.toNatClampNeg) (f a0.toNatClampNeg) e6) syX0_freeProduct w_145 ⟨Nat.le_of_ble_eq_true rfl, Nat.le_of_ble_eq_true rfl⟩ fB_mv ⟨hE, hPj4⟩ (va_recv hK hPj4 (ci := 0) (q0 := 0) rfl rfl) rfl hl.1 rfl (Nat.le_of_ble_eq_true rfl) dX4_whole_40 ⟨Nat.zero_le _, Nat.zero_le _⟩ ?_
          exact END 43 ls _ (pe h) dX4_whole_43
        · have h := pt c19 h
          refine lv_aload_n hx hb dX4_whole_22 rfl (lv_at hl 0 rfl) ?_
          refine va_get (D := G) (ci := 2) (v := .ref sh) (C := RX4) (T := TX4) (N := 5) hx hb hts (fun w h => wl_in (inX4 w h)) hown hK hP 0 rfl rfl 0 (by decide) (hts _ (wl_in w_60)) (fun _ h9 => h9) rfl dX4_whole_23 ?_
          refine lv_iload_n hx hb dX4_whole_26 rfl (lv_at hl 1 rfl) ?_
          obtain ⟨g7, h⟩ := pg h
          refine c_aald hx hb hK hP g7 dX4_whole_27 ?_
          have hPj8 := cP_form hP (vin_lt g7)
          obtain ⟨r9, e10, h⟩ := pb h
          refine ro_V (As := []) (rest := []) hF (fun _ h => wl_in h) (cnX0_product l A G cI cF tA tT (fa a0.toNatClampNeg) (ca a0.toNatClampNeg) (n a0.toNatClampNeg) (f a0.toNatClampNeg) e10) syX0_product w_141 ⟨Nat.le_of_ble_eq_true rfl, Nat.le_of_ble_eq_true rfl⟩ fB_mv ⟨hE, hPj8⟩ (va_recv hK hPj8 (ci := 0) (q0 := 0) rfl rfl) rfl hl.1 rfl (Nat.le_of_ble_eq_true rfl) dX4_whole_28 ⟨Nat.zero_le _, Nat.zero_le _⟩ ?_
          refine lv_goto (tgt := 43) hx hb dX4_whole_31 (by decide) ?_
          exact END 43 ls _ (pe h) dX4_whole_43
      · have h := pf c13 h
        refine lv_lconst (v := (0 : Int64)) hx hb dX4_whole_16 (by decide) ?_
        exact END 17 ls _ (pe h) dX4_whole_17

theorem syX4_hold : Vy yX4_hold cX4_hold 3 (some .int) 2 := ⟨w_154, ⟨w_152, w_153⟩, w_1, by decide +kernel⟩
set_option maxHeartbeats 4000000 in
set_option maxRecDepth 100000 in
theorem cnX4_hold (l : Launch) (A : Nat → Prop) (G : va_G) (cI cF : ClassId) (tA tT : Nat) (o sh xx xc gv se : Nat) (fa ca : Nat → Nat) (n : Nat → Int32) (f : Nat → Nat → Int32) (xn : Int32) (xf gf : Nat → Int32) (s0 s1 s2 s3 s4 : Int32) (tr : Int64) {a0 : Int32} {a1 : Int32} {r : Int32} (h : fX4_hold n f tr a0 a1 = some r) : Ro l yX4_hold cX4_hold 3 (some .int) 4 103 [.ref o, .int a0, .int a1] (cB A G cI cF tA tT o sh xx xc gv se fa ca n f xn xf gf s0 s1 s2 s3 s4 tr) (.int r) := by
  refine ro_i (plainFor_of_name (by decide)) (Nat.le_of_ble_eq_true rfl) ?_
  intro p e s m args below meth cd Q ls hF hB hl END
  have hF : CallFix p m cd cX4_hold 3 s args (wl yX4_hold cX4_hold 3 (some .int)) RX4 := hF
  obtain ⟨hx, hb, hml, hown, hts⟩ := id hF
  have hl : lv_has ls 3 [(0, .ref o), (1, .int a0), (2, .int a1)] := hl
  obtain ⟨hE, hP⟩ := id hB
  obtain ⟨hK, ⟨hZ, hT⟩, ⟨hZ2, hT2⟩⟩ := id hE
  have hS : va_S A s.heap s.heap [] := va_S.rf
  rw [fX4_hold] at h
  refine lv_iload_n hx hb dX4_hold_0 rfl (lv_at hl 1 rfl) ?_
  obtain ⟨r1, e2, h⟩ := pb h
  refine ro_S (As := [.int a0]) (rest := []) hF (fun _ h => wl_in h) (cnX4_isShelf l e2) syX4_isShelf w_126 ⟨Nat.le_of_ble_eq_true rfl, Nat.le_of_ble_eq_true rfl⟩ mv0 trivial rfl hl.1 rfl (Nat.le_of_ble_eq_true rfl) dX4_hold_1 ⟨Nat.zero_le _, Nat.zero_le _⟩ ?_
  refine lv_if_eq (tgt := 14) hx hb dX4_hold_4 (by decide) (fun c4 => ?_) (fun c4 => ?_)
  · have h := pt c4 h
    refine lv_bipush (v := (-3 : Int32)) hx hb dX4_hold_14 (by decide) ?_
    exact END 16 ls _ (pe h) dX4_hold_16
  · have h := pf c4 h
    refine lv_iload_n hx hb dX4_hold_7 rfl (lv_at hl 2 rfl) ?_
    obtain ⟨r3, e4, h⟩ := pb h
    refine ro_S (As := [.int a1]) (rest := []) hF (fun _ h => wl_in h) (cnX2_isPlace l A G cI cF tA tT e4) syX2_isPlace w_91 ⟨Nat.le_of_ble_eq_true rfl, Nat.le_of_ble_eq_true rfl⟩ eB_mv hE rfl hl.1 rfl (Nat.le_of_ble_eq_true rfl) dX4_hold_8 ⟨Nat.zero_le _, Nat.zero_le _⟩ ?_
    refine lv_if_ne (tgt := 17) hx hb dX4_hold_11 (by decide) (fun c11 => ?_) (fun c11 => ?_)
    · have h := pf c11 h
      refine lv_aload_n hx hb dX4_hold_17 rfl (lv_at hl 0 rfl) ?_
      refine va_get (D := G) (ci := 2) (v := .ref sh) (C := RX4) (T := TX4) (N := 5) hx hb hts (fun w h => wl_in (inX4 w h)) hown hK hP 0 rfl rfl 0 (by decide) (hts _ (wl_in w_60)) (fun _ h9 => h9) rfl dX4_hold_18 ?_
      refine lv_iload_n hx hb dX4_hold_21 rfl (lv_at hl 1 rfl) ?_
      obtain ⟨g5, h⟩ := pg h
      refine c_aald hx hb hK hP g5 dX4_hold_22 ?_
      have hPj6 := cP_form hP (vin_lt g5)
      refine lv_iload_n hx hb dX4_hold_23 rfl (lv_at hl 2 rfl) ?_
      obtain ⟨r7, e8, h⟩ := pb h
      refine ro_V (As := [.int a1]) (rest := []) hF (fun _ h => wl_in h) (cnX0_signsAt l A G cI cF tA tT (fa a0.toNatClampNeg) (ca a0.toNatClampNeg) (n a0.toNatClampNeg) (f a0.toNatClampNeg) e8) syX0_signsAt w_155 ⟨Nat.le_of_ble_eq_true rfl, Nat.le_of_ble_eq_true rfl⟩ fB_mv ⟨hE, hPj6⟩ (va_recv hK hPj6 (ci := 0) (q0 := 0) rfl rfl) rfl hl.1 rfl (Nat.le_of_ble_eq_true rfl) dX4_hold_24 ⟨Nat.zero_le _, Nat.zero_le _⟩ ?_
      exact END 27 ls _ (pe h) dX4_hold_27
    · have h := pt c11 h
      refine lv_bipush (v := (-3 : Int32)) hx hb dX4_hold_14 (by decide) ?_
      exact END 16 ls _ (pe h) dX4_hold_16

theorem syX4_goes : Vy yX4_goes cX4_goes 3 (some .int) 2 := ⟨w_163, ⟨w_161, w_162⟩, w_1, by decide +kernel⟩
set_option maxHeartbeats 4000000 in
set_option maxRecDepth 100000 in
theorem cnX4_goes (l : Launch) (A : Nat → Prop) (G : va_G) (cI cF : ClassId) (tA tT : Nat) (o sh xx xc gv se : Nat) (fa ca : Nat → Nat) (n : Nat → Int32) (f : Nat → Nat → Int32) (xn : Int32) (xf gf : Nat → Int32) (s0 s1 s2 s3 s4 : Int32) (tr : Int64) {a0 : Int32} {a1 : Int32} {r : Int32} (h : fX4_goes n f tr a0 a1 = some r) : Ro l yX4_goes cX4_goes 3 (some .int) 5 125 [.ref o, .int a0, .int a1] (cB A G cI cF tA tT o sh xx xc gv se fa ca n f xn xf gf s0 s1 s2 s3 s4 tr) (.int r) := by
  refine ro_i (plainFor_of_name (by decide)) (Nat.le_of_ble_eq_true rfl) ?_
  intro p e s m args below meth cd Q ls hF hB hl END
  have hF : CallFix p m cd cX4_goes 3 s args (wl yX4_goes cX4_goes 3 (some .int)) RX4 := hF
  obtain ⟨hx, hb, hml, hown, hts⟩ := id hF
  have hl : lv_has ls 3 [(0, .ref o), (1, .int a0), (2, .int a1)] := hl
  obtain ⟨hE, hP⟩ := id hB
  obtain ⟨hK, ⟨hZ, hT⟩, ⟨hZ2, hT2⟩⟩ := id hE
  have hS : va_S A s.heap s.heap [] := va_S.rf
  rw [fX4_goes] at h
  refine lv_iload_n hx hb dX4_goes_0 rfl (lv_at hl 1 rfl) ?_
  obtain ⟨r1, e2, h⟩ := pb h
  refine ro_S (As := [.int a0]) (rest := []) hF (fun _ h => wl_in h) (cnX4_isShelf l e2) syX4_isShelf w_126 ⟨Nat.le_of_ble_eq_true rfl, Nat.le_of_ble_eq_true rfl⟩ mv0 trivial rfl hl.1 rfl (Nat.le_of_ble_eq_true rfl) dX4_goes_1 ⟨Nat.zero_le _, Nat.zero_le _⟩ ?_
  refine lv_if_eq (tgt := 14) hx hb dX4_goes_4 (by decide) (fun c4 => ?_) (fun c4 => ?_)
  · have h := pt c4 h
    refine lv_bipush (v := (-3 : Int32)) hx hb dX4_goes_14 (by decide) ?_
    exact END 16 ls _ (pe h) dX4_goes_16
  · have h := pf c4 h
    refine lv_iload_n hx hb dX4_goes_7 rfl (lv_at hl 2 rfl) ?_
    obtain ⟨r3, e4, h⟩ := pb h
    refine ro_S (As := [.int a1]) (rest := []) hF (fun _ h => wl_in h) (cnX2_isPlace l A G cI cF tA tT e4) syX2_isPlace w_91 ⟨Nat.le_of_ble_eq_true rfl, Nat.le_of_ble_eq_true rfl⟩ eB_mv hE rfl hl.1 rfl (Nat.le_of_ble_eq_true rfl) dX4_goes_8 ⟨Nat.zero_le _, Nat.zero_le _⟩ ?_
    refine lv_if_ne (tgt := 17) hx hb dX4_goes_11 (by decide) (fun c11 => ?_) (fun c11 => ?_)
    · have h := pf c11 h
      refine lv_aload_n hx hb dX4_goes_17 rfl (lv_at hl 0 rfl) ?_
      refine va_get (D := G) (ci := 2) (v := .ref sh) (C := RX4) (T := TX4) (N := 5) hx hb hts (fun w h => wl_in (inX4 w h)) hown hK hP 0 rfl rfl 0 (by decide) (hts _ (wl_in w_60)) (fun _ h9 => h9) rfl dX4_goes_18 ?_
      refine lv_iload_n hx hb dX4_goes_21 rfl (lv_at hl 1 rfl) ?_
      obtain ⟨g5, h⟩ := pg h
      refine c_aald hx hb hK hP g5 dX4_goes_22 ?_
      have hPj6 := cP_form hP (vin_lt g5)
      refine lv_iload_n hx hb dX4_goes_23 rfl (lv_at hl 2 rfl) ?_
      obtain ⟨r7, e8, h⟩ := pb h
      refine ro_V (As := [.int a1]) (rest := []) hF (fun _ h => wl_in h) (cnX0_goesAt l A G cI cF tA tT (fa a0.toNatClampNeg) (ca a0.toNatClampNeg) (n a0.toNatClampNeg) (f a0.toNatClampNeg) e8) syX0_goesAt w_164 ⟨Nat.le_of_ble_eq_true rfl, Nat.le_of_ble_eq_true rfl⟩ fB_mv ⟨hE, hPj6⟩ (va_recv hK hPj6 (ci := 0) (q0 := 0) rfl rfl) rfl hl.1 rfl (Nat.le_of_ble_eq_true rfl) dX4_goes_24 ⟨Nat.zero_le _, Nat.zero_le _⟩ ?_
      refine lv_if_eq (tgt := 34) hx hb dX4_goes_27 (by decide) (fun c27 => ?_) (fun c27 => ?_)
      · have h := pt c27 h
        refine lv_iconst (v := (0 : Int32)) hx hb dX4_goes_34 (by decide) ?_
        exact END 35 ls _ (pe h) dX4_goes_35
      · have h := pf c27 h
        refine lv_iconst (v := (1 : Int32)) hx hb dX4_goes_30 (by decide) ?_
        refine lv_goto (tgt := 35) hx hb dX4_goes_31 (by decide) ?_
        exact END 35 ls _ (pe h) dX4_goes_35
    · have h := pt c11 h
      refine lv_bipush (v := (-3 : Int32)) hx hb dX4_goes_14 (by decide) ?_
      exact END 16 ls _ (pe h) dX4_goes_16

theorem syX4_nought : Vy yX4_nought cX4_nought 2 (some .int) 1 := ⟨w_180, ⟨w_178, w_179⟩, w_1, by decide +kernel⟩
set_option maxHeartbeats 4000000 in
set_option maxRecDepth 100000 in
theorem cnX4_nought (l : Launch) (A : Nat → Prop) (G : va_G) (cI cF : ClassId) (tA tT : Nat) (o sh xx xc gv se : Nat) (fa ca : Nat → Nat) (n : Nat → Int32) (f : Nat → Nat → Int32) (xn : Int32) (xf gf : Nat → Int32) (s0 s1 s2 s3 s4 : Int32) (tr : Int64) {a0 : Int32} {r : Int32} (h : fX4_nought n f tr a0 = some r) : Ro l yX4_nought cX4_nought 2 (some .int) 6 150 [.ref o, .int a0] (cB A G cI cF tA tT o sh xx xc gv se fa ca n f xn xf gf s0 s1 s2 s3 s4 tr) (.int r) := by
  refine ro_i (plainFor_of_name (by decide)) (Nat.le_of_ble_eq_true rfl) ?_
  intro p e s m args below meth cd Q ls hF hB hl END
  have hF : CallFix p m cd cX4_nought 2 s args (wl yX4_nought cX4_nought 2 (some .int)) RX4 := hF
  obtain ⟨hx, hb, hml, hown, hts⟩ := id hF
  have hl : lv_has ls 2 [(0, .ref o), (1, .int a0)] := hl
  obtain ⟨hE, hP⟩ := id hB
  obtain ⟨hK, ⟨hZ, hT⟩, ⟨hZ2, hT2⟩⟩ := id hE
  have hS : va_S A s.heap s.heap [] := va_S.rf
  rw [fX4_nought] at h
  refine lv_iload_n hx hb dX4_nought_0 rfl (lv_at hl 1 rfl) ?_
  obtain ⟨r1, e2, h⟩ := pb h
  refine ro_S (As := [.int a0]) (rest := []) hF (fun _ h => wl_in h) (cnX4_isShelf l e2) syX4_isShelf w_126 ⟨Nat.le_of_ble_eq_true rfl, Nat.le_of_ble_eq_true rfl⟩ mv0 trivial rfl hl.1 rfl (Nat.le_of_ble_eq_true rfl) dX4_nought_1 ⟨Nat.zero_le _, Nat.zero_le _⟩ ?_
  refine lv_if_ne (tgt := 10) hx hb dX4_nought_4 (by decide) (fun c4 => ?_) (fun c4 => ?_)
  · have h := pf c4 h
    refine lv_aload_n hx hb dX4_nought_10 rfl (lv_at hl 0 rfl) ?_
    refine va_get (D := G) (ci := 2) (v := .ref sh) (C := RX4) (T := TX4) (N := 5) hx hb hts (fun w h => wl_in (inX4 w h)) hown hK hP 0 rfl rfl 0 (by decide) (hts _ (wl_in w_60)) (fun _ h9 => h9) rfl dX4_nought_11 ?_
    refine lv_iload_n hx hb dX4_nought_14 rfl (lv_at hl 1 rfl) ?_
    obtain ⟨g3, h⟩ := pg h
    refine c_aald hx hb hK hP g3 dX4_nought_15 ?_
    have hPj4 := cP_form hP (vin_lt g3)
    obtain ⟨r5, e6, h⟩ := pb h
    refine ro_V (As := []) (rest := []) hF (fun _ h => wl_in h) (cnX0_countBars l A G cI cF tA tT (fa a0.toNatClampNeg) (ca a0.toNatClampNeg) (n a0.toNatClampNeg) (f a0.toNatClampNeg) e6) syX0_countBars w_181 ⟨Nat.le_of_ble_eq_true rfl, Nat.le_of_ble_eq_true rfl⟩ fB_mv ⟨hE, hPj4⟩ (va_recv hK hPj4 (ci := 0) (q0 := 0) rfl rfl) rfl hl.1 rfl (Nat.le_of_ble_eq_true rfl) dX4_nought_16 ⟨Nat.zero_le _, Nat.zero_le _⟩ ?_
    refine lv_if_ne (tgt := 26) hx hb dX4_nought_19 (by decide) (fun c19 => ?_) (fun c19 => ?_)
    · have h := pf c19 h
      refine lv_iconst (v := (0 : Int32)) hx hb dX4_nought_26 (by decide) ?_
      exact END 27 ls _ (pe h) dX4_nought_27
    · have h := pt c19 h
      refine lv_iconst (v := (1 : Int32)) hx hb dX4_nought_22 (by decide) ?_
      refine lv_goto (tgt := 27) hx hb dX4_nought_23 (by decide) ?_
      exact END 27 ls _ (pe h) dX4_nought_27
  · have h := pt c4 h
    refine lv_bipush (v := (-3 : Int32)) hx hb dX4_nought_7 (by decide) ?_
    exact END 9 ls _ (pe h) dX4_nought_9

theorem syX4_bars : Vy yX4_bars cX4_bars 2 (some .int) 1 := ⟨w_193, ⟨w_191, w_192⟩, w_1, by decide +kernel⟩
set_option maxHeartbeats 4000000 in
set_option maxRecDepth 100000 in
theorem cnX4_bars (l : Launch) (A : Nat → Prop) (G : va_G) (cI cF : ClassId) (tA tT : Nat) (o sh xx xc gv se : Nat) (fa ca : Nat → Nat) (n : Nat → Int32) (f : Nat → Nat → Int32) (xn : Int32) (xf gf : Nat → Int32) (s0 s1 s2 s3 s4 : Int32) (tr : Int64) {a0 : Int32} {r : Int32} (h : fX4_bars n f tr a0 = some r) : Ro l yX4_bars cX4_bars 2 (some .int) 6 150 [.ref o, .int a0] (cB A G cI cF tA tT o sh xx xc gv se fa ca n f xn xf gf s0 s1 s2 s3 s4 tr) (.int r) := by
  refine ro_i (plainFor_of_name (by decide)) (Nat.le_of_ble_eq_true rfl) ?_
  intro p e s m args below meth cd Q ls hF hB hl END
  have hF : CallFix p m cd cX4_bars 2 s args (wl yX4_bars cX4_bars 2 (some .int)) RX4 := hF
  obtain ⟨hx, hb, hml, hown, hts⟩ := id hF
  have hl : lv_has ls 2 [(0, .ref o), (1, .int a0)] := hl
  obtain ⟨hE, hP⟩ := id hB
  obtain ⟨hK, ⟨hZ, hT⟩, ⟨hZ2, hT2⟩⟩ := id hE
  have hS : va_S A s.heap s.heap [] := va_S.rf
  rw [fX4_bars] at h
  refine lv_iload_n hx hb dX4_bars_0 rfl (lv_at hl 1 rfl) ?_
  obtain ⟨r1, e2, h⟩ := pb h
  refine ro_S (As := [.int a0]) (rest := []) hF (fun _ h => wl_in h) (cnX4_isShelf l e2) syX4_isShelf w_126 ⟨Nat.le_of_ble_eq_true rfl, Nat.le_of_ble_eq_true rfl⟩ mv0 trivial rfl hl.1 rfl (Nat.le_of_ble_eq_true rfl) dX4_bars_1 ⟨Nat.zero_le _, Nat.zero_le _⟩ ?_
  refine lv_if_ne (tgt := 10) hx hb dX4_bars_4 (by decide) (fun c4 => ?_) (fun c4 => ?_)
  · have h := pf c4 h
    refine lv_aload_n hx hb dX4_bars_10 rfl (lv_at hl 0 rfl) ?_
    refine va_get (D := G) (ci := 2) (v := .ref sh) (C := RX4) (T := TX4) (N := 5) hx hb hts (fun w h => wl_in (inX4 w h)) hown hK hP 0 rfl rfl 0 (by decide) (hts _ (wl_in w_60)) (fun _ h9 => h9) rfl dX4_bars_11 ?_
    refine lv_iload_n hx hb dX4_bars_14 rfl (lv_at hl 1 rfl) ?_
    obtain ⟨g3, h⟩ := pg h
    refine c_aald hx hb hK hP g3 dX4_bars_15 ?_
    have hPj4 := cP_form hP (vin_lt g3)
    obtain ⟨r5, e6, h⟩ := pb h
    refine ro_V (As := []) (rest := []) hF (fun _ h => wl_in h) (cnX0_countBars l A G cI cF tA tT (fa a0.toNatClampNeg) (ca a0.toNatClampNeg) (n a0.toNatClampNeg) (f a0.toNatClampNeg) e6) syX0_countBars w_181 ⟨Nat.le_of_ble_eq_true rfl, Nat.le_of_ble_eq_true rfl⟩ fB_mv ⟨hE, hPj4⟩ (va_recv hK hPj4 (ci := 0) (q0 := 0) rfl rfl) rfl hl.1 rfl (Nat.le_of_ble_eq_true rfl) dX4_bars_16 ⟨Nat.zero_le _, Nat.zero_le _⟩ ?_
    exact END 19 ls _ (pe h) dX4_bars_19
  · have h := pt c4 h
    refine lv_bipush (v := (-3 : Int32)) hx hb dX4_bars_7 (by decide) ?_
    exact END 9 ls _ (pe h) dX4_bars_9

theorem syX4_bar : Vy yX4_bar cX4_bar 4 (some .int) 2 := ⟨w_197, ⟨w_195, w_196⟩, w_1, by decide +kernel⟩
set_option maxHeartbeats 4000000 in
set_option maxRecDepth 100000 in
theorem cnX4_bar (l : Launch) (A : Nat → Prop) (G : va_G) (cI cF : ClassId) (tA tT : Nat) (o sh xx xc gv se : Nat) (fa ca : Nat → Nat) (n : Nat → Int32) (f : Nat → Nat → Int32) (xn : Int32) (xf gf : Nat → Int32) (s0 s1 s2 s3 s4 : Int32) (tr : Int64) {a0 : Int32} {a1 : Int32} {r : Int32} (h : fX4_bar n f tr a0 a1 = some r) : Ro l yX4_bar cX4_bar 4 (some .int) 6 151 [.ref o, .int a0, .int a1] (cB A G cI cF tA tT o sh xx xc gv se fa ca n f xn xf gf s0 s1 s2 s3 s4 tr) (.int r) := by
  refine ro_i (plainFor_of_name (by decide)) (Nat.le_of_ble_eq_true rfl) ?_
  intro p e s m args below meth cd Q ls hF hB hl END
  have hF : CallFix p m cd cX4_bar 4 s args (wl yX4_bar cX4_bar 4 (some .int)) RX4 := hF
  obtain ⟨hx, hb, hml, hown, hts⟩ := id hF
  have hl : lv_has ls 4 [(0, .ref o), (1, .int a0), (2, .int a1)] := hl
  obtain ⟨hE, hP⟩ := id hB
  obtain ⟨hK, ⟨hZ, hT⟩, ⟨hZ2, hT2⟩⟩ := id hE
  have hS : va_S A s.heap s.heap [] := va_S.rf
  rw [fX4_bar] at h
  refine lv_iload_n hx hb dX4_bar_0 rfl (lv_at hl 1 rfl) ?_
  obtain ⟨r1, e2, h⟩ := pb h
  refine ro_S (As := [.int a0]) (rest := []) hF (fun _ h => wl_in h) (cnX4_isShelf l e2) syX4_isShelf w_126 ⟨Nat.le_of_ble_eq_true rfl, Nat.le_of_ble_eq_true rfl⟩ mv0 trivial rfl hl.1 rfl (Nat.le_of_ble_eq_true rfl) dX4_bar_1 ⟨Nat.zero_le _, Nat.zero_le _⟩ ?_
  refine lv_if_eq (tgt := 11) hx hb dX4_bar_4 (by decide) (fun c4 => ?_) (fun c4 => ?_)
  · have h := pt c4 h
    refine lv_bipush (v := (-3 : Int32)) hx hb dX4_bar_11 (by decide) ?_
    exact END 13 ls _ (pe h) dX4_bar_13
  · have h := pf c4 h
    refine lv_iload_n hx hb dX4_bar_7 rfl (lv_at hl 2 rfl) ?_
    refine lv_if_ge (tgt := 14) hx hb dX4_bar_8 (by decide) (fun c8 => ?_) (fun c8 => ?_)
    · have h := pt c8 h
      refine lv_aload_n hx hb dX4_bar_14 rfl (lv_at hl 0 rfl) ?_
      refine va_get (D := G) (ci := 2) (v := .ref sh) (C := RX4) (T := TX4) (N := 5) hx hb hts (fun w h => wl_in (inX4 w h)) hown hK hP 0 rfl rfl 0 (by decide) (hts _ (wl_in w_60)) (fun _ h9 => h9) rfl dX4_bar_15 ?_
      refine lv_iload_n hx hb dX4_bar_18 rfl (lv_at hl 1 rfl) ?_
      obtain ⟨g3, h⟩ := pg h
      refine c_aald hx hb hK hP g3 dX4_bar_19 ?_
      have hPj4 := cP_form hP (vin_lt g3)
      refine lv_iload_n hx hb dX4_bar_20 rfl (lv_at hl 2 rfl) ?_
      obtain ⟨r5, e6, h⟩ := pb h
      refine ro_V (As := [.int a1]) (rest := []) hF (fun _ h => wl_in h) (cnX0_findBar l A G cI cF tA tT (fa a0.toNatClampNeg) (ca a0.toNatClampNeg) (n a0.toNatClampNeg) (f a0.toNatClampNeg) e6) syX0_findBar w_198 ⟨Nat.le_of_ble_eq_true rfl, Nat.le_of_ble_eq_true rfl⟩ fB_mv ⟨hE, hPj4⟩ (va_recv hK hPj4 (ci := 0) (q0 := 0) rfl rfl) rfl hl.1 rfl (Nat.le_of_ble_eq_true rfl) dX4_bar_21 ⟨Nat.zero_le _, Nat.zero_le _⟩ ?_
      refine lv_istore_n (lv' := [(3, .int r5), (0, .ref o), (1, .int a0), (2, .int a1)]) hx hb dX4_bar_24 rfl hl (by decide) rfl (fun ls hl => ?_)
      refine lv_iload_n hx hb dX4_bar_25 rfl (lv_at hl 0 rfl) ?_
      refine lv_if_ge (tgt := 34) hx hb dX4_bar_26 (by decide) (fun c26 => ?_) (fun c26 => ?_)
      · have h := pt c26 h
        refine lv_iload_n hx hb dX4_bar_34 rfl (lv_at hl 0 rfl) ?_
        exact END 35 ls _ (pe h) dX4_bar_35
      · have h := pf c26 h
        refine lv_bipush (v := (-3 : Int32)) hx hb dX4_bar_29 (by decide) ?_
        refine lv_goto (tgt := 35) hx hb dX4_bar_31 (by decide) ?_
        exact END 35 ls _ (pe h) dX4_bar_35
    · have h := pf c8 h
      refine lv_bipush (v := (-3 : Int32)) hx hb dX4_bar_11 (by decide) ?_
      exact END 13 ls _ (pe h) dX4_bar_13

theorem syX4_alike : Vy yX4_alike cX4_alike 3 (some .int) 2 := ⟨w_213, ⟨w_211, w_212⟩, w_1, by decide +kernel⟩
set_option maxHeartbeats 4000000 in
set_option maxRecDepth 100000 in
theorem cnX4_alike (l : Launch) (A : Nat → Prop) (G : va_G) (cI cF : ClassId) (tA tT : Nat) (o sh xx xc gv se : Nat) (fa ca : Nat → Nat) (n : Nat → Int32) (f : Nat → Nat → Int32) (xn : Int32) (xf gf : Nat → Int32) (s0 s1 s2 s3 s4 : Int32) (tr : Int64) {a0 : Int32} {a1 : Int32} {r : Int32} (h : fX4_alike n f tr a0 a1 = some r) : Ro l yX4_alike cX4_alike 3 (some .int) 5 128 [.ref o, .int a0, .int a1] (cB A G cI cF tA tT o sh xx xc gv se fa ca n f xn xf gf s0 s1 s2 s3 s4 tr) (.int r) := by
  refine ro_i (plainFor_of_name (by decide)) (Nat.le_of_ble_eq_true rfl) ?_
  intro p e s m args below meth cd Q ls hF hB hl END
  have hF : CallFix p m cd cX4_alike 3 s args (wl yX4_alike cX4_alike 3 (some .int)) RX4 := hF
  obtain ⟨hx, hb, hml, hown, hts⟩ := id hF
  have hl : lv_has ls 3 [(0, .ref o), (1, .int a0), (2, .int a1)] := hl
  obtain ⟨hE, hP⟩ := id hB
  obtain ⟨hK, ⟨hZ, hT⟩, ⟨hZ2, hT2⟩⟩ := id hE
  have hS : va_S A s.heap s.heap [] := va_S.rf
  rw [fX4_alike] at h
  refine lv_iload_n hx hb dX4_alike_0 rfl (lv_at hl 1 rfl) ?_
  obtain ⟨r1, e2, h⟩ := pb h
  refine ro_S (As := [.int a0]) (rest := []) hF (fun _ h => wl_in h) (cnX4_isShelf l e2) syX4_isShelf w_126 ⟨Nat.le_of_ble_eq_true rfl, Nat.le_of_ble_eq_true rfl⟩ mv0 trivial rfl hl.1 rfl (Nat.le_of_ble_eq_true rfl) dX4_alike_1 ⟨Nat.zero_le _, Nat.zero_le _⟩ ?_
  refine lv_if_eq (tgt := 14) hx hb dX4_alike_4 (by decide) (fun c4 => ?_) (fun c4 => ?_)
  · have h := pt c4 h
    refine lv_bipush (v := (-3 : Int32)) hx hb dX4_alike_14 (by decide) ?_
    exact END 16 ls _ (pe h) dX4_alike_16
  · have h := pf c4 h
    refine lv_iload_n hx hb dX4_alike_7 rfl (lv_at hl 2 rfl) ?_
    obtain ⟨r3, e4, h⟩ := pb h
    refine ro_S (As := [.int a1]) (rest := []) hF (fun _ h => wl_in h) (cnX4_isShelf l e4) syX4_isShelf w_126 ⟨Nat.le_of_ble_eq_true rfl, Nat.le_of_ble_eq_true rfl⟩ mv0 trivial rfl hl.1 rfl (Nat.le_of_ble_eq_true rfl) dX4_alike_8 ⟨Nat.zero_le _, Nat.zero_le _⟩ ?_
    refine lv_if_ne (tgt := 17) hx hb dX4_alike_11 (by decide) (fun c11 => ?_) (fun c11 => ?_)
    · have h := pf c11 h
      refine lv_aload_n hx hb dX4_alike_17 rfl (lv_at hl 0 rfl) ?_
      refine va_get (D := G) (ci := 2) (v := .ref sh) (C := RX4) (T := TX4) (N := 5) hx hb hts (fun w h => wl_in (inX4 w h)) hown hK hP 0 rfl rfl 0 (by decide) (hts _ (wl_in w_60)) (fun _ h9 => h9) rfl dX4_alike_18 ?_
      refine lv_iload_n hx hb dX4_alike_21 rfl (lv_at hl 1 rfl) ?_
      obtain ⟨g5, h⟩ := pg h
      refine c_aald hx hb hK hP g5 dX4_alike_22 ?_
      have hPj6 := cP_form hP (vin_lt g5)
      refine lv_aload_n hx hb dX4_alike_23 rfl (lv_at hl 0 rfl) ?_
      refine va_get (D := G) (ci := 2) (v := .ref sh) (C := RX4) (T := TX4) (N := 5) hx hb hts (fun w h => wl_in (inX4 w h)) hown hK hP 0 rfl rfl 0 (by decide) (hts _ (wl_in w_60)) (fun _ h9 => h9) rfl dX4_alike_24 ?_
      refine lv_iload_n hx hb dX4_alike_27 rfl (lv_at hl 2 rfl) ?_
      obtain ⟨g7, h⟩ := pg h
      refine c_aald hx hb hK hP g7 dX4_alike_28 ?_
      have hPj8 := cP_form hP (vin_lt g7)
      obtain ⟨r9, e10, h⟩ := pb h
      refine ro_V (As := [.ref (fa a1.toNatClampNeg)]) (rest := []) hF (fun _ h => wl_in h) (cnX0_isAlike l A G cI cF tA tT (fa a0.toNatClampNeg) (ca a0.toNatClampNeg) (n a0.toNatClampNeg) (f a0.toNatClampNeg) (fa a1.toNatClampNeg) (ca a1.toNatClampNeg) (n a1.toNatClampNeg) (f a1.toNatClampNeg) e10) syX0_isAlike w_214 ⟨Nat.le_of_ble_eq_true rfl, Nat.le_of_ble_eq_true rfl⟩ f2B_mv ⟨hE, hPj6, hPj8⟩ (va_recv hK hPj6 (ci := 0) (q0 := 0) rfl rfl) rfl hl.1 rfl (Nat.le_of_ble_eq_true rfl) dX4_alike_29 ⟨Nat.zero_le _, Nat.zero_le _⟩ ?_
      refine lv_if_eq (tgt := 39) hx hb dX4_alike_32 (by decide) (fun c32 => ?_) (fun c32 => ?_)
      · have h := pt c32 h
        refine lv_iconst (v := (0 : Int32)) hx hb dX4_alike_39 (by decide) ?_
        exact END 40 ls _ (pe h) dX4_alike_40
      · have h := pf c32 h
        refine lv_iconst (v := (1 : Int32)) hx hb dX4_alike_35 (by decide) ?_
        refine lv_goto (tgt := 40) hx hb dX4_alike_36 (by decide) ?_
        exact END 40 ls _ (pe h) dX4_alike_40
    · have h := pt c11 h
      refine lv_bipush (v := (-3 : Int32)) hx hb dX4_alike_14 (by decide) ?_
      exact END 16 ls _ (pe h) dX4_alike_16

theorem syX4_worth : Vy yX4_worth cX4_worth 5 (some .long) 4 := ⟨w_222, ⟨w_220, w_221⟩, w_1, by decide +kernel⟩
set_option maxHeartbeats 4000000 in
set_option maxRecDepth 100000 in
theorem cnX4_worth (l : Launch) (A : Nat → Prop) (G : va_G) (cI cF : ClassId) (tA tT : Nat) (o sh xx xc gv se : Nat) (fa ca : Nat → Nat) (n : Nat → Int32) (f : Nat → Nat → Int32) (xn : Int32) (xf gf : Nat → Int32) (s0 s1 s2 s3 s4 : Int32) (tr : Int64) {a0 : Int32} {a1 : Int32} {a2 : Int32} {a3 : Int32} {r : Int64} (h : fX4_worth n f tr a0 a1 a2 a3 = some r) : Ro l yX4_worth cX4_worth 5 (some .long) 2 44 [.ref o, .int a0, .int a1, .int a2, .int a3] (cB A G cI cF tA tT o sh xx xc gv se fa ca n f xn xf gf s0 s1 s2 s3 s4 tr) (.long r) := by
  refine ro_l (plainFor_of_name (by decide)) (Nat.le_of_ble_eq_true rfl) ?_
  intro p e s m args below meth cd Q ls hF hB hl END
  have hF : CallFix p m cd cX4_worth 5 s args (wl yX4_worth cX4_worth 5 (some .long)) RX4 := hF
  obtain ⟨hx, hb, hml, hown, hts⟩ := id hF
  have hl : lv_has ls 5 [(0, .ref o), (1, .int a0), (2, .int a1), (3, .int a2), (4, .int a3)] := hl
  obtain ⟨hE, hP⟩ := id hB
  obtain ⟨hK, ⟨hZ, hT⟩, ⟨hZ2, hT2⟩⟩ := id hE
  have hS : va_S A s.heap s.heap [] := va_S.rf
  rw [fX4_worth] at h
  refine lv_iload_n hx hb dX4_worth_0 rfl (lv_at hl 1 rfl) ?_
  obtain ⟨r1, e2, h⟩ := pb h
  refine ro_S (As := [.int a0]) (rest := []) hF (fun _ h => wl_in h) (cnX4_isShelf l e2) syX4_isShelf w_126 ⟨Nat.le_of_ble_eq_true rfl, Nat.le_of_ble_eq_true rfl⟩ mv0 trivial rfl hl.1 rfl (Nat.le_of_ble_eq_true rfl) dX4_worth_1 ⟨Nat.zero_le _, Nat.zero_le _⟩ ?_
  refine lv_if_eq (tgt := 33) hx hb dX4_worth_4 (by decide) (fun c4 => ?_) (fun c4 => ?_)
  · have h := pt c4 h
    refine lv_ldc2 (v := (-1000000000000000 : Int64)) hx hb hown (hts _ (wl_in w_226)) dX4_worth_33 ?_
    exact END 36 ls _ (pe h) dX4_worth_36
  · have h := pf c4 h
    refine lv_aload_n hx hb dX4_worth_7 rfl (lv_at hl 0 rfl) ?_
    refine va_get (D := G) (ci := 2) (v := .ref sh) (C := RX4) (T := TX4) (N := 5) hx hb hts (fun w h => wl_in (inX4 w h)) hown hK hP 0 rfl rfl 0 (by decide) (hts _ (wl_in w_60)) (fun _ h9 => h9) rfl dX4_worth_8 ?_
    refine lv_iload_n hx hb dX4_worth_11 rfl (lv_at hl 1 rfl) ?_
    obtain ⟨g3, h⟩ := pg h
    refine c_aald hx hb hK hP g3 dX4_worth_12 ?_
    have hPj4 := cP_form hP (vin_lt g3)
    refine va_get (D := G) (ci := 0) (v := .int (n a0.toNatClampNeg)) (C := RX0) (T := TX0) (N := 2) hx hb hts (fun w h => wl_in (inX0 w h)) hown hK hPj4 0 rfl rfl 0 (by decide) (hts _ (wl_in w_24)) (fun _ h9 => h9) rfl dX4_worth_13 ?_
    refine lv_iconst (v := (3 : Int32)) hx hb dX4_worth_16 (by decide) ?_
    refine lv_icmp_ne (tgt := 33) hx hb dX4_worth_17 (by decide) (fun c17 => ?_) (fun c17 => ?_)
    · have h := pf c17 h
      refine lv_ldc2 (v := (-1000000000000000 : Int64)) hx hb hown (hts _ (wl_in w_226)) dX4_worth_33 ?_
      exact END 36 ls _ (pe h) dX4_worth_36
    · have h := pt c17 h
      refine lv_iload_n hx hb dX4_worth_20 rfl (lv_at hl 2 rfl) ?_
      refine lv_iload_n hx hb dX4_worth_21 rfl (lv_at hl 3 rfl) ?_
      refine lv_iload hx hb dX4_worth_22 (lv_at hl 4 rfl) ?_
      refine lv_sipush (v := (1000 : Int32)) hx hb dX4_worth_24 (by decide) ?_
      obtain ⟨r5, e6, h⟩ := pb h
      refine ro_S (As := [.int a1, .int a2, .int a3, .int (1000 : Int32)]) (rest := []) hF (fun _ h => wl_in h) (cnX4_areWithin l e6) syX4_areWithin w_223 ⟨Nat.le_of_ble_eq_true rfl, Nat.le_of_ble_eq_true rfl⟩ mv0 trivial rfl hl.1 rfl (Nat.le_of_ble_eq_true rfl) dX4_worth_27 ⟨Nat.zero_le _, Nat.zero_le _⟩ ?_
      refine lv_if_ne (tgt := 37) hx hb dX4_worth_30 (by decide) (fun c30 => ?_) (fun c30 => ?_)
      · have h := pf c30 h
        refine lv_aload_n hx hb dX4_worth_37 rfl (lv_at hl 0 rfl) ?_
        refine va_get (D := G) (ci := 2) (v := .ref sh) (C := RX4) (T := TX4) (N := 5) hx hb hts (fun w h => wl_in (inX4 w h)) hown hK hP 0 rfl rfl 0 (by decide) (hts _ (wl_in w_60)) (fun _ h9 => h9) rfl dX4_worth_38 ?_
        refine lv_iload_n hx hb dX4_worth_41 rfl (lv_at hl 1 rfl) ?_
        obtain ⟨g7, h⟩ := pg h
        refine c_aald hx hb hK hP g7 dX4_worth_42 ?_
        have hPj8 := cP_form hP (vin_lt g7)
        refine lv_iload_n hx hb dX4_worth_43 rfl (lv_at hl 2 rfl) ?_
        refine lv_iload_n hx hb dX4_worth_44 rfl (lv_at hl 3 rfl) ?_
        refine lv_iload hx hb dX4_worth_45 (lv_at hl 4 rfl) ?_
        refine lv_iload_n hx hb dX4_worth_47 rfl (lv_at hl 2 rfl) ?_
        refine lv_iload_n hx hb dX4_worth_48 rfl (lv_at hl 3 rfl) ?_
        refine lv_iload hx hb dX4_worth_49 (lv_at hl 4 rfl) ?_
        obtain ⟨r9, e10, h⟩ := pb h
        refine ro_V (As := [.int a1, .int a2, .int a3, .int a1, .int a2, .int a3]) (rest := []) hF (fun _ h => wl_in h) (cnX0_pairing l A G cI cF tA tT (fa a0.toNatClampNeg) (ca a0.toNatClampNeg) (n a0.toNatClampNeg) (f a0.toNatClampNeg) e10) syX0_pairing w_227 ⟨Nat.le_of_ble_eq_true rfl, Nat.le_of_ble_eq_true rfl⟩ fB_mv ⟨hE, hPj8⟩ (va_recv hK hPj8 (ci := 0) (q0 := 0) rfl rfl) rfl hl.1 rfl (Nat.le_of_ble_eq_true rfl) dX4_worth_51 ⟨Nat.zero_le _, Nat.zero_le _⟩ ?_
        exact END 54 ls _ (pe h) dX4_worth_54
      · have h := pt c30 h
        refine lv_ldc2 (v := (-1000000000000000 : Int64)) hx hb hown (hts _ (wl_in w_226)) dX4_worth_33 ?_
        exact END 36 ls _ (pe h) dX4_worth_36

theorem syX4_line : Vy yX4_line cX4_line 22 (some .long) 8 := ⟨w_295, ⟨w_293, w_294⟩, w_1, by decide +kernel⟩
set_option maxHeartbeats 4000000 in
set_option maxRecDepth 100000 in
theorem cnX4_line (l : Launch) (A : Nat → Prop) (G : va_G) (cI cF : ClassId) (tA tT : Nat) (o sh xx xc gv se : Nat) (fa ca : Nat → Nat) (n : Nat → Int32) (f : Nat → Nat → Int32) (xn : Int32) (xf gf : Nat → Int32) (s0 s1 s2 s3 s4 : Int32) (tr : Int64) {a0 : Int32} {a1 : Int32} {a2 : Int32} {a3 : Int32} {a4 : Int32} {a5 : Int32} {a6 : Int32} {a7 : Int32} {r : Int64} (h : fX4_line n f tr a0 a1 a2 a3 a4 a5 a6 a7 = some r) : Ro l yX4_line cX4_line 22 (some .long) 4 106 [.ref o, .int a0, .int a1, .int a2, .int a3, .int a4, .int a5, .int a6, .int a7] (cB A G cI cF tA tT o sh xx xc gv se fa ca n f xn xf gf s0 s1 s2 s3 s4 tr) (.long r) := by
  refine ro_l (plainFor_of_name (by decide)) (Nat.le_of_ble_eq_true rfl) ?_
  intro p e s m args below meth cd Q ls hF hB hl END
  have hF : CallFix p m cd cX4_line 22 s args (wl yX4_line cX4_line 22 (some .long)) RX4 := hF
  obtain ⟨hx, hb, hml, hown, hts⟩ := id hF
  have hl : lv_has ls 22 [(0, .ref o), (1, .int a0), (2, .int a1), (3, .int a2), (4, .int a3), (5, .int a4), (6, .int a5), (7, .int a6), (8, .int a7)] := hl
  obtain ⟨hE, hP⟩ := id hB
  obtain ⟨hK, ⟨hZ, hT⟩, ⟨hZ2, hT2⟩⟩ := id hE
  have hS : va_S A s.heap s.heap [] := va_S.rf
  rw [fX4_line] at h
  refine lv_iload_n hx hb dX4_line_0 rfl (lv_at hl 1 rfl) ?_
  obtain ⟨r1, e2, h⟩ := pb h
  refine ro_S (As := [.int a0]) (rest := []) hF (fun _ h => wl_in h) (cnX4_isShelf l e2) syX4_isShelf w_126 ⟨Nat.le_of_ble_eq_true rfl, Nat.le_of_ble_eq_true rfl⟩ mv0 trivial rfl hl.1 rfl (Nat.le_of_ble_eq_true rfl) dX4_line_1 ⟨Nat.zero_le _, Nat.zero_le _⟩ ?_
  refine lv_if_eq (tgt := 31) hx hb dX4_line_4 (by decide) (fun c4 => ?_) (fun c4 => ?_)
  · have h := pt c4 h
    refine lv_ldc2 (v := (-1000000000000000 : Int64)) hx hb hown (hts _ (wl_in w_226)) dX4_line_31 ?_
    exact END 34 ls _ (pe h) dX4_line_34
  · have h := pf c4 h
    refine lv_aload_n hx hb dX4_line_7 rfl (lv_at hl 0 rfl) ?_
    refine va_get (D := G) (ci := 2) (v := .ref sh) (C := RX4) (T := TX4) (N := 5) hx hb hts (fun w h => wl_in (inX4 w h)) hown hK hP 0 rfl rfl 0 (by decide) (hts _ (wl_in w_60)) (fun _ h9 => h9) rfl dX4_line_8 ?_
    refine lv_iload_n hx hb dX4_line_11 rfl (lv_at hl 1 rfl) ?_
    obtain ⟨g3, h⟩ := pg h
    refine c_aald hx hb hK hP g3 dX4_line_12 ?_
    have hPj4 := cP_form hP (vin_lt g3)
    refine va_get (D := G) (ci := 0) (v := .int (n a0.toNatClampNeg)) (C := RX0) (T := TX0) (N := 2) hx hb hts (fun w h => wl_in (inX0 w h)) hown hK hPj4 0 rfl rfl 0 (by decide) (hts _ (wl_in w_24)) (fun _ h9 => h9) rfl dX4_line_13 ?_
    refine lv_iconst (v := (3 : Int32)) hx hb dX4_line_16 (by decide) ?_
    refine lv_icmp_ne (tgt := 31) hx hb dX4_line_17 (by decide) (fun c17 => ?_) (fun c17 => ?_)
    · have h := pf c17 h
      refine lv_ldc2 (v := (-1000000000000000 : Int64)) hx hb hown (hts _ (wl_in w_226)) dX4_line_31 ?_
      exact END 34 ls _ (pe h) dX4_line_34
    · have h := pt c17 h
      refine lv_iload hx hb dX4_line_20 (lv_at hl 8 rfl) ?_
      refine lv_if_lt (tgt := 31) hx hb dX4_line_22 (by decide) (fun c22 => ?_) (fun c22 => ?_)
      · have h := pt c22 h
        refine lv_ldc2 (v := (-1000000000000000 : Int64)) hx hb hown (hts _ (wl_in w_226)) dX4_line_31 ?_
        exact END 34 ls _ (pe h) dX4_line_34
      · have h := pf c22 h
        refine lv_iload hx hb dX4_line_25 (lv_at hl 8 rfl) ?_
        refine lv_iconst (v := (2 : Int32)) hx hb dX4_line_27 (by decide) ?_
        refine lv_icmp_le (tgt := 35) hx hb dX4_line_28 (by decide) (fun c28 => ?_) (fun c28 => ?_)
        · have h := pt c28 h
          refine lv_aload_n hx hb dX4_line_35 rfl (lv_at hl 0 rfl) ?_
          refine va_get (D := G) (ci := 2) (v := .ref sh) (C := RX4) (T := TX4) (N := 5) hx hb hts (fun w h => wl_in (inX4 w h)) hown hK hP 0 rfl rfl 0 (by decide) (hts _ (wl_in w_60)) (fun _ h9 => h9) rfl dX4_line_36 ?_
          refine lv_iload_n hx hb dX4_line_39 rfl (lv_at hl 1 rfl) ?_
          obtain ⟨g5, h⟩ := pg h
          refine c_aald hx hb hK hP g5 dX4_line_40 ?_
          have hPj6 := cP_form hP (vin_lt g5)
          refine lv_astore (lv' := [(9, .ref (fa a0.toNatClampNeg)), (0, .ref o), (1, .int a0), (2, .int a1), (3, .int a2), (4, .int a3), (5, .int a4), (6, .int a5), (7, .int a6), (8, .int a7)]) hx hb dX4_line_41 hl (by decide) rfl (fun ls hl => ?_)
          refine lv_iload_n hx hb dX4_line_43 rfl (lv_at hl 3 rfl) ?_
          refine lv_iload_n hx hb dX4_line_44 rfl (lv_at hl 4 rfl) ?_
          refine lv_iload hx hb dX4_line_45 (lv_at hl 5 rfl) ?_
          refine lv_bipush (v := (30 : Int32)) hx hb dX4_line_47 (by decide) ?_
          obtain ⟨r7, e8, h⟩ := pb h
          refine ro_S (As := [.int a1, .int a2, .int a3, .int (30 : Int32)]) (rest := []) hF (fun _ h => wl_in h) (cnX4_areWithin l e8) syX4_areWithin w_223 ⟨Nat.le_of_ble_eq_true rfl, Nat.le_of_ble_eq_true rfl⟩ mv0 trivial rfl hl.1 rfl (Nat.le_of_ble_eq_true rfl) dX4_line_49 ⟨Nat.zero_le _, Nat.zero_le _⟩ ?_
          refine lv_if_eq (tgt := 83) hx hb dX4_line_52 (by decide) (fun c52 => ?_) (fun c52 => ?_)
          · have h := pt c52 h
            refine lv_ldc2 (v := (-1000000000000000 : Int64)) hx hb hown (hts _ (wl_in w_226)) dX4_line_83 ?_
            exact END 86 ls _ (pe h) dX4_line_86
          · have h := pf c52 h
            refine lv_iload_n hx hb dX4_line_55 rfl (lv_at hl 3 rfl) ?_
            refine lv_iload_n hx hb dX4_line_56 rfl (lv_at hl 4 rfl) ?_
            refine lv_iload hx hb dX4_line_57 (lv_at hl 5 rfl) ?_
            obtain ⟨r9, e10, h⟩ := pb h
            refine ro_S (As := [.int a1, .int a2, .int a3]) (rest := []) hF (fun _ h => wl_in h) (cnX4_isReduced l e10) syX4_isReduced w_296 ⟨Nat.le_of_ble_eq_true rfl, Nat.le_of_ble_eq_true rfl⟩ mv0 trivial rfl hl.1 rfl (Nat.le_of_ble_eq_true rfl) dX4_line_59 ⟨Nat.zero_le _, Nat.zero_le _⟩ ?_
            refine lv_if_eq (tgt := 83) hx hb dX4_line_62 (by decide) (fun c62 => ?_) (fun c62 => ?_)
            · have h := pt c62 h
              refine lv_ldc2 (v := (-1000000000000000 : Int64)) hx hb hown (hts _ (wl_in w_226)) dX4_line_83 ?_
              exact END 86 ls _ (pe h) dX4_line_86
            · have h := pf c62 h
              refine lv_aload hx hb dX4_line_65 (lv_at hl 0 rfl) ?_
              refine lv_iload_n hx hb dX4_line_67 rfl (lv_at hl 3 rfl) ?_
              refine lv_iload_n hx hb dX4_line_68 rfl (lv_at hl 4 rfl) ?_
              refine lv_iload hx hb dX4_line_69 (lv_at hl 5 rfl) ?_
              refine lv_iload_n hx hb dX4_line_71 rfl (lv_at hl 3 rfl) ?_
              refine lv_iload_n hx hb dX4_line_72 rfl (lv_at hl 4 rfl) ?_
              refine lv_iload hx hb dX4_line_73 (lv_at hl 5 rfl) ?_
              obtain ⟨r11, e12, h⟩ := pb h
              refine ro_V (As := [.int a1, .int a2, .int a3, .int a1, .int a2, .int a3]) (rest := []) hF (fun _ h => wl_in h) (cnX0_pairing l A G cI cF tA tT (fa a0.toNatClampNeg) (ca a0.toNatClampNeg) (n a0.toNatClampNeg) (f a0.toNatClampNeg) e12) syX0_pairing w_227 ⟨Nat.le_of_ble_eq_true rfl, Nat.le_of_ble_eq_true rfl⟩ fB_mv ⟨hE, hPj6⟩ (va_recv hK hPj6 (ci := 0) (q0 := 0) rfl rfl) rfl hl.1 rfl (Nat.le_of_ble_eq_true rfl) dX4_line_75 ⟨Nat.zero_le _, Nat.zero_le _⟩ ?_
              refine lv_lconst (v := (0 : Int64)) hx hb dX4_line_78 (by decide) ?_
              refine W.lcmp hx hb dX4_line_79 ?_
              refine lv_if_eq (tgt := 87) hx hb dX4_line_80 (by decide) (fun c80 => ?_) (fun c80 => ?_)
              · have h := pt c80 h
                refine lv_iload hx hb dX4_line_87 (lv_at hl 6 rfl) ?_
                refine lv_iload hx hb dX4_line_89 (lv_at hl 7 rfl) ?_
                refine lv_iload hx hb dX4_line_91 (lv_at hl 8 rfl) ?_
                refine lv_bipush (v := (30 : Int32)) hx hb dX4_line_93 (by decide) ?_
                obtain ⟨r13, e14, h⟩ := pb h
                refine ro_S (As := [.int a4, .int a5, .int a6, .int (30 : Int32)]) (rest := []) hF (fun _ h => wl_in h) (cnX4_areWithin l e14) syX4_areWithin w_223 ⟨Nat.le_of_ble_eq_true rfl, Nat.le_of_ble_eq_true rfl⟩ mv0 trivial rfl hl.1 rfl (Nat.le_of_ble_eq_true rfl) dX4_line_95 ⟨Nat.zero_le _, Nat.zero_le _⟩ ?_
                refine lv_if_eq (tgt := 116) hx hb dX4_line_98 (by decide) (fun c98 => ?_) (fun c98 => ?_)
                · have h := pt c98 h
                  refine lv_ldc2 (v := (-1000000000000000 : Int64)) hx hb hown (hts _ (wl_in w_226)) dX4_line_116 ?_
                  exact END 119 ls _ (pe h) dX4_line_119
                · have h := pf c98 h
                  refine lv_iload hx hb dX4_line_101 (lv_at hl 6 rfl) ?_
                  have J120 : kX4_line_120 n f a0 a1 a2 a3 a4 a5 a6 a7 = some r → ∀ (ls : Array Slot), lv_has ls 22 [(9, .ref (fa a0.toNatClampNeg)), (2, .int a1), (3, .int a2), (4, .int a3), (5, .int a4), (6, .int a5), (7, .int a6), (8, .int a7)] → W p l e (rmk 4 106) s m args below meth cd s.heap [] 0 0 Q (F0 m 120 ls []) := by
                    intro h  ls hl
                    rw [kX4_line_120] at h
                    refine lv_aload hx hb dX4_line_120 (lv_at hl 0 rfl) ?_
                    refine lv_iload hx hb dX4_line_122 (lv_at hl 4 rfl) ?_
                    refine lv_iload hx hb dX4_line_124 (lv_at hl 5 rfl) ?_
                    refine lv_iload hx hb dX4_line_126 (lv_at hl 6 rfl) ?_
                    refine lv_iload hx hb dX4_line_128 (lv_at hl 4 rfl) ?_
                    refine lv_iload hx hb dX4_line_130 (lv_at hl 5 rfl) ?_
                    refine lv_iload hx hb dX4_line_132 (lv_at hl 6 rfl) ?_
                    obtain ⟨r15, e16, h⟩ := pb h
                    refine ro_V (As := [.int a4, .int a5, .int a6, .int a4, .int a5, .int a6]) (rest := []) hF (fun _ h => wl_in h) (cnX0_pairing l A G cI cF tA tT (fa a0.toNatClampNeg) (ca a0.toNatClampNeg) (n a0.toNatClampNeg) (f a0.toNatClampNeg) e16) syX0_pairing w_227 ⟨Nat.le_of_ble_eq_true rfl, Nat.le_of_ble_eq_true rfl⟩ fB_mv ⟨hE, hPj6⟩ (va_recv hK hPj6 (ci := 0) (q0 := 0) rfl rfl) rfl hl.1 rfl (Nat.le_of_ble_eq_true rfl) dX4_line_134 ⟨Nat.zero_le _, Nat.zero_le _⟩ ?_
                    refine lv_lstore (lv' := [(10, .long r15), (9, .ref (fa a0.toNatClampNeg)), (2, .int a1), (3, .int a2), (4, .int a3), (5, .int a4), (6, .int a5), (7, .int a6), (8, .int a7)]) hx hb dX4_line_137 hl (by decide) rfl (fun ls hl => ?_)
                    refine lv_ldc2 (v := (2 : Int64)) hx hb hown (hts _ (wl_in w_297)) dX4_line_139 ?_
                    refine lv_aload hx hb dX4_line_142 (lv_at hl 1 rfl) ?_
                    refine lv_iload_n hx hb dX4_line_144 rfl (lv_at hl 2 rfl) ?_
                    refine lv_iload_n hx hb dX4_line_145 rfl (lv_at hl 3 rfl) ?_
                    refine lv_iload hx hb dX4_line_146 (lv_at hl 4 rfl) ?_
                    refine lv_iload hx hb dX4_line_148 (lv_at hl 5 rfl) ?_
                    refine lv_iload hx hb dX4_line_150 (lv_at hl 6 rfl) ?_
                    refine lv_iload hx hb dX4_line_152 (lv_at hl 7 rfl) ?_
                    obtain ⟨r17, e18, h⟩ := pb h
                    refine ro_V (As := [.int a1, .int a2, .int a3, .int a4, .int a5, .int a6]) (rest := [.long (2 : Int64)]) hF (fun _ h => wl_in h) (cnX0_pairing l A G cI cF tA tT (fa a0.toNatClampNeg) (ca a0.toNatClampNeg) (n a0.toNatClampNeg) (f a0.toNatClampNeg) e18) syX0_pairing w_227 ⟨Nat.le_of_ble_eq_true rfl, Nat.le_of_ble_eq_true rfl⟩ fB_mv ⟨hE, hPj6⟩ (va_recv hK hPj6 (ci := 0) (q0 := 0) rfl rfl) rfl hl.1 rfl (Nat.le_of_ble_eq_true rfl) dX4_line_154 ⟨Nat.zero_le _, Nat.zero_le _⟩ ?_
                    refine lv_lmul hx hb dX4_line_157 ?_
                    refine lv_lstore (lv' := [(12, .long ((2 : Int64) * r17)), (10, .long r15), (9, .ref (fa a0.toNatClampNeg)), (2, .int a1), (3, .int a2), (4, .int a3), (5, .int a4), (6, .int a5), (7, .int a6), (8, .int a7)]) hx hb dX4_line_158 hl (by decide) rfl (fun ls hl => ?_)
                    refine lv_lload hx hb dX4_line_160 (lv_at hl 1 rfl) ?_
                    refine lv_iload_n hx hb dX4_line_162 rfl (lv_at hl 3 rfl) ?_
                    refine lv_i2l (v := a1.toInt64) hx hb dX4_line_163 rfl ?_
                    refine lv_lmul hx hb dX4_line_164 ?_
                    refine lv_lload hx hb dX4_line_165 (lv_at hl 0 rfl) ?_
                    refine lv_iload hx hb dX4_line_167 (lv_at hl 6 rfl) ?_
                    refine lv_i2l (v := a4.toInt64) hx hb dX4_line_169 rfl ?_
                    refine lv_lmul hx hb dX4_line_170 ?_
                    refine lv_lsub hx hb dX4_line_171 ?_
                    refine lv_lstore (lv' := [(14, .long ((r15 * a1.toInt64) - (((2 : Int64) * r17) * a4.toInt64))), (12, .long ((2 : Int64) * r17)), (10, .long r15), (9, .ref (fa a0.toNatClampNeg)), (2, .int a1), (3, .int a2), (4, .int a3), (5, .int a4), (6, .int a5), (7, .int a6), (8, .int a7)]) hx hb dX4_line_172 hl (by decide) rfl (fun ls hl => ?_)
                    refine lv_lload hx hb dX4_line_174 (lv_at hl 2 rfl) ?_
                    refine lv_iload_n hx hb dX4_line_176 rfl (lv_at hl 5 rfl) ?_
                    refine lv_i2l (v := a2.toInt64) hx hb dX4_line_177 rfl ?_
                    refine lv_lmul hx hb dX4_line_178 ?_
                    refine lv_lload hx hb dX4_line_179 (lv_at hl 1 rfl) ?_
                    refine lv_iload hx hb dX4_line_181 (lv_at hl 8 rfl) ?_
                    refine lv_i2l (v := a5.toInt64) hx hb dX4_line_183 rfl ?_
                    refine lv_lmul hx hb dX4_line_184 ?_
                    refine lv_lsub hx hb dX4_line_185 ?_
                    refine lv_lstore (lv' := [(16, .long ((r15 * a2.toInt64) - (((2 : Int64) * r17) * a5.toInt64))), (14, .long ((r15 * a1.toInt64) - (((2 : Int64) * r17) * a4.toInt64))), (12, .long ((2 : Int64) * r17)), (10, .long r15), (9, .ref (fa a0.toNatClampNeg)), (2, .int a1), (3, .int a2), (4, .int a3), (5, .int a4), (6, .int a5), (7, .int a6), (8, .int a7)]) hx hb dX4_line_186 hl (by decide) rfl (fun ls hl => ?_)
                    refine lv_lload hx hb dX4_line_188 (lv_at hl 3 rfl) ?_
                    refine lv_iload hx hb dX4_line_190 (lv_at hl 7 rfl) ?_
                    refine lv_i2l (v := a3.toInt64) hx hb dX4_line_192 rfl ?_
                    refine lv_lmul hx hb dX4_line_193 ?_
                    refine lv_lload hx hb dX4_line_194 (lv_at hl 2 rfl) ?_
                    refine lv_iload hx hb dX4_line_196 (lv_at hl 10 rfl) ?_
                    refine lv_i2l (v := a6.toInt64) hx hb dX4_line_198 rfl ?_
                    refine lv_lmul hx hb dX4_line_199 ?_
                    refine lv_lsub hx hb dX4_line_200 ?_
                    refine lv_lstore (lv' := [(18, .long ((r15 * a3.toInt64) - (((2 : Int64) * r17) * a6.toInt64))), (16, .long ((r15 * a2.toInt64) - (((2 : Int64) * r17) * a5.toInt64))), (14, .long ((r15 * a1.toInt64) - (((2 : Int64) * r17) * a4.toInt64))), (12, .long ((2 : Int64) * r17)), (10, .long r15), (9, .ref (fa a0.toNatClampNeg)), (2, .int a1), (3, .int a2), (4, .int a3), (5, .int a4), (6, .int a5), (7, .int a6), (8, .int a7)]) hx hb dX4_line_201 hl (by decide) rfl (fun ls hl => ?_)
                    refine lv_lload hx hb dX4_line_203 (lv_at hl 2 rfl) ?_
                    refine lv_lload hx hb dX4_line_205 (lv_at hl 1 rfl) ?_
                    refine lv_lload hx hb dX4_line_207 (lv_at hl 0 rfl) ?_
                    obtain ⟨r19, e20, h⟩ := pb h
                    refine ro_S (As := [.long ((r15 * a1.toInt64) - (((2 : Int64) * r17) * a4.toInt64)), .long ((r15 * a2.toInt64) - (((2 : Int64) * r17) * a5.toInt64)), .long ((r15 * a3.toInt64) - (((2 : Int64) * r17) * a6.toInt64))]) (rest := []) hF (fun _ h => wl_in h) (cnX4_reducer l e20) syX4_reducer w_274 ⟨Nat.le_of_ble_eq_true rfl, Nat.le_of_ble_eq_true rfl⟩ mv0 trivial rfl hl.1 rfl (Nat.le_of_ble_eq_true rfl) dX4_line_209 ⟨Nat.zero_le _, Nat.zero_le _⟩ ?_
                    refine lv_lstore (lv' := [(20, .long r19), (18, .long ((r15 * a3.toInt64) - (((2 : Int64) * r17) * a6.toInt64))), (16, .long ((r15 * a2.toInt64) - (((2 : Int64) * r17) * a5.toInt64))), (14, .long ((r15 * a1.toInt64) - (((2 : Int64) * r17) * a4.toInt64))), (12, .long ((2 : Int64) * r17)), (10, .long r15), (9, .ref (fa a0.toNatClampNeg)), (2, .int a1), (3, .int a2), (4, .int a3), (5, .int a4), (6, .int a5), (7, .int a6), (8, .int a7)]) hx hb dX4_line_212 hl (by decide) rfl (fun ls hl => ?_)
                    refine lv_lload hx hb dX4_line_214 (lv_at hl 0 rfl) ?_
                    refine lv_lconst (v := (0 : Int64)) hx hb dX4_line_216 (by decide) ?_
                    refine W.lcmp hx hb dX4_line_217 ?_
                    refine lv_if_ne (tgt := 234) hx hb dX4_line_218 (by decide) (fun c218 => ?_) (fun c218 => ?_)
                    · have h := pf c218 h
                      refine lv_iload hx hb dX4_line_234 (lv_at hl 13 rfl) ?_
                      refine lv_lload hx hb dX4_line_236 (lv_at hl 3 rfl) ?_
                      refine lv_lload hx hb dX4_line_238 (lv_at hl 2 rfl) ?_
                      refine lv_lload hx hb dX4_line_240 (lv_at hl 1 rfl) ?_
                      obtain ⟨r21, e22, h⟩ := pb h
                      refine ro_S (As := [.int a7, .long ((r15 * a1.toInt64) - (((2 : Int64) * r17) * a4.toInt64)), .long ((r15 * a2.toInt64) - (((2 : Int64) * r17) * a5.toInt64)), .long ((r15 * a3.toInt64) - (((2 : Int64) * r17) * a6.toInt64))]) (rest := []) hF (fun _ h => wl_in h) (cnX4_pick l e22) syX4_pick w_285 ⟨Nat.le_of_ble_eq_true rfl, Nat.le_of_ble_eq_true rfl⟩ mv0 trivial rfl hl.1 rfl (Nat.le_of_ble_eq_true rfl) dX4_line_242 ⟨Nat.zero_le _, Nat.zero_le _⟩ ?_
                      refine lv_lload hx hb dX4_line_245 (lv_at hl 0 rfl) ?_
                      obtain ⟨g23, h⟩ := pg h
                      refine lv_ldiv hx hb dX4_line_247 g23 ?_
                      exact END 248 ls _ (pe h) dX4_line_248
                    · have h := pt c218 h
                      refine lv_iload hx hb dX4_line_221 (lv_at hl 13 rfl) ?_
                      refine lv_iload_n hx hb dX4_line_223 rfl (lv_at hl 7 rfl) ?_
                      refine lv_i2l (v := a1.toInt64) hx hb dX4_line_224 rfl ?_
                      refine lv_iload_n hx hb dX4_line_225 rfl (lv_at hl 8 rfl) ?_
                      refine lv_i2l (v := a2.toInt64) hx hb dX4_line_226 rfl ?_
                      refine lv_iload hx hb dX4_line_227 (lv_at hl 9 rfl) ?_
                      refine lv_i2l (v := a3.toInt64) hx hb dX4_line_229 rfl ?_
                      obtain ⟨r24, e25, h⟩ := pb h
                      refine ro_S (As := [.int a7, .long a1.toInt64, .long a2.toInt64, .long a3.toInt64]) (rest := []) hF (fun _ h => wl_in h) (cnX4_pick l e25) syX4_pick w_285 ⟨Nat.le_of_ble_eq_true rfl, Nat.le_of_ble_eq_true rfl⟩ mv0 trivial rfl hl.1 rfl (Nat.le_of_ble_eq_true rfl) dX4_line_230 ⟨Nat.zero_le _, Nat.zero_le _⟩ ?_
                      exact END 233 ls _ (pe h) dX4_line_233
                  refine lv_if_ne (tgt := 120) hx hb dX4_line_103 (by decide) (fun c103 => ?_) (fun c103 => ?_)
                  · have h := pf c103 h
                    exact J120 h  _ (lv_sub hl [0, 3, 4, 5, 6, 7, 8, 9] rfl)
                  · have h := pt c103 h
                    refine lv_iload hx hb dX4_line_106 (lv_at hl 7 rfl) ?_
                    refine lv_if_ne (tgt := 120) hx hb dX4_line_108 (by decide) (fun c108 => ?_) (fun c108 => ?_)
                    · have h := pf c108 h
                      exact J120 h  _ (lv_sub hl [0, 3, 4, 5, 6, 7, 8, 9] rfl)
                    · have h := pt c108 h
                      refine lv_iload hx hb dX4_line_111 (lv_at hl 8 rfl) ?_
                      refine lv_if_ne (tgt := 120) hx hb dX4_line_113 (by decide) (fun c113 => ?_) (fun c113 => ?_)
                      · have h := pf c113 h
                        exact J120 h  _ (lv_sub hl [0, 3, 4, 5, 6, 7, 8, 9] rfl)
                      · have h := pt c113 h
                        refine lv_ldc2 (v := (-1000000000000000 : Int64)) hx hb hown (hts _ (wl_in w_226)) dX4_line_116 ?_
                        exact END 119 ls _ (pe h) dX4_line_119
              · have h := pf c80 h
                refine lv_ldc2 (v := (-1000000000000000 : Int64)) hx hb hown (hts _ (wl_in w_226)) dX4_line_83 ?_
                exact END 86 ls _ (pe h) dX4_line_86
        · have h := pf c28 h
          refine lv_ldc2 (v := (-1000000000000000 : Int64)) hx hb hown (hts _ (wl_in w_226)) dX4_line_31 ?_
          exact END 34 ls _ (pe h) dX4_line_34

theorem syX4_count : Vy yX4_count cX4_count 3 (some .int) 2 := ⟨w_301, ⟨w_299, w_300⟩, w_1, by decide +kernel⟩
set_option maxHeartbeats 4000000 in
set_option maxRecDepth 100000 in
theorem cnX4_count (l : Launch) (A : Nat → Prop) (G : va_G) (cI cF : ClassId) (tA tT : Nat) (o sh xx xc gv se : Nat) (fa ca : Nat → Nat) (n : Nat → Int32) (f : Nat → Nat → Int32) (xn : Int32) (xf gf : Nat → Int32) (s0 s1 s2 s3 s4 : Int32) (tr : Int64) {a0 : Int32} {a1 : Int32} {r : Int32} (h : fX4_count n f tr a0 a1 = some r) : Ro l yX4_count cX4_count 3 (some .int) 1 22 [.ref o, .int a0, .int a1] (cB A G cI cF tA tT o sh xx xc gv se fa ca n f xn xf gf s0 s1 s2 s3 s4 tr) (.int r) := by
  refine ro_i (plainFor_of_name (by decide)) (Nat.le_of_ble_eq_true rfl) ?_
  intro p e s m args below meth cd Q ls hF hB hl END
  have hF : CallFix p m cd cX4_count 3 s args (wl yX4_count cX4_count 3 (some .int)) RX4 := hF
  obtain ⟨hx, hb, hml, hown, hts⟩ := id hF
  have hl : lv_has ls 3 [(0, .ref o), (1, .int a0), (2, .int a1)] := hl
  obtain ⟨hE, hP⟩ := id hB
  obtain ⟨hK, ⟨hZ, hT⟩, ⟨hZ2, hT2⟩⟩ := id hE
  have hS : va_S A s.heap s.heap [] := va_S.rf
  rw [fX4_count] at h
  refine lv_iload_n hx hb dX4_count_0 rfl (lv_at hl 1 rfl) ?_
  obtain ⟨r1, e2, h⟩ := pb h
  refine ro_S (As := [.int a0]) (rest := []) hF (fun _ h => wl_in h) (cnX4_isShelf l e2) syX4_isShelf w_126 ⟨Nat.le_of_ble_eq_true rfl, Nat.le_of_ble_eq_true rfl⟩ mv0 trivial rfl hl.1 rfl (Nat.le_of_ble_eq_true rfl) dX4_count_1 ⟨Nat.zero_le _, Nat.zero_le _⟩ ?_
  refine lv_if_eq (tgt := 16) hx hb dX4_count_4 (by decide) (fun c4 => ?_) (fun c4 => ?_)
  · have h := pt c4 h
    refine lv_bipush (v := (-3 : Int32)) hx hb dX4_count_16 (by decide) ?_
    exact END 18 ls _ (pe h) dX4_count_18
  · have h := pf c4 h
    refine lv_iload_n hx hb dX4_count_7 rfl (lv_at hl 2 rfl) ?_
    refine lv_if_lt (tgt := 16) hx hb dX4_count_8 (by decide) (fun c8 => ?_) (fun c8 => ?_)
    · have h := pt c8 h
      refine lv_bipush (v := (-3 : Int32)) hx hb dX4_count_16 (by decide) ?_
      exact END 18 ls _ (pe h) dX4_count_18
    · have h := pf c8 h
      refine lv_iload_n hx hb dX4_count_11 rfl (lv_at hl 2 rfl) ?_
      refine lv_iconst (v := (1 : Int32)) hx hb dX4_count_12 (by decide) ?_
      refine lv_icmp_le (tgt := 19) hx hb dX4_count_13 (by decide) (fun c13 => ?_) (fun c13 => ?_)
      · have h := pt c13 h
        refine lv_iload_n hx hb dX4_count_19 rfl (lv_at hl 2 rfl) ?_
        refine lv_if_ne (tgt := 35) hx hb dX4_count_20 (by decide) (fun c20 => ?_) (fun c20 => ?_)
        · have h := pf c20 h
          refine lv_aload_n hx hb dX4_count_35 rfl (lv_at hl 0 rfl) ?_
          refine va_get (D := G) (ci := 2) (v := .ref sh) (C := RX4) (T := TX4) (N := 5) hx hb hts (fun w h => wl_in (inX4 w h)) hown hK hP 0 rfl rfl 0 (by decide) (hts _ (wl_in w_60)) (fun _ h9 => h9) rfl dX4_count_36 ?_
          refine lv_iload_n hx hb dX4_count_39 rfl (lv_at hl 1 rfl) ?_
          obtain ⟨g3, h⟩ := pg h
          refine c_aald hx hb hK hP g3 dX4_count_40 ?_
          have hPj4 := cP_form hP (vin_lt g3)
          obtain ⟨r5, e6, h⟩ := pb h
          refine ro_V (As := []) (rest := []) hF (fun _ h => wl_in h) (cnX0_countAbove l A G cI cF tA tT (fa a0.toNatClampNeg) (ca a0.toNatClampNeg) (n a0.toNatClampNeg) (f a0.toNatClampNeg) e6) syX0_countAbove w_302 ⟨Nat.le_of_ble_eq_true rfl, Nat.le_of_ble_eq_true rfl⟩ fB_mv ⟨hE, hPj4⟩ (va_recv hK hPj4 (ci := 0) (q0 := 0) rfl rfl) rfl hl.1 rfl (Nat.le_of_ble_eq_true rfl) dX4_count_41 ⟨Nat.zero_le _, Nat.zero_le _⟩ ?_
          exact END 44 ls _ (pe h) dX4_count_44
        · have h := pt c20 h
          refine lv_aload_n hx hb dX4_count_23 rfl (lv_at hl 0 rfl) ?_
          refine va_get (D := G) (ci := 2) (v := .ref sh) (C := RX4) (T := TX4) (N := 5) hx hb hts (fun w h => wl_in (inX4 w h)) hown hK hP 0 rfl rfl 0 (by decide) (hts _ (wl_in w_60)) (fun _ h9 => h9) rfl dX4_count_24 ?_
          refine lv_iload_n hx hb dX4_count_27 rfl (lv_at hl 1 rfl) ?_
          obtain ⟨g7, h⟩ := pg h
          refine c_aald hx hb hK hP g7 dX4_count_28 ?_
          have hPj8 := cP_form hP (vin_lt g7)
          refine va_get (D := G) (ci := 0) (v := .int (n a0.toNatClampNeg)) (C := RX0) (T := TX0) (N := 2) hx hb hts (fun w h => wl_in (inX0 w h)) hown hK hPj8 0 rfl rfl 0 (by decide) (hts _ (wl_in w_24)) (fun _ h9 => h9) rfl dX4_count_29 ?_
          refine lv_goto (tgt := 44) hx hb dX4_count_32 (by decide) ?_
          exact END 44 ls _ (pe h) dX4_count_44
      · have h := pf c13 h
        refine lv_bipush (v := (-3 : Int32)) hx hb dX4_count_16 (by decide) ?_
        exact END 18 ls _ (pe h) dX4_count_18

theorem syX4_trace : Vy yX4_trace cX4_trace 1 (some .long) 0 := ⟨w_306, ⟨w_304, w_305⟩, w_1, by decide +kernel⟩
set_option maxHeartbeats 4000000 in
set_option maxRecDepth 100000 in
theorem cnX4_trace (l : Launch) (A : Nat → Prop) (G : va_G) (cI cF : ClassId) (tA tT : Nat) (o sh xx xc gv se : Nat) (fa ca : Nat → Nat) (n : Nat → Int32) (f : Nat → Nat → Int32) (xn : Int32) (xf gf : Nat → Int32) (s0 s1 s2 s3 s4 : Int32) (tr : Int64) {r : Int64} (h : fX4_trace n f tr = some r) : Ro l yX4_trace cX4_trace 1 (some .long) 0 0 [.ref o] (cB A G cI cF tA tT o sh xx xc gv se fa ca n f xn xf gf s0 s1 s2 s3 s4 tr) (.long r) := by
  refine ro_l (plainFor_of_name (by decide)) (Nat.le_of_ble_eq_true rfl) ?_
  intro p e s m args below meth cd Q ls hF hB hl END
  have hF : CallFix p m cd cX4_trace 1 s args (wl yX4_trace cX4_trace 1 (some .long)) RX4 := hF
  obtain ⟨hx, hb, hml, hown, hts⟩ := id hF
  have hl : lv_has ls 1 [(0, .ref o)] := hl
  obtain ⟨hE, hP⟩ := id hB
  obtain ⟨hK, ⟨hZ, hT⟩, ⟨hZ2, hT2⟩⟩ := id hE
  have hS : va_S A s.heap s.heap [] := va_S.rf
  rw [fX4_trace] at h
  refine lv_aload_n hx hb dX4_trace_0 rfl (lv_at hl 0 rfl) ?_
  refine va_get (D := G) (ci := 2) (v := .long tr) (C := RX4) (T := TX4) (N := 5) hx hb hts (fun w h => wl_in (inX4 w h)) hown hK hP 0 rfl rfl 4 (by decide) (hts _ (wl_in w_64)) (fun _ h9 => h9) rfl dX4_trace_1 ?_
  exact END 4 ls _ (pe h) dX4_trace_4
