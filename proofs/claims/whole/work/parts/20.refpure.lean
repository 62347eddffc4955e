def fX5_in (a0 : Int64) (a1 : Int64) (a2 : Int64) : Option (Int32) :=
    (if (lg_cmp a0 a1) < 0 then some (0 : Int32) else
    (if 0 < (lg_cmp a0 a2) then some (0 : Int32) else
    some (1 : Int32)))
def kX5_isPrime_13 (a0 : Int32) : Nat → Int32 → Int32 → Option (Int32)
  | 0, _, _ => none
  | fu + 1, x1_13, x2_13 =>
    (if a0 < (x2_13 * x2_13) then (if x1_13 &&& 1 = x1_13 then some x1_13 else none) else
    (if x1_13 = 0 then (if x1_13 &&& 1 = x1_13 then some x1_13 else none) else
    (if ¬ x2_13 = 0 then (if (irm a0 x2_13) = 0 then (kX5_isPrime_13 a0 fu) (0 : Int32) (x2_13 + (1 : Int32)) else
    (kX5_isPrime_13 a0 fu) (1 : Int32) (x2_13 + (1 : Int32))) else none)))
def kX5_isPrime_10 (a0 : Int32) (t0_10 : Int32) : Option (Int32) :=
    kX5_isPrime_13 a0 1100 t0_10 (2 : Int32)
def fX5_isPrime (a0 : Int32) : Option (Int32) :=
    (if a0 ≤ (1 : Int32) then kX5_isPrime_10 a0 (0 : Int32) else
    kX5_isPrime_10 a0 (1 : Int32))
def fX5_isPlace (a0 : Int32) : Option (Int32) :=
    (if a0 = 0 then some (1 : Int32) else
    (fX5_in a0.toInt64 (2 : Int64) (397 : Int64)).bind fun (r1 : Int32) =>
    (if r1 = 0 then some (0 : Int32) else
    (fX5_isPrime a0).bind fun (r3 : Int32) =>
    (if r3 = 0 then some (0 : Int32) else
    some (1 : Int32))))
def fX5_isTold (a0 : Int32) (a1 : Int32) : Option (Int32) :=
    (if a0 = 0 then some (0 : Int32) else
    (fX5_in a0.toInt64 ((-a1).toInt64) a1.toInt64).bind fun (r1 : Int32) =>
    (if r1 = 0 then some (0 : Int32) else
    some (1 : Int32)))
def kX5_root_26 (a1 : Int32) (t0_19 : Int64) : Nat → Int64 → Int32 → Option (Int32)
  | 0, _, _ => none
  | fu + 1, x5_26, x7_26 =>
    (if ((a1 - (1 : Int32)) / (2 : Int32)) ≤ x7_26 then (if (lg_cmp x5_26 (1 : Int64)) = 0 then some (1 : Int32) else
    some (-1 : Int32)) else
    (if ¬ a1.toInt64 = 0 then (kX5_root_26 a1 t0_19 fu) (lrm (x5_26 * t0_19) a1.toInt64) (x7_26 + (1 : Int32)) else none))
def kX5_root_19 (a1 : Int32) (t0_19 : Int64) : Option (Int32) :=
    kX5_root_26 a1 t0_19 1100 (1 : Int64) (0 : Int32)
def fX5_root (a0 : Int64) (a1 : Int32) : Option (Int32) :=
    (if ¬ a1.toInt64 = 0 then (if 0 ≤ (lg_cmp (lrm a0 a1.toInt64) (0 : Int64)) then kX5_root_19 a1 (lrm a0 a1.toInt64) else
    kX5_root_19 a1 ((lrm a0 a1.toInt64) + a1.toInt64)) else none)
def fX5_rest (a0 : Int64) : Option (Int32) :=
    (if 0 ≤ ((lrm a0 (8 : Int64)).toInt32) then some ((lrm a0 (8 : Int64)).toInt32) else
    some (((lrm a0 (8 : Int64)).toInt32) + (8 : Int32)))
def fX5_isShelf (a0 : Int32) : Option (Int32) :=
    (fX5_in a0.toInt64 (0 : Int64) (3 : Int64)).bind fun (r1 : Int32) =>
    (if r1 &&& 1 = r1 then some r1 else none)
def kX5_isWholeSquare_2 (a0 : Int64) : Nat → Int64 → Option (Int32)
  | 0, _ => none
  | fu + 1, x2_2 =>
    (if 0 ≤ (lg_cmp (x2_2 * x2_2) a0) then (if (lg_cmp a0 (0 : Int64)) ≤ 0 then some (0 : Int32) else
    (if (lg_cmp (x2_2 * x2_2) a0) = 0 then some (1 : Int32) else
    some (0 : Int32))) else
    (kX5_isWholeSquare_2 a0 fu) (x2_2 + (1 : Int64)))
def fX5_isWholeSquare (a0 : Int64) : Option (Int32) :=
    kX5_isWholeSquare_2 a0 1100 (0 : Int64)
def fX5_size (a0 : Int32) : Option (Int32) :=
    (if 0 ≤ a0 then some a0 else
    some (-a0))
def fX5_isNear (a0 : Int32) (a1 : Int32) (a2 : Int32) : Option (Int32) :=
    (fX5_in a0.toInt64 (-30 : Int64) (30 : Int64)).bind fun (r1 : Int32) =>
    (if r1 = 0 then some (0 : Int32) else
    (fX5_in a1.toInt64 (-30 : Int64) (30 : Int64)).bind fun (r3 : Int32) =>
    (if r3 = 0 then some (0 : Int32) else
    (fX5_in a2.toInt64 (-30 : Int64) (30 : Int64)).bind fun (r5 : Int32) =>
    (if r5 = 0 then some (0 : Int32) else
    some (1 : Int32))))
def kX5_measureOf_68 (a0 : Int32) (a1 : Int32) (a2 : Int32) (a3 : Int32) (t0_42 : Int32) (t0_68 : Int32) : Option (Int32) :=
    (if a0 = (2 : Int32) then some ((t0_42 + t0_68) + ((7 : Int32) * (((a1 &&& (1 : Int32)) + (a2 &&& (1 : Int32))) + (a3 &&& (1 : Int32))))) else
    some (t0_42 + t0_68))
def kX5_measureOf_42 (a0 : Int32) (a1 : Int32) (a2 : Int32) (a3 : Int32) (t0_42 : Int32) : Option (Int32) :=
    (if a0 ≤ 0 then kX5_measureOf_68 a0 a1 a2 a3 t0_42 (0 : Int32) else
    (fX5_size a1).bind fun (r7 : Int32) =>
    (fX5_size a2).bind fun (r9 : Int32) =>
    (fX5_size a3).bind fun (r11 : Int32) =>
    kX5_measureOf_68 a0 a1 a2 a3 t0_42 ((r7 + r9) + r11))
def kX5_measureOf_22 (a0 : Int32) (a1 : Int32) (a2 : Int32) (a3 : Int32) (t0_22 : Int32) : Option (Int32) :=
    (fX5_size a3).bind fun (r5 : Int32) =>
    (if r5 ≤ t0_22 then kX5_measureOf_42 a0 a1 a2 a3 t0_22 else
    (fX5_size a3).bind fun (r13 : Int32) =>
    kX5_measureOf_42 a0 a1 a2 a3 r13)
def fX5_measureOf (a0 : Int32) (a1 : Int32) (a2 : Int32) (a3 : Int32) : Option (Int32) :=
    (fX5_size a1).bind fun (r1 : Int32) =>
    (fX5_size a2).bind fun (r3 : Int32) =>
    (if r1 ≤ r3 then (fX5_size a2).bind fun (r15 : Int32) =>
    kX5_measureOf_22 a0 a1 a2 a3 r15 else
    (fX5_size a1).bind fun (r17 : Int32) =>
    kX5_measureOf_22 a0 a1 a2 a3 r17)
def kX5_common_28 : Nat → Int64 → Int64 → Option (Int64)
  | 0, _, _ => none
  | fu + 1, x4_28, x6_28 =>
    (if (lg_cmp x6_28 (0 : Int64)) = 0 then some x4_28 else
    (if ¬ x6_28 = 0 then (kX5_common_28 fu) x6_28 (lrm x4_28 x6_28) else none))
def kX5_common_26 (t0_12 : Int64) (t0_26 : Int64) : Option (Int64) :=
    kX5_common_28 1100 t0_12 t0_26
def kX5_common_12 (a1 : Int64) (t0_12 : Int64) : Option (Int64) :=
    (if 0 ≤ (lg_cmp a1 (0 : Int64)) then kX5_common_26 t0_12 a1 else
    kX5_common_26 t0_12 (-a1))
def fX5_common (a0 : Int64) (a1 : Int64) : Option (Int64) :=
    (if 0 ≤ (lg_cmp a0 (0 : Int64)) then kX5_common_12 a1 a0 else
    kX5_common_12 a1 (-a0))
def fX5_isFirstAbove (a0 : Int64) (a1 : Int64) (a2 : Int64) : Option (Int32) :=
    (if 0 < (lg_cmp a0 (0 : Int64)) then some (1 : Int32) else
    (if (lg_cmp a0 (0 : Int64)) = 0 then (if 0 < (lg_cmp a1 (0 : Int64)) then some (1 : Int32) else
    (if (lg_cmp a1 (0 : Int64)) = 0 then (if (lg_cmp a2 (0 : Int64)) ≤ 0 then some (0 : Int32) else
    some (1 : Int32)) else
    some (0 : Int32))) else
    some (0 : Int32)))
theorem syX5_in : Sy yX5_in cX5_in 6 (some .boolean) 3 := ⟨w_354, w_353, w_4, by decide +kernel⟩
set_option maxHeartbeats 4000000 in
set_option maxRecDepth 100000 in
theorem cnX5_in (l : Launch) {a0 : Int64} {a1 : Int64} {a2 : Int64} {r : Int32} (h : fX5_in a0 a1 a2 = some r) : Ro l yX5_in cX5_in 6 (some .boolean) 0 0 [.long a0, .long a1, .long a2] B0 (.int r) := by
  refine ro_z (plainFor_of_name (by decide)) (Nat.le_of_ble_eq_true rfl) ?_
  intro p e s m args below meth cd Q ls hF hB hl END
  have hF : CallFix p m cd cX5_in 6 s args (wl yX5_in cX5_in 6 (some .boolean)) RX5 := hF
  obtain ⟨hx, hb, hml, hown, hts⟩ := id hF
  have hl : lv_has ls 6 [(0, .long a0), (2, .long a1), (4, .long a2)] := hl
  rw [fX5_in] at h
  refine lv_lload_n hx hb dX5_in_0 rfl (lv_at hl 0 rfl) ?_
  refine lv_lload_n hx hb dX5_in_1 rfl (lv_at hl 1 rfl) ?_
  refine W.lcmp hx hb dX5_in_2 ?_
  refine lv_if_lt (tgt := 17) hx hb dX5_in_3 (by decide) (fun c3 => ?_) (fun c3 => ?_)
  · have h := pt c3 h
    refine lv_iconst (v := (0 : Int32)) hx hb dX5_in_17 (by decide) ?_
    exact END 18 ls _ (pe h) (by rfl) dX5_in_18
  · have h := pf c3 h
    refine lv_lload_n hx hb dX5_in_6 rfl (lv_at hl 0 rfl) ?_
    refine lv_lload hx hb dX5_in_7 (lv_at hl 2 rfl) ?_
    refine W.lcmp hx hb dX5_in_9 ?_
    refine lv_if_gt (tgt := 17) hx hb dX5_in_10 (by decide) (fun c10 => ?_) (fun c10 => ?_)
    · have h := pt c10 h
      refine lv_iconst (v := (0 : Int32)) hx hb dX5_in_17 (by decide) ?_
      exact END 18 ls _ (pe h) (by rfl) dX5_in_18
    · have h := pf c10 h
      refine lv_iconst (v := (1 : Int32)) hx hb dX5_in_13 (by decide) ?_
      refine lv_goto (tgt := 18) hx hb dX5_in_14 (by decide) ?_
      exact END 18 ls _ (pe h) (by rfl) dX5_in_18

theorem syX5_isPrime : Sy yX5_isPrime cX5_isPrime 3 (some .boolean) 1 := ⟨w_366, w_365, w_4, by decide +kernel⟩
set_option maxHeartbeats 4000000 in
set_option maxRecDepth 100000 in
theorem cnX5_isPrime (l : Launch) {a0 : Int32} {r : Int32} (h : fX5_isPrime a0 = some r) : Ro l yX5_isPrime cX5_isPrime 3 (some .boolean) 0 0 [.int a0] B0 (.int r) := by
  refine ro_z (plainFor_of_name (by decide)) (Nat.le_of_ble_eq_true rfl) ?_
  intro p e s m args below meth cd Q ls hF hB hl END
  have hF : CallFix p m cd cX5_isPrime 3 s args (wl yX5_isPrime cX5_isPrime 3 (some .boolean)) RX5 := hF
  obtain ⟨hx, hb, hml, hown, hts⟩ := id hF
  have hl : lv_has ls 3 [(0, .int a0)] := hl
  rw [fX5_isPrime] at h
  refine lv_iload_n hx hb dX5_isPrime_0 rfl (lv_at hl 0 rfl) ?_
  refine lv_iconst (v := (1 : Int32)) hx hb dX5_isPrime_1 (by decide) ?_
  have J10 : ∀ (t0_10 : Int32), kX5_isPrime_10 a0 t0_10 = some r → ∀ (ls : Array Slot), lv_has ls 3 [(0, .int a0)] → W p l e (rmk 0 0) s m args below meth cd s.heap [] 0 0 Q (F0 m 10 ls [.int t0_10]) := by
    intro t0_10 h  ls hl
    rw [kX5_isPrime_10] at h
    refine lv_istore_n (lv' := [(1, .int t0_10), (0, .int a0)]) hx hb dX5_isPrime_10 rfl hl (by decide) rfl (fun ls hl => ?_)
    refine lv_iconst (v := (2 : Int32)) hx hb dX5_isPrime_11 (by decide) ?_
    refine lv_istore_n (lv' := [(2, .int (2 : Int32)), (1, .int t0_10), (0, .int a0)]) hx hb dX5_isPrime_12 rfl hl (by decide) rfl (fun ls hl => ?_)
    have J13 : ∀ (n13 : Nat) (x1_13 : Int32) (x2_13 : Int32), kX5_isPrime_13 a0 n13 x1_13 x2_13 = some r → ∀ (ls : Array Slot), lv_has ls 3 [(0, .int a0), (1, .int x1_13), (2, .int x2_13)] → W p l e (rmk 0 0) s m args below meth cd s.heap [] 0 0 Q (F0 m 13 ls []) := by
      intro n13
      induction n13 with
      | zero =>
        intro x1_13 x2_13 h
        rw [kX5_isPrime_13] at h
        cases h
      | succ n13 ih13 =>
        intro x1_13 x2_13 h  ls hl
        rw [kX5_isPrime_13] at h
        refine lv_iload_n hx hb dX5_isPrime_13 rfl (lv_at hl 2 rfl) ?_
        refine lv_iload_n hx hb dX5_isPrime_14 rfl (lv_at hl 2 rfl) ?_
        refine lv_imul hx hb dX5_isPrime_15 ?_
        refine lv_iload_n hx hb dX5_isPrime_16 rfl (lv_at hl 0 rfl) ?_
        refine lv_icmp_gt (tgt := 42) hx hb dX5_isPrime_17 (by decide) (fun c17 => ?_) (fun c17 => ?_)
        · have h := pt c17 h
          refine lv_iload_n hx hb dX5_isPrime_42 rfl (lv_at hl 1 rfl) ?_
          obtain ⟨g1, h⟩ := pg h
          exact END 43 ls _ (pe h) (nbool g1) dX5_isPrime_43
        · have h := pf c17 h
          refine lv_iload_n hx hb dX5_isPrime_20 rfl (lv_at hl 1 rfl) ?_
          refine lv_if_eq (tgt := 42) hx hb dX5_isPrime_21 (by decide) (fun c21 => ?_) (fun c21 => ?_)
          · have h := pt c21 h
            refine lv_iload_n hx hb dX5_isPrime_42 rfl (lv_at hl 1 rfl) ?_
            obtain ⟨g2, h⟩ := pg h
            exact END 43 ls _ (pe h) (nbool g2) dX5_isPrime_43
          · have h := pf c21 h
            refine lv_iload_n hx hb dX5_isPrime_24 rfl (lv_at hl 0 rfl) ?_
            refine lv_iload_n hx hb dX5_isPrime_25 rfl (lv_at hl 2 rfl) ?_
            obtain ⟨g3, h⟩ := pg h
            refine lq_irem hx hb dX5_isPrime_26 g3 ?_
            refine lv_if_eq (tgt := 34) hx hb dX5_isPrime_27 (by decide) (fun c27 => ?_) (fun c27 => ?_)
            · have h := pt c27 h
              refine lv_iconst (v := (0 : Int32)) hx hb dX5_isPrime_34 (by decide) ?_
              refine lv_istore_n (lv' := [(1, .int (0 : Int32)), (0, .int a0), (2, .int x2_13)]) hx hb dX5_isPrime_35 rfl hl (by decide) rfl (fun ls hl => ?_)
              refine lv_iinc (v := x2_13 + (1 : Int32)) (lv' := [(2, .int (x2_13 + (1 : Int32))), (1, .int (0 : Int32)), (0, .int a0)]) hx hb dX5_isPrime_36 hl (k := 2) rfl rfl (by decide) rfl (fun ls hl => ?_)
              refine lv_goto (tgt := 13) hx hb dX5_isPrime_39 (by decide) ?_
              exact ih13 _ _ h  _ (lv_sub hl [2, 1, 0] rfl)
            · have h := pf c27 h
              refine lv_iconst (v := (1 : Int32)) hx hb dX5_isPrime_30 (by decide) ?_
              refine lv_goto (tgt := 35) hx hb dX5_isPrime_31 (by decide) ?_
              refine lv_istore_n (lv' := [(1, .int (1 : Int32)), (0, .int a0), (2, .int x2_13)]) hx hb dX5_isPrime_35 rfl hl (by decide) rfl (fun ls hl => ?_)
              refine lv_iinc (v := x2_13 + (1 : Int32)) (lv' := [(2, .int (x2_13 + (1 : Int32))), (1, .int (1 : Int32)), (0, .int a0)]) hx hb dX5_isPrime_36 hl (k := 2) rfl rfl (by decide) rfl (fun ls hl => ?_)
              refine lv_goto (tgt := 13) hx hb dX5_isPrime_39 (by decide) ?_
              exact ih13 _ _ h  _ (lv_sub hl [2, 1, 0] rfl)
    exact J13 _ _ _ h  _ (lv_sub hl [2, 1, 0] rfl)
  refine lv_icmp_le (tgt := 9) hx hb dX5_isPrime_2 (by decide) (fun c2 => ?_) (fun c2 => ?_)
  · have h := pt c2 h
    refine lv_iconst (v := (0 : Int32)) hx hb dX5_isPrime_9 (by decide) ?_
    exact J10 _ h  _ hl
  · have h := pf c2 h
    refine lv_iconst (v := (1 : Int32)) hx hb dX5_isPrime_5 (by decide) ?_
    refine lv_goto (tgt := 10) hx hb dX5_isPrime_6 (by decide) ?_
    exact J10 _ h  _ hl

theorem syX5_isPlace : Sy yX5_isPlace cX5_isPlace 1 (some .boolean) 1 := ⟨w_361, w_360, w_4, by decide +kernel⟩
set_option maxHeartbeats 4000000 in
set_option maxRecDepth 100000 in
theorem cnX5_isPlace (l : Launch) {a0 : Int32} {r : Int32} (h : fX5_isPlace a0 = some r) : Ro l yX5_isPlace cX5_isPlace 1 (some .boolean) 1 25 [.int a0] B0 (.int r) := by
  refine ro_z (plainFor_of_name (by decide)) (Nat.le_of_ble_eq_true rfl) ?_
  intro p e s m args below meth cd Q ls hF hB hl END
  have hF : CallFix p m cd cX5_isPlace 1 s args (wl yX5_isPlace cX5_isPlace 1 (some .boolean)) RX5 := hF
  obtain ⟨hx, hb, hml, hown, hts⟩ := id hF
  have hl : lv_has ls 1 [(0, .int a0)] := hl
  rw [fX5_isPlace] at h
  refine lv_iload_n hx hb dX5_isPlace_0 rfl (lv_at hl 0 rfl) ?_
  refine lv_if_eq (tgt := 25) hx hb dX5_isPlace_1 (by decide) (fun c1 => ?_) (fun c1 => ?_)
  · have h := pt c1 h
    refine lv_iconst (v := (1 : Int32)) hx hb dX5_isPlace_25 (by decide) ?_
    refine lv_goto (tgt := 30) hx hb dX5_isPlace_26 (by decide) ?_
    exact END 30 ls _ (pe h) (by rfl) dX5_isPlace_30
  · have h := pf c1 h
    refine lv_iload_n hx hb dX5_isPlace_4 rfl (lv_at hl 0 rfl) ?_
    refine lv_i2l (v := a0.toInt64) hx hb dX5_isPlace_5 rfl ?_
    refine lv_ldc2 (v := (2 : Int64)) hx hb hown (hts _ (wl_in w_362)) dX5_isPlace_6 ?_
    refine lv_ldc2 (v := (397 : Int64)) hx hb hown (hts _ (wl_in w_363)) dX5_isPlace_9 ?_
    obtain ⟨r1, e2, h⟩ := pb h
    refine ro_S (As := [.long a0.toInt64, .long (2 : Int64), .long (397 : Int64)]) (rest := []) hF (fun _ h => wl_in h) (cnX5_in l e2) syX5_in w_352 ⟨Nat.le_of_ble_eq_true rfl, Nat.le_of_ble_eq_true rfl⟩ mv0 trivial rfl hl.1 rfl (Nat.le_of_ble_eq_true rfl) dX5_isPlace_12 ⟨Nat.zero_le _, Nat.zero_le _⟩ ?_
    refine lv_if_eq (tgt := 29) hx hb dX5_isPlace_15 (by decide) (fun c15 => ?_) (fun c15 => ?_)
    · have h := pt c15 h
      refine lv_iconst (v := (0 : Int32)) hx hb dX5_isPlace_29 (by decide) ?_
      exact END 30 ls _ (pe h) (by rfl) dX5_isPlace_30
    · have h := pf c15 h
      refine lv_iload_n hx hb dX5_isPlace_18 rfl (lv_at hl 0 rfl) ?_
      obtain ⟨r3, e4, h⟩ := pb h
      refine ro_S (As := [.int a0]) (rest := []) hF (fun _ h => wl_in h) (cnX5_isPrime l e4) syX5_isPrime w_364 ⟨Nat.le_of_ble_eq_true rfl, Nat.le_of_ble_eq_true rfl⟩ mv0 trivial rfl hl.1 rfl (Nat.le_of_ble_eq_true rfl) dX5_isPlace_19 ⟨Nat.zero_le _, Nat.zero_le _⟩ ?_
      refine lv_if_eq (tgt := 29) hx hb dX5_isPlace_22 (by decide) (fun c22 => ?_) (fun c22 => ?_)
      · have h := pt c22 h
        refine lv_iconst (v := (0 : Int32)) hx hb dX5_isPlace_29 (by decide) ?_
        exact END 30 ls _ (pe h) (by rfl) dX5_isPlace_30
      · have h := pf c22 h
        refine lv_iconst (v := (1 : Int32)) hx hb dX5_isPlace_25 (by decide) ?_
        refine lv_goto (tgt := 30) hx hb dX5_isPlace_26 (by decide) ?_
        exact END 30 ls _ (pe h) (by rfl) dX5_isPlace_30

theorem syX5_isTold : Sy yX5_isTold cX5_isTold 2 (some .boolean) 2 := ⟨w_351, w_350, w_4, by decide +kernel⟩
set_option maxHeartbeats 4000000 in
set_option maxRecDepth 100000 in
theorem cnX5_isTold (l : Launch) {a0 : Int32} {a1 : Int32} {r : Int32} (h : fX5_isTold a0 a1 = some r) : Ro l yX5_isTold cX5_isTold 2 (some .boolean) 1 25 [.int a0, .int a1] B0 (.int r) := by
  refine ro_z (plainFor_of_name (by decide)) (Nat.le_of_ble_eq_true rfl) ?_
  intro p e s m args below meth cd Q ls hF hB hl END
  have hF : CallFix p m cd cX5_isTold 2 s args (wl yX5_isTold cX5_isTold 2 (some .boolean)) RX5 := hF
  obtain ⟨hx, hb, hml, hown, hts⟩ := id hF
  have hl : lv_has ls 2 [(0, .int a0), (1, .int a1)] := hl
  rw [fX5_isTold] at h
  refine lv_iload_n hx hb dX5_isTold_0 rfl (lv_at hl 0 rfl) ?_
  refine lv_if_eq (tgt := 21) hx hb dX5_isTold_1 (by decide) (fun c1 => ?_) (fun c1 => ?_)
  · have h := pt c1 h
    refine lv_iconst (v := (0 : Int32)) hx hb dX5_isTold_21 (by decide) ?_
    exact END 22 ls _ (pe h) (by rfl) dX5_isTold_22
  · have h := pf c1 h
    refine lv_iload_n hx hb dX5_isTold_4 rfl (lv_at hl 0 rfl) ?_
    refine lv_i2l (v := a0.toInt64) hx hb dX5_isTold_5 rfl ?_
    refine lv_iload_n hx hb dX5_isTold_6 rfl (lv_at hl 1 rfl) ?_
    refine lv_ineg hx hb dX5_isTold_7 ?_
    refine lv_i2l (v := (-a1).toInt64) hx hb dX5_isTold_8 rfl ?_
    refine lv_iload_n hx hb dX5_isTold_9 rfl (lv_at hl 1 rfl) ?_
    refine lv_i2l (v := a1.toInt64) hx hb dX5_isTold_10 rfl ?_
    obtain ⟨r1, e2, h⟩ := pb h
    refine ro_S (As := [.long a0.toInt64, .long ((-a1).toInt64), .long a1.toInt64]) (rest := []) hF (fun _ h => wl_in h) (cnX5_in l e2) syX5_in w_352 ⟨Nat.le_of_ble_eq_true rfl, Nat.le_of_ble_eq_true rfl⟩ mv0 trivial rfl hl.1 rfl (Nat.le_of_ble_eq_true rfl) dX5_isTold_11 ⟨Nat.zero_le _, Nat.zero_le _⟩ ?_
    refine lv_if_eq (tgt := 21) hx hb dX5_isTold_14 (by decide) (fun c14 => ?_) (fun c14 => ?_)
    · have h := pt c14 h
      refine lv_iconst (v := (0 : Int32)) hx hb dX5_isTold_21 (by decide) ?_
      exact END 22 ls _ (pe h) (by rfl) dX5_isTold_22
    · have h := pf c14 h
      refine lv_iconst (v := (1 : Int32)) hx hb dX5_isTold_17 (by decide) ?_
      refine lv_goto (tgt := 22) hx hb dX5_isTold_18 (by decide) ?_
      exact END 22 ls _ (pe h) (by rfl) dX5_isTold_22

theorem syX5_root : Sy yX5_root cX5_root 8 (some .int) 2 := ⟨w_381, w_380, w_4, by decide +kernel⟩
set_option maxHeartbeats 4000000 in
set_option maxRecDepth 100000 in
theorem cnX5_root (l : Launch) {a0 : Int64} {a1 : Int32} {r : Int32} (h : fX5_root a0 a1 = some r) : Ro l yX5_root cX5_root 8 (some .int) 0 0 [.long a0, .int a1] B0 (.int r) := by
  refine ro_i (plainFor_of_name (by decide)) (Nat.le_of_ble_eq_true rfl) ?_
  intro p e s m args below meth cd Q ls hF hB hl END
  have hF : CallFix p m cd cX5_root 8 s args (wl yX5_root cX5_root 8 (some .int)) RX5 := hF
  obtain ⟨hx, hb, hml, hown, hts⟩ := id hF
  have hl : lv_has ls 8 [(0, .long a0), (2, .int a1)] := hl
  rw [fX5_root] at h
  refine lv_lload_n hx hb dX5_root_0 rfl (lv_at hl 0 rfl) ?_
  refine lv_iload_n hx hb dX5_root_1 rfl (lv_at hl 1 rfl) ?_
  refine lv_i2l (v := a1.toInt64) hx hb dX5_root_2 rfl ?_
  obtain ⟨g1, h⟩ := pg h
  refine lq_lrem hx hb dX5_root_3 g1 ?_
  refine lv_lstore_n (lv' := [(3, .long (lrm a0 a1.toInt64)), (0, .long a0), (2, .int a1)]) hx hb dX5_root_4 rfl hl (by decide) rfl (fun ls hl => ?_)
  refine lv_lload_n hx hb dX5_root_5 rfl (lv_at hl 0 rfl) ?_
  refine lv_lconst (v := (0 : Int64)) hx hb dX5_root_6 (by decide) ?_
  refine W.lcmp hx hb dX5_root_7 ?_
  have J19 : ∀ (t0_19 : Int64), kX5_root_19 a1 t0_19 = some r → ∀ (ls : Array Slot), lv_has ls 8 [(2, .int a1)] → W p l e (rmk 0 0) s m args below meth cd s.heap [] 0 0 Q (F0 m 19 ls [.long t0_19]) := by
    intro t0_19 h  ls hl
    rw [kX5_root_19] at h
    refine lv_lstore_n (lv' := [(3, .long t0_19), (2, .int a1)]) hx hb dX5_root_19 rfl hl (by decide) rfl (fun ls hl => ?_)
    refine lv_lconst (v := (1 : Int64)) hx hb dX5_root_20 (by decide) ?_
    refine lv_lstore (lv' := [(5, .long (1 : Int64)), (3, .long t0_19), (2, .int a1)]) hx hb dX5_root_21 hl (by decide) rfl (fun ls hl => ?_)
    refine lv_iconst (v := (0 : Int32)) hx hb dX5_root_23 (by decide) ?_
    refine lv_istore (lv' := [(7, .int (0 : Int32)), (5, .long (1 : Int64)), (3, .long t0_19), (2, .int a1)]) hx hb dX5_root_24 hl (by decide) rfl (fun ls hl => ?_)
    have J26 : ∀ (n26 : Nat) (x5_26 : Int64) (x7_26 : Int32), kX5_root_26 a1 t0_19 n26 x5_26 x7_26 = some r → ∀ (ls : Array Slot), lv_has ls 8 [(3, .long t0_19), (2, .int a1), (5, .long x5_26), (7, .int x7_26)] → W p l e (rmk 0 0) s m args below meth cd s.heap [] 0 0 Q (F0 m 26 ls []) := by
      intro n26
      induction n26 with
      | zero =>
        intro x5_26 x7_26 h
        rw [kX5_root_26] at h
        cases h
      | succ n26 ih26 =>
        intro x5_26 x7_26 h  ls hl
        rw [kX5_root_26] at h
        refine lv_iload hx hb dX5_root_26 (lv_at hl 3 rfl) ?_
        refine lv_iload_n hx hb dX5_root_28 rfl (lv_at hl 1 rfl) ?_
        refine lv_iconst (v := (1 : Int32)) hx hb dX5_root_29 (by decide) ?_
        refine lv_isub hx hb dX5_root_30 ?_
        refine lv_iconst (v := (2 : Int32)) hx hb dX5_root_31 (by decide) ?_
        refine lv_idiv hx hb dX5_root_32 (by decide) ?_
        refine lv_icmp_ge (tgt := 51) hx hb dX5_root_33 (by decide) (fun c33 => ?_) (fun c33 => ?_)
        · have h := pt c33 h
          refine lv_lload hx hb dX5_root_51 (lv_at hl 2 rfl) ?_
          refine lv_lconst (v := (1 : Int64)) hx hb dX5_root_53 (by decide) ?_
          refine W.lcmp hx hb dX5_root_54 ?_
          refine lv_if_ne (tgt := 62) hx hb dX5_root_55 (by decide) (fun c55 => ?_) (fun c55 => ?_)
          · have h := pf c55 h
            refine lv_iconst (v := (-1 : Int32)) hx hb dX5_root_62 (by decide) ?_
            exact END 63 ls _ (pe h) dX5_root_63
          · have h := pt c55 h
            refine lv_iconst (v := (1 : Int32)) hx hb dX5_root_58 (by decide) ?_
            refine lv_goto (tgt := 63) hx hb dX5_root_59 (by decide) ?_
            exact END 63 ls _ (pe h) dX5_root_63
        · have h := pf c33 h
          refine lv_lload hx hb dX5_root_36 (lv_at hl 2 rfl) ?_
          refine lv_lload_n hx hb dX5_root_38 rfl (lv_at hl 0 rfl) ?_
          refine lv_lmul hx hb dX5_root_39 ?_
          refine lv_iload_n hx hb dX5_root_40 rfl (lv_at hl 1 rfl) ?_
          refine lv_i2l (v := a1.toInt64) hx hb dX5_root_41 rfl ?_
          obtain ⟨g2, h⟩ := pg h
          refine lq_lrem hx hb dX5_root_42 g2 ?_
          refine lv_lstore (lv' := [(5, .long (lrm (x5_26 * t0_19) a1.toInt64)), (3, .long t0_19), (2, .int a1), (7, .int x7_26)]) hx hb dX5_root_43 hl (by decide) rfl (fun ls hl => ?_)
          refine lv_iinc (v := x7_26 + (1 : Int32)) (lv' := [(7, .int (x7_26 + (1 : Int32))), (5, .long (lrm (x5_26 * t0_19) a1.toInt64)), (3, .long t0_19), (2, .int a1)]) hx hb dX5_root_45 hl (k := 3) rfl rfl (by decide) rfl (fun ls hl => ?_)
          refine lv_goto (tgt := 26) hx hb dX5_root_48 (by decide) ?_
          exact ih26 _ _ h  _ (lv_sub hl [2, 3, 1, 0] rfl)
    exact J26 _ _ _ h  _ (lv_sub hl [2, 3, 1, 0] rfl)
  refine lv_if_ge (tgt := 18) hx hb dX5_root_8 (by decide) (fun c8 => ?_) (fun c8 => ?_)
  · have h := pt c8 h
    refine lv_lload_n hx hb dX5_root_18 rfl (lv_at hl 0 rfl) ?_
    exact J19 _ h  _ (lv_sub hl [2] rfl)
  · have h := pf c8 h
    refine lv_lload_n hx hb dX5_root_11 rfl (lv_at hl 0 rfl) ?_
    refine lv_iload_n hx hb dX5_root_12 rfl (lv_at hl 2 rfl) ?_
    refine lv_i2l (v := a1.toInt64) hx hb dX5_root_13 rfl ?_
    refine lv_ladd hx hb dX5_root_14 ?_
    refine lv_goto (tgt := 19) hx hb dX5_root_15 (by decide) ?_
    exact J19 _ h  _ (lv_sub hl [2] rfl)

theorem syX5_rest : Sy yX5_rest cX5_rest 3 (some .int) 1 := ⟨w_377, w_376, w_4, by decide +kernel⟩
set_option maxHeartbeats 4000000 in
set_option maxRecDepth 100000 in
theorem cnX5_rest (l : Launch) {a0 : Int64} {r : Int32} (h : fX5_rest a0 = some r) : Ro l yX5_rest cX5_rest 3 (some .int) 0 0 [.long a0] B0 (.int r) := by
  refine ro_i (plainFor_of_name (by decide)) (Nat.le_of_ble_eq_true rfl) ?_
  intro p e s m args below meth cd Q ls hF hB hl END
  have hF : CallFix p m cd cX5_rest 3 s args (wl yX5_rest cX5_rest 3 (some .int)) RX5 := hF
  obtain ⟨hx, hb, hml, hown, hts⟩ := id hF
  have hl : lv_has ls 3 [(0, .long a0)] := hl
  rw [fX5_rest] at h
  refine lv_lload_n hx hb dX5_rest_0 rfl (lv_at hl 0 rfl) ?_
  refine lv_ldc2 (v := (8 : Int64)) hx hb hown (hts _ (wl_in w_378)) dX5_rest_1 ?_
  refine lq_lrem hx hb dX5_rest_4 (by decide) ?_
  refine lv_l2i (v := (lrm a0 (8 : Int64)).toInt32) hx hb dX5_rest_5 rfl ?_
  refine lv_istore_n (lv' := [(2, .int ((lrm a0 (8 : Int64)).toInt32)), (0, .long a0)]) hx hb dX5_rest_6 rfl hl (by decide) rfl (fun ls hl => ?_)
  refine lv_iload_n hx hb dX5_rest_7 rfl (lv_at hl 0 rfl) ?_
  refine lv_if_ge (tgt := 18) hx hb dX5_rest_8 (by decide) (fun c8 => ?_) (fun c8 => ?_)
  · have h := pt c8 h
    refine lv_iload_n hx hb dX5_rest_18 rfl (lv_at hl 0 rfl) ?_
    exact END 19 ls _ (pe h) dX5_rest_19
  · have h := pf c8 h
    refine lv_iload_n hx hb dX5_rest_11 rfl (lv_at hl 0 rfl) ?_
    refine lv_bipush (v := (8 : Int32)) hx hb dX5_rest_12 (by decide) ?_
    refine lv_iadd hx hb dX5_rest_14 ?_
    refine lv_goto (tgt := 19) hx hb dX5_rest_15 (by decide) ?_
    exact END 19 ls _ (pe h) dX5_rest_19

theorem syX5_isShelf : Sy yX5_isShelf cX5_isShelf 1 (some .boolean) 1 := ⟨w_392, w_391, w_4, by decide +kernel⟩
set_option maxHeartbeats 4000000 in
set_option maxRecDepth 100000 in
theorem cnX5_isShelf (l : Launch) {a0 : Int32} {r : Int32} (h : fX5_isShelf a0 = some r) : Ro l yX5_isShelf cX5_isShelf 1 (some .boolean) 1 25 [.int a0] B0 (.int r) := by
  refine ro_z (plainFor_of_name (by decide)) (Nat.le_of_ble_eq_true rfl) ?_
  intro p e s m args below meth cd Q ls hF hB hl END
  have hF : CallFix p m cd cX5_isShelf 1 s args (wl yX5_isShelf cX5_isShelf 1 (some .boolean)) RX5 := hF
  obtain ⟨hx, hb, hml, hown, hts⟩ := id hF
  have hl : lv_has ls 1 [(0, .int a0)] := hl
  rw [fX5_isShelf] at h
  refine lv_iload_n hx hb dX5_isShelf_0 rfl (lv_at hl 0 rfl) ?_
  refine lv_i2l (v := a0.toInt64) hx hb dX5_isShelf_1 rfl ?_
  refine lv_lconst (v := (0 : Int64)) hx hb dX5_isShelf_2 (by decide) ?_
  refine lv_ldc2 (v := (3 : Int64)) hx hb hown (hts _ (wl_in w_393)) dX5_isShelf_3 ?_
  obtain ⟨r1, e2, h⟩ := pb h
  refine ro_S (As := [.long a0.toInt64, .long (0 : Int64), .long (3 : Int64)]) (rest := []) hF (fun _ h => wl_in h) (cnX5_in l e2) syX5_in w_352 ⟨Nat.le_of_ble_eq_true rfl, Nat.le_of_ble_eq_true rfl⟩ mv0 trivial rfl hl.1 rfl (Nat.le_of_ble_eq_true rfl) dX5_isShelf_6 ⟨Nat.zero_le _, Nat.zero_le _⟩ ?_
  obtain ⟨g3, h⟩ := pg h
  exact END 9 ls _ (pe h) (nbool g3) dX5_isShelf_9

theorem syX5_isWholeSquare : Sy yX5_isWholeSquare cX5_isWholeSquare 4 (some .boolean) 1 := ⟨w_446, w_445, w_4, by decide +kernel⟩
set_option maxHeartbeats 4000000 in
set_option maxRecDepth 100000 in
theorem cnX5_isWholeSquare (l : Launch) {a0 : Int64} {r : Int32} (h : fX5_isWholeSquare a0 = some r) : Ro l yX5_isWholeSquare cX5_isWholeSquare 4 (some .boolean) 0 0 [.long a0] B0 (.int r) := by
  refine ro_z (plainFor_of_name (by decide)) (Nat.le_of_ble_eq_true rfl) ?_
  intro p e s m args below meth cd Q ls hF hB hl END
  have hF : CallFix p m cd cX5_isWholeSquare 4 s args (wl yX5_isWholeSquare cX5_isWholeSquare 4 (some .boolean)) RX5 := hF
  obtain ⟨hx, hb, hml, hown, hts⟩ := id hF
  have hl : lv_has ls 4 [(0, .long a0)] := hl
  rw [fX5_isWholeSquare] at h
  refine lv_lconst (v := (0 : Int64)) hx hb dX5_isWholeSquare_0 (by decide) ?_
  refine lv_lstore_n (lv' := [(2, .long (0 : Int64)), (0, .long a0)]) hx hb dX5_isWholeSquare_1 rfl hl (by decide) rfl (fun ls hl => ?_)
  have J2 : ∀ (n2 : Nat) (x2_2 : Int64), kX5_isWholeSquare_2 a0 n2 x2_2 = some r → ∀ (ls : Array Slot), lv_has ls 4 [(0, .long a0), (2, .long x2_2)] → W p l e (rmk 0 0) s m args below meth cd s.heap [] 0 0 Q (F0 m 2 ls []) := by
    intro n2
    induction n2 with
    | zero =>
      intro x2_2 h
      rw [kX5_isWholeSquare_2] at h
      cases h
    | succ n2 ih2 =>
      intro x2_2 h  ls hl
      rw [kX5_isWholeSquare_2] at h
      refine lv_lload_n hx hb dX5_isWholeSquare_2 rfl (lv_at hl 1 rfl) ?_
      refine lv_lload_n hx hb dX5_isWholeSquare_3 rfl (lv_at hl 1 rfl) ?_
      refine lv_lmul hx hb dX5_isWholeSquare_4 ?_
      refine lv_lload_n hx hb dX5_isWholeSquare_5 rfl (lv_at hl 0 rfl) ?_
      refine W.lcmp hx hb dX5_isWholeSquare_6 ?_
      refine lv_if_ge (tgt := 17) hx hb dX5_isWholeSquare_7 (by decide) (fun c7 => ?_) (fun c7 => ?_)
      · have h := pt c7 h
        refine lv_lload_n hx hb dX5_isWholeSquare_17 rfl (lv_at hl 0 rfl) ?_
        refine lv_lconst (v := (0 : Int64)) hx hb dX5_isWholeSquare_18 (by decide) ?_
        refine W.lcmp hx hb dX5_isWholeSquare_19 ?_
        refine lv_if_le (tgt := 35) hx hb dX5_isWholeSquare_20 (by decide) (fun c20 => ?_) (fun c20 => ?_)
        · have h := pt c20 h
          refine lv_iconst (v := (0 : Int32)) hx hb dX5_isWholeSquare_35 (by decide) ?_
          exact END 36 ls _ (pe h) (by rfl) dX5_isWholeSquare_36
        · have h := pf c20 h
          refine lv_lload_n hx hb dX5_isWholeSquare_23 rfl (lv_at hl 1 rfl) ?_
          refine lv_lload_n hx hb dX5_isWholeSquare_24 rfl (lv_at hl 1 rfl) ?_
          refine lv_lmul hx hb dX5_isWholeSquare_25 ?_
          refine lv_lload_n hx hb dX5_isWholeSquare_26 rfl (lv_at hl 0 rfl) ?_
          refine W.lcmp hx hb dX5_isWholeSquare_27 ?_
          refine lv_if_ne (tgt := 35) hx hb dX5_isWholeSquare_28 (by decide) (fun c28 => ?_) (fun c28 => ?_)
          · have h := pf c28 h
            refine lv_iconst (v := (0 : Int32)) hx hb dX5_isWholeSquare_35 (by decide) ?_
            exact END 36 ls _ (pe h) (by rfl) dX5_isWholeSquare_36
          · have h := pt c28 h
            refine lv_iconst (v := (1 : Int32)) hx hb dX5_isWholeSquare_31 (by decide) ?_
            refine lv_goto (tgt := 36) hx hb dX5_isWholeSquare_32 (by decide) ?_
            exact END 36 ls _ (pe h) (by rfl) dX5_isWholeSquare_36
      · have h := pf c7 h
        refine lv_lload_n hx hb dX5_isWholeSquare_10 rfl (lv_at hl 1 rfl) ?_
        refine lv_lconst (v := (1 : Int64)) hx hb dX5_isWholeSquare_11 (by decide) ?_
        refine lv_ladd hx hb dX5_isWholeSquare_12 ?_
        refine lv_lstore_n (lv' := [(2, .long (x2_2 + (1 : Int64))), (0, .long a0)]) hx hb dX5_isWholeSquare_13 rfl hl (by decide) rfl (fun ls hl => ?_)
        refine lv_goto (tgt := 2) hx hb dX5_isWholeSquare_14 (by decide) ?_
        exact ih2 _ h  _ (lv_sub hl [1, 0] rfl)
  exact J2 _ _ h  _ (lv_sub hl [1, 0] rfl)

theorem syX5_size : Sy yX5_size cX5_size 1 (some .int) 1 := ⟨w_502, w_501, w_4, by decide +kernel⟩
set_option maxHeartbeats 4000000 in
set_option maxRecDepth 100000 in
theorem cnX5_size (l : Launch) {a0 : Int32} {r : Int32} (h : fX5_size a0 = some r) : Ro l yX5_size cX5_size 1 (some .int) 0 0 [.int a0] B0 (.int r) := by
  refine ro_i (plainFor_of_name (by decide)) (Nat.le_of_ble_eq_true rfl) ?_
  intro p e s m args below meth cd Q ls hF hB hl END
  have hF : CallFix p m cd cX5_size 1 s args (wl yX5_size cX5_size 1 (some .int)) RX5 := hF
  obtain ⟨hx, hb, hml, hown, hts⟩ := id hF
  have hl : lv_has ls 1 [(0, .int a0)] := hl
  rw [fX5_size] at h
  refine lv_iload_n hx hb dX5_size_0 rfl (lv_at hl 0 rfl) ?_
  refine lv_if_ge (tgt := 9) hx hb dX5_size_1 (by decide) (fun c1 => ?_) (fun c1 => ?_)
  · have h := pt c1 h
    refine lv_iload_n hx hb dX5_size_9 rfl (lv_at hl 0 rfl) ?_
    exact END 10 ls _ (pe h) dX5_size_10
  · have h := pf c1 h
    refine lv_iload_n hx hb dX5_size_4 rfl (lv_at hl 0 rfl) ?_
    refine lv_ineg hx hb dX5_size_5 ?_
    refine lv_goto (tgt := 10) hx hb dX5_size_6 (by decide) ?_
    exact END 10 ls _ (pe h) dX5_size_10

theorem syX5_isNear : Sy yX5_isNear cX5_isNear 3 (some .boolean) 3 := ⟨w_492, w_491, w_4, by decide +kernel⟩
set_option maxHeartbeats 4000000 in
set_option maxRecDepth 100000 in
theorem cnX5_isNear (l : Launch) {a0 : Int32} {a1 : Int32} {a2 : Int32} {r : Int32} (h : fX5_isNear a0 a1 a2 = some r) : Ro l yX5_isNear cX5_isNear 3 (some .boolean) 1 25 [.int a0, .int a1, .int a2] B0 (.int r) := by
  refine ro_z (plainFor_of_name (by decide)) (Nat.le_of_ble_eq_true rfl) ?_
  intro p e s m args below meth cd Q ls hF hB hl END
  have hF : CallFix p m cd cX5_isNear 3 s args (wl yX5_isNear cX5_isNear 3 (some .boolean)) RX5 := hF
  obtain ⟨hx, hb, hml, hown, hts⟩ := id hF
  have hl : lv_has ls 3 [(0, .int a0), (1, .int a1), (2, .int a2)] := hl
  rw [fX5_isNear] at h
  refine lv_iload_n hx hb dX5_isNear_0 rfl (lv_at hl 0 rfl) ?_
  refine lv_i2l (v := a0.toInt64) hx hb dX5_isNear_1 rfl ?_
  refine lv_ldc2 (v := (-30 : Int64)) hx hb hown (hts _ (wl_in w_493)) dX5_isNear_2 ?_
  refine lv_ldc2 (v := (30 : Int64)) hx hb hown (hts _ (wl_in w_494)) dX5_isNear_5 ?_
  obtain ⟨r1, e2, h⟩ := pb h
  refine ro_S (As := [.long a0.toInt64, .long (-30 : Int64), .long (30 : Int64)]) (rest := []) hF (fun _ h => wl_in h) (cnX5_in l e2) syX5_in w_352 ⟨Nat.le_of_ble_eq_true rfl, Nat.le_of_ble_eq_true rfl⟩ mv0 trivial rfl hl.1 rfl (Nat.le_of_ble_eq_true rfl) dX5_isNear_8 ⟨Nat.zero_le _, Nat.zero_le _⟩ ?_
  refine lv_if_eq (tgt := 46) hx hb dX5_isNear_11 (by decide) (fun c11 => ?_) (fun c11 => ?_)
  · have h := pt c11 h
    refine lv_iconst (v := (0 : Int32)) hx hb dX5_isNear_46 (by decide) ?_
    exact END 47 ls _ (pe h) (by rfl) dX5_isNear_47
  · have h := pf c11 h
    refine lv_iload_n hx hb dX5_isNear_14 rfl (lv_at hl 1 rfl) ?_
    refine lv_i2l (v := a1.toInt64) hx hb dX5_isNear_15 rfl ?_
    refine lv_ldc2 (v := (-30 : Int64)) hx hb hown (hts _ (wl_in w_493)) dX5_isNear_16 ?_
    refine lv_ldc2 (v := (30 : Int64)) hx hb hown (hts _ (wl_in w_494)) dX5_isNear_19 ?_
    obtain ⟨r3, e4, h⟩ := pb h
    refine ro_S (As := [.long a1.toInt64, .long (-30 : Int64), .long (30 : Int64)]) (rest := []) hF (fun _ h => wl_in h) (cnX5_in l e4) syX5_in w_352 ⟨Nat.le_of_ble_eq_true rfl, Nat.le_of_ble_eq_true rfl⟩ mv0 trivial rfl hl.1 rfl (Nat.le_of_ble_eq_true rfl) dX5_isNear_22 ⟨Nat.zero_le _, Nat.zero_le _⟩ ?_
    refine lv_if_eq (tgt := 46) hx hb dX5_isNear_25 (by decide) (fun c25 => ?_) (fun c25 => ?_)
    · have h := pt c25 h
      refine lv_iconst (v := (0 : Int32)) hx hb dX5_isNear_46 (by decide) ?_
      exact END 47 ls _ (pe h) (by rfl) dX5_isNear_47
    · have h := pf c25 h
      refine lv_iload_n hx hb dX5_isNear_28 rfl (lv_at hl 2 rfl) ?_
      refine lv_i2l (v := a2.toInt64) hx hb dX5_isNear_29 rfl ?_
      refine lv_ldc2 (v := (-30 : Int64)) hx hb hown (hts _ (wl_in w_493)) dX5_isNear_30 ?_
      refine lv_ldc2 (v := (30 : Int64)) hx hb hown (hts _ (wl_in w_494)) dX5_isNear_33 ?_
      obtain ⟨r5, e6, h⟩ := pb h
      refine ro_S (As := [.long a2.toInt64, .long (-30 : Int64), .long (30 : Int64)]) (rest := []) hF (fun _ h => wl_in h) (cnX5_in l e6) syX5_in w_352 ⟨Nat.le_of_ble_eq_true rfl, Nat.le_of_ble_eq_true rfl⟩ mv0 trivial rfl hl.1 rfl (Nat.le_of_ble_eq_true rfl) dX5_isNear_36 ⟨Nat.zero_le _, Nat.zero_le _⟩ ?_
      refine lv_if_eq (tgt := 46) hx hb dX5_isNear_39 (by decide) (fun c39 => ?_) (fun c39 => ?_)
      · have h := pt c39 h
        refine lv_iconst (v := (0 : Int32)) hx hb dX5_isNear_46 (by decide) ?_
        exact END 47 ls _ (pe h) (by rfl) dX5_isNear_47
      · have h := pf c39 h
        refine lv_iconst (v := (1 : Int32)) hx hb dX5_isNear_42 (by decide) ?_
        refine lv_goto (tgt := 47) hx hb dX5_isNear_43 (by decide) ?_
        exact END 47 ls _ (pe h) (by rfl) dX5_isNear_47

theorem syX5_measureOf : Sy yX5_measureOf cX5_measureOf 5 (some .int) 4 := ⟨w_499, w_498, w_4, by decide +kernel⟩
set_option maxHeartbeats 4000000 in
set_option maxRecDepth 100000 in
theorem cnX5_measureOf (l : Launch) {a0 : Int32} {a1 : Int32} {a2 : Int32} {a3 : Int32} {r : Int32} (h : fX5_measureOf a0 a1 a2 a3 = some r) : Ro l yX5_measureOf cX5_measureOf 5 (some .int) 1 20 [.int a0, .int a1, .int a2, .int a3] B0 (.int r) := by
  refine ro_i (plainFor_of_name (by decide)) (Nat.le_of_ble_eq_true rfl) ?_
  intro p e s m args below meth cd Q ls hF hB hl END
  have hF : CallFix p m cd cX5_measureOf 5 s args (wl yX5_measureOf cX5_measureOf 5 (some .int)) RX5 := hF
  obtain ⟨hx, hb, hml, hown, hts⟩ := id hF
  have hl : lv_has ls 5 [(0, .int a0), (1, .int a1), (2, .int a2), (3, .int a3)] := hl
  rw [fX5_measureOf] at h
  refine lv_iload_n hx hb dX5_measureOf_0 rfl (lv_at hl 1 rfl) ?_
  obtain ⟨r1, e2, h⟩ := pb h
  refine ro_S (As := [.int a1]) (rest := []) hF (fun _ h => wl_in h) (cnX5_size l e2) syX5_size w_500 ⟨Nat.le_of_ble_eq_true rfl, Nat.le_of_ble_eq_true rfl⟩ mv0 trivial rfl hl.1 rfl (Nat.le_of_ble_eq_true rfl) dX5_measureOf_1 ⟨Nat.zero_le _, Nat.zero_le _⟩ ?_
  refine lv_iload_n hx hb dX5_measureOf_4 rfl (lv_at hl 2 rfl) ?_
  obtain ⟨r3, e4, h⟩ := pb h
  refine ro_S (As := [.int a2]) (rest := [.int r1]) hF (fun _ h => wl_in h) (cnX5_size l e4) syX5_size w_500 ⟨Nat.le_of_ble_eq_true rfl, Nat.le_of_ble_eq_true rfl⟩ mv0 trivial rfl hl.1 rfl (Nat.le_of_ble_eq_true rfl) dX5_measureOf_5 ⟨Nat.zero_le _, Nat.zero_le _⟩ ?_
  have J22 : ∀ (t0_22 : Int32), kX5_measureOf_22 a0 a1 a2 a3 t0_22 = some r → ∀ (ls : Array Slot), lv_has ls 5 [(0, .int a0), (1, .int a1), (2, .int a2), (3, .int a3)] → W p l e (rmk 1 20) s m args below meth cd s.heap [] 0 0 Q (F0 m 22 ls [.int t0_22]) := by
    intro t0_22 h  ls hl
    rw [kX5_measureOf_22] at h
    refine lv_istore (lv' := [(4, .int t0_22), (0, .int a0), (1, .int a1), (2, .int a2), (3, .int a3)]) hx hb dX5_measureOf_22 hl (by decide) rfl (fun ls hl => ?_)
    refine lv_iload_n hx hb dX5_measureOf_24 rfl (lv_at hl 4 rfl) ?_
    obtain ⟨r5, e6, h⟩ := pb h
    refine ro_S (As := [.int a3]) (rest := []) hF (fun _ h => wl_in h) (cnX5_size l e6) syX5_size w_500 ⟨Nat.le_of_ble_eq_true rfl, Nat.le_of_ble_eq_true rfl⟩ mv0 trivial rfl hl.1 rfl (Nat.le_of_ble_eq_true rfl) dX5_measureOf_25 ⟨Nat.zero_le _, Nat.zero_le _⟩ ?_
    refine lv_iload hx hb dX5_measureOf_28 (lv_at hl 0 rfl) ?_
    have J42 : ∀ (t0_42 : Int32), kX5_measureOf_42 a0 a1 a2 a3 t0_42 = some r → ∀ (ls : Array Slot), lv_has ls 5 [(0, .int a0), (1, .int a1), (2, .int a2), (3, .int a3)] → W p l e (rmk 1 20) s m args below meth cd s.heap [] 0 0 Q (F0 m 42 ls [.int t0_42]) := by
      intro t0_42 h  ls hl
      rw [kX5_measureOf_42] at h
      refine lv_istore (lv' := [(4, .int t0_42), (0, .int a0), (1, .int a1), (2, .int a2), (3, .int a3)]) hx hb dX5_measureOf_42 hl (by decide) rfl (fun ls hl => ?_)
      refine lv_iload hx hb dX5_measureOf_44 (lv_at hl 0 rfl) ?_
      refine lv_iload_n hx hb dX5_measureOf_46 rfl (lv_at hl 1 rfl) ?_
      have J68 : ∀ (t0_68 : Int32), kX5_measureOf_68 a0 a1 a2 a3 t0_42 t0_68 = some r → ∀ (ls : Array Slot), lv_has ls 5 [(0, .int a0), (1, .int a1), (2, .int a2), (3, .int a3)] → W p l e (rmk 1 20) s m args below meth cd s.heap [] 0 0 Q (F0 m 68 ls [.int t0_68, .int t0_42]) := by
        intro t0_68 h  ls hl
        rw [kX5_measureOf_68] at h
        refine lv_iadd hx hb dX5_measureOf_68 ?_
        refine lv_istore (lv' := [(4, .int (t0_42 + t0_68)), (0, .int a0), (1, .int a1), (2, .int a2), (3, .int a3)]) hx hb dX5_measureOf_69 hl (by decide) rfl (fun ls hl => ?_)
        refine lv_iload_n hx hb dX5_measureOf_71 rfl (lv_at hl 1 rfl) ?_
        refine lv_iconst (v := (2 : Int32)) hx hb dX5_measureOf_72 (by decide) ?_
        refine lv_icmp_ne (tgt := 96) hx hb dX5_measureOf_73 (by decide) (fun c73 => ?_) (fun c73 => ?_)
        · have h := pf c73 h
          refine lv_iload hx hb dX5_measureOf_96 (lv_at hl 0 rfl) ?_
          exact END 98 ls _ (pe h) dX5_measureOf_98
        · have h := pt c73 h
          refine lv_iload hx hb dX5_measureOf_76 (lv_at hl 0 rfl) ?_
          refine lv_bipush (v := (7 : Int32)) hx hb dX5_measureOf_78 (by decide) ?_
          refine lv_iload_n hx hb dX5_measureOf_80 rfl (lv_at hl 2 rfl) ?_
          refine lv_iconst (v := (1 : Int32)) hx hb dX5_measureOf_81 (by decide) ?_
          refine lv_iand hx hb dX5_measureOf_82 ?_
          refine lv_iload_n hx hb dX5_measureOf_83 rfl (lv_at hl 3 rfl) ?_
          refine lv_iconst (v := (1 : Int32)) hx hb dX5_measureOf_84 (by decide) ?_
          refine lv_iand hx hb dX5_measureOf_85 ?_
          refine lv_iadd hx hb dX5_measureOf_86 ?_
          refine lv_iload_n hx hb dX5_measureOf_87 rfl (lv_at hl 4 rfl) ?_
          refine lv_iconst (v := (1 : Int32)) hx hb dX5_measureOf_88 (by decide) ?_
          refine lv_iand hx hb dX5_measureOf_89 ?_
          refine lv_iadd hx hb dX5_measureOf_90 ?_
          refine lv_imul hx hb dX5_measureOf_91 ?_
          refine lv_iadd hx hb dX5_measureOf_92 ?_
          refine lv_goto (tgt := 98) hx hb dX5_measureOf_93 (by decide) ?_
          exact END 98 ls _ (pe h) dX5_measureOf_98
      refine lv_if_le (tgt := 67) hx hb dX5_measureOf_47 (by decide) (fun c47 => ?_) (fun c47 => ?_)
      · have h := pt c47 h
        refine lv_iconst (v := (0 : Int32)) hx hb dX5_measureOf_67 (by decide) ?_
        exact J68 _ h  _ (lv_sub hl [1, 2, 3, 4] rfl)
      · have h := pf c47 h
        refine lv_iload_n hx hb dX5_measureOf_50 rfl (lv_at hl 2 rfl) ?_
        obtain ⟨r7, e8, h⟩ := pb h
        refine ro_S (As := [.int a1]) (rest := [.int t0_42]) hF (fun _ h => wl_in h) (cnX5_size l e8) syX5_size w_500 ⟨Nat.le_of_ble_eq_true rfl, Nat.le_of_ble_eq_true rfl⟩ mv0 trivial rfl hl.1 rfl (Nat.le_of_ble_eq_true rfl) dX5_measureOf_51 ⟨Nat.zero_le _, Nat.zero_le _⟩ ?_
        refine lv_iload_n hx hb dX5_measureOf_54 rfl (lv_at hl 3 rfl) ?_
        obtain ⟨r9, e10, h⟩ := pb h
        refine ro_S (As := [.int a2]) (rest := [.int r7, .int t0_42]) hF (fun _ h => wl_in h) (cnX5_size l e10) syX5_size w_500 ⟨Nat.le_of_ble_eq_true rfl, Nat.le_of_ble_eq_true rfl⟩ mv0 trivial rfl hl.1 rfl (Nat.le_of_ble_eq_true rfl) dX5_measureOf_55 ⟨Nat.zero_le _, Nat.zero_le _⟩ ?_
        refine lv_iadd hx hb dX5_measureOf_58 ?_
        refine lv_iload_n hx hb dX5_measureOf_59 rfl (lv_at hl 4 rfl) ?_
        obtain ⟨r11, e12, h⟩ := pb h
        refine ro_S (As := [.int a3]) (rest := [.int (r7 + r9), .int t0_42]) hF (fun _ h => wl_in h) (cnX5_size l e12) syX5_size w_500 ⟨Nat.le_of_ble_eq_true rfl, Nat.le_of_ble_eq_true rfl⟩ mv0 trivial rfl hl.1 rfl (Nat.le_of_ble_eq_true rfl) dX5_measureOf_60 ⟨Nat.zero_le _, Nat.zero_le _⟩ ?_
        refine lv_iadd hx hb dX5_measureOf_63 ?_
        refine lv_goto (tgt := 68) hx hb dX5_measureOf_64 (by decide) ?_
        exact J68 _ h  _ (lv_sub hl [1, 2, 3, 4] rfl)
    refine lv_icmp_le (tgt := 40) hx hb dX5_measureOf_30 (by decide) (fun c30 => ?_) (fun c30 => ?_)
    · have h := pt c30 h
      refine lv_iload hx hb dX5_measureOf_40 (lv_at hl 0 rfl) ?_
      exact J42 _ h  _ (lv_sub hl [1, 2, 3, 4] rfl)
    · have h := pf c30 h
      refine lv_iload_n hx hb dX5_measureOf_33 rfl (lv_at hl 4 rfl) ?_
      obtain ⟨r13, e14, h⟩ := pb h
      refine ro_S (As := [.int a3]) (rest := []) hF (fun _ h => wl_in h) (cnX5_size l e14) syX5_size w_500 ⟨Nat.le_of_ble_eq_true rfl, Nat.le_of_ble_eq_true rfl⟩ mv0 trivial rfl hl.1 rfl (Nat.le_of_ble_eq_true rfl) dX5_measureOf_34 ⟨Nat.zero_le _, Nat.zero_le _⟩ ?_
      refine lv_goto (tgt := 42) hx hb dX5_measureOf_37 (by decide) ?_
      exact J42 _ h  _ (lv_sub hl [1, 2, 3, 4] rfl)
  refine lv_icmp_le (tgt := 18) hx hb dX5_measureOf_8 (by decide) (fun c8 => ?_) (fun c8 => ?_)
  · have h := pt c8 h
    refine lv_iload_n hx hb dX5_measureOf_18 rfl (lv_at hl 2 rfl) ?_
    obtain ⟨r15, e16, h⟩ := pb h
    refine ro_S (As := [.int a2]) (rest := []) hF (fun _ h => wl_in h) (cnX5_size l e16) syX5_size w_500 ⟨Nat.le_of_ble_eq_true rfl, Nat.le_of_ble_eq_true rfl⟩ mv0 trivial rfl hl.1 rfl (Nat.le_of_ble_eq_true rfl) dX5_measureOf_19 ⟨Nat.zero_le _, Nat.zero_le _⟩ ?_
    exact J22 _ h  _ hl
  · have h := pf c8 h
    refine lv_iload_n hx hb dX5_measureOf_11 rfl (lv_at hl 1 rfl) ?_
    obtain ⟨r17, e18, h⟩ := pb h
    refine ro_S (As := [.int a1]) (rest := []) hF (fun _ h => wl_in h) (cnX5_size l e18) syX5_size w_500 ⟨Nat.le_of_ble_eq_true rfl, Nat.le_of_ble_eq_true rfl⟩ mv0 trivial rfl hl.1 rfl (Nat.le_of_ble_eq_true rfl) dX5_measureOf_12 ⟨Nat.zero_le _, Nat.zero_le _⟩ ?_
    refine lv_goto (tgt := 22) hx hb dX5_measureOf_15 (by decide) ?_
    exact J22 _ h  _ hl

theorem syX5_common : Sy yX5_common cX5_common 10 (some .long) 2 := ⟨w_520, w_519, w_4, by decide +kernel⟩
set_option maxHeartbeats 4000000 in
set_option maxRecDepth 100000 in
theorem cnX5_common (l : Launch) {a0 : Int64} {a1 : Int64} {r : Int64} (h : fX5_common a0 a1 = some r) : Ro l yX5_common cX5_common 10 (some .long) 0 0 [.long a0, .long a1] B0 (.long r) := by
  refine ro_l (plainFor_of_name (by decide)) (Nat.le_of_ble_eq_true rfl) ?_
  intro p e s m args below meth cd Q ls hF hB hl END
  have hF : CallFix p m cd cX5_common 10 s args (wl yX5_common cX5_common 10 (some .long)) RX5 := hF
  obtain ⟨hx, hb, hml, hown, hts⟩ := id hF
  have hl : lv_has ls 10 [(0, .long a0), (2, .long a1)] := hl
  rw [fX5_common] at h
  refine lv_lload_n hx hb dX5_common_0 rfl (lv_at hl 0 rfl) ?_
  refine lv_lconst (v := (0 : Int64)) hx hb dX5_common_1 (by decide) ?_
  refine W.lcmp hx hb dX5_common_2 ?_
  have J12 : ∀ (t0_12 : Int64), kX5_common_12 a1 t0_12 = some r → ∀ (ls : Array Slot), lv_has ls 10 [(2, .long a1)] → W p l e (rmk 0 0) s m args below meth cd s.heap [] 0 0 Q (F0 m 12 ls [.long t0_12]) := by
    intro t0_12 h  ls hl
    rw [kX5_common_12] at h
    refine lv_lstore (lv' := [(4, .long t0_12), (2, .long a1)]) hx hb dX5_common_12 hl (by decide) rfl (fun ls hl => ?_)
    refine lv_lload_n hx hb dX5_common_14 rfl (lv_at hl 1 rfl) ?_
    refine lv_lconst (v := (0 : Int64)) hx hb dX5_common_15 (by decide) ?_
    refine W.lcmp hx hb dX5_common_16 ?_
    have J26 : ∀ (t0_26 : Int64), kX5_common_26 t0_12 t0_26 = some r → ∀ (ls : Array Slot), lv_has ls 10 [(4, .long t0_12)] → W p l e (rmk 0 0) s m args below meth cd s.heap [] 0 0 Q (F0 m 26 ls [.long t0_26]) := by
      intro t0_26 h  ls hl
      rw [kX5_common_26] at h
      refine lv_lstore (lv' := [(6, .long t0_26), (4, .long t0_12)]) hx hb dX5_common_26 hl (by decide) rfl (fun ls hl => ?_)
      have J28 : ∀ (n28 : Nat) (x4_28 : Int64) (x6_28 : Int64), kX5_common_28 n28 x4_28 x6_28 = some r → ∀ (ls : Array Slot), lv_has ls 10 [(4, .long x4_28), (6, .long x6_28)] → W p l e (rmk 0 0) s m args below meth cd s.heap [] 0 0 Q (F0 m 28 ls []) := by
        intro n28
        induction n28 with
        | zero =>
          intro x4_28 x6_28 h
          rw [kX5_common_28] at h
          cases h
        | succ n28 ih28 =>
          intro x4_28 x6_28 h  ls hl
          rw [kX5_common_28] at h
          refine lv_lload hx hb dX5_common_28 (lv_at hl 1 rfl) ?_
          refine lv_lconst (v := (0 : Int64)) hx hb dX5_common_30 (by decide) ?_
          refine W.lcmp hx hb dX5_common_31 ?_
          refine lv_if_eq (tgt := 53) hx hb dX5_common_32 (by decide) (fun c32 => ?_) (fun c32 => ?_)
          · have h := pt c32 h
            refine lv_lload hx hb dX5_common_53 (lv_at hl 0 rfl) ?_
            exact END 55 ls _ (pe h) dX5_common_55
          · have h := pf c32 h
            refine lv_lload hx hb dX5_common_35 (lv_at hl 0 rfl) ?_
            refine lv_lload hx hb dX5_common_37 (lv_at hl 1 rfl) ?_
            obtain ⟨g1, h⟩ := pg h
            refine lq_lrem hx hb dX5_common_39 g1 ?_
            refine lv_lstore (lv' := [(8, .long (lrm x4_28 x6_28)), (4, .long x4_28), (6, .long x6_28)]) hx hb dX5_common_40 hl (by decide) rfl (fun ls hl => ?_)
            refine lv_lload hx hb dX5_common_42 (lv_at hl 2 rfl) ?_
            refine lv_lstore (lv' := [(4, .long x6_28), (8, .long (lrm x4_28 x6_28)), (6, .long x6_28)]) hx hb dX5_common_44 hl (by decide) rfl (fun ls hl => ?_)
            refine lv_lload hx hb dX5_common_46 (lv_at hl 1 rfl) ?_
            refine lv_lstore (lv' := [(6, .long (lrm x4_28 x6_28)), (4, .long x6_28), (8, .long (lrm x4_28 x6_28))]) hx hb dX5_common_48 hl (by decide) rfl (fun ls hl => ?_)
            refine lv_goto (tgt := 28) hx hb dX5_common_50 (by decide) ?_
            exact ih28 _ _ h  _ (lv_sub hl [1, 0] rfl)
      exact J28 _ _ _ h  _ (lv_sub hl [1, 0] rfl)
    refine lv_if_ge (tgt := 25) hx hb dX5_common_17 (by decide) (fun c17 => ?_) (fun c17 => ?_)
    · have h := pt c17 h
      refine lv_lload_n hx hb dX5_common_25 rfl (lv_at hl 1 rfl) ?_
      exact J26 _ h  _ (lv_sub hl [0] rfl)
    · have h := pf c17 h
      refine lv_lload_n hx hb dX5_common_20 rfl (lv_at hl 1 rfl) ?_
      refine lv_lneg hx hb dX5_common_21 ?_
      refine lv_goto (tgt := 26) hx hb dX5_common_22 (by decide) ?_
      exact J26 _ h  _ (lv_sub hl [0] rfl)
  refine lv_if_ge (tgt := 11) hx hb dX5_common_3 (by decide) (fun c3 => ?_) (fun c3 => ?_)
  · have h := pt c3 h
    refine lv_lload_n hx hb dX5_common_11 rfl (lv_at hl 0 rfl) ?_
    exact J12 _ h  _ (lv_sub hl [1] rfl)
  · have h := pf c3 h
    refine lv_lload_n hx hb dX5_common_6 rfl (lv_at hl 0 rfl) ?_
    refine lv_lneg hx hb dX5_common_7 ?_
    refine lv_goto (tgt := 12) hx hb dX5_common_8 (by decide) ?_
    exact J12 _ h  _ (lv_sub hl [1] rfl)

theorem syX5_isFirstAbove : Sy yX5_isFirstAbove cX5_isFirstAbove 6 (some .boolean) 3 := ⟨w_517, w_516, w_4, by decide +kernel⟩
set_option maxHeartbeats 4000000 in
set_option maxRecDepth 100000 in
theorem cnX5_isFirstAbove (l : Launch) {a0 : Int64} {a1 : Int64} {a2 : Int64} {r : Int32} (h : fX5_isFirstAbove a0 a1 a2 = some r) : Ro l yX5_isFirstAbove cX5_isFirstAbove 6 (some .boolean) 0 0 [.long a0, .long a1, .long a2] B0 (.int r) := by
  refine ro_z (plainFor_of_name (by decide)) (Nat.le_of_ble_eq_true rfl) ?_
  intro p e s m args below meth cd Q ls hF hB hl END
  have hF : CallFix p m cd cX5_isFirstAbove 6 s args (wl yX5_isFirstAbove cX5_isFirstAbove 6 (some .boolean)) RX5 := hF
  obtain ⟨hx, hb, hml, hown, hts⟩ := id hF
  have hl : lv_has ls 6 [(0, .long a0), (2, .long a1), (4, .long a2)] := hl
  rw [fX5_isFirstAbove] at h
  refine lv_lload_n hx hb dX5_isFirstAbove_0 rfl (lv_at hl 0 rfl) ?_
  refine lv_lconst (v := (0 : Int64)) hx hb dX5_isFirstAbove_1 (by decide) ?_
  refine W.lcmp hx hb dX5_isFirstAbove_2 ?_
  refine lv_if_gt (tgt := 31) hx hb dX5_isFirstAbove_3 (by decide) (fun c3 => ?_) (fun c3 => ?_)
  · have h := pt c3 h
    refine lv_iconst (v := (1 : Int32)) hx hb dX5_isFirstAbove_31 (by decide) ?_
    refine lv_goto (tgt := 36) hx hb dX5_isFirstAbove_32 (by decide) ?_
    exact END 36 ls _ (pe h) (by rfl) dX5_isFirstAbove_36
  · have h := pf c3 h
    refine lv_lload_n hx hb dX5_isFirstAbove_6 rfl (lv_at hl 0 rfl) ?_
    refine lv_lconst (v := (0 : Int64)) hx hb dX5_isFirstAbove_7 (by decide) ?_
    refine W.lcmp hx hb dX5_isFirstAbove_8 ?_
    refine lv_if_ne (tgt := 35) hx hb dX5_isFirstAbove_9 (by decide) (fun c9 => ?_) (fun c9 => ?_)
    · have h := pf c9 h
      refine lv_iconst (v := (0 : Int32)) hx hb dX5_isFirstAbove_35 (by decide) ?_
      exact END 36 ls _ (pe h) (by rfl) dX5_isFirstAbove_36
    · have h := pt c9 h
      refine lv_lload_n hx hb dX5_isFirstAbove_12 rfl (lv_at hl 1 rfl) ?_
      refine lv_lconst (v := (0 : Int64)) hx hb dX5_isFirstAbove_13 (by decide) ?_
      refine W.lcmp hx hb dX5_isFirstAbove_14 ?_
      refine lv_if_gt (tgt := 31) hx hb dX5_isFirstAbove_15 (by decide) (fun c15 => ?_) (fun c15 => ?_)
      · have h := pt c15 h
        refine lv_iconst (v := (1 : Int32)) hx hb dX5_isFirstAbove_31 (by decide) ?_
        refine lv_goto (tgt := 36) hx hb dX5_isFirstAbove_32 (by decide) ?_
        exact END 36 ls _ (pe h) (by rfl) dX5_isFirstAbove_36
      · have h := pf c15 h
        refine lv_lload_n hx hb dX5_isFirstAbove_18 rfl (lv_at hl 1 rfl) ?_
        refine lv_lconst (v := (0 : Int64)) hx hb dX5_isFirstAbove_19 (by decide) ?_
        refine W.lcmp hx hb dX5_isFirstAbove_20 ?_
        refine lv_if_ne (tgt := 35) hx hb dX5_isFirstAbove_21 (by decide) (fun c21 => ?_) (fun c21 => ?_)
        · have h := pf c21 h
          refine lv_iconst (v := (0 : Int32)) hx hb dX5_isFirstAbove_35 (by decide) ?_
          exact END 36 ls _ (pe h) (by rfl) dX5_isFirstAbove_36
        · have h := pt c21 h
          refine lv_lload hx hb dX5_isFirstAbove_24 (lv_at hl 2 rfl) ?_
          refine lv_lconst (v := (0 : Int64)) hx hb dX5_isFirstAbove_26 (by decide) ?_
          refine W.lcmp hx hb dX5_isFirstAbove_27 ?_
          refine lv_if_le (tgt := 35) hx hb dX5_isFirstAbove_28 (by decide) (fun c28 => ?_) (fun c28 => ?_)
          · have h := pt c28 h
            refine lv_iconst (v := (0 : Int32)) hx hb dX5_isFirstAbove_35 (by decide) ?_
            exact END 36 ls _ (pe h) (by rfl) dX5_isFirstAbove_36
          · have h := pf c28 h
            refine lv_iconst (v := (1 : Int32)) hx hb dX5_isFirstAbove_31 (by decide) ?_
            refine lv_goto (tgt := 36) hx hb dX5_isFirstAbove_32 (by decide) ?_
            exact END 36 ls _ (pe h) (by rfl) dX5_isFirstAbove_36
