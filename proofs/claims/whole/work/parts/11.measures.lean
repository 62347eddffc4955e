def fX1_great (a0 : Int32) (a1 : Int32) (a2 : Int32) : Option (Int32) :=
    some (imax (iabs a0) (imax (iabs a1) (iabs a2)))
def fX1_wide (a0 : Int32) (a1 : Int32) (a2 : Int32) : Option (Int32) :=
    (fX1_great a0 a1 a2).bind fun (r1 : Int32) =>
    some (((r1 + (iabs a0)) + (iabs a1)) + (iabs a2))
def fX1_odd (a0 : Int32) (a1 : Int32) (a2 : Int32) : Option (Int32) :=
    (fX1_wide a0 a1 a2).bind fun (r1 : Int32) =>
    some (r1 + ((7 : Int32) * (((a0 &&& (1 : Int32)) + (a1 &&& (1 : Int32))) + (a2 &&& (1 : Int32)))))
def fX1_byKind (a0 : Int32) (a1 : Int32) (a2 : Int32) (a3 : Int32) : Option (Int32) :=
    (if a0 = (0 : Int32) then (fX1_great a1 a2 a3).bind fun (r1 : Int32) =>
    some r1 else
    (if a0 = (1 : Int32) then (fX1_wide a1 a2 a3).bind fun (r3 : Int32) =>
    some r3 else
    (fX1_odd a1 a2 a3).bind fun (r5 : Int32) =>
    some r5))
def fX4_isShelf (a0 : Int32) : Option (Int32) :=
    (if a0 < 0 then some (0 : Int32) else
    (if (4 : Int32) ≤ a0 then some (0 : Int32) else
    some (1 : Int32)))
def fX4_isWithin (a0 : Int32) (a1 : Int32) : Option (Int32) :=
    (if a0 < (-a1) then some (0 : Int32) else
    (if a1 < a0 then some (0 : Int32) else
    some (1 : Int32)))
def fX4_isNumber (a0 : Int32) (a1 : Int32) : Option (Int32) :=
    (if a0 = 0 then some (0 : Int32) else
    (fX4_isWithin a0 a1).bind fun (r1 : Int32) =>
    (if r1 = 0 then some (0 : Int32) else
    some (1 : Int32)))
def fX4_areWithin (a0 : Int32) (a1 : Int32) (a2 : Int32) (a3 : Int32) : Option (Int32) :=
    (fX4_isWithin a0 a3).bind fun (r1 : Int32) =>
    (if r1 = 0 then some (0 : Int32) else
    (fX4_isWithin a1 a3).bind fun (r3 : Int32) =>
    (if r3 = 0 then some (0 : Int32) else
    (fX4_isWithin a2 a3).bind fun (r5 : Int32) =>
    (if r5 = 0 then some (0 : Int32) else
    some (1 : Int32))))
def fX4_pick (a0 : Int32) (a1 : Int64) (a2 : Int64) (a3 : Int64) : Option (Int64) :=
    (if a0 = 0 then some a1 else
    (if a0 = (1 : Int32) then some a2 else
    some a3))
def kX4_commonDivisor_15 : Nat → Int64 → Int64 → Int32 → Option (Int64)
  | 0, _, _, _ => none
  | fu + 1, x4_15, x6_15, x8_15 =>
    (if (100 : Int32) ≤ x8_15 then some x4_15 else
    (if (lg_cmp x6_15 (0 : Int64)) = 0 then some x4_15 else
    (if ¬ x6_15 = 0 then (kX4_commonDivisor_15 fu) x6_15 (lrm x4_15 x6_15) (x8_15 + (1 : Int32)) else none)))
def fX4_commonDivisor (a0 : Int64) (a1 : Int64) : Option (Int64) :=
    kX4_commonDivisor_15 1100 (labs a0) (labs a1) (0 : Int32)
def kX4_reducer_34 (r3 : Int64) (t0_34 : Int64) : Option (Int64) :=
    (if 0 ≤ (lg_cmp t0_34 (0 : Int64)) then some r3 else
    some (-r3))
def fX4_reducer (a0 : Int64) (a1 : Int64) (a2 : Int64) : Option (Int64) :=
    (fX4_commonDivisor a1 a2).bind fun (r1 : Int64) =>
    (fX4_commonDivisor a0 r1).bind fun (r3 : Int64) =>
    (if (lg_cmp a0 (0 : Int64)) = 0 then (if (lg_cmp a1 (0 : Int64)) = 0 then kX4_reducer_34 r3 a2 else
    kX4_reducer_34 r3 a1) else
    kX4_reducer_34 r3 a0)
def fX4_isReduced (a0 : Int32) (a1 : Int32) (a2 : Int32) : Option (Int32) :=
    (fX4_reducer a0.toInt64 a1.toInt64 a2.toInt64).bind fun (r1 : Int64) =>
    (if (lg_cmp r1 (1 : Int64)) = 0 then some (1 : Int32) else
    some (0 : Int32))
theorem syX1_great : Sy yX1_great cX1_great 3 (some .int) 3 := ⟨w_242, w_241, w_6, by decide +kernel⟩
set_option maxHeartbeats 4000000 in
set_option maxRecDepth 100000 in
theorem cnX1_great (l : Launch) {a0 : Int32} {a1 : Int32} {a2 : Int32} {r : Int32} (h : fX1_great a0 a1 a2 = some r) : Ro l yX1_great cX1_great 3 (some .int) 1 25 [.int a0, .int a1, .int a2] B0 (.int r) := by
  refine ro_i (plainFor_of_name (by decide)) (Nat.le_of_ble_eq_true rfl) ?_
  intro p e s m args below meth cd Q ls hF hB hl END
  have hF : CallFix p m cd cX1_great 3 s args (wl yX1_great cX1_great 3 (some .int)) RX1 := hF
  obtain ⟨hx, hb, hml, hown, hts⟩ := id hF
  have hl : lv_has ls 3 [(0, .int a0), (1, .int a1), (2, .int a2)] := hl
  rw [fX1_great] at h
  refine lv_iload_n hx hb dX1_great_0 rfl (lv_at hl 0 rfl) ?_
  refine lq_abs hx hb (hml.trans hl.1.symm) hown (hts _ (wl_in w_243)) (hts _ (wl_in w_244)) (hts _ (wl_in w_7)) (hts _ (wl_in w_245)) (Nat.le_of_ble_eq_true rfl) (Nat.le_of_ble_eq_true rfl) (Nat.zero_le _) (Nat.zero_le _) dX1_great_1 ?_
  refine lv_iload_n hx hb dX1_great_4 rfl (lv_at hl 1 rfl) ?_
  refine lq_abs hx hb (hml.trans hl.1.symm) hown (hts _ (wl_in w_243)) (hts _ (wl_in w_244)) (hts _ (wl_in w_7)) (hts _ (wl_in w_245)) (Nat.le_of_ble_eq_true rfl) (Nat.le_of_ble_eq_true rfl) (Nat.zero_le _) (Nat.zero_le _) dX1_great_5 ?_
  refine lv_iload_n hx hb dX1_great_8 rfl (lv_at hl 2 rfl) ?_
  refine lq_abs hx hb (hml.trans hl.1.symm) hown (hts _ (wl_in w_243)) (hts _ (wl_in w_244)) (hts _ (wl_in w_7)) (hts _ (wl_in w_245)) (Nat.le_of_ble_eq_true rfl) (Nat.le_of_ble_eq_true rfl) (Nat.zero_le _) (Nat.zero_le _) dX1_great_9 ?_
  refine lq_max hx hb (hml.trans hl.1.symm) hown (hts _ (wl_in w_246)) (hts _ (wl_in w_247)) (hts _ (wl_in w_7)) (hts _ (wl_in w_248)) (Nat.le_of_ble_eq_true rfl) (Nat.le_of_ble_eq_true rfl) (Nat.zero_le _) (Nat.zero_le _) dX1_great_12 ?_
  refine lq_max hx hb (hml.trans hl.1.symm) hown (hts _ (wl_in w_246)) (hts _ (wl_in w_247)) (hts _ (wl_in w_7)) (hts _ (wl_in w_248)) (Nat.le_of_ble_eq_true rfl) (Nat.le_of_ble_eq_true rfl) (Nat.zero_le _) (Nat.zero_le _) dX1_great_15 ?_
  exact END 18 ls _ (pe h) dX1_great_18

theorem syX1_wide : Sy yX1_wide cX1_wide 3 (some .int) 3 := ⟨w_251, w_250, w_6, by decide +kernel⟩
set_option maxHeartbeats 4000000 in
set_option maxRecDepth 100000 in
theorem cnX1_wide (l : Launch) {a0 : Int32} {a1 : Int32} {a2 : Int32} {r : Int32} (h : fX1_wide a0 a1 a2 = some r) : Ro l yX1_wide cX1_wide 3 (some .int) 2 47 [.int a0, .int a1, .int a2] B0 (.int r) := by
  refine ro_i (plainFor_of_name (by decide)) (Nat.le_of_ble_eq_true rfl) ?_
  intro p e s m args below meth cd Q ls hF hB hl END
  have hF : CallFix p m cd cX1_wide 3 s args (wl yX1_wide cX1_wide 3 (some .int)) RX1 := hF
  obtain ⟨hx, hb, hml, hown, hts⟩ := id hF
  have hl : lv_has ls 3 [(0, .int a0), (1, .int a1), (2, .int a2)] := hl
  rw [fX1_wide] at h
  refine lv_iload_n hx hb dX1_wide_0 rfl (lv_at hl 0 rfl) ?_
  refine lv_iload_n hx hb dX1_wide_1 rfl (lv_at hl 1 rfl) ?_
  refine lv_iload_n hx hb dX1_wide_2 rfl (lv_at hl 2 rfl) ?_
  obtain ⟨r1, e2, h⟩ := pb h
  refine ro_S (As := [.int a0, .int a1, .int a2]) (rest := []) hF (fun _ h => wl_in h) (cnX1_great l e2) syX1_great w_240 ⟨Nat.le_of_ble_eq_true rfl, Nat.le_of_ble_eq_true rfl⟩ mv0 trivial rfl hl.1 rfl (Nat.le_of_ble_eq_true rfl) dX1_wide_3 ⟨Nat.zero_le _, Nat.zero_le _⟩ ?_
  refine lv_iload_n hx hb dX1_wide_6 rfl (lv_at hl 0 rfl) ?_
  refine lq_abs hx hb (hml.trans hl.1.symm) hown (hts _ (wl_in w_243)) (hts _ (wl_in w_244)) (hts _ (wl_in w_7)) (hts _ (wl_in w_245)) (Nat.le_of_ble_eq_true rfl) (Nat.le_of_ble_eq_true rfl) (Nat.zero_le _) (Nat.zero_le _) dX1_wide_7 ?_
  refine lv_iadd hx hb dX1_wide_10 ?_
  refine lv_iload_n hx hb dX1_wide_11 rfl (lv_at hl 1 rfl) ?_
  refine lq_abs hx hb (hml.trans hl.1.symm) hown (hts _ (wl_in w_243)) (hts _ (wl_in w_244)) (hts _ (wl_in w_7)) (hts _ (wl_in w_245)) (Nat.le_of_ble_eq_true rfl) (Nat.le_of_ble_eq_true rfl) (Nat.zero_le _) (Nat.zero_le _) dX1_wide_12 ?_
  refine lv_iadd hx hb dX1_wide_15 ?_
  refine lv_iload_n hx hb dX1_wide_16 rfl (lv_at hl 2 rfl) ?_
  refine lq_abs hx hb (hml.trans hl.1.symm) hown (hts _ (wl_in w_243)) (hts _ (wl_in w_244)) (hts _ (wl_in w_7)) (hts _ (wl_in w_245)) (Nat.le_of_ble_eq_true rfl) (Nat.le_of_ble_eq_true rfl) (Nat.zero_le _) (Nat.zero_le _) dX1_wide_17 ?_
  refine lv_iadd hx hb dX1_wide_20 ?_
  exact END 21 ls _ (pe h) dX1_wide_21

theorem syX1_odd : Sy yX1_odd cX1_odd 3 (some .int) 3 := ⟨w_254, w_253, w_6, by decide +kernel⟩
set_option maxHeartbeats 4000000 in
set_option maxRecDepth 100000 in
theorem cnX1_odd (l : Launch) {a0 : Int32} {a1 : Int32} {a2 : Int32} {r : Int32} (h : fX1_odd a0 a1 a2 = some r) : Ro l yX1_odd cX1_odd 3 (some .int) 3 69 [.int a0, .int a1, .int a2] B0 (.int r) := by
  refine ro_i (plainFor_of_name (by decide)) (Nat.le_of_ble_eq_true rfl) ?_
  intro p e s m args below meth cd Q ls hF hB hl END
  have hF : CallFix p m cd cX1_odd 3 s args (wl yX1_odd cX1_odd 3 (some .int)) RX1 := hF
  obtain ⟨hx, hb, hml, hown, hts⟩ := id hF
  have hl : lv_has ls 3 [(0, .int a0), (1, .int a1), (2, .int a2)] := hl
  rw [fX1_odd] at h
  refine lv_iload_n hx hb dX1_odd_0 rfl (lv_at hl 0 rfl) ?_
  refine lv_iload_n hx hb dX1_odd_1 rfl (lv_at hl 1 rfl) ?_
  refine lv_iload_n hx hb dX1_odd_2 rfl (lv_at hl 2 rfl) ?_
  obtain ⟨r1, e2, h⟩ := pb h
  refine ro_S (As := [.int a0, .int a1, .int a2]) (rest := []) hF (fun _ h => wl_in h) (cnX1_wide l e2) syX1_wide w_249 ⟨Nat.le_of_ble_eq_true rfl, Nat.le_of_ble_eq_true rfl⟩ mv0 trivial rfl hl.1 rfl (Nat.le_of_ble_eq_true rfl) dX1_odd_3 ⟨Nat.zero_le _, Nat.zero_le _⟩ ?_
  refine lv_bipush (v := (7 : Int32)) hx hb dX1_odd_6 (by decide) ?_
  refine lv_iload_n hx hb dX1_odd_8 rfl (lv_at hl 0 rfl) ?_
  refine lv_iconst (v := (1 : Int32)) hx hb dX1_odd_9 (by decide) ?_
  refine lv_iand hx hb dX1_odd_10 ?_
  refine lv_iload_n hx hb dX1_odd_11 rfl (lv_at hl 1 rfl) ?_
  refine lv_iconst (v := (1 : Int32)) hx hb dX1_odd_12 (by decide) ?_
  refine lv_iand hx hb dX1_odd_13 ?_
  refine lv_iadd hx hb dX1_odd_14 ?_
  refine lv_iload_n hx hb dX1_odd_15 rfl (lv_at hl 2 rfl) ?_
  refine lv_iconst (v := (1 : Int32)) hx hb dX1_odd_16 (by decide) ?_
  refine lv_iand hx hb dX1_odd_17 ?_
  refine lv_iadd hx hb dX1_odd_18 ?_
  refine lv_imul hx hb dX1_odd_19 ?_
  refine lv_iadd hx hb dX1_odd_20 ?_
  exact END 21 ls _ (pe h) dX1_odd_21

theorem syX1_byKind : Sy yX1_byKind cX1_byKind 4 (some .int) 4 := ⟨w_239, w_238, w_6, by decide +kernel⟩
set_option maxHeartbeats 4000000 in
set_option maxRecDepth 100000 in
theorem cnX1_byKind (l : Launch) {a0 : Int32} {a1 : Int32} {a2 : Int32} {a3 : Int32} {r : Int32} (h : fX1_byKind a0 a1 a2 a3 = some r) : Ro l yX1_byKind cX1_byKind 4 (some .int) 4 91 [.int a0, .int a1, .int a2, .int a3] B0 (.int r) := by
  refine ro_i (plainFor_of_name (by decide)) (Nat.le_of_ble_eq_true rfl) ?_
  intro p e s m args below meth cd Q ls hF hB hl END
  have hF : CallFix p m cd cX1_byKind 4 s args (wl yX1_byKind cX1_byKind 4 (some .int)) RX1 := hF
  obtain ⟨hx, hb, hml, hown, hts⟩ := id hF
  have hl : lv_has ls 4 [(0, .int a0), (1, .int a1), (2, .int a2), (3, .int a3)] := hl
  rw [fX1_byKind] at h
  refine lv_iload_n hx hb dX1_byKind_0 rfl (lv_at hl 0 rfl) ?_
  by_cases c1_0 : a0 = (0 : Int32)
  · have h := pt c1_0 h
    refine lv_lookup (tgt := 28) (off := 27) hx hb dX1_byKind_1 (by decide) (by rw [c1_0]; first | done | rfl) (by decide) ?_
    refine lv_iload_n hx hb dX1_byKind_28 rfl (lv_at hl 1 rfl) ?_
    refine lv_iload_n hx hb dX1_byKind_29 rfl (lv_at hl 2 rfl) ?_
    refine lv_iload_n hx hb dX1_byKind_30 rfl (lv_at hl 3 rfl) ?_
    obtain ⟨r1, e2, h⟩ := pb h
    refine ro_S (As := [.int a1, .int a2, .int a3]) (rest := []) hF (fun _ h => wl_in h) (cnX1_great l e2) syX1_great w_240 ⟨Nat.le_of_ble_eq_true rfl, Nat.le_of_ble_eq_true rfl⟩ mv0 trivial rfl hl.1 rfl (Nat.le_of_ble_eq_true rfl) dX1_byKind_31 ⟨Nat.zero_le _, Nat.zero_le _⟩ ?_
    exact END 34 ls _ (pe h) dX1_byKind_34
  have h := pf c1_0 h
  by_cases c1_1 : a0 = (1 : Int32)
  · have h := pt c1_1 h
    refine lv_lookup (tgt := 35) (off := 34) hx hb dX1_byKind_1 (by decide) (by rw [c1_1]; first | done | rfl) (by decide) ?_
    refine lv_iload_n hx hb dX1_byKind_35 rfl (lv_at hl 1 rfl) ?_
    refine lv_iload_n hx hb dX1_byKind_36 rfl (lv_at hl 2 rfl) ?_
    refine lv_iload_n hx hb dX1_byKind_37 rfl (lv_at hl 3 rfl) ?_
    obtain ⟨r3, e4, h⟩ := pb h
    refine ro_S (As := [.int a1, .int a2, .int a3]) (rest := []) hF (fun _ h => wl_in h) (cnX1_wide l e4) syX1_wide w_249 ⟨Nat.le_of_ble_eq_true rfl, Nat.le_of_ble_eq_true rfl⟩ mv0 trivial rfl hl.1 rfl (Nat.le_of_ble_eq_true rfl) dX1_byKind_38 ⟨Nat.zero_le _, Nat.zero_le _⟩ ?_
    exact END 41 ls _ (pe h) dX1_byKind_41
  have h := pf c1_1 h
  refine lv_lookup (tgt := 42) (off := 41) hx hb dX1_byKind_1 (by decide) (by exact (lv_osw c1_0 (a := 0) rfl).trans ((lv_osw c1_1 (a := 1) rfl).trans (rfl))) (by decide) ?_
  refine lv_iload_n hx hb dX1_byKind_42 rfl (lv_at hl 1 rfl) ?_
  refine lv_iload_n hx hb dX1_byKind_43 rfl (lv_at hl 2 rfl) ?_
  refine lv_iload_n hx hb dX1_byKind_44 rfl (lv_at hl 3 rfl) ?_
  obtain ⟨r5, e6, h⟩ := pb h
  refine ro_S (As := [.int a1, .int a2, .int a3]) (rest := []) hF (fun _ h => wl_in h) (cnX1_odd l e6) syX1_odd w_252 ⟨Nat.le_of_ble_eq_true rfl, Nat.le_of_ble_eq_true rfl⟩ mv0 trivial rfl hl.1 rfl (Nat.le_of_ble_eq_true rfl) dX1_byKind_45 ⟨Nat.zero_le _, Nat.zero_le _⟩ ?_
  exact END 48 ls _ (pe h) dX1_byKind_48

theorem syX4_isShelf : Sy yX4_isShelf cX4_isShelf 1 (some .boolean) 1 := ⟨w_128, w_127, w_1, by decide +kernel⟩
set_option maxHeartbeats 4000000 in
set_option maxRecDepth 100000 in
theorem cnX4_isShelf (l : Launch) {a0 : Int32} {r : Int32} (h : fX4_isShelf a0 = some r) : Ro l yX4_isShelf cX4_isShelf 1 (some .boolean) 0 0 [.int a0] B0 (.int r) := by
  refine ro_z (plainFor_of_name (by decide)) (Nat.le_of_ble_eq_true rfl) ?_
  intro p e s m args below meth cd Q ls hF hB hl END
  have hF : CallFix p m cd cX4_isShelf 1 s args (wl yX4_isShelf cX4_isShelf 1 (some .boolean)) RX4 := hF
  obtain ⟨hx, hb, hml, hown, hts⟩ := id hF
  have hl : lv_has ls 1 [(0, .int a0)] := hl
  rw [fX4_isShelf] at h
  refine lv_iload_n hx hb dX4_isShelf_0 rfl (lv_at hl 0 rfl) ?_
  refine lv_if_lt (tgt := 13) hx hb dX4_isShelf_1 (by decide) (fun c1 => ?_) (fun c1 => ?_)
  · have h := pt c1 h
    refine lv_iconst (v := (0 : Int32)) hx hb dX4_isShelf_13 (by decide) ?_
    exact END 14 ls _ (pe h) (by rfl) dX4_isShelf_14
  · have h := pf c1 h
    refine lv_iload_n hx hb dX4_isShelf_4 rfl (lv_at hl 0 rfl) ?_
    refine lv_iconst (v := (4 : Int32)) hx hb dX4_isShelf_5 (by decide) ?_
    refine lv_icmp_ge (tgt := 13) hx hb dX4_isShelf_6 (by decide) (fun c6 => ?_) (fun c6 => ?_)
    · have h := pt c6 h
      refine lv_iconst (v := (0 : Int32)) hx hb dX4_isShelf_13 (by decide) ?_
      exact END 14 ls _ (pe h) (by rfl) dX4_isShelf_14
    · have h := pf c6 h
      refine lv_iconst (v := (1 : Int32)) hx hb dX4_isShelf_9 (by decide) ?_
      refine lv_goto (tgt := 14) hx hb dX4_isShelf_10 (by decide) ?_
      exact END 14 ls _ (pe h) (by rfl) dX4_isShelf_14

theorem syX4_isWithin : Sy yX4_isWithin cX4_isWithin 2 (some .boolean) 2 := ⟨w_86, w_85, w_1, by decide +kernel⟩
set_option maxHeartbeats 4000000 in
set_option maxRecDepth 100000 in
theorem cnX4_isWithin (l : Launch) {a0 : Int32} {a1 : Int32} {r : Int32} (h : fX4_isWithin a0 a1 = some r) : Ro l yX4_isWithin cX4_isWithin 2 (some .boolean) 0 0 [.int a0, .int a1] B0 (.int r) := by
  refine ro_z (plainFor_of_name (by decide)) (Nat.le_of_ble_eq_true rfl) ?_
  intro p e s m args below meth cd Q ls hF hB hl END
  have hF : CallFix p m cd cX4_isWithin 2 s args (wl yX4_isWithin cX4_isWithin 2 (some .boolean)) RX4 := hF
  obtain ⟨hx, hb, hml, hown, hts⟩ := id hF
  have hl : lv_has ls 2 [(0, .int a0), (1, .int a1)] := hl
  rw [fX4_isWithin] at h
  refine lv_iload_n hx hb dX4_isWithin_0 rfl (lv_at hl 0 rfl) ?_
  refine lv_iload_n hx hb dX4_isWithin_1 rfl (lv_at hl 1 rfl) ?_
  refine lv_ineg hx hb dX4_isWithin_2 ?_
  refine lv_icmp_lt (tgt := 15) hx hb dX4_isWithin_3 (by decide) (fun c3 => ?_) (fun c3 => ?_)
  · have h := pt c3 h
    refine lv_iconst (v := (0 : Int32)) hx hb dX4_isWithin_15 (by decide) ?_
    exact END 16 ls _ (pe h) (by rfl) dX4_isWithin_16
  · have h := pf c3 h
    refine lv_iload_n hx hb dX4_isWithin_6 rfl (lv_at hl 0 rfl) ?_
    refine lv_iload_n hx hb dX4_isWithin_7 rfl (lv_at hl 1 rfl) ?_
    refine lv_icmp_gt (tgt := 15) hx hb dX4_isWithin_8 (by decide) (fun c8 => ?_) (fun c8 => ?_)
    · have h := pt c8 h
      refine lv_iconst (v := (0 : Int32)) hx hb dX4_isWithin_15 (by decide) ?_
      exact END 16 ls _ (pe h) (by rfl) dX4_isWithin_16
    · have h := pf c8 h
      refine lv_iconst (v := (1 : Int32)) hx hb dX4_isWithin_11 (by decide) ?_
      refine lv_goto (tgt := 16) hx hb dX4_isWithin_12 (by decide) ?_
      exact END 16 ls _ (pe h) (by rfl) dX4_isWithin_16

theorem syX4_isNumber : Sy yX4_isNumber cX4_isNumber 2 (some .boolean) 2 := ⟨w_83, w_82, w_1, by decide +kernel⟩
set_option maxHeartbeats 4000000 in
set_option maxRecDepth 100000 in
theorem cnX4_isNumber (l : Launch) {a0 : Int32} {a1 : Int32} {r : Int32} (h : fX4_isNumber a0 a1 = some r) : Ro l yX4_isNumber cX4_isNumber 2 (some .boolean) 1 21 [.int a0, .int a1] B0 (.int r) := by
  refine ro_z (plainFor_of_name (by decide)) (Nat.le_of_ble_eq_true rfl) ?_
  intro p e s m args below meth cd Q ls hF hB hl END
  have hF : CallFix p m cd cX4_isNumber 2 s args (wl yX4_isNumber cX4_isNumber 2 (some .boolean)) RX4 := hF
  obtain ⟨hx, hb, hml, hown, hts⟩ := id hF
  have hl : lv_has ls 2 [(0, .int a0), (1, .int a1)] := hl
  rw [fX4_isNumber] at h
  refine lv_iload_n hx hb dX4_isNumber_0 rfl (lv_at hl 0 rfl) ?_
  refine lv_if_eq (tgt := 16) hx hb dX4_isNumber_1 (by decide) (fun c1 => ?_) (fun c1 => ?_)
  · have h := pt c1 h
    refine lv_iconst (v := (0 : Int32)) hx hb dX4_isNumber_16 (by decide) ?_
    exact END 17 ls _ (pe h) (by rfl) dX4_isNumber_17
  · have h := pf c1 h
    refine lv_iload_n hx hb dX4_isNumber_4 rfl (lv_at hl 0 rfl) ?_
    refine lv_iload_n hx hb dX4_isNumber_5 rfl (lv_at hl 1 rfl) ?_
    obtain ⟨r1, e2, h⟩ := pb h
    refine ro_S (As := [.int a0, .int a1]) (rest := []) hF (fun _ h => wl_in h) (cnX4_isWithin l e2) syX4_isWithin w_84 ⟨Nat.le_of_ble_eq_true rfl, Nat.le_of_ble_eq_true rfl⟩ mv0 trivial rfl hl.1 rfl (Nat.le_of_ble_eq_true rfl) dX4_isNumber_6 ⟨Nat.zero_le _, Nat.zero_le _⟩ ?_
    refine lv_if_eq (tgt := 16) hx hb dX4_isNumber_9 (by decide) (fun c9 => ?_) (fun c9 => ?_)
    · have h := pt c9 h
      refine lv_iconst (v := (0 : Int32)) hx hb dX4_isNumber_16 (by decide) ?_
      exact END 17 ls _ (pe h) (by rfl) dX4_isNumber_17
    · have h := pf c9 h
      refine lv_iconst (v := (1 : Int32)) hx hb dX4_isNumber_12 (by decide) ?_
      refine lv_goto (tgt := 17) hx hb dX4_isNumber_13 (by decide) ?_
      exact END 17 ls _ (pe h) (by rfl) dX4_isNumber_17

theorem syX4_areWithin : Sy yX4_areWithin cX4_areWithin 4 (some .boolean) 4 := ⟨w_225, w_224, w_1, by decide +kernel⟩
set_option maxHeartbeats 4000000 in
set_option maxRecDepth 100000 in
theorem cnX4_areWithin (l : Launch) {a0 : Int32} {a1 : Int32} {a2 : Int32} {a3 : Int32} {r : Int32} (h : fX4_areWithin a0 a1 a2 a3 = some r) : Ro l yX4_areWithin cX4_areWithin 4 (some .boolean) 1 21 [.int a0, .int a1, .int a2, .int a3] B0 (.int r) := by
  refine ro_z (plainFor_of_name (by decide)) (Nat.le_of_ble_eq_true rfl) ?_
  intro p e s m args below meth cd Q ls hF hB hl END
  have hF : CallFix p m cd cX4_areWithin 4 s args (wl yX4_areWithin cX4_areWithin 4 (some .boolean)) RX4 := hF
  obtain ⟨hx, hb, hml, hown, hts⟩ := id hF
  have hl : lv_has ls 4 [(0, .int a0), (1, .int a1), (2, .int a2), (3, .int a3)] := hl
  rw [fX4_areWithin] at h
  refine lv_iload_n hx hb dX4_areWithin_0 rfl (lv_at hl 0 rfl) ?_
  refine lv_iload_n hx hb dX4_areWithin_1 rfl (lv_at hl 3 rfl) ?_
  obtain ⟨r1, e2, h⟩ := pb h
  refine ro_S (As := [.int a0, .int a3]) (rest := []) hF (fun _ h => wl_in h) (cnX4_isWithin l e2) syX4_isWithin w_84 ⟨Nat.le_of_ble_eq_true rfl, Nat.le_of_ble_eq_true rfl⟩ mv0 trivial rfl hl.1 rfl (Nat.le_of_ble_eq_true rfl) dX4_areWithin_2 ⟨Nat.zero_le _, Nat.zero_le _⟩ ?_
  refine lv_if_eq (tgt := 28) hx hb dX4_areWithin_5 (by decide) (fun c5 => ?_) (fun c5 => ?_)
  · have h := pt c5 h
    refine lv_iconst (v := (0 : Int32)) hx hb dX4_areWithin_28 (by decide) ?_
    exact END 29 ls _ (pe h) (by rfl) dX4_areWithin_29
  · have h := pf c5 h
    refine lv_iload_n hx hb dX4_areWithin_8 rfl (lv_at hl 1 rfl) ?_
    refine lv_iload_n hx hb dX4_areWithin_9 rfl (lv_at hl 3 rfl) ?_
    obtain ⟨r3, e4, h⟩ := pb h
    refine ro_S (As := [.int a1, .int a3]) (rest := []) hF (fun _ h => wl_in h) (cnX4_isWithin l e4) syX4_isWithin w_84 ⟨Nat.le_of_ble_eq_true rfl, Nat.le_of_ble_eq_true rfl⟩ mv0 trivial rfl hl.1 rfl (Nat.le_of_ble_eq_true rfl) dX4_areWithin_10 ⟨Nat.zero_le _, Nat.zero_le _⟩ ?_
    refine lv_if_eq (tgt := 28) hx hb dX4_areWithin_13 (by decide) (fun c13 => ?_) (fun c13 => ?_)
    · have h := pt c13 h
      refine lv_iconst (v := (0 : Int32)) hx hb dX4_areWithin_28 (by decide) ?_
      exact END 29 ls _ (pe h) (by rfl) dX4_areWithin_29
    · have h := pf c13 h
      refine lv_iload_n hx hb dX4_areWithin_16 rfl (lv_at hl 2 rfl) ?_
      refine lv_iload_n hx hb dX4_areWithin_17 rfl (lv_at hl 3 rfl) ?_
      obtain ⟨r5, e6, h⟩ := pb h
      refine ro_S (As := [.int a2, .int a3]) (rest := []) hF (fun _ h => wl_in h) (cnX4_isWithin l e6) syX4_isWithin w_84 ⟨Nat.le_of_ble_eq_true rfl, Nat.le_of_ble_eq_true rfl⟩ mv0 trivial rfl hl.1 rfl (Nat.le_of_ble_eq_true rfl) dX4_areWithin_18 ⟨Nat.zero_le _, Nat.zero_le _⟩ ?_
      refine lv_if_eq (tgt := 28) hx hb dX4_areWithin_21 (by decide) (fun c21 => ?_) (fun c21 => ?_)
      · have h := pt c21 h
        refine lv_iconst (v := (0 : Int32)) hx hb dX4_areWithin_28 (by decide) ?_
        exact END 29 ls _ (pe h) (by rfl) dX4_areWithin_29
      · have h := pf c21 h
        refine lv_iconst (v := (1 : Int32)) hx hb dX4_areWithin_24 (by decide) ?_
        refine lv_goto (tgt := 29) hx hb dX4_areWithin_25 (by decide) ?_
        exact END 29 ls _ (pe h) (by rfl) dX4_areWithin_29

theorem syX4_pick : Sy yX4_pick cX4_pick 7 (some .long) 4 := ⟨w_287, w_286, w_1, by decide +kernel⟩
set_option maxHeartbeats 4000000 in
set_option maxRecDepth 100000 in
theorem cnX4_pick (l : Launch) {a0 : Int32} {a1 : Int64} {a2 : Int64} {a3 : Int64} {r : Int64} (h : fX4_pick a0 a1 a2 a3 = some r) : Ro l yX4_pick cX4_pick 7 (some .long) 0 0 [.int a0, .long a1, .long a2, .long a3] B0 (.long r) := by
  refine ro_l (plainFor_of_name (by decide)) (Nat.le_of_ble_eq_true rfl) ?_
  intro p e s m args below meth cd Q ls hF hB hl END
  have hF : CallFix p m cd cX4_pick 7 s args (wl yX4_pick cX4_pick 7 (some .long)) RX4 := hF
  obtain ⟨hx, hb, hml, hown, hts⟩ := id hF
  have hl : lv_has ls 7 [(0, .int a0), (1, .long a1), (3, .long a2), (5, .long a3)] := hl
  rw [fX4_pick] at h
  refine lv_iload_n hx hb dX4_pick_0 rfl (lv_at hl 0 rfl) ?_
  refine lv_if_ne (tgt := 8) hx hb dX4_pick_1 (by decide) (fun c1 => ?_) (fun c1 => ?_)
  · have h := pf c1 h
    refine lv_iload_n hx hb dX4_pick_8 rfl (lv_at hl 0 rfl) ?_
    refine lv_iconst (v := (1 : Int32)) hx hb dX4_pick_9 (by decide) ?_
    refine lv_icmp_ne (tgt := 17) hx hb dX4_pick_10 (by decide) (fun c10 => ?_) (fun c10 => ?_)
    · have h := pf c10 h
      refine lv_lload hx hb dX4_pick_17 (lv_at hl 3 rfl) ?_
      exact END 19 ls _ (pe h) dX4_pick_19
    · have h := pt c10 h
      refine lv_lload_n hx hb dX4_pick_13 rfl (lv_at hl 2 rfl) ?_
      refine lv_goto (tgt := 19) hx hb dX4_pick_14 (by decide) ?_
      exact END 19 ls _ (pe h) dX4_pick_19
  · have h := pt c1 h
    refine lv_lload_n hx hb dX4_pick_4 rfl (lv_at hl 1 rfl) ?_
    refine lv_goto (tgt := 19) hx hb dX4_pick_5 (by decide) ?_
    exact END 19 ls _ (pe h) dX4_pick_19

theorem syX4_commonDivisor : Sy yX4_commonDivisor cX4_commonDivisor 11 (some .long) 2 := ⟨w_279, w_278, w_1, by decide +kernel⟩
set_option maxHeartbeats 4000000 in
set_option maxRecDepth 100000 in
theorem cnX4_commonDivisor (l : Launch) {a0 : Int64} {a1 : Int64} {r : Int64} (h : fX4_commonDivisor a0 a1 = some r) : Ro l yX4_commonDivisor cX4_commonDivisor 11 (some .long) 1 25 [.long a0, .long a1] B0 (.long r) := by
  refine ro_l (plainFor_of_name (by decide)) (Nat.le_of_ble_eq_true rfl) ?_
  intro p e s m args below meth cd Q ls hF hB hl END
  have hF : CallFix p m cd cX4_commonDivisor 11 s args (wl yX4_commonDivisor cX4_commonDivisor 11 (some .long)) RX4 := hF
  obtain ⟨hx, hb, hml, hown, hts⟩ := id hF
  have hl : lv_has ls 11 [(0, .long a0), (2, .long a1)] := hl
  rw [fX4_commonDivisor] at h
  refine lv_lload_n hx hb dX4_commonDivisor_0 rfl (lv_at hl 0 rfl) ?_
  refine lq_labs hx hb (hml.trans hl.1.symm) hown (hts _ (wl_in w_280)) (hts _ (wl_in w_281)) (hts _ (wl_in w_7)) (hts _ (wl_in w_282)) (Nat.le_of_ble_eq_true rfl) (Nat.le_of_ble_eq_true rfl) (Nat.zero_le _) (Nat.zero_le _) dX4_commonDivisor_1 ?_
  refine lv_lstore (lv' := [(4, .long (labs a0)), (0, .long a0), (2, .long a1)]) hx hb dX4_commonDivisor_4 hl (by decide) rfl (fun ls hl => ?_)
  refine lv_lload_n hx hb dX4_commonDivisor_6 rfl (lv_at hl 2 rfl) ?_
  refine lq_labs hx hb (hml.trans hl.1.symm) hown (hts _ (wl_in w_280)) (hts _ (wl_in w_281)) (hts _ (wl_in w_7)) (hts _ (wl_in w_282)) (Nat.le_of_ble_eq_true rfl) (Nat.le_of_ble_eq_true rfl) (Nat.zero_le _) (Nat.zero_le _) dX4_commonDivisor_7 ?_
  refine lv_lstore (lv' := [(6, .long (labs a1)), (4, .long (labs a0)), (0, .long a0), (2, .long a1)]) hx hb dX4_commonDivisor_10 hl (by decide) rfl (fun ls hl => ?_)
  refine lv_iconst (v := (0 : Int32)) hx hb dX4_commonDivisor_12 (by decide) ?_
  refine lv_istore (lv' := [(8, .int (0 : Int32)), (6, .long (labs a1)), (4, .long (labs a0)), (0, .long a0), (2, .long a1)]) hx hb dX4_commonDivisor_13 hl (by decide) rfl (fun ls hl => ?_)
  have J15 : ∀ (n15 : Nat) (x4_15 : Int64) (x6_15 : Int64) (x8_15 : Int32), kX4_commonDivisor_15 n15 x4_15 x6_15 x8_15 = some r → ∀ (ls : Array Slot), lv_has ls 11 [(4, .long x4_15), (6, .long x6_15), (8, .int x8_15)] → W p l e (rmk 1 25) s m args below meth cd s.heap [] 0 0 Q (F0 m 15 ls []) := by
    intro n15
    induction n15 with
    | zero =>
      intro x4_15 x6_15 x8_15 h
      rw [kX4_commonDivisor_15] at h
      cases h
    | succ n15 ih15 =>
      intro x4_15 x6_15 x8_15 h  ls hl
      rw [kX4_commonDivisor_15] at h
      refine lv_iload hx hb dX4_commonDivisor_15 (lv_at hl 2 rfl) ?_
      refine lv_bipush (v := (100 : Int32)) hx hb dX4_commonDivisor_17 (by decide) ?_
      refine lv_icmp_ge (tgt := 50) hx hb dX4_commonDivisor_19 (by decide) (fun c19 => ?_) (fun c19 => ?_)
      · have h := pt c19 h
        refine lv_lload hx hb dX4_commonDivisor_50 (lv_at hl 0 rfl) ?_
        exact END 52 ls _ (pe h) dX4_commonDivisor_52
      · have h := pf c19 h
        refine lv_lload hx hb dX4_commonDivisor_22 (lv_at hl 1 rfl) ?_
        refine lv_lconst (v := (0 : Int64)) hx hb dX4_commonDivisor_24 (by decide) ?_
        refine W.lcmp hx hb dX4_commonDivisor_25 ?_
        refine lv_if_eq (tgt := 50) hx hb dX4_commonDivisor_26 (by decide) (fun c26 => ?_) (fun c26 => ?_)
        · have h := pt c26 h
          refine lv_lload hx hb dX4_commonDivisor_50 (lv_at hl 0 rfl) ?_
          exact END 52 ls _ (pe h) dX4_commonDivisor_52
        · have h := pf c26 h
          refine lv_lload hx hb dX4_commonDivisor_29 (lv_at hl 0 rfl) ?_
          refine lv_lload hx hb dX4_commonDivisor_31 (lv_at hl 1 rfl) ?_
          obtain ⟨g1, h⟩ := pg h
          refine lq_lrem hx hb dX4_commonDivisor_33 g1 ?_
          refine lv_lstore (lv' := [(9, .long (lrm x4_15 x6_15)), (4, .long x4_15), (6, .long x6_15), (8, .int x8_15)]) hx hb dX4_commonDivisor_34 hl (by decide) rfl (fun ls hl => ?_)
          refine lv_lload hx hb dX4_commonDivisor_36 (lv_at hl 2 rfl) ?_
          refine lv_lstore (lv' := [(4, .long x6_15), (9, .long (lrm x4_15 x6_15)), (6, .long x6_15), (8, .int x8_15)]) hx hb dX4_commonDivisor_38 hl (by decide) rfl (fun ls hl => ?_)
          refine lv_lload hx hb dX4_commonDivisor_40 (lv_at hl 1 rfl) ?_
          refine lv_lstore (lv' := [(6, .long (lrm x4_15 x6_15)), (4, .long x6_15), (9, .long (lrm x4_15 x6_15)), (8, .int x8_15)]) hx hb dX4_commonDivisor_42 hl (by decide) rfl (fun ls hl => ?_)
          refine lv_iinc (v := x8_15 + (1 : Int32)) (lv' := [(8, .int (x8_15 + (1 : Int32))), (6, .long (lrm x4_15 x6_15)), (4, .long x6_15), (9, .long (lrm x4_15 x6_15))]) hx hb dX4_commonDivisor_44 hl (k := 3) rfl rfl (by decide) rfl (fun ls hl => ?_)
          refine lv_goto (tgt := 15) hx hb dX4_commonDivisor_47 (by decide) ?_
          exact ih15 _ _ _ h  _ (lv_sub hl [2, 1, 0] rfl)
  exact J15 _ _ _ _ h  _ (lv_sub hl [2, 1, 0] rfl)

theorem syX4_reducer : Sy yX4_reducer cX4_reducer 10 (some .long) 3 := ⟨w_276, w_275, w_1, by decide +kernel⟩
set_option maxHeartbeats 4000000 in
set_option maxRecDepth 100000 in
theorem cnX4_reducer (l : Launch) {a0 : Int64} {a1 : Int64} {a2 : Int64} {r : Int64} (h : fX4_reducer a0 a1 a2 = some r) : Ro l yX4_reducer cX4_reducer 10 (some .long) 2 55 [.long a0, .long a1, .long a2] B0 (.long r) := by
  refine ro_l (plainFor_of_name (by decide)) (Nat.le_of_ble_eq_true rfl) ?_
  intro p e s m args below meth cd Q ls hF hB hl END
  have hF : CallFix p m cd cX4_reducer 10 s args (wl yX4_reducer cX4_reducer 10 (some .long)) RX4 := hF
  obtain ⟨hx, hb, hml, hown, hts⟩ := id hF
  have hl : lv_has ls 10 [(0, .long a0), (2, .long a1), (4, .long a2)] := hl
  rw [fX4_reducer] at h
  refine lv_lload_n hx hb dX4_reducer_0 rfl (lv_at hl 0 rfl) ?_
  refine lv_lload_n hx hb dX4_reducer_1 rfl (lv_at hl 1 rfl) ?_
  refine lv_lload hx hb dX4_reducer_2 (lv_at hl 2 rfl) ?_
  obtain ⟨r1, e2, h⟩ := pb h
  refine ro_S (As := [.long a1, .long a2]) (rest := [.long a0]) hF (fun _ h => wl_in h) (cnX4_commonDivisor l e2) syX4_commonDivisor w_277 ⟨Nat.le_of_ble_eq_true rfl, Nat.le_of_ble_eq_true rfl⟩ mv0 trivial rfl hl.1 rfl (Nat.le_of_ble_eq_true rfl) dX4_reducer_4 ⟨Nat.zero_le _, Nat.zero_le _⟩ ?_
  obtain ⟨r3, e4, h⟩ := pb h
  refine ro_S (As := [.long a0, .long r1]) (rest := []) hF (fun _ h => wl_in h) (cnX4_commonDivisor l e4) syX4_commonDivisor w_277 ⟨Nat.le_of_ble_eq_true rfl, Nat.le_of_ble_eq_true rfl⟩ mv0 trivial rfl hl.1 rfl (Nat.le_of_ble_eq_true rfl) dX4_reducer_7 ⟨Nat.zero_le _, Nat.zero_le _⟩ ?_
  refine lv_lstore (lv' := [(6, .long r3), (0, .long a0), (2, .long a1), (4, .long a2)]) hx hb dX4_reducer_10 hl (by decide) rfl (fun ls hl => ?_)
  refine lv_lload_n hx hb dX4_reducer_12 rfl (lv_at hl 1 rfl) ?_
  refine lv_lconst (v := (0 : Int64)) hx hb dX4_reducer_13 (by decide) ?_
  refine W.lcmp hx hb dX4_reducer_14 ?_
  have J34 : ∀ (t0_34 : Int64), kX4_reducer_34 r3 t0_34 = some r → ∀ (ls : Array Slot), lv_has ls 10 [(6, .long r3)] → W p l e (rmk 2 55) s m args below meth cd s.heap [] 0 0 Q (F0 m 34 ls [.long t0_34]) := by
    intro t0_34 h  ls hl
    rw [kX4_reducer_34] at h
    refine lv_lstore (lv' := [(8, .long t0_34), (6, .long r3)]) hx hb dX4_reducer_34 hl (by decide) rfl (fun ls hl => ?_)
    refine lv_lload hx hb dX4_reducer_36 (lv_at hl 0 rfl) ?_
    refine lv_lconst (v := (0 : Int64)) hx hb dX4_reducer_38 (by decide) ?_
    refine W.lcmp hx hb dX4_reducer_39 ?_
    refine lv_if_ge (tgt := 49) hx hb dX4_reducer_40 (by decide) (fun c40 => ?_) (fun c40 => ?_)
    · have h := pt c40 h
      refine lv_lload hx hb dX4_reducer_49 (lv_at hl 1 rfl) ?_
      exact END 51 ls _ (pe h) dX4_reducer_51
    · have h := pf c40 h
      refine lv_lload hx hb dX4_reducer_43 (lv_at hl 1 rfl) ?_
      refine lv_lneg hx hb dX4_reducer_45 ?_
      refine lv_goto (tgt := 51) hx hb dX4_reducer_46 (by decide) ?_
      exact END 51 ls _ (pe h) dX4_reducer_51
  refine lv_if_eq (tgt := 22) hx hb dX4_reducer_15 (by decide) (fun c15 => ?_) (fun c15 => ?_)
  · have h := pt c15 h
    refine lv_lload_n hx hb dX4_reducer_22 rfl (lv_at hl 2 rfl) ?_
    refine lv_lconst (v := (0 : Int64)) hx hb dX4_reducer_23 (by decide) ?_
    refine W.lcmp hx hb dX4_reducer_24 ?_
    refine lv_if_eq (tgt := 32) hx hb dX4_reducer_25 (by decide) (fun c25 => ?_) (fun c25 => ?_)
    · have h := pt c25 h
      refine lv_lload hx hb dX4_reducer_32 (lv_at hl 3 rfl) ?_
      exact J34 _ h  _ (lv_sub hl [0] rfl)
    · have h := pf c25 h
      refine lv_lload_n hx hb dX4_reducer_28 rfl (lv_at hl 2 rfl) ?_
      refine lv_goto (tgt := 34) hx hb dX4_reducer_29 (by decide) ?_
      exact J34 _ h  _ (lv_sub hl [0] rfl)
  · have h := pf c15 h
    refine lv_lload_n hx hb dX4_reducer_18 rfl (lv_at hl 1 rfl) ?_
    refine lv_goto (tgt := 34) hx hb dX4_reducer_19 (by decide) ?_
    exact J34 _ h  _ (lv_sub hl [0] rfl)

theorem syX4_isReduced : Sy yX4_isReduced cX4_isReduced 3 (some .boolean) 3 := ⟨w_273, w_272, w_1, by decide +kernel⟩
set_option maxHeartbeats 4000000 in
set_option maxRecDepth 100000 in
theorem cnX4_isReduced (l : Launch) {a0 : Int32} {a1 : Int32} {a2 : Int32} {r : Int32} (h : fX4_isReduced a0 a1 a2 = some r) : Ro l yX4_isReduced cX4_isReduced 3 (some .boolean) 3 84 [.int a0, .int a1, .int a2] B0 (.int r) := by
  refine ro_z (plainFor_of_name (by decide)) (Nat.le_of_ble_eq_true rfl) ?_
  intro p e s m args below meth cd Q ls hF hB hl END
  have hF : CallFix p m cd cX4_isReduced 3 s args (wl yX4_isReduced cX4_isReduced 3 (some .boolean)) RX4 := hF
  obtain ⟨hx, hb, hml, hown, hts⟩ := id hF
  have hl : lv_has ls 3 [(0, .int a0), (1, .int a1), (2, .int a2)] := hl
  rw [fX4_isReduced] at h
  refine lv_iload_n hx hb dX4_isReduced_0 rfl (lv_at hl 0 rfl) ?_
  refine lv_i2l (v := a0.toInt64) hx hb dX4_isReduced_1 rfl ?_
  refine lv_iload_n hx hb dX4_isReduced_2 rfl (lv_at hl 1 rfl) ?_
  refine lv_i2l (v := a1.toInt64) hx hb dX4_isReduced_3 rfl ?_
  refine lv_iload_n hx hb dX4_isReduced_4 rfl (lv_at hl 2 rfl) ?_
  refine lv_i2l (v := a2.toInt64) hx hb dX4_isReduced_5 rfl ?_
  obtain ⟨r1, e2, h⟩ := pb h
  refine ro_S (As := [.long a0.toInt64, .long a1.toInt64, .long a2.toInt64]) (rest := []) hF (fun _ h => wl_in h) (cnX4_reducer l e2) syX4_reducer w_274 ⟨Nat.le_of_ble_eq_true rfl, Nat.le_of_ble_eq_true rfl⟩ mv0 trivial rfl hl.1 rfl (Nat.le_of_ble_eq_true rfl) dX4_isReduced_6 ⟨Nat.zero_le _, Nat.zero_le _⟩ ?_
  refine lv_lconst (v := (1 : Int64)) hx hb dX4_isReduced_9 (by decide) ?_
  refine W.lcmp hx hb dX4_isReduced_10 ?_
  refine lv_if_ne (tgt := 18) hx hb dX4_isReduced_11 (by decide) (fun c11 => ?_) (fun c11 => ?_)
  · have h := pf c11 h
    refine lv_iconst (v := (0 : Int32)) hx hb dX4_isReduced_18 (by decide) ?_
    exact END 19 ls _ (pe h) (by rfl) dX4_isReduced_19
  · have h := pt c11 h
    refine lv_iconst (v := (1 : Int32)) hx hb dX4_isReduced_14 (by decide) ?_
    refine lv_goto (tgt := 19) hx hb dX4_isReduced_15 (by decide) ?_
    exact END 19 ls _ (pe h) (by rfl) dX4_isReduced_19
