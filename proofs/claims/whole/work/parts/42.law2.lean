section LAW
variable {p : Program} {l : Launch} {e : Env} {s : State} {m : MethodId} {below : List Frame} {meth : Method} {c : Code} {b L : Nat} {xs : Nat → Int32} {G : va_G} {cI cF : ClassId} {tA tT o sh xx xc gv se : Nat} {fa ca : Nat → Nat} {h0 hs hr : Nat} {x3 : Int32}
variable {n : Nat → Int32} {f : Nat → Nat → Int32} {xn : Int32} {xf gf : Nat → Int32} {s0 s1 s2 s3 s4 : Int32} {tr tm : Int64} {sz rw : Nat → Int32} {bx by_ bz bm so : Int32} {H : Heap} {locs : List Loc} {ls : Array Slot}
set_option maxHeartbeats 4000000 in
set_option maxRecDepth 100000 in
theorem law_bar (C0 : lw_At p s m meth c b L xs) (X : Fix s o sh xx xc gv se fa ca h0 hs hr) (hi : Idx x3 L) (K : LCont p l e s m below meth c b G cI cF tA tT o sh xx xc gv se fa ca h0 hs hr x3) (hR : Rel n f tr sz rw tm) (hC : cB (lA s) G cI cF tA tT o sh xx xc gv se fa ca n f xn xf gf s0 s1 s2 s3 s4 tr s H) (hM : mB G h0 hs hr cI cF tm sz rw bx by_ bz bm so s H) (hS : va_S (lA s) s.heap H locs) (hl : lv_has ls 4 [(0, .ref b), (1, .ref o), (2, .ref h0), (3, .int x3)]) : W p l e room_1 s m #[Value.ref b] below meth c H locs 17 97 (lw_Z below #[Value.ref b] s) (F0 m 493 ls []) := by
  obtain ⟨hx, hb, hret, hml, hown, hts, hX, hbl, hlocks, hgv⟩ := C0
  have hF : CallFix p m c code 4 s #[Value.ref b] lw_tbl RL := ⟨hx, hb, hml, hown, hts⟩
  have hbA : ¬ lA s b := Nat.not_le.mpr hbl
  obtain ⟨hnd, hap, hdis, hAc, hAm, hN⟩ := X
  obtain ⟨i1, i2, i3, i4, i5, i6, i7, i8⟩ := hi
  obtain ⟨r, ec, em⟩ := P_bar hR  (xs (x3 + (1 : Int32)).toNatClampNeg) (xs (x3 + (2 : Int32)).toNatClampNeg)
  refine lv_aload_n hx hb dL_law_493 rfl (lv_at hl 1 rfl) ?_
  refine lv_aload_n hx hb dL_law_494 rfl (lv_at hl 0 rfl) ?_
  refine lv_iload_n hx hb dL_law_495 rfl (lv_at hl 3 rfl) ?_
  refine lv_iconst (v := (1 : Int32)) hx hb dL_law_496 (by decide) ?_
  refine lv_iadd hx hb dL_law_497 ?_
  refine va_sld hx hb hX hbl hbA hS i1 dL_law_498 ?_
  refine lv_aload_n hx hb dL_law_499 rfl (lv_at hl 0 rfl) ?_
  refine lv_iload_n hx hb dL_law_500 rfl (lv_at hl 3 rfl) ?_
  refine lv_iconst (v := (2 : Int32)) hx hb dL_law_501 (by decide) ?_
  refine lv_iadd hx hb dL_law_502 ?_
  refine va_sld hx hb hX hbl hbA hS i2 dL_law_503 ?_
  refine ro_V (As := [.int (xs (x3 + (1 : Int32)).toNatClampNeg), .int (xs (x3 + (2 : Int32)).toNatClampNeg)]) (rest := []) hF tb_in (cnX4_bar l (lA s) G cI cF tA tT o sh xx xc gv se fa ca n f xn xf gf s0 s1 s2 s3 s4 tr ec) syX4_bar w_194 ⟨Nat.le_of_ble_eq_true rfl, Nat.le_of_ble_eq_true rfl⟩ cB_mv hC (va_recv hC.1.1 hC.2 (ci := 2) (q0 := 0) rfl rfl) rfl hl.1 rfl (Nat.le_of_ble_eq_true rfl) dL_law_504 ⟨Nat.le_of_ble_eq_true rfl, Nat.le_of_ble_eq_true rfl⟩ ?_
  refine lv_aload_n hx hb dL_law_507 rfl (lv_at hl 2 rfl) ?_
  refine lv_aload_n hx hb dL_law_508 rfl (lv_at hl 0 rfl) ?_
  refine lv_iload_n hx hb dL_law_509 rfl (lv_at hl 3 rfl) ?_
  refine lv_iconst (v := (1 : Int32)) hx hb dL_law_510 (by decide) ?_
  refine lv_iadd hx hb dL_law_511 ?_
  refine va_sld hx hb hX hbl hbA hS i1 dL_law_512 ?_
  refine lv_aload_n hx hb dL_law_513 rfl (lv_at hl 0 rfl) ?_
  refine lv_iload_n hx hb dL_law_514 rfl (lv_at hl 3 rfl) ?_
  refine lv_iconst (v := (2 : Int32)) hx hb dL_law_515 (by decide) ?_
  refine lv_iadd hx hb dL_law_516 ?_
  refine va_sld hx hb hX hbl hbA hS i2 dL_law_517 ?_
  obtain ⟨⟨th, ex, hP⟩, hK⟩ := id hM
  refine mu_V (As := [.int (xs (x3 + (1 : Int32)).toNatClampNeg), .int (xs (x3 + (2 : Int32)).toNatClampNeg)]) (rest := [.int r]) hF tb_in (cnX5_bar l G h0 hs hr cI cF tm sz rw bx by_ bz bm so hap em) syX5_bar w_459 ⟨Nat.le_of_ble_eq_true rfl, Nat.le_of_ble_eq_true rfl⟩ mB_mv mB_mv hM (va_recv hK hP (ci := 3) (q0 := 0) rfl rfl) hS hAm rfl hl.1 rfl (Nat.le_of_ble_eq_true rfl) dL_law_518 ⟨Nat.le_of_ble_eq_true rfl, Nat.le_of_ble_eq_true rfl⟩ (fun H locs hM _ hk hS => ?_)
  have hC := cB_keep hC hk hdis hAm
  refine W.eq (g2 := F0 m 521 ls [.int r, .int r]) rfl ?_
  refine lv_icmp_eq (tgt := 913) hx hb dL_law_521 (by decide) (fun _ => ?_) (fun c9 => absurd rfl c9)
  exact K _ _ _ _ _ _ _ _ _ _ _ _ _ _ _ _ _ _ _ _ _ _ hR hC hM hS hl
set_option maxHeartbeats 4000000 in
set_option maxRecDepth 100000 in
theorem law_takes (C0 : lw_At p s m meth c b L xs) (X : Fix s o sh xx xc gv se fa ca h0 hs hr) (hi : Idx x3 L) (K : LCont p l e s m below meth c b G cI cF tA tT o sh xx xc gv se fa ca h0 hs hr x3) (hR : Rel n f tr sz rw tm) (hC : cB (lA s) G cI cF tA tT o sh xx xc gv se fa ca n f xn xf gf s0 s1 s2 s3 s4 tr s H) (hM : mB G h0 hs hr cI cF tm sz rw bx by_ bz bm so s H) (hS : va_S (lA s) s.heap H locs) (hl : lv_has ls 4 [(0, .ref b), (1, .ref o), (2, .ref h0), (3, .int x3)]) : W p l e room_1 s m #[Value.ref b] below meth c H locs 17 97 (lw_Z below #[Value.ref b] s) (F0 m 526 ls []) := by
  obtain ⟨hx, hb, hret, hml, hown, hts, hX, hbl, hlocks, hgv⟩ := C0
  have hF : CallFix p m c code 4 s #[Value.ref b] lw_tbl RL := ⟨hx, hb, hml, hown, hts⟩
  have hbA : ¬ lA s b := Nat.not_le.mpr hbl
  obtain ⟨hnd, hap, hdis, hAc, hAm, hN⟩ := X
  obtain ⟨i1, i2, i3, i4, i5, i6, i7, i8⟩ := hi
  obtain ⟨r, xn2, xf2, rw2, ec, em, hR2⟩ := P_takes hR (xn := xn) (xf := xf) (xs (x3 + (1 : Int32)).toNatClampNeg) (xs (x3 + (2 : Int32)).toNatClampNeg)
  refine lv_aload_n hx hb dL_law_526 rfl (lv_at hl 1 rfl) ?_
  refine lv_aload_n hx hb dL_law_527 rfl (lv_at hl 0 rfl) ?_
  refine lv_iload_n hx hb dL_law_528 rfl (lv_at hl 3 rfl) ?_
  refine lv_iconst (v := (1 : Int32)) hx hb dL_law_529 (by decide) ?_
  refine lv_iadd hx hb dL_law_530 ?_
  refine va_sld hx hb hX hbl hbA hS i1 dL_law_531 ?_
  refine lv_aload_n hx hb dL_law_532 rfl (lv_at hl 0 rfl) ?_
  refine lv_iload_n hx hb dL_law_533 rfl (lv_at hl 3 rfl) ?_
  refine lv_iconst (v := (2 : Int32)) hx hb dL_law_534 (by decide) ?_
  refine lv_iadd hx hb dL_law_535 ?_
  refine va_sld hx hb hX hbl hbA hS i2 dL_law_536 ?_
  refine mu_Vp (As := [.int (xs (x3 + (1 : Int32)).toNatClampNeg), .int (xs (x3 + (2 : Int32)).toNatClampNeg)]) (rest := []) hF tb_in (cnX4_takes l (lA s) G cI cF tA tT o sh xx xc gv se fa ca n f xn xf gf s0 s1 s2 s3 s4 tr hnd hAc ec) syX4_takes w_202 ⟨Nat.le_of_ble_eq_true rfl, Nat.le_of_ble_eq_true rfl⟩ cB_mv.p cB_mv hC (va_recv hC.1.1 hC.2 (ci := 2) (q0 := 0) rfl rfl) hS hAc rfl hl.1 rfl (Nat.le_of_ble_eq_true rfl) dL_law_537 ⟨Nat.le_of_ble_eq_true rfl, Nat.le_of_ble_eq_true rfl⟩ (fun H locs hC _ hk hS => ?_)
  have hM := mB_keep hM hk hdis
  refine W.eq (g2 := F0 m 540 ls [.int r]) rfl ?_
  refine lv_aload_n hx hb dL_law_540 rfl (lv_at hl 2 rfl) ?_
  refine lv_aload_n hx hb dL_law_541 rfl (lv_at hl 0 rfl) ?_
  refine lv_iload_n hx hb dL_law_542 rfl (lv_at hl 3 rfl) ?_
  refine lv_iconst (v := (1 : Int32)) hx hb dL_law_543 (by decide) ?_
  refine lv_iadd hx hb dL_law_544 ?_
  refine va_sld hx hb hX hbl hbA hS i1 dL_law_545 ?_
  refine lv_aload_n hx hb dL_law_546 rfl (lv_at hl 0 rfl) ?_
  refine lv_iload_n hx hb dL_law_547 rfl (lv_at hl 3 rfl) ?_
  refine lv_iconst (v := (2 : Int32)) hx hb dL_law_548 (by decide) ?_
  refine lv_iadd hx hb dL_law_549 ?_
  refine va_sld hx hb hX hbl hbA hS i2 dL_law_550 ?_
  obtain ⟨⟨th, ex, hP⟩, hK⟩ := id hM
  refine mu_V (As := [.int (xs (x3 + (1 : Int32)).toNatClampNeg), .int (xs (x3 + (2 : Int32)).toNatClampNeg)]) (rest := [.int r]) hF tb_in (cnX5_takes l G h0 hs hr cI cF tm sz rw bx by_ bz bm so hap em) syX5_takes w_463 ⟨Nat.le_of_ble_eq_true rfl, Nat.le_of_ble_eq_true rfl⟩ mB_mv mB_mv hM (va_recv hK hP (ci := 3) (q0 := 0) rfl rfl) hS hAm rfl hl.1 rfl (Nat.le_of_ble_eq_true rfl) dL_law_551 ⟨Nat.le_of_ble_eq_true rfl, Nat.le_of_ble_eq_true rfl⟩ (fun H locs hM _ hk hS => ?_)
  have hC := cB_keep hC hk hdis hAm
  refine W.eq (g2 := F0 m 554 ls [.int r, .int r]) rfl ?_
  refine lv_icmp_eq (tgt := 913) hx hb dL_law_554 (by decide) (fun _ => ?_) (fun c9 => absurd rfl c9)
  exact K _ _ _ _ _ _ _ _ _ _ _ _ _ _ _ _ _ _ _ _ _ _ hR2 hC hM hS hl
set_option maxHeartbeats 4000000 in
set_option maxRecDepth 100000 in
theorem law_alike (C0 : lw_At p s m meth c b L xs) (X : Fix s o sh xx xc gv se fa ca h0 hs hr) (hi : Idx x3 L) (K : LCont p l e s m below meth c b G cI cF tA tT o sh xx xc gv se fa ca h0 hs hr x3) (hR : Rel n f tr sz rw tm) (hC : cB (lA s) G cI cF tA tT o sh xx xc gv se fa ca n f xn xf gf s0 s1 s2 s3 s4 tr s H) (hM : mB G h0 hs hr cI cF tm sz rw bx by_ bz bm so s H) (hS : va_S (lA s) s.heap H locs) (hl : lv_has ls 4 [(0, .ref b), (1, .ref o), (2, .ref h0), (3, .int x3)]) : W p l e room_1 s m #[Value.ref b] below meth c H locs 17 97 (lw_Z below #[Value.ref b] s) (F0 m 559 ls []) := by
  obtain ⟨hx, hb, hret, hml, hown, hts, hX, hbl, hlocks, hgv⟩ := C0
  have hF : CallFix p m c code 4 s #[Value.ref b] lw_tbl RL := ⟨hx, hb, hml, hown, hts⟩
  have hbA : ¬ lA s b := Nat.not_le.mpr hbl
  obtain ⟨hnd, hap, hdis, hAc, hAm, hN⟩ := X
  obtain ⟨i1, i2, i3, i4, i5, i6, i7, i8⟩ := hi
  obtain ⟨r, ec, em⟩ := P_alike hR  (xs (x3 + (1 : Int32)).toNatClampNeg) (xs (x3 + (2 : Int32)).toNatClampNeg)
  refine lv_aload_n hx hb dL_law_559 rfl (lv_at hl 1 rfl) ?_
  refine lv_aload_n hx hb dL_law_560 rfl (lv_at hl 0 rfl) ?_
  refine lv_iload_n hx hb dL_law_561 rfl (lv_at hl 3 rfl) ?_
  refine lv_iconst (v := (1 : Int32)) hx hb dL_law_562 (by decide) ?_
  refine lv_iadd hx hb dL_law_563 ?_
  refine va_sld hx hb hX hbl hbA hS i1 dL_law_564 ?_
  refine lv_aload_n hx hb dL_law_565 rfl (lv_at hl 0 rfl) ?_
  refine lv_iload_n hx hb dL_law_566 rfl (lv_at hl 3 rfl) ?_
  refine lv_iconst (v := (2 : Int32)) hx hb dL_law_567 (by decide) ?_
  refine lv_iadd hx hb dL_law_568 ?_
  refine va_sld hx hb hX hbl hbA hS i2 dL_law_569 ?_
  refine ro_V (As := [.int (xs (x3 + (1 : Int32)).toNatClampNeg), .int (xs (x3 + (2 : Int32)).toNatClampNeg)]) (rest := []) hF tb_in (cnX4_alike l (lA s) G cI cF tA tT o sh xx xc gv se fa ca n f xn xf gf s0 s1 s2 s3 s4 tr ec) syX4_alike w_210 ⟨Nat.le_of_ble_eq_true rfl, Nat.le_of_ble_eq_true rfl⟩ cB_mv hC (va_recv hC.1.1 hC.2 (ci := 2) (q0 := 0) rfl rfl) rfl hl.1 rfl (Nat.le_of_ble_eq_true rfl) dL_law_570 ⟨Nat.le_of_ble_eq_true rfl, Nat.le_of_ble_eq_true rfl⟩ ?_
  refine lv_aload_n hx hb dL_law_573 rfl (lv_at hl 2 rfl) ?_
  refine lv_aload_n hx hb dL_law_574 rfl (lv_at hl 0 rfl) ?_
  refine lv_iload_n hx hb dL_law_575 rfl (lv_at hl 3 rfl) ?_
  refine lv_iconst (v := (1 : Int32)) hx hb dL_law_576 (by decide) ?_
  refine lv_iadd hx hb dL_law_577 ?_
  refine va_sld hx hb hX hbl hbA hS i1 dL_law_578 ?_
  refine lv_aload_n hx hb dL_law_579 rfl (lv_at hl 0 rfl) ?_
  refine lv_iload_n hx hb dL_law_580 rfl (lv_at hl 3 rfl) ?_
  refine lv_iconst (v := (2 : Int32)) hx hb dL_law_581 (by decide) ?_
  refine lv_iadd hx hb dL_law_582 ?_
  refine va_sld hx hb hX hbl hbA hS i2 dL_law_583 ?_
  obtain ⟨⟨th, ex, hP⟩, hK⟩ := id hM
  refine mu_V (As := [.int (xs (x3 + (1 : Int32)).toNatClampNeg), .int (xs (x3 + (2 : Int32)).toNatClampNeg)]) (rest := [.int r]) hF tb_in (cnX5_alike l G h0 hs hr cI cF tm sz rw bx by_ bz bm so hap em) syX5_alike w_467 ⟨Nat.le_of_ble_eq_true rfl, Nat.le_of_ble_eq_true rfl⟩ mB_mv mB_mv hM (va_recv hK hP (ci := 3) (q0 := 0) rfl rfl) hS hAm rfl hl.1 rfl (Nat.le_of_ble_eq_true rfl) dL_law_584 ⟨Nat.le_of_ble_eq_true rfl, Nat.le_of_ble_eq_true rfl⟩ (fun H locs hM _ hk hS => ?_)
  have hC := cB_keep hC hk hdis hAm
  refine W.eq (g2 := F0 m 587 ls [.int r, .int r]) rfl ?_
  refine lv_icmp_eq (tgt := 913) hx hb dL_law_587 (by decide) (fun _ => ?_) (fun c9 => absurd rfl c9)
  exact K _ _ _ _ _ _ _ _ _ _ _ _ _ _ _ _ _ _ _ _ _ _ hR hC hM hS hl
set_option maxHeartbeats 4000000 in
set_option maxRecDepth 100000 in
theorem law_worth (C0 : lw_At p s m meth c b L xs) (X : Fix s o sh xx xc gv se fa ca h0 hs hr) (hi : Idx x3 L) (K : LCont p l e s m below meth c b G cI cF tA tT o sh xx xc gv se fa ca h0 hs hr x3) (hR : Rel n f tr sz rw tm) (hC : cB (lA s) G cI cF tA tT o sh xx xc gv se fa ca n f xn xf gf s0 s1 s2 s3 s4 tr s H) (hM : mB G h0 hs hr cI cF tm sz rw bx by_ bz bm so s H) (hS : va_S (lA s) s.heap H locs) (hl : lv_has ls 4 [(0, .ref b), (1, .ref o), (2, .ref h0), (3, .int x3)]) : W p l e room_1 s m #[Value.ref b] below meth c H locs 17 97 (lw_Z below #[Value.ref b] s) (F0 m 592 ls []) := by
  obtain ⟨hx, hb, hret, hml, hown, hts, hX, hbl, hlocks, hgv⟩ := C0
  have hF : CallFix p m c code 4 s #[Value.ref b] lw_tbl RL := ⟨hx, hb, hml, hown, hts⟩
  have hbA : ¬ lA s b := Nat.not_le.mpr hbl
  obtain ⟨hnd, hap, hdis, hAc, hAm, hN⟩ := X
  obtain ⟨i1, i2, i3, i4, i5, i6, i7, i8⟩ := hi
  obtain ⟨r, ec, em⟩ := P_worth hR  (xs (x3 + (1 : Int32)).toNatClampNeg) (xs (x3 + (2 : Int32)).toNatClampNeg) (xs (x3 + (3 : Int32)).toNatClampNeg) (xs (x3 + (4 : Int32)).toNatClampNeg)
  refine lv_aload_n hx hb dL_law_592 rfl (lv_at hl 1 rfl) ?_
  refine lv_aload_n hx hb dL_law_593 rfl (lv_at hl 0 rfl) ?_
  refine lv_iload_n hx hb dL_law_594 rfl (lv_at hl 3 rfl) ?_
  refine lv_iconst (v := (1 : Int32)) hx hb dL_law_595 (by decide) ?_
  refine lv_iadd hx hb dL_law_596 ?_
  refine va_sld hx hb hX hbl hbA hS i1 dL_law_597 ?_
  refine lv_aload_n hx hb dL_law_598 rfl (lv_at hl 0 rfl) ?_
  refine lv_iload_n hx hb dL_law_599 rfl (lv_at hl 3 rfl) ?_
  refine lv_iconst (v := (2 : Int32)) hx hb dL_law_600 (by decide) ?_
  refine lv_iadd hx hb dL_law_601 ?_
  refine va_sld hx hb hX hbl hbA hS i2 dL_law_602 ?_
  refine lv_aload_n hx hb dL_law_603 rfl (lv_at hl 0 rfl) ?_
  refine lv_iload_n hx hb dL_law_604 rfl (lv_at hl 3 rfl) ?_
  refine lv_iconst (v := (3 : Int32)) hx hb dL_law_605 (by decide) ?_
  refine lv_iadd hx hb dL_law_606 ?_
  refine va_sld hx hb hX hbl hbA hS i3 dL_law_607 ?_
  refine lv_aload_n hx hb dL_law_608 rfl (lv_at hl 0 rfl) ?_
  refine lv_iload_n hx hb dL_law_609 rfl (lv_at hl 3 rfl) ?_
  refine lv_iconst (v := (4 : Int32)) hx hb dL_law_610 (by decide) ?_
  refine lv_iadd hx hb dL_law_611 ?_
  refine va_sld hx hb hX hbl hbA hS i4 dL_law_612 ?_
  refine ro_V (As := [.int (xs (x3 + (1 : Int32)).toNatClampNeg), .int (xs (x3 + (2 : Int32)).toNatClampNeg), .int (xs (x3 + (3 : Int32)).toNatClampNeg), .int (xs (x3 + (4 : Int32)).toNatClampNeg)]) (rest := []) hF tb_in (cnX4_worth l (lA s) G cI cF tA tT o sh xx xc gv se fa ca n f xn xf gf s0 s1 s2 s3 s4 tr ec) syX4_worth w_219 ⟨Nat.le_of_ble_eq_true rfl, Nat.le_of_ble_eq_true rfl⟩ cB_mv hC (va_recv hC.1.1 hC.2 (ci := 2) (q0 := 0) rfl rfl) rfl hl.1 rfl (Nat.le_of_ble_eq_true rfl) dL_law_613 ⟨Nat.le_of_ble_eq_true rfl, Nat.le_of_ble_eq_true rfl⟩ ?_
  refine lv_aload_n hx hb dL_law_616 rfl (lv_at hl 2 rfl) ?_
  refine lv_aload_n hx hb dL_law_617 rfl (lv_at hl 0 rfl) ?_
  refine lv_iload_n hx hb dL_law_618 rfl (lv_at hl 3 rfl) ?_
  refine lv_iconst (v := (1 : Int32)) hx hb dL_law_619 (by decide) ?_
  refine lv_iadd hx hb dL_law_620 ?_
  refine va_sld hx hb hX hbl hbA hS i1 dL_law_621 ?_
  refine lv_aload_n hx hb dL_law_622 rfl (lv_at hl 0 rfl) ?_
  refine lv_iload_n hx hb dL_law_623 rfl (lv_at hl 3 rfl) ?_
  refine lv_iconst (v := (2 : Int32)) hx hb dL_law_624 (by decide) ?_
  refine lv_iadd hx hb dL_law_625 ?_
  refine va_sld hx hb hX hbl hbA hS i2 dL_law_626 ?_
  refine lv_aload_n hx hb dL_law_627 rfl (lv_at hl 0 rfl) ?_
  refine lv_iload_n hx hb dL_law_628 rfl (lv_at hl 3 rfl) ?_
  refine lv_iconst (v := (3 : Int32)) hx hb dL_law_629 (by decide) ?_
  refine lv_iadd hx hb dL_law_630 ?_
  refine va_sld hx hb hX hbl hbA hS i3 dL_law_631 ?_
  refine lv_aload_n hx hb dL_law_632 rfl (lv_at hl 0 rfl) ?_
  refine lv_iload_n hx hb dL_law_633 rfl (lv_at hl 3 rfl) ?_
  refine lv_iconst (v := (4 : Int32)) hx hb dL_law_634 (by decide) ?_
  refine lv_iadd hx hb dL_law_635 ?_
  refine va_sld hx hb hX hbl hbA hS i4 dL_law_636 ?_
  obtain ⟨⟨th, ex, hP⟩, hK⟩ := id hM
  refine mu_V (As := [.int (xs (x3 + (1 : Int32)).toNatClampNeg), .int (xs (x3 + (2 : Int32)).toNatClampNeg), .int (xs (x3 + (3 : Int32)).toNatClampNeg), .int (xs (x3 + (4 : Int32)).toNatClampNeg)]) (rest := [.long r]) hF tb_in (cnX5_worth l G h0 hs hr cI cF tm sz rw bx by_ bz bm so hap em) syX5_worth w_471 ⟨Nat.le_of_ble_eq_true rfl, Nat.le_of_ble_eq_true rfl⟩ mB_mv mB_mv hM (va_recv hK hP (ci := 3) (q0 := 0) rfl rfl) hS hAm rfl hl.1 rfl (Nat.le_of_ble_eq_true rfl) dL_law_637 ⟨Nat.le_of_ble_eq_true rfl, Nat.le_of_ble_eq_true rfl⟩ (fun H locs hM _ hk hS => ?_)
  have hC := cB_keep hC hk hdis hAm
  refine W.eq (g2 := F0 m 640 ls [.long r, .long r]) rfl ?_
  refine W.lcmp hx hb dL_law_640 ?_
  refine lv_if_eq (tgt := 913) hx hb dL_law_641 (by decide) (fun _ => ?_) (fun c9 => absurd (lg_self r) c9)
  exact K _ _ _ _ _ _ _ _ _ _ _ _ _ _ _ _ _ _ _ _ _ _ hR hC hM hS hl
set_option maxHeartbeats 4000000 in
set_option maxRecDepth 100000 in
theorem law_measure (C0 : lw_At p s m meth c b L xs) (X : Fix s o sh xx xc gv se fa ca h0 hs hr) (hi : Idx x3 L) (K : LCont p l e s m below meth c b G cI cF tA tT o sh xx xc gv se fa ca h0 hs hr x3) (hR : Rel n f tr sz rw tm) (hC : cB (lA s) G cI cF tA tT o sh xx xc gv se fa ca n f xn xf gf s0 s1 s2 s3 s4 tr s H) (hM : mB G h0 hs hr cI cF tm sz rw bx by_ bz bm so s H) (hS : va_S (lA s) s.heap H locs) (hl : lv_has ls 4 [(0, .ref b), (1, .ref o), (2, .ref h0), (3, .int x3)]) : W p l e room_1 s m #[Value.ref b] below meth c H locs 17 97 (lw_Z below #[Value.ref b] s) (F0 m 646 ls []) := by
  obtain ⟨hx, hb, hret, hml, hown, hts, hX, hbl, hlocks, hgv⟩ := C0
  have hF : CallFix p m c code 4 s #[Value.ref b] lw_tbl RL := ⟨hx, hb, hml, hown, hts⟩
  have hbA : ¬ lA s b := Nat.not_le.mpr hbl
  obtain ⟨hnd, hap, hdis, hAc, hAm, hN⟩ := X
  obtain ⟨i1, i2, i3, i4, i5, i6, i7, i8⟩ := hi
  obtain ⟨r, tr2, tm2, ec, em, hR2⟩ := P_measure hR  (xs (x3 + (1 : Int32)).toNatClampNeg) (xs (x3 + (2 : Int32)).toNatClampNeg) (xs (x3 + (3 : Int32)).toNatClampNeg) (xs (x3 + (4 : Int32)).toNatClampNeg)
  refine lv_aload_n hx hb dL_law_646 rfl (lv_at hl 1 rfl) ?_
  refine lv_aload_n hx hb dL_law_647 rfl (lv_at hl 0 rfl) ?_
  refine lv_iload_n hx hb dL_law_648 rfl (lv_at hl 3 rfl) ?_
  refine lv_iconst (v := (1 : Int32)) hx hb dL_law_649 (by decide) ?_
  refine lv_iadd hx hb dL_law_650 ?_
  refine va_sld hx hb hX hbl hbA hS i1 dL_law_651 ?_
  refine lv_aload_n hx hb dL_law_652 rfl (lv_at hl 0 rfl) ?_
  refine lv_iload_n hx hb dL_law_653 rfl (lv_at hl 3 rfl) ?_
  refine lv_iconst (v := (2 : Int32)) hx hb dL_law_654 (by decide) ?_
  refine lv_iadd hx hb dL_law_655 ?_
  refine va_sld hx hb hX hbl hbA hS i2 dL_law_656 ?_
  refine lv_aload_n hx hb dL_law_657 rfl (lv_at hl 0 rfl) ?_
  refine lv_iload_n hx hb dL_law_658 rfl (lv_at hl 3 rfl) ?_
  refine lv_iconst (v := (3 : Int32)) hx hb dL_law_659 (by decide) ?_
  refine lv_iadd hx hb dL_law_660 ?_
  refine va_sld hx hb hX hbl hbA hS i3 dL_law_661 ?_
  refine lv_aload_n hx hb dL_law_662 rfl (lv_at hl 0 rfl) ?_
  refine lv_iload_n hx hb dL_law_663 rfl (lv_at hl 3 rfl) ?_
  refine lv_iconst (v := (4 : Int32)) hx hb dL_law_664 (by decide) ?_
  refine lv_iadd hx hb dL_law_665 ?_
  refine va_sld hx hb hX hbl hbA hS i4 dL_law_666 ?_
  refine mu_Vp (As := [.int (xs (x3 + (1 : Int32)).toNatClampNeg), .int (xs (x3 + (2 : Int32)).toNatClampNeg), .int (xs (x3 + (3 : Int32)).toNatClampNeg), .int (xs (x3 + (4 : Int32)).toNatClampNeg)]) (rest := []) hF tb_in (cnX4_measure l (lA s) G cI cF tA tT o sh xx xc gv se fa ca n f xn xf gf s0 s1 s2 s3 s4 tr hnd hAc ec) syX4_measure w_231 ⟨Nat.le_of_ble_eq_true rfl, Nat.le_of_ble_eq_true rfl⟩ cB_mv.p cB_mv hC (va_recv hC.1.1 hC.2 (ci := 2) (q0 := 0) rfl rfl) hS hAc rfl hl.1 rfl (Nat.le_of_ble_eq_true rfl) dL_law_667 ⟨Nat.le_of_ble_eq_true rfl, Nat.le_of_ble_eq_true rfl⟩ (fun H locs hC _ hk hS => ?_)
  have hM := mB_keep hM hk hdis
  refine W.eq (g2 := F0 m 670 ls [.int r]) rfl ?_
  refine lv_aload_n hx hb dL_law_670 rfl (lv_at hl 2 rfl) ?_
  refine lv_aload_n hx hb dL_law_671 rfl (lv_at hl 0 rfl) ?_
  refine lv_iload_n hx hb dL_law_672 rfl (lv_at hl 3 rfl) ?_
  refine lv_iconst (v := (1 : Int32)) hx hb dL_law_673 (by decide) ?_
  refine lv_iadd hx hb dL_law_674 ?_
  refine va_sld hx hb hX hbl hbA hS i1 dL_law_675 ?_
  refine lv_aload_n hx hb dL_law_676 rfl (lv_at hl 0 rfl) ?_
  refine lv_iload_n hx hb dL_law_677 rfl (lv_at hl 3 rfl) ?_
  refine lv_iconst (v := (2 : Int32)) hx hb dL_law_678 (by decide) ?_
  refine lv_iadd hx hb dL_law_679 ?_
  refine va_sld hx hb hX hbl hbA hS i2 dL_law_680 ?_
  refine lv_aload_n hx hb dL_law_681 rfl (lv_at hl 0 rfl) ?_
  refine lv_iload_n hx hb dL_law_682 rfl (lv_at hl 3 rfl) ?_
  refine lv_iconst (v := (3 : Int32)) hx hb dL_law_683 (by decide) ?_
  refine lv_iadd hx hb dL_law_684 ?_
  refine va_sld hx hb hX hbl hbA hS i3 dL_law_685 ?_
  refine lv_aload_n hx hb dL_law_686 rfl (lv_at hl 0 rfl) ?_
  refine lv_iload_n hx hb dL_law_687 rfl (lv_at hl 3 rfl) ?_
  refine lv_iconst (v := (4 : Int32)) hx hb dL_law_688 (by decide) ?_
  refine lv_iadd hx hb dL_law_689 ?_
  refine va_sld hx hb hX hbl hbA hS i4 dL_law_690 ?_
  obtain ⟨⟨th, ex, hP⟩, hK⟩ := id hM
  refine mu_V (As := [.int (xs (x3 + (1 : Int32)).toNatClampNeg), .int (xs (x3 + (2 : Int32)).toNatClampNeg), .int (xs (x3 + (3 : Int32)).toNatClampNeg), .int (xs (x3 + (4 : Int32)).toNatClampNeg)]) (rest := [.int r]) hF tb_in (cnX5_measure l G h0 hs hr cI cF tm sz rw bx by_ bz bm so hap em) syX5_measure w_486 ⟨Nat.le_of_ble_eq_true rfl, Nat.le_of_ble_eq_true rfl⟩ mB_mv mB_mv hM (va_recv hK hP (ci := 3) (q0 := 0) rfl rfl) hS hAm rfl hl.1 rfl (Nat.le_of_ble_eq_true rfl) dL_law_691 ⟨Nat.le_of_ble_eq_true rfl, Nat.le_of_ble_eq_true rfl⟩ (fun H locs hM _ hk hS => ?_)
  have hC := cB_keep hC hk hdis hAm
  refine W.eq (g2 := F0 m 694 ls [.int r, .int r]) rfl ?_
  refine lv_icmp_eq (tgt := 913) hx hb dL_law_694 (by decide) (fun _ => ?_) (fun c9 => absurd rfl c9)
  exact K _ _ _ _ _ _ _ _ _ _ _ _ _ _ _ _ _ _ _ _ _ _ hR2 hC hM hS hl
set_option maxHeartbeats 4000000 in
set_option maxRecDepth 100000 in
theorem law_least (C0 : lw_At p s m meth c b L xs) (X : Fix s o sh xx xc gv se fa ca h0 hs hr) (hi : Idx x3 L) (K : LCont p l e s m below meth c b G cI cF tA tT o sh xx xc gv se fa ca h0 hs hr x3) (hR : Rel n f tr sz rw tm) (hC : cB (lA s) G cI cF tA tT o sh xx xc gv se fa ca n f xn xf gf s0 s1 s2 s3 s4 tr s H) (hM : mB G h0 hs hr cI cF tm sz rw bx by_ bz bm so s H) (hS : va_S (lA s) s.heap H locs) (hl : lv_has ls 4 [(0, .ref b), (1, .ref o), (2, .ref h0), (3, .int x3)]) : W p l e room_1 s m #[Value.ref b] below meth c H locs 17 97 (lw_Z below #[Value.ref b] s) (F0 m 699 ls []) := by
  obtain ⟨hx, hb, hret, hml, hown, hts, hX, hbl, hlocks, hgv⟩ := C0
  have hF : CallFix p m c code 4 s #[Value.ref b] lw_tbl RL := ⟨hx, hb, hml, hown, hts⟩
  have hbA : ¬ lA s b := Nat.not_le.mpr hbl
  obtain ⟨hnd, hap, hdis, hAc, hAm, hN⟩ := X
  obtain ⟨i1, i2, i3, i4, i5, i6, i7, i8⟩ := hi
  obtain ⟨r, s02, s12, s22, s32, s42, bx2, by_2, bz2, bm2, so2, ec, em⟩ := P_least hR (s0 := s0) (s1 := s1) (s2 := s2) (s3 := s3) (s4 := s4) (bx := bx) (by_ := by_) (bz := bz) (bm := bm) (so := so) (xs (x3 + (1 : Int32)).toNatClampNeg) (xs (x3 + (2 : Int32)).toNatClampNeg) (xs (x3 + (3 : Int32)).toNatClampNeg)
  refine lv_aload_n hx hb dL_law_699 rfl (lv_at hl 1 rfl) ?_
  refine lv_aload_n hx hb dL_law_700 rfl (lv_at hl 0 rfl) ?_
  refine lv_iload_n hx hb dL_law_701 rfl (lv_at hl 3 rfl) ?_
  refine lv_iconst (v := (1 : Int32)) hx hb dL_law_702 (by decide) ?_
  refine lv_iadd hx hb dL_law_703 ?_
  refine va_sld hx hb hX hbl hbA hS i1 dL_law_704 ?_
  refine lv_aload_n hx hb dL_law_705 rfl (lv_at hl 0 rfl) ?_
  refine lv_iload_n hx hb dL_law_706 rfl (lv_at hl 3 rfl) ?_
  refine lv_iconst (v := (2 : Int32)) hx hb dL_law_707 (by decide) ?_
  refine lv_iadd hx hb dL_law_708 ?_
  refine va_sld hx hb hX hbl hbA hS i2 dL_law_709 ?_
  refine lv_aload_n hx hb dL_law_710 rfl (lv_at hl 0 rfl) ?_
  refine lv_iload_n hx hb dL_law_711 rfl (lv_at hl 3 rfl) ?_
  refine lv_iconst (v := (3 : Int32)) hx hb dL_law_712 (by decide) ?_
  refine lv_iadd hx hb dL_law_713 ?_
  refine va_sld hx hb hX hbl hbA hS i3 dL_law_714 ?_
  refine mu_Vp (As := [.int (xs (x3 + (1 : Int32)).toNatClampNeg), .int (xs (x3 + (2 : Int32)).toNatClampNeg), .int (xs (x3 + (3 : Int32)).toNatClampNeg)]) (rest := []) hF tb_in (cnX4_least l (lA s) G cI cF tA tT o sh xx xc gv se fa ca n f xn xf gf s0 s1 s2 s3 s4 tr hnd hAc ec) syX4_least w_255 ⟨Nat.le_of_ble_eq_true rfl, Nat.le_of_ble_eq_true rfl⟩ cBn_mv cB_mv ⟨hC, hN⟩ (va_recv hC.1.1 hC.2 (ci := 2) (q0 := 0) rfl rfl) hS hAc rfl hl.1 rfl (Nat.le_of_ble_eq_true rfl) dL_law_715 ⟨Nat.le_of_ble_eq_true rfl, Nat.le_of_ble_eq_true rfl⟩ (fun H locs hC _ hk hS => ?_)
  have hM := mB_keep hM hk hdis
  refine W.eq (g2 := F0 m 718 ls [.long r]) rfl ?_
  refine lv_aload_n hx hb dL_law_718 rfl (lv_at hl 2 rfl) ?_
  refine lv_aload_n hx hb dL_law_719 rfl (lv_at hl 0 rfl) ?_
  refine lv_iload_n hx hb dL_law_720 rfl (lv_at hl 3 rfl) ?_
  refine lv_iconst (v := (1 : Int32)) hx hb dL_law_721 (by decide) ?_
  refine lv_iadd hx hb dL_law_722 ?_
  refine va_sld hx hb hX hbl hbA hS i1 dL_law_723 ?_
  refine lv_aload_n hx hb dL_law_724 rfl (lv_at hl 0 rfl) ?_
  refine lv_iload_n hx hb dL_law_725 rfl (lv_at hl 3 rfl) ?_
  refine lv_iconst (v := (2 : Int32)) hx hb dL_law_726 (by decide) ?_
  refine lv_iadd hx hb dL_law_727 ?_
  refine va_sld hx hb hX hbl hbA hS i2 dL_law_728 ?_
  refine lv_aload_n hx hb dL_law_729 rfl (lv_at hl 0 rfl) ?_
  refine lv_iload_n hx hb dL_law_730 rfl (lv_at hl 3 rfl) ?_
  refine lv_iconst (v := (3 : Int32)) hx hb dL_law_731 (by decide) ?_
  refine lv_iadd hx hb dL_law_732 ?_
  refine va_sld hx hb hX hbl hbA hS i3 dL_law_733 ?_
  obtain ⟨⟨th, ex, hP⟩, hK⟩ := id hM
  refine mu_V (As := [.int (xs (x3 + (1 : Int32)).toNatClampNeg), .int (xs (x3 + (2 : Int32)).toNatClampNeg), .int (xs (x3 + (3 : Int32)).toNatClampNeg)]) (rest := [.long r]) hF tb_in (cnX5_least l G h0 hs hr cI cF tm sz rw bx by_ bz bm so hap em) syX5_least w_503 ⟨Nat.le_of_ble_eq_true rfl, Nat.le_of_ble_eq_true rfl⟩ mB_mv mB_mv hM (va_recv hK hP (ci := 3) (q0 := 0) rfl rfl) hS hAm rfl hl.1 rfl (Nat.le_of_ble_eq_true rfl) dL_law_734 ⟨Nat.le_of_ble_eq_true rfl, Nat.le_of_ble_eq_true rfl⟩ (fun H locs hM _ hk hS => ?_)
  have hC := cB_keep hC hk hdis hAm
  refine W.eq (g2 := F0 m 737 ls [.long r, .long r]) rfl ?_
  refine W.lcmp hx hb dL_law_737 ?_
  refine lv_if_eq (tgt := 913) hx hb dL_law_738 (by decide) (fun _ => ?_) (fun c9 => absurd (lg_self r) c9)
  exact K _ _ _ _ _ _ _ _ _ _ _ _ _ _ _ _ _ _ _ _ _ _ hR hC hM hS hl
set_option maxHeartbeats 4000000 in
set_option maxRecDepth 100000 in
theorem law_many (C0 : lw_At p s m meth c b L xs) (X : Fix s o sh xx xc gv se fa ca h0 hs hr) (hi : Idx x3 L) (K : LCont p l e s m below meth c b G cI cF tA tT o sh xx xc gv se fa ca h0 hs hr x3) (hR : Rel n f tr sz rw tm) (hC : cB (lA s) G cI cF tA tT o sh xx xc gv se fa ca n f xn xf gf s0 s1 s2 s3 s4 tr s H) (hM : mB G h0 hs hr cI cF tm sz rw bx by_ bz bm so s H) (hS : va_S (lA s) s.heap H locs) (hl : lv_has ls 4 [(0, .ref b), (1, .ref o), (2, .ref h0), (3, .int x3)]) : W p l e room_1 s m #[Value.ref b] below meth c H locs 17 97 (lw_Z below #[Value.ref b] s) (F0 m 743 ls []) := by
  obtain ⟨hx, hb, hret, hml, hown, hts, hX, hbl, hlocks, hgv⟩ := C0
  have hF : CallFix p m c code 4 s #[Value.ref b] lw_tbl RL := ⟨hx, hb, hml, hown, hts⟩
  have hbA : ¬ lA s b := Nat.not_le.mpr hbl
  obtain ⟨hnd, hap, hdis, hAc, hAm, hN⟩ := X
  obtain ⟨i1, i2, i3, i4, i5, i6, i7, i8⟩ := hi
  obtain ⟨r, s02, s12, s22, s32, s42, bx2, by_2, bz2, bm2, so2, ec, em⟩ := P_many hR (s0 := s0) (s1 := s1) (s2 := s2) (s3 := s3) (s4 := s4) (bx := bx) (by_ := by_) (bz := bz) (bm := bm) (so := so) (xs (x3 + (1 : Int32)).toNatClampNeg)
  refine lv_aload_n hx hb dL_law_743 rfl (lv_at hl 1 rfl) ?_
  refine lv_aload_n hx hb dL_law_744 rfl (lv_at hl 0 rfl) ?_
  refine lv_iload_n hx hb dL_law_745 rfl (lv_at hl 3 rfl) ?_
  refine lv_iconst (v := (1 : Int32)) hx hb dL_law_746 (by decide) ?_
  refine lv_iadd hx hb dL_law_747 ?_
  refine va_sld hx hb hX hbl hbA hS i1 dL_law_748 ?_
  refine mu_Vp (As := [.int (xs (x3 + (1 : Int32)).toNatClampNeg)]) (rest := []) hF tb_in (cnX4_many l (lA s) G cI cF tA tT o sh xx xc gv se fa ca n f xn xf gf s0 s1 s2 s3 s4 tr hnd hAc ec) syX4_many w_288 ⟨Nat.le_of_ble_eq_true rfl, Nat.le_of_ble_eq_true rfl⟩ cBn_mv cB_mv ⟨hC, hN⟩ (va_recv hC.1.1 hC.2 (ci := 2) (q0 := 0) rfl rfl) hS hAc rfl hl.1 rfl (Nat.le_of_ble_eq_true rfl) dL_law_749 ⟨Nat.le_of_ble_eq_true rfl, Nat.le_of_ble_eq_true rfl⟩ (fun H locs hC _ hk hS => ?_)
  have hM := mB_keep hM hk hdis
  refine W.eq (g2 := F0 m 752 ls [.int r]) rfl ?_
  refine lv_aload_n hx hb dL_law_752 rfl (lv_at hl 2 rfl) ?_
  refine lv_aload_n hx hb dL_law_753 rfl (lv_at hl 0 rfl) ?_
  refine lv_iload_n hx hb dL_law_754 rfl (lv_at hl 3 rfl) ?_
  refine lv_iconst (v := (1 : Int32)) hx hb dL_law_755 (by decide) ?_
  refine lv_iadd hx hb dL_law_756 ?_
  refine va_sld hx hb hX hbl hbA hS i1 dL_law_757 ?_
  obtain ⟨⟨th, ex, hP⟩, hK⟩ := id hM
  refine mu_V (As := [.int (xs (x3 + (1 : Int32)).toNatClampNeg)]) (rest := [.int r]) hF tb_in (cnX5_many l G h0 hs hr cI cF tm sz rw bx by_ bz bm so hap em) syX5_many w_522 ⟨Nat.le_of_ble_eq_true rfl, Nat.le_of_ble_eq_true rfl⟩ mB_mv mB_mv hM (va_recv hK hP (ci := 3) (q0 := 0) rfl rfl) hS hAm rfl hl.1 rfl (Nat.le_of_ble_eq_true rfl) dL_law_758 ⟨Nat.le_of_ble_eq_true rfl, Nat.le_of_ble_eq_true rfl⟩ (fun H locs hM _ hk hS => ?_)
  have hC := cB_keep hC hk hdis hAm
  refine W.eq (g2 := F0 m 761 ls [.int r, .int r]) rfl ?_
  refine lv_icmp_eq (tgt := 913) hx hb dL_law_761 (by decide) (fun _ => ?_) (fun c9 => absurd rfl c9)
  exact K _ _ _ _ _ _ _ _ _ _ _ _ _ _ _ _ _ _ _ _ _ _ hR hC hM hS hl
set_option maxHeartbeats 4000000 in
set_option maxRecDepth 100000 in
theorem law_line (C0 : lw_At p s m meth c b L xs) (X : Fix s o sh xx xc gv se fa ca h0 hs hr) (hi : Idx x3 L) (K : LCont p l e s m below meth c b G cI cF tA tT o sh xx xc gv se fa ca h0 hs hr x3) (hR : Rel n f tr sz rw tm) (hC : cB (lA s) G cI cF tA tT o sh xx xc gv se fa ca n f xn xf gf s0 s1 s2 s3 s4 tr s H) (hM : mB G h0 hs hr cI cF tm sz rw bx by_ bz bm so s H) (hS : va_S (lA s) s.heap H locs) (hl : lv_has ls 4 [(0, .ref b), (1, .ref o), (2, .ref h0), (3, .int x3)]) : W p l e room_1 s m #[Value.ref b] below meth c H locs 17 97 (lw_Z below #[Value.ref b] s) (F0 m 766 ls []) := by
  obtain ⟨hx, hb, hret, hml, hown, hts, hX, hbl, hlocks, hgv⟩ := C0
  have hF : CallFix p m c code 4 s #[Value.ref b] lw_tbl RL := ⟨hx, hb, hml, hown, hts⟩
  have hbA : ¬ lA s b := Nat.not_le.mpr hbl
  obtain ⟨hnd, hap, hdis, hAc, hAm, hN⟩ := X
  obtain ⟨i1, i2, i3, i4, i5, i6, i7, i8⟩ := hi
  obtain ⟨r, ec, em⟩ := P_line hR  (xs (x3 + (1 : Int32)).toNatClampNeg) (xs (x3 + (2 : Int32)).toNatClampNeg) (xs (x3 + (3 : Int32)).toNatClampNeg) (xs (x3 + (4 : Int32)).toNatClampNeg) (xs (x3 + (5 : Int32)).toNatClampNeg) (xs (x3 + (6 : Int32)).toNatClampNeg) (xs (x3 + (7 : Int32)).toNatClampNeg) (xs (x3 + (8 : Int32)).toNatClampNeg)
  refine lv_aload_n hx hb dL_law_766 rfl (lv_at hl 1 rfl) ?_
  refine lv_aload_n hx hb dL_law_767 rfl (lv_at hl 0 rfl) ?_
  refine lv_iload_n hx hb dL_law_768 rfl (lv_at hl 3 rfl) ?_
  refine lv_iconst (v := (1 : Int32)) hx hb dL_law_769 (by decide) ?_
  refine lv_iadd hx hb dL_law_770 ?_
  refine va_sld hx hb hX hbl hbA hS i1 dL_law_771 ?_
  refine lv_aload_n hx hb dL_law_772 rfl (lv_at hl 0 rfl) ?_
  refine lv_iload_n hx hb dL_law_773 rfl (lv_at hl 3 rfl) ?_
  refine lv_iconst (v := (2 : Int32)) hx hb dL_law_774 (by decide) ?_
  refine lv_iadd hx hb dL_law_775 ?_
  refine va_sld hx hb hX hbl hbA hS i2 dL_law_776 ?_
  refine lv_aload_n hx hb dL_law_777 rfl (lv_at hl 0 rfl) ?_
  refine lv_iload_n hx hb dL_law_778 rfl (lv_at hl 3 rfl) ?_
  refine lv_iconst (v := (3 : Int32)) hx hb dL_law_779 (by decide) ?_
  refine lv_iadd hx hb dL_law_780 ?_
  refine va_sld hx hb hX hbl hbA hS i3 dL_law_781 ?_
  refine lv_aload_n hx hb dL_law_782 rfl (lv_at hl 0 rfl) ?_
  refine lv_iload_n hx hb dL_law_783 rfl (lv_at hl 3 rfl) ?_
  refine lv_iconst (v := (4 : Int32)) hx hb dL_law_784 (by decide) ?_
  refine lv_iadd hx hb dL_law_785 ?_
  refine va_sld hx hb hX hbl hbA hS i4 dL_law_786 ?_
  refine lv_aload_n hx hb dL_law_787 rfl (lv_at hl 0 rfl) ?_
  refine lv_iload_n hx hb dL_law_788 rfl (lv_at hl 3 rfl) ?_
  refine lv_iconst (v := (5 : Int32)) hx hb dL_law_789 (by decide) ?_
  refine lv_iadd hx hb dL_law_790 ?_
  refine va_sld hx hb hX hbl hbA hS i5 dL_law_791 ?_
  refine lv_aload_n hx hb dL_law_792 rfl (lv_at hl 0 rfl) ?_
  refine lv_iload_n hx hb dL_law_793 rfl (lv_at hl 3 rfl) ?_
  refine lv_bipush (v := (6 : Int32)) hx hb dL_law_794 (by decide) ?_
  refine lv_iadd hx hb dL_law_796 ?_
  refine va_sld hx hb hX hbl hbA hS i6 dL_law_797 ?_
  refine lv_aload_n hx hb dL_law_798 rfl (lv_at hl 0 rfl) ?_
  refine lv_iload_n hx hb dL_law_799 rfl (lv_at hl 3 rfl) ?_
  refine lv_bipush (v := (7 : Int32)) hx hb dL_law_800 (by decide) ?_
  refine lv_iadd hx hb dL_law_802 ?_
  refine va_sld hx hb hX hbl hbA hS i7 dL_law_803 ?_
  refine lv_aload_n hx hb dL_law_804 rfl (lv_at hl 0 rfl) ?_
  refine lv_iload_n hx hb dL_law_805 rfl (lv_at hl 3 rfl) ?_
  refine lv_bipush (v := (8 : Int32)) hx hb dL_law_806 (by decide) ?_
  refine lv_iadd hx hb dL_law_808 ?_
  refine va_sld hx hb hX hbl hbA hS i8 dL_law_809 ?_
  refine ro_V (As := [.int (xs (x3 + (1 : Int32)).toNatClampNeg), .int (xs (x3 + (2 : Int32)).toNatClampNeg), .int (xs (x3 + (3 : Int32)).toNatClampNeg), .int (xs (x3 + (4 : Int32)).toNatClampNeg), .int (xs (x3 + (5 : Int32)).toNatClampNeg), .int (xs (x3 + (6 : Int32)).toNatClampNeg), .int (xs (x3 + (7 : Int32)).toNatClampNeg), .int (xs (x3 + (8 : Int32)).toNatClampNeg)]) (rest := []) hF tb_in (cnX4_line l (lA s) G cI cF tA tT o sh xx xc gv se fa ca n f xn xf gf s0 s1 s2 s3 s4 tr ec) syX4_line w_292 ⟨Nat.le_of_ble_eq_true rfl, Nat.le_of_ble_eq_true rfl⟩ cB_mv hC (va_recv hC.1.1 hC.2 (ci := 2) (q0 := 0) rfl rfl) rfl hl.1 rfl (Nat.le_of_ble_eq_true rfl) dL_law_810 ⟨Nat.le_of_ble_eq_true rfl, Nat.le_of_ble_eq_true rfl⟩ ?_
  refine lv_aload_n hx hb dL_law_813 rfl (lv_at hl 2 rfl) ?_
  refine lv_aload_n hx hb dL_law_814 rfl (lv_at hl 0 rfl) ?_
  refine lv_iload_n hx hb dL_law_815 rfl (lv_at hl 3 rfl) ?_
  refine lv_iconst (v := (1 : Int32)) hx hb dL_law_816 (by decide) ?_
  refine lv_iadd hx hb dL_law_817 ?_
  refine va_sld hx hb hX hbl hbA hS i1 dL_law_818 ?_
  refine lv_aload_n hx hb dL_law_819 rfl (lv_at hl 0 rfl) ?_
  refine lv_iload_n hx hb dL_law_820 rfl (lv_at hl 3 rfl) ?_
  refine lv_iconst (v := (2 : Int32)) hx hb dL_law_821 (by decide) ?_
  refine lv_iadd hx hb dL_law_822 ?_
  refine va_sld hx hb hX hbl hbA hS i2 dL_law_823 ?_
  refine lv_aload_n hx hb dL_law_824 rfl (lv_at hl 0 rfl) ?_
  refine lv_iload_n hx hb dL_law_825 rfl (lv_at hl 3 rfl) ?_
  refine lv_iconst (v := (3 : Int32)) hx hb dL_law_826 (by decide) ?_
  refine lv_iadd hx hb dL_law_827 ?_
  refine va_sld hx hb hX hbl hbA hS i3 dL_law_828 ?_
  refine lv_aload_n hx hb dL_law_829 rfl (lv_at hl 0 rfl) ?_
  refine lv_iload_n hx hb dL_law_830 rfl (lv_at hl 3 rfl) ?_
  refine lv_iconst (v := (4 : Int32)) hx hb dL_law_831 (by decide) ?_
  refine lv_iadd hx hb dL_law_832 ?_
  refine va_sld hx hb hX hbl hbA hS i4 dL_law_833 ?_
  refine lv_aload_n hx hb dL_law_834 rfl (lv_at hl 0 rfl) ?_
  refine lv_iload_n hx hb dL_law_835 rfl (lv_at hl 3 rfl) ?_
  refine lv_iconst (v := (5 : Int32)) hx hb dL_law_836 (by decide) ?_
  refine lv_iadd hx hb dL_law_837 ?_
  refine va_sld hx hb hX hbl hbA hS i5 dL_law_838 ?_
  refine lv_aload_n hx hb dL_law_839 rfl (lv_at hl 0 rfl) ?_
  refine lv_iload_n hx hb dL_law_840 rfl (lv_at hl 3 rfl) ?_
  refine lv_bipush (v := (6 : Int32)) hx hb dL_law_841 (by decide) ?_
  refine lv_iadd hx hb dL_law_843 ?_
  refine va_sld hx hb hX hbl hbA hS i6 dL_law_844 ?_
  refine lv_aload_n hx hb dL_law_845 rfl (lv_at hl 0 rfl) ?_
  refine lv_iload_n hx hb dL_law_846 rfl (lv_at hl 3 rfl) ?_
  refine lv_bipush (v := (7 : Int32)) hx hb dL_law_847 (by decide) ?_
  refine lv_iadd hx hb dL_law_849 ?_
  refine va_sld hx hb hX hbl hbA hS i7 dL_law_850 ?_
  refine lv_aload_n hx hb dL_law_851 rfl (lv_at hl 0 rfl) ?_
  refine lv_iload_n hx hb dL_law_852 rfl (lv_at hl 3 rfl) ?_
  refine lv_bipush (v := (8 : Int32)) hx hb dL_law_853 (by decide) ?_
  refine lv_iadd hx hb dL_law_855 ?_
  refine va_sld hx hb hX hbl hbA hS i8 dL_law_856 ?_
  obtain ⟨⟨th, ex, hP⟩, hK⟩ := id hM
  refine mu_V (As := [.int (xs (x3 + (1 : Int32)).toNatClampNeg), .int (xs (x3 + (2 : Int32)).toNatClampNeg), .int (xs (x3 + (3 : Int32)).toNatClampNeg), .int (xs (x3 + (4 : Int32)).toNatClampNeg), .int (xs (x3 + (5 : Int32)).toNatClampNeg), .int (xs (x3 + (6 : Int32)).toNatClampNeg), .int (xs (x3 + (7 : Int32)).toNatClampNeg), .int (xs (x3 + (8 : Int32)).toNatClampNeg)]) (rest := [.long r]) hF tb_in (cnX5_line l G h0 hs hr cI cF tm sz rw bx by_ bz bm so hap em) syX5_line w_526 ⟨Nat.le_of_ble_eq_true rfl, Nat.le_of_ble_eq_true rfl⟩ mB_mv mB_mv hM (va_recv hK hP (ci := 3) (q0 := 0) rfl rfl) hS hAm rfl hl.1 rfl (Nat.le_of_ble_eq_true rfl) dL_law_857 ⟨Nat.le_of_ble_eq_true rfl, Nat.le_of_ble_eq_true rfl⟩ (fun H locs hM _ hk hS => ?_)
  have hC := cB_keep hC hk hdis hAm
  refine W.eq (g2 := F0 m 860 ls [.long r, .long r]) rfl ?_
  refine W.lcmp hx hb dL_law_860 ?_
  refine lv_if_eq (tgt := 913) hx hb dL_law_861 (by decide) (fun _ => ?_) (fun c9 => absurd (lg_self r) c9)
  exact K _ _ _ _ _ _ _ _ _ _ _ _ _ _ _ _ _ _ _ _ _ _ hR hC hM hS hl
set_option maxHeartbeats 4000000 in
set_option maxRecDepth 100000 in
theorem law_count (C0 : lw_At p s m meth c b L xs) (X : Fix s o sh xx xc gv se fa ca h0 hs hr) (hi : Idx x3 L) (K : LCont p l e s m below meth c b G cI cF tA tT o sh xx xc gv se fa ca h0 hs hr x3) (hR : Rel n f tr sz rw tm) (hC : cB (lA s) G cI cF tA tT o sh xx xc gv se fa ca n f xn xf gf s0 s1 s2 s3 s4 tr s H) (hM : mB G h0 hs hr cI cF tm sz rw bx by_ bz bm so s H) (hS : va_S (lA s) s.heap H locs) (hl : lv_has ls 4 [(0, .ref b), (1, .ref o), (2, .ref h0), (3, .int x3)]) : W p l e room_1 s m #[Value.ref b] below meth c H locs 17 97 (lw_Z below #[Value.ref b] s) (F0 m 866 ls []) := by
  obtain ⟨hx, hb, hret, hml, hown, hts, hX, hbl, hlocks, hgv⟩ := C0
  have hF : CallFix p m c code 4 s #[Value.ref b] lw_tbl RL := ⟨hx, hb, hml, hown, hts⟩
  have hbA : ¬ lA s b := Nat.not_le.mpr hbl
  obtain ⟨hnd, hap, hdis, hAc, hAm, hN⟩ := X
  obtain ⟨i1, i2, i3, i4, i5, i6, i7, i8⟩ := hi
  obtain ⟨r, ec, em⟩ := P_count hR  (xs (x3 + (1 : Int32)).toNatClampNeg) (xs (x3 + (2 : Int32)).toNatClampNeg)
  refine lv_aload_n hx hb dL_law_866 rfl (lv_at hl 1 rfl) ?_
  refine lv_aload_n hx hb dL_law_867 rfl (lv_at hl 0 rfl) ?_
  refine lv_iload_n hx hb dL_law_868 rfl (lv_at hl 3 rfl) ?_
  refine lv_iconst (v := (1 : Int32)) hx hb dL_law_869 (by decide) ?_
  refine lv_iadd hx hb dL_law_870 ?_
  refine va_sld hx hb hX hbl hbA hS i1 dL_law_871 ?_
  refine lv_aload_n hx hb dL_law_872 rfl (lv_at hl 0 rfl) ?_
  refine lv_iload_n hx hb dL_law_873 rfl (lv_at hl 3 rfl) ?_
  refine lv_iconst (v := (2 : Int32)) hx hb dL_law_874 (by decide) ?_
  refine lv_iadd hx hb dL_law_875 ?_
  refine va_sld hx hb hX hbl hbA hS i2 dL_law_876 ?_
  refine ro_V (As := [.int (xs (x3 + (1 : Int32)).toNatClampNeg), .int (xs (x3 + (2 : Int32)).toNatClampNeg)]) (rest := []) hF tb_in (cnX4_count l (lA s) G cI cF tA tT o sh xx xc gv se fa ca n f xn xf gf s0 s1 s2 s3 s4 tr ec) syX4_count w_298 ⟨Nat.le_of_ble_eq_true rfl, Nat.le_of_ble_eq_true rfl⟩ cB_mv hC (va_recv hC.1.1 hC.2 (ci := 2) (q0 := 0) rfl rfl) rfl hl.1 rfl (Nat.le_of_ble_eq_true rfl) dL_law_877 ⟨Nat.le_of_ble_eq_true rfl, Nat.le_of_ble_eq_true rfl⟩ ?_
  refine lv_aload_n hx hb dL_law_880 rfl (lv_at hl 2 rfl) ?_
  refine lv_aload_n hx hb dL_law_881 rfl (lv_at hl 0 rfl) ?_
  refine lv_iload_n hx hb dL_law_882 rfl (lv_at hl 3 rfl) ?_
  refine lv_iconst (v := (1 : Int32)) hx hb dL_law_883 (by decide) ?_
  refine lv_iadd hx hb dL_law_884 ?_
  refine va_sld hx hb hX hbl hbA hS i1 dL_law_885 ?_
  refine lv_aload_n hx hb dL_law_886 rfl (lv_at hl 0 rfl) ?_
  refine lv_iload_n hx hb dL_law_887 rfl (lv_at hl 3 rfl) ?_
  refine lv_iconst (v := (2 : Int32)) hx hb dL_law_888 (by decide) ?_
  refine lv_iadd hx hb dL_law_889 ?_
  refine va_sld hx hb hX hbl hbA hS i2 dL_law_890 ?_
  obtain ⟨⟨th, ex, hP⟩, hK⟩ := id hM
  refine mu_V (As := [.int (xs (x3 + (1 : Int32)).toNatClampNeg), .int (xs (x3 + (2 : Int32)).toNatClampNeg)]) (rest := [.int r]) hF tb_in (cnX5_count l G h0 hs hr cI cF tm sz rw bx by_ bz bm so hap em) syX5_count w_530 ⟨Nat.le_of_ble_eq_true rfl, Nat.le_of_ble_eq_true rfl⟩ mB_mv mB_mv hM (va_recv hK hP (ci := 3) (q0 := 0) rfl rfl) hS hAm rfl hl.1 rfl (Nat.le_of_ble_eq_true rfl) dL_law_891 ⟨Nat.le_of_ble_eq_true rfl, Nat.le_of_ble_eq_true rfl⟩ (fun H locs hM _ hk hS => ?_)
  have hC := cB_keep hC hk hdis hAm
  refine W.eq (g2 := F0 m 894 ls [.int r, .int r]) rfl ?_
  refine lv_icmp_eq (tgt := 913) hx hb dL_law_894 (by decide) (fun _ => ?_) (fun c9 => absurd rfl c9)
  exact K _ _ _ _ _ _ _ _ _ _ _ _ _ _ _ _ _ _ _ _ _ _ hR hC hM hS hl
set_option maxHeartbeats 4000000 in
set_option maxRecDepth 100000 in
theorem law_trace (C0 : lw_At p s m meth c b L xs) (X : Fix s o sh xx xc gv se fa ca h0 hs hr) (hi : Idx x3 L) (K : LCont p l e s m below meth c b G cI cF tA tT o sh xx xc gv se fa ca h0 hs hr x3) (hR : Rel n f tr sz rw tm) (hC : cB (lA s) G cI cF tA tT o sh xx xc gv se fa ca n f xn xf gf s0 s1 s2 s3 s4 tr s H) (hM : mB G h0 hs hr cI cF tm sz rw bx by_ bz bm so s H) (hS : va_S (lA s) s.heap H locs) (hl : lv_has ls 4 [(0, .ref b), (1, .ref o), (2, .ref h0), (3, .int x3)]) : W p l e room_1 s m #[Value.ref b] below meth c H locs 17 97 (lw_Z below #[Value.ref b] s) (F0 m 899 ls []) := by
  obtain ⟨hx, hb, hret, hml, hown, hts, hX, hbl, hlocks, hgv⟩ := C0
  have hF : CallFix p m c code 4 s #[Value.ref b] lw_tbl RL := ⟨hx, hb, hml, hown, hts⟩
  have hbA : ¬ lA s b := Nat.not_le.mpr hbl
  obtain ⟨hnd, hap, hdis, hAc, hAm, hN⟩ := X
  obtain ⟨i1, i2, i3, i4, i5, i6, i7, i8⟩ := hi
  obtain ⟨r, ec, em⟩ := P_trace hR  
  refine lv_aload_n hx hb dL_law_899 rfl (lv_at hl 1 rfl) ?_
  refine ro_V (As := []) (rest := []) hF tb_in (cnX4_trace l (lA s) G cI cF tA tT o sh xx xc gv se fa ca n f xn xf gf s0 s1 s2 s3 s4 tr ec) syX4_trace w_303 ⟨Nat.le_of_ble_eq_true rfl, Nat.le_of_ble_eq_true rfl⟩ cB_mv hC (va_recv hC.1.1 hC.2 (ci := 2) (q0 := 0) rfl rfl) rfl hl.1 rfl (Nat.le_of_ble_eq_true rfl) dL_law_900 ⟨Nat.le_of_ble_eq_true rfl, Nat.le_of_ble_eq_true rfl⟩ ?_
  refine lv_aload_n hx hb dL_law_903 rfl (lv_at hl 2 rfl) ?_
  obtain ⟨⟨th, ex, hP⟩, hK⟩ := id hM
  refine mu_V (As := []) (rest := [.long r]) hF tb_in (cnX5_trace l G h0 hs hr cI cF tm sz rw bx by_ bz bm so hap em) syX5_trace w_534 ⟨Nat.le_of_ble_eq_true rfl, Nat.le_of_ble_eq_true rfl⟩ mB_mv mB_mv hM (va_recv hK hP (ci := 3) (q0 := 0) rfl rfl) hS hAm rfl hl.1 rfl (Nat.le_of_ble_eq_true rfl) dL_law_904 ⟨Nat.le_of_ble_eq_true rfl, Nat.le_of_ble_eq_true rfl⟩ (fun H locs hM _ hk hS => ?_)
  have hC := cB_keep hC hk hdis hAm
  refine W.eq (g2 := F0 m 907 ls [.long r, .long r]) rfl ?_
  refine W.lcmp hx hb dL_law_907 ?_
  refine lv_if_eq (tgt := 913) hx hb dL_law_908 (by decide) (fun _ => ?_) (fun c9 => absurd (lg_self r) c9)
  exact K _ _ _ _ _ _ _ _ _ _ _ _ _ _ _ _ _ _ _ _ _ _ hR hC hM hS hl
end LAW
