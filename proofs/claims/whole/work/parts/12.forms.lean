def kX0_product_4 (n : Int32) (f : Nat → Int32) : Nat → Int64 → Int32 → Option (Int64)
  | 0, _, _ => none
  | fu + 1, x1_4, x3_4 =>
    (if n ≤ x3_4 then some x1_4 else
    (if ¬ (x3_4 < 0 ∨ 6 ≤ x3_4.toNatClampNeg) then (kX0_product_4 n f fu) (x1_4 * ((f x3_4.toNatClampNeg).toInt64)) (x3_4 + (1 : Int32)) else none))
def fX0_product (n : Int32) (f : Nat → Int32) : Option (Int64) :=
    kX0_product_4 n f 1100 (1 : Int64) (0 : Int32)
def kX0_freeProduct_39 (x5_16 : Int32) (K16 : Int64 → Int32 → Option (Int64)) : Nat → Int64 → Int32 → Option (Int64)
  | 0, _, _ => none
  | fu + 1, x1_39, x8_39 =>
    (if (64 : Int32) ≤ x8_39 then K16 x1_39 (x5_16 + (1 : Int32)) else
    (if ((allv x5_16.toNatClampNeg) * (allv x5_16.toNatClampNeg)) ≤ (1 : Int32) then K16 x1_39 (x5_16 + (1 : Int32)) else
    (if ¬ (((allv x5_16.toNatClampNeg) * (allv x5_16.toNatClampNeg)).toInt64) = 0 then (if (lg_cmp (lrm x1_39 (((allv x5_16.toNatClampNeg) * (allv x5_16.toNatClampNeg)).toInt64)) (0 : Int64)) = 0 then (if ¬ (((allv x5_16.toNatClampNeg) * (allv x5_16.toNatClampNeg)).toInt64) = 0 then (kX0_freeProduct_39 x5_16 K16 fu) (x1_39 / (((allv x5_16.toNatClampNeg) * (allv x5_16.toNatClampNeg)).toInt64)) (x8_39 + (1 : Int32)) else none) else
    K16 x1_39 (x5_16 + (1 : Int32))) else none)))
def kX0_freeProduct_16 : Nat → Int64 → Int32 → Option (Int64)
  | 0, _, _ => none
  | fu + 1, x1_16, x5_16 =>
    (if (79 : Int32) ≤ x5_16 then some x1_16 else
    (if ¬ (x5_16 < 0 ∨ 79 ≤ x5_16.toNatClampNeg) then kX0_freeProduct_39 x5_16 (kX0_freeProduct_16 fu) 1100 x1_16 (0 : Int32) else none))
def fX0_freeProduct (n : Int32) (f : Nat → Int32) : Option (Int64) :=
    (fX0_product n f).bind fun (r1 : Int64) =>
    kX0_freeProduct_16 1100 r1 (0 : Int32)
def kX0_countAbove_4 (n : Int32) (f : Nat → Int32) : Nat → Int32 → Int32 → Option (Int32)
  | 0, _, _ => none
  | fu + 1, x1_4, x2_4 =>
    (if n ≤ x2_4 then some x1_4 else
    (if ¬ (x2_4 < 0 ∨ 6 ≤ x2_4.toNatClampNeg) then (if (f x2_4.toNatClampNeg) ≤ 0 then (kX0_countAbove_4 n f fu) x1_4 (x2_4 + (1 : Int32)) else
    (kX0_countAbove_4 n f fu) (x1_4 + (1 : Int32)) (x2_4 + (1 : Int32))) else none))
def fX0_countAbove (n : Int32) (f : Nat → Int32) : Option (Int32) :=
    kX0_countAbove_4 n f 1100 (0 : Int32) (0 : Int32)
def kX0_signsAt_17 (n : Int32) (f : Nat → Int32) (a0 : Int32) (x3_4 : Int32) (K4 : Int32 → Int32 → Option (Int32)) : Nat → Int32 → Int32 → Option (Int32)
  | 0, _, _ => none
  | fu + 1, x2_17, x4_17 =>
    (if n ≤ x4_17 then K4 x2_17 (x3_4 + (1 : Int32)) else
    (if ¬ (x3_4 < 0 ∨ 6 ≤ x3_4.toNatClampNeg) then (if ¬ (x4_17 < 0 ∨ 6 ≤ x4_17.toNatClampNeg) then (fX2_signAt ((f x3_4.toNatClampNeg).toInt64) ((f x4_17.toNatClampNeg).toInt64) a0).bind fun (r3 : Int32) =>
    (kX0_signsAt_17 n f a0 x3_4 K4 fu) (x2_17 * r3) (x4_17 + (1 : Int32)) else none) else none))
def kX0_signsAt_4 (n : Int32) (f : Nat → Int32) (a0 : Int32) : Nat → Int32 → Int32 → Option (Int32)
  | 0, _, _ => none
  | fu + 1, x2_4, x3_4 =>
    (if n ≤ x3_4 then some x2_4 else
    kX0_signsAt_17 n f a0 x3_4 (kX0_signsAt_4 n f a0 fu) 1100 x2_4 (x3_4 + (1 : Int32)))
def fX0_signsAt (n : Int32) (f : Nat → Int32) (a0 : Int32) : Option (Int32) :=
    kX0_signsAt_4 n f a0 1100 (1 : Int32) (0 : Int32)
def fX0_goesAt (n : Int32) (f : Nat → Int32) (a0 : Int32) : Option (Int32) :=
    (if a0 = 0 then (fX0_countAbove n f).bind fun (r20 : Int32) =>
    (if r20 ≤ 0 then some (0 : Int32) else
    (if n ≤ r20 then some (0 : Int32) else
    some (1 : Int32))) else
    (if n = (1 : Int32) then some (0 : Int32) else
    (if n = (2 : Int32) then (fX0_product n f).bind fun (r1 : Int64) =>
    (fX2_isSquareAtPrime (-r1) a0).bind fun (r3 : Int32) =>
    (if r3 &&& 1 = r3 then some r3 else none) else
    (if n = (3 : Int32) then (fX0_signsAt n f a0).bind fun (r6 : Int32) =>
    (fX0_product n f).bind fun (r8 : Int64) =>
    (fX2_signAt (-1 : Int64) (-r8) a0).bind fun (r10 : Int32) =>
    (if r6 = r10 then some (1 : Int32) else
    some (0 : Int32)) else
    (if n = (4 : Int32) then (fX0_product n f).bind fun (r12 : Int64) =>
    (fX2_isSquareAtPrime r12 a0).bind fun (r14 : Int32) =>
    (if r14 = 0 then some (1 : Int32) else
    (fX0_signsAt n f a0).bind fun (r16 : Int32) =>
    (fX2_signAt (-1 : Int64) (-1 : Int64) a0).bind fun (r18 : Int32) =>
    (if r16 = r18 then some (1 : Int32) else
    some (0 : Int32))) else
    some (1 : Int32))))))
def kX0_mayBar_13 (n : Int32) (f : Nat → Int32) (a0 : Int32) : Nat → Int32 → Option (Int32)
  | 0, _ => none
  | fu + 1, x2_13 =>
    (if n ≤ x2_13 then some (0 : Int32) else
    (if ¬ (x2_13 < 0 ∨ 6 ≤ x2_13.toNatClampNeg) then (if ¬ a0 = 0 then (if (irm (f x2_13.toNatClampNeg) a0) = 0 then some (1 : Int32) else
    (kX0_mayBar_13 n f a0 fu) (x2_13 + (1 : Int32))) else none) else none))
def fX0_mayBar (n : Int32) (f : Nat → Int32) (a0 : Int32) : Option (Int32) :=
    (if a0 = 0 then some (1 : Int32) else
    (if a0 = (2 : Int32) then some (1 : Int32) else
    kX0_mayBar_13 n f a0 1100 (0 : Int32)))
def kX0_countBars_12 (n : Int32) (f : Nat → Int32) : Nat → Int32 → Int32 → Option (Int32)
  | 0, _, _ => none
  | fu + 1, x1_12, x4_12 =>
    (if (79 : Int32) ≤ x4_12 then some x1_12 else
    (if ¬ (x4_12 < 0 ∨ 79 ≤ x4_12.toNatClampNeg) then (fX0_mayBar n f (allv x4_12.toNatClampNeg)).bind fun (r2 : Int32) =>
    (if r2 = 0 then (kX0_countBars_12 n f fu) x1_12 (x4_12 + (1 : Int32)) else
    (fX0_goesAt n f (allv x4_12.toNatClampNeg)).bind fun (r4 : Int32) =>
    (if r4 = 0 then (kX0_countBars_12 n f fu) (x1_12 + (1 : Int32)) (x4_12 + (1 : Int32)) else
    (kX0_countBars_12 n f fu) x1_12 (x4_12 + (1 : Int32)))) else none))
def fX0_countBars (n : Int32) (f : Nat → Int32) : Option (Int32) :=
    kX0_countBars_12 n f 1100 (0 : Int32) (0 : Int32)
def kX0_findBar_13 (n : Int32) (f : Nat → Int32) (a0 : Int32) : Nat → Int32 → Int32 → Option (Int32)
  | 0, _, _ => none
  | fu + 1, x2_13, x5_13 =>
    (if (79 : Int32) ≤ x5_13 then some (-1 : Int32) else
    (if ¬ (x5_13 < 0 ∨ 79 ≤ x5_13.toNatClampNeg) then (fX0_mayBar n f (allv x5_13.toNatClampNeg)).bind fun (r2 : Int32) =>
    (if r2 = 0 then (kX0_findBar_13 n f a0 fu) x2_13 (x5_13 + (1 : Int32)) else
    (fX0_goesAt n f (allv x5_13.toNatClampNeg)).bind fun (r4 : Int32) =>
    (if r4 = 0 then (if x2_13 = a0 then some (allv x5_13.toNatClampNeg) else
    (kX0_findBar_13 n f a0 fu) (x2_13 + (1 : Int32)) (x5_13 + (1 : Int32))) else
    (kX0_findBar_13 n f a0 fu) x2_13 (x5_13 + (1 : Int32)))) else none))
def fX0_findBar (n : Int32) (f : Nat → Int32) (a0 : Int32) : Option (Int32) :=
    kX0_findBar_13 n f a0 1100 (0 : Int32) (0 : Int32)
def fX0_pairing (n : Int32) (f : Nat → Int32) (a0 : Int32) (a1 : Int32) (a2 : Int32) (a3 : Int32) (a4 : Int32) (a5 : Int32) : Option (Int64) :=
    some ((((((f (0 : Int32).toNatClampNeg).toInt64) * a0.toInt64) * a3.toInt64) + ((((f (1 : Int32).toNatClampNeg).toInt64) * a1.toInt64) * a4.toInt64)) + ((((f (2 : Int32).toNatClampNeg).toInt64) * a2.toInt64) * a5.toInt64))
def kX0_thirdFor_68 (f : Nat → Int32) (a0 : Int32) (a1 : Int32) : Nat → Int32 → Option (Int32)
  | 0, _ => none
  | fu + 1, x6_68 =>
    (if (30 : Int32) < x6_68 then some (-1 : Int32) else
    (if (x6_68 * x6_68) = ((-((((f (0 : Int32).toNatClampNeg) * a0) * a0) + (((f (1 : Int32).toNatClampNeg) * a1) * a1))) / (f (2 : Int32).toNatClampNeg)) then some x6_68 else
    (kX0_thirdFor_68 f a0 a1 fu) (x6_68 + (1 : Int32))))
def fX0_thirdFor (n : Int32) (f : Nat → Int32) (a0 : Int32) (a1 : Int32) : Option (Int32) :=
    (if (f (2 : Int32).toNatClampNeg) = 0 then some (-1 : Int32) else
    (if ¬ (f (2 : Int32).toNatClampNeg) = 0 then (if (irm (-((((f (0 : Int32).toNatClampNeg) * a0) * a0) + (((f (1 : Int32).toNatClampNeg) * a1) * a1))) (f (2 : Int32).toNatClampNeg)) = 0 then (if ¬ (f (2 : Int32).toNatClampNeg) = 0 then (if ((-((((f (0 : Int32).toNatClampNeg) * a0) * a0) + (((f (1 : Int32).toNatClampNeg) * a1) * a1))) / (f (2 : Int32).toNatClampNeg)) < 0 then some (-1 : Int32) else
    (if ((-((((f (0 : Int32).toNatClampNeg) * a0) * a0) + (((f (1 : Int32).toNatClampNeg) * a1) * a1))) / (f (2 : Int32).toNatClampNeg)) ≤ (900 : Int32) then kX0_thirdFor_68 f a0 a1 1100 (0 : Int32) else
    some (-1 : Int32))) else none) else
    some (-1 : Int32)) else none))
theorem syX0_product : Vy yX0_product cX0_product 4 (some .long) 0 := ⟨w_144, ⟨w_142, w_143⟩, w_2, by decide +kernel⟩
set_option maxHeartbeats 4000000 in
set_option maxRecDepth 100000 in
theorem cnX0_product (l : Launch) (A : Nat → Prop) (G : va_G) (cI cF : ClassId) (tA tT : Nat) (q qc : Nat) (n : Int32) (f : Nat → Int32) {r : Int64} (h : fX0_product n f = some r) : Ro l yX0_product cX0_product 4 (some .long) 0 0 [.ref q] (fB A G cI cF tA tT q qc n f) (.long r) := by
  refine ro_l (plainFor_of_name (by decide)) (Nat.le_of_ble_eq_true rfl) ?_
  intro p e s m args below meth cd Q ls hF hB hl END
  have hF : CallFix p m cd cX0_product 4 s args (wl yX0_product cX0_product 4 (some .long)) RX0 := hF
  obtain ⟨hx, hb, hml, hown, hts⟩ := id hF
  have hl : lv_has ls 4 [(0, .ref q)] := hl
  obtain ⟨hE, hP⟩ := hB
  obtain ⟨hK, ⟨hZ, hT⟩, ⟨hZ2, hT2⟩⟩ := id hE
  have hS : va_S A s.heap s.heap [] := va_S.rf
  rw [fX0_product] at h
  refine lv_lconst (v := (1 : Int64)) hx hb dX0_product_0 (by decide) ?_
  refine lv_lstore_n (lv' := [(1, .long (1 : Int64)), (0, .ref q)]) hx hb dX0_product_1 rfl hl (by decide) rfl (fun ls hl => ?_)
  refine lv_iconst (v := (0 : Int32)) hx hb dX0_product_2 (by decide) ?_
  refine lv_istore_n (lv' := [(3, .int (0 : Int32)), (1, .long (1 : Int64)), (0, .ref q)]) hx hb dX0_product_3 rfl hl (by decide) rfl (fun ls hl => ?_)
  have J4 : ∀ (n4 : Nat) (x1_4 : Int64) (x3_4 : Int32), kX0_product_4 n f n4 x1_4 x3_4 = some r → ∀ (ls : Array Slot), lv_has ls 4 [(0, .ref q), (1, .long x1_4), (3, .int x3_4)] → W p l e (rmk 0 0) s m args below meth cd s.heap [] 0 0 Q (F0 m 4 ls []) := by
    intro n4
    induction n4 with
    | zero =>
      intro x1_4 x3_4 h
      rw [kX0_product_4] at h
      cases h
    | succ n4 ih4 =>
      intro x1_4 x3_4 h  ls hl
      rw [kX0_product_4] at h
      refine lv_iload_n hx hb dX0_product_4 rfl (lv_at hl 2 rfl) ?_
      refine lv_aload_n hx hb dX0_product_5 rfl (lv_at hl 0 rfl) ?_
      refine va_get (D := G) (ci := 0) (v := .int n) (C := RX0) (T := TX0) (N := 2) hx hb hts (fun w h => wl_in (inX0 w h)) hown hK hP 0 rfl rfl 0 (by decide) (hts _ (wl_in w_23)) (fun _ h9 => h9) rfl dX0_product_6 ?_
      refine lv_icmp_ge (tgt := 28) hx hb dX0_product_9 (by decide) (fun c9 => ?_) (fun c9 => ?_)
      · have h := pt c9 h
        refine lv_lload_n hx hb dX0_product_28 rfl (lv_at hl 1 rfl) ?_
        exact END 29 ls _ (pe h) dX0_product_29
      · have h := pf c9 h
        refine lv_lload_n hx hb dX0_product_12 rfl (lv_at hl 1 rfl) ?_
        refine lv_aload_n hx hb dX0_product_13 rfl (lv_at hl 0 rfl) ?_
        refine va_get (D := G) (ci := 0) (v := .ref qc) (C := RX0) (T := TX0) (N := 2) hx hb hts (fun w h => wl_in (inX0 w h)) hown hK hP 0 rfl rfl 1 (by decide) (hts _ (wl_in w_25)) (fun _ h9 => h9) rfl dX0_product_14 ?_
        refine lv_iload_n hx hb dX0_product_17 rfl (lv_at hl 2 rfl) ?_
        obtain ⟨g1, h⟩ := pg h
        refine va_iald hx hb hK hP 1 0 rfl rfl g1 dX0_product_18 ?_
        refine lv_i2l (v := (f x3_4.toNatClampNeg).toInt64) hx hb dX0_product_19 rfl ?_
        refine lv_lmul hx hb dX0_product_20 ?_
        refine lv_lstore_n (lv' := [(1, .long (x1_4 * ((f x3_4.toNatClampNeg).toInt64))), (0, .ref q), (3, .int x3_4)]) hx hb dX0_product_21 rfl hl (by decide) rfl (fun ls hl => ?_)
        refine lv_iinc (v := x3_4 + (1 : Int32)) (lv' := [(3, .int (x3_4 + (1 : Int32))), (1, .long (x1_4 * ((f x3_4.toNatClampNeg).toInt64))), (0, .ref q)]) hx hb dX0_product_22 hl (k := 2) rfl rfl (by decide) rfl (fun ls hl => ?_)
        refine lv_goto (tgt := 4) hx hb dX0_product_25 (by decide) ?_
        exact ih4 _ _ h  _ (lv_sub hl [2, 1, 0] rfl)
  exact J4 _ _ _ h  _ (lv_sub hl [2, 1, 0] rfl)

theorem syX0_freeProduct : Vy yX0_freeProduct cX0_freeProduct 9 (some .long) 0 := ⟨w_148, ⟨w_146, w_147⟩, w_2, by decide +kernel⟩
set_option maxHeartbeats 4000000 in
set_option maxRecDepth 100000 in
theorem cnX0_freeProduct (l : Launch) (A : Nat → Prop) (G : va_G) (cI cF : ClassId) (tA tT : Nat) (q qc : Nat) (n : Int32) (f : Nat → Int32) {r : Int64} (h : fX0_freeProduct n f = some r) : Ro l yX0_freeProduct cX0_freeProduct 9 (some .long) 1 23 [.ref q] (fB A G cI cF tA tT q qc n f) (.long r) := by
  refine ro_l (plainFor_of_name (by decide)) (Nat.le_of_ble_eq_true rfl) ?_
  intro p e s m args below meth cd Q ls hF hB hl END
  have hF : CallFix p m cd cX0_freeProduct 9 s args (wl yX0_freeProduct cX0_freeProduct 9 (some .long)) RX0 := hF
  obtain ⟨hx, hb, hml, hown, hts⟩ := id hF
  have hl : lv_has ls 9 [(0, .ref q)] := hl
  obtain ⟨hE, hP⟩ := hB
  obtain ⟨hK, ⟨hZ, hT⟩, ⟨hZ2, hT2⟩⟩ := id hE
  have hS : va_S A s.heap s.heap [] := va_S.rf
  rw [fX0_freeProduct] at h
  refine lv_aload_n hx hb dX0_freeProduct_0 rfl (lv_at hl 0 rfl) ?_
  obtain ⟨r1, e2, h⟩ := pb h
  refine ro_V (As := []) (rest := []) hF (fun _ h => wl_in h) (cnX0_product l A G cI cF tA tT q qc n f e2) syX0_product w_149 ⟨Nat.le_of_ble_eq_true rfl, Nat.le_of_ble_eq_true rfl⟩ fB_mv ⟨hE, hP⟩ (va_recv hK hP (ci := 0) (q0 := 0) rfl rfl) rfl hl.1 rfl (Nat.le_of_ble_eq_true rfl) dX0_freeProduct_1 ⟨Nat.zero_le _, Nat.zero_le _⟩ ?_
  refine lv_lstore_n (lv' := [(1, .long r1), (0, .ref q)]) hx hb dX0_freeProduct_4 rfl hl (by decide) rfl (fun ls hl => ?_)
  refine va_gets hx hb hZ hS hown (hts _ (wl_in w_150)) (fun _ h9 => h9) dX0_freeProduct_5 ?_
  refine lv_astore_n (lv' := [(3, .ref tA), (1, .long r1), (0, .ref q)]) hx hb dX0_freeProduct_8 rfl hl (by decide) rfl (fun ls hl => ?_)
  refine lv_aload_n hx hb dX0_freeProduct_9 rfl (lv_at hl 0 rfl) ?_
  refine va_tlen (v := (79 : Int32)) hx hb hT hS rfl dX0_freeProduct_10 ?_
  refine lv_istore (lv' := [(4, .int (79 : Int32)), (3, .ref tA), (1, .long r1), (0, .ref q)]) hx hb dX0_freeProduct_11 hl (by decide) rfl (fun ls hl => ?_)
  refine lv_iconst (v := (0 : Int32)) hx hb dX0_freeProduct_13 (by decide) ?_
  refine lv_istore (lv' := [(5, .int (0 : Int32)), (4, .int (79 : Int32)), (3, .ref tA), (1, .long r1), (0, .ref q)]) hx hb dX0_freeProduct_14 hl (by decide) rfl (fun ls hl => ?_)
  have J16 : ∀ (n16 : Nat) (x1_16 : Int64) (x5_16 : Int32), kX0_freeProduct_16 n16 x1_16 x5_16 = some r → ∀ (ls : Array Slot), lv_has ls 9 [(4, .int (79 : Int32)), (3, .ref tA), (1, .long x1_16), (5, .int x5_16)] → W p l e (rmk 1 23) s m args below meth cd s.heap [] 0 0 Q (F0 m 16 ls []) := by
    intro n16
    induction n16 with
    | zero =>
      intro x1_16 x5_16 h
      rw [kX0_freeProduct_16] at h
      cases h
    | succ n16 ih16 =>
      intro x1_16 x5_16 h  ls hl
      rw [kX0_freeProduct_16] at h
      refine lv_iload hx hb dX0_freeProduct_16 (lv_at hl 3 rfl) ?_
      refine lv_iload hx hb dX0_freeProduct_18 (lv_at hl 0 rfl) ?_
      refine lv_icmp_ge (tgt := 80) hx hb dX0_freeProduct_20 (by decide) (fun c20 => ?_) (fun c20 => ?_)
      · have h := pt c20 h
        refine lv_lload_n hx hb dX0_freeProduct_80 rfl (lv_at hl 2 rfl) ?_
        exact END 81 ls _ (pe h) dX0_freeProduct_81
      · have h := pf c20 h
        refine lv_aload_n hx hb dX0_freeProduct_23 rfl (lv_at hl 1 rfl) ?_
        refine lv_iload hx hb dX0_freeProduct_24 (lv_at hl 3 rfl) ?_
        obtain ⟨g3, h⟩ := pg h
        refine va_ti (v := .int (allv x5_16.toNatClampNeg)) hx hb hT hS g3 rfl dX0_freeProduct_26 ?_
        refine lv_istore (lv' := [(6, .int (allv x5_16.toNatClampNeg)), (4, .int (79 : Int32)), (3, .ref tA), (1, .long x1_16), (5, .int x5_16)]) hx hb dX0_freeProduct_27 hl (by decide) rfl (fun ls hl => ?_)
        refine lv_iload hx hb dX0_freeProduct_29 (lv_at hl 0 rfl) ?_
        refine lv_iload hx hb dX0_freeProduct_31 (lv_at hl 0 rfl) ?_
        refine lv_imul hx hb dX0_freeProduct_33 ?_
        refine lv_istore (lv' := [(7, .int ((allv x5_16.toNatClampNeg) * (allv x5_16.toNatClampNeg))), (6, .int (allv x5_16.toNatClampNeg)), (4, .int (79 : Int32)), (3, .ref tA), (1, .long x1_16), (5, .int x5_16)]) hx hb dX0_freeProduct_34 hl (by decide) rfl (fun ls hl => ?_)
        refine lv_iconst (v := (0 : Int32)) hx hb dX0_freeProduct_36 (by decide) ?_
        refine lv_istore (lv' := [(8, .int (0 : Int32)), (7, .int ((allv x5_16.toNatClampNeg) * (allv x5_16.toNatClampNeg))), (6, .int (allv x5_16.toNatClampNeg)), (4, .int (79 : Int32)), (3, .ref tA), (1, .long x1_16), (5, .int x5_16)]) hx hb dX0_freeProduct_37 hl (by decide) rfl (fun ls hl => ?_)
        have J39 : ∀ (n39 : Nat) (x1_39 : Int64) (x8_39 : Int32), kX0_freeProduct_39 x5_16 (kX0_freeProduct_16 n16) n39 x1_39 x8_39 = some r → ∀ (ls : Array Slot), lv_has ls 9 [(7, .int ((allv x5_16.toNatClampNeg) * (allv x5_16.toNatClampNeg))), (4, .int (79 : Int32)), (3, .ref tA), (5, .int x5_16), (1, .long x1_39), (8, .int x8_39)] → W p l e (rmk 1 23) s m args below meth cd s.heap [] 0 0 Q (F0 m 39 ls []) := by
          intro n39
          induction n39 with
          | zero =>
            intro x1_39 x8_39 h
            rw [kX0_freeProduct_39] at h
            cases h
          | succ n39 ih39 =>
            intro x1_39 x8_39 h  ls hl
            rw [kX0_freeProduct_39] at h
            refine lv_iload hx hb dX0_freeProduct_39 (lv_at hl 5 rfl) ?_
            refine lv_bipush (v := (64 : Int32)) hx hb dX0_freeProduct_41 (by decide) ?_
            refine lv_icmp_ge (tgt := 74) hx hb dX0_freeProduct_43 (by decide) (fun c43 => ?_) (fun c43 => ?_)
            · have h := pt c43 h
              refine lv_iinc (v := x5_16 + (1 : Int32)) (lv' := [(5, .int (x5_16 + (1 : Int32))), (7, .int ((allv x5_16.toNatClampNeg) * (allv x5_16.toNatClampNeg))), (4, .int (79 : Int32)), (3, .ref tA), (1, .long x1_39), (8, .int x8_39)]) hx hb dX0_freeProduct_74 hl (k := 3) rfl rfl (by decide) rfl (fun ls hl => ?_)
              refine lv_goto (tgt := 16) hx hb dX0_freeProduct_77 (by decide) ?_
              exact ih16 _ _ h  _ (lv_sub hl [2, 3, 4, 0] rfl)
            · have h := pf c43 h
              refine lv_iload hx hb dX0_freeProduct_46 (lv_at hl 0 rfl) ?_
              refine lv_iconst (v := (1 : Int32)) hx hb dX0_freeProduct_48 (by decide) ?_
              refine lv_icmp_le (tgt := 74) hx hb dX0_freeProduct_49 (by decide) (fun c49 => ?_) (fun c49 => ?_)
              · have h := pt c49 h
                refine lv_iinc (v := x5_16 + (1 : Int32)) (lv' := [(5, .int (x5_16 + (1 : Int32))), (7, .int ((allv x5_16.toNatClampNeg) * (allv x5_16.toNatClampNeg))), (4, .int (79 : Int32)), (3, .ref tA), (1, .long x1_39), (8, .int x8_39)]) hx hb dX0_freeProduct_74 hl (k := 3) rfl rfl (by decide) rfl (fun ls hl => ?_)
                refine lv_goto (tgt := 16) hx hb dX0_freeProduct_77 (by decide) ?_
                exact ih16 _ _ h  _ (lv_sub hl [2, 3, 4, 0] rfl)
              · have h := pf c49 h
                refine lv_lload_n hx hb dX0_freeProduct_52 rfl (lv_at hl 4 rfl) ?_
                refine lv_iload hx hb dX0_freeProduct_53 (lv_at hl 0 rfl) ?_
                refine lv_i2l (v := ((allv x5_16.toNatClampNeg) * (allv x5_16.toNatClampNeg)).toInt64) hx hb dX0_freeProduct_55 rfl ?_
                obtain ⟨g4, h⟩ := pg h
                refine lq_lrem hx hb dX0_freeProduct_56 g4 ?_
                refine lv_lconst (v := (0 : Int64)) hx hb dX0_freeProduct_57 (by decide) ?_
                refine W.lcmp hx hb dX0_freeProduct_58 ?_
                refine lv_if_ne (tgt := 74) hx hb dX0_freeProduct_59 (by decide) (fun c59 => ?_) (fun c59 => ?_)
                · have h := pf c59 h
                  refine lv_iinc (v := x5_16 + (1 : Int32)) (lv' := [(5, .int (x5_16 + (1 : Int32))), (7, .int ((allv x5_16.toNatClampNeg) * (allv x5_16.toNatClampNeg))), (4, .int (79 : Int32)), (3, .ref tA), (1, .long x1_39), (8, .int x8_39)]) hx hb dX0_freeProduct_74 hl (k := 3) rfl rfl (by decide) rfl (fun ls hl => ?_)
                  refine lv_goto (tgt := 16) hx hb dX0_freeProduct_77 (by decide) ?_
                  exact ih16 _ _ h  _ (lv_sub hl [2, 3, 4, 0] rfl)
                · have h := pt c59 h
                  refine lv_lload_n hx hb dX0_freeProduct_62 rfl (lv_at hl 4 rfl) ?_
                  refine lv_iload hx hb dX0_freeProduct_63 (lv_at hl 0 rfl) ?_
                  refine lv_i2l (v := ((allv x5_16.toNatClampNeg) * (allv x5_16.toNatClampNeg)).toInt64) hx hb dX0_freeProduct_65 rfl ?_
                  obtain ⟨g5, h⟩ := pg h
                  refine lv_ldiv hx hb dX0_freeProduct_66 g5 ?_
                  refine lv_lstore_n (lv' := [(1, .long (x1_39 / (((allv x5_16.toNatClampNeg) * (allv x5_16.toNatClampNeg)).toInt64))), (7, .int ((allv x5_16.toNatClampNeg) * (allv x5_16.toNatClampNeg))), (4, .int (79 : Int32)), (3, .ref tA), (5, .int x5_16), (8, .int x8_39)]) hx hb dX0_freeProduct_67 rfl hl (by decide) rfl (fun ls hl => ?_)
                  refine lv_iinc (v := x8_39 + (1 : Int32)) (lv' := [(8, .int (x8_39 + (1 : Int32))), (1, .long (x1_39 / (((allv x5_16.toNatClampNeg) * (allv x5_16.toNatClampNeg)).toInt64))), (7, .int ((allv x5_16.toNatClampNeg) * (allv x5_16.toNatClampNeg))), (4, .int (79 : Int32)), (3, .ref tA), (5, .int x5_16)]) hx hb dX0_freeProduct_68 hl (k := 5) rfl rfl (by decide) rfl (fun ls hl => ?_)
                  refine lv_goto (tgt := 39) hx hb dX0_freeProduct_71 (by decide) ?_
                  exact ih39 _ _ h  _ (lv_sub hl [2, 3, 4, 5, 1, 0] rfl)
        exact J39 _ _ _ h  _ (lv_sub hl [1, 3, 4, 6, 5, 0] rfl)
  exact J16 _ _ _ h  _ (lv_sub hl [1, 2, 3, 0] rfl)

theorem syX0_countAbove : Vy yX0_countAbove cX0_countAbove 3 (some .int) 0 := ⟨w_171, ⟨w_169, w_170⟩, w_2, by decide +kernel⟩
set_option maxHeartbeats 4000000 in
set_option maxRecDepth 100000 in
theorem cnX0_countAbove (l : Launch) (A : Nat → Prop) (G : va_G) (cI cF : ClassId) (tA tT : Nat) (q qc : Nat) (n : Int32) (f : Nat → Int32) {r : Int32} (h : fX0_countAbove n f = some r) : Ro l yX0_countAbove cX0_countAbove 3 (some .int) 0 0 [.ref q] (fB A G cI cF tA tT q qc n f) (.int r) := by
  refine ro_i (plainFor_of_name (by decide)) (Nat.le_of_ble_eq_true rfl) ?_
  intro p e s m args below meth cd Q ls hF hB hl END
  have hF : CallFix p m cd cX0_countAbove 3 s args (wl yX0_countAbove cX0_countAbove 3 (some .int)) RX0 := hF
  obtain ⟨hx, hb, hml, hown, hts⟩ := id hF
  have hl : lv_has ls 3 [(0, .ref q)] := hl
  obtain ⟨hE, hP⟩ := hB
  obtain ⟨hK, ⟨hZ, hT⟩, ⟨hZ2, hT2⟩⟩ := id hE
  have hS : va_S A s.heap s.heap [] := va_S.rf
  rw [fX0_countAbove] at h
  refine lv_iconst (v := (0 : Int32)) hx hb dX0_countAbove_0 (by decide) ?_
  refine lv_istore_n (lv' := [(1, .int (0 : Int32)), (0, .ref q)]) hx hb dX0_countAbove_1 rfl hl (by decide) rfl (fun ls hl => ?_)
  refine lv_iconst (v := (0 : Int32)) hx hb dX0_countAbove_2 (by decide) ?_
  refine lv_istore_n (lv' := [(2, .int (0 : Int32)), (1, .int (0 : Int32)), (0, .ref q)]) hx hb dX0_countAbove_3 rfl hl (by decide) rfl (fun ls hl => ?_)
  have J4 : ∀ (n4 : Nat) (x1_4 : Int32) (x2_4 : Int32), kX0_countAbove_4 n f n4 x1_4 x2_4 = some r → ∀ (ls : Array Slot), lv_has ls 3 [(0, .ref q), (1, .int x1_4), (2, .int x2_4)] → W p l e (rmk 0 0) s m args below meth cd s.heap [] 0 0 Q (F0 m 4 ls []) := by
    intro n4
    induction n4 with
    | zero =>
      intro x1_4 x2_4 h
      rw [kX0_countAbove_4] at h
      cases h
    | succ n4 ih4 =>
      intro x1_4 x2_4 h  ls hl
      rw [kX0_countAbove_4] at h
      refine lv_iload_n hx hb dX0_countAbove_4 rfl (lv_at hl 2 rfl) ?_
      refine lv_aload_n hx hb dX0_countAbove_5 rfl (lv_at hl 0 rfl) ?_
      refine va_get (D := G) (ci := 0) (v := .int n) (C := RX0) (T := TX0) (N := 2) hx hb hts (fun w h => wl_in (inX0 w h)) hown hK hP 0 rfl rfl 0 (by decide) (hts _ (wl_in w_23)) (fun _ h9 => h9) rfl dX0_countAbove_6 ?_
      refine lv_icmp_ge (tgt := 30) hx hb dX0_countAbove_9 (by decide) (fun c9 => ?_) (fun c9 => ?_)
      · have h := pt c9 h
        refine lv_iload_n hx hb dX0_countAbove_30 rfl (lv_at hl 1 rfl) ?_
        exact END 31 ls _ (pe h) dX0_countAbove_31
      · have h := pf c9 h
        refine lv_aload_n hx hb dX0_countAbove_12 rfl (lv_at hl 0 rfl) ?_
        refine va_get (D := G) (ci := 0) (v := .ref qc) (C := RX0) (T := TX0) (N := 2) hx hb hts (fun w h => wl_in (inX0 w h)) hown hK hP 0 rfl rfl 1 (by decide) (hts _ (wl_in w_25)) (fun _ h9 => h9) rfl dX0_countAbove_13 ?_
        refine lv_iload_n hx hb dX0_countAbove_16 rfl (lv_at hl 2 rfl) ?_
        obtain ⟨g1, h⟩ := pg h
        refine va_iald hx hb hK hP 1 0 rfl rfl g1 dX0_countAbove_17 ?_
        refine lv_if_le (tgt := 24) hx hb dX0_countAbove_18 (by decide) (fun c18 => ?_) (fun c18 => ?_)
        · have h := pt c18 h
          refine lv_iinc (v := x2_4 + (1 : Int32)) (lv' := [(2, .int (x2_4 + (1 : Int32))), (0, .ref q), (1, .int x1_4)]) hx hb dX0_countAbove_24 hl (k := 2) rfl rfl (by decide) rfl (fun ls hl => ?_)
          refine lv_goto (tgt := 4) hx hb dX0_countAbove_27 (by decide) ?_
          exact ih4 _ _ h  _ (lv_sub hl [1, 2, 0] rfl)
        · have h := pf c18 h
          refine lv_iinc (v := x1_4 + (1 : Int32)) (lv' := [(1, .int (x1_4 + (1 : Int32))), (0, .ref q), (2, .int x2_4)]) hx hb dX0_countAbove_21 hl (k := 1) rfl rfl (by decide) rfl (fun ls hl => ?_)
          refine lv_iinc (v := x2_4 + (1 : Int32)) (lv' := [(2, .int (x2_4 + (1 : Int32))), (1, .int (x1_4 + (1 : Int32))), (0, .ref q)]) hx hb dX0_countAbove_24 hl (k := 2) rfl rfl (by decide) rfl (fun ls hl => ?_)
          refine lv_goto (tgt := 4) hx hb dX0_countAbove_27 (by decide) ?_
          exact ih4 _ _ h  _ (lv_sub hl [2, 1, 0] rfl)
  exact J4 _ _ _ h  _ (lv_sub hl [2, 1, 0] rfl)

theorem syX0_signsAt : Vy yX0_signsAt cX0_signsAt 5 (some .int) 1 := ⟨w_158, ⟨w_156, w_157⟩, w_2, by decide +kernel⟩
set_option maxHeartbeats 4000000 in
set_option maxRecDepth 100000 in
theorem cnX0_signsAt (l : Launch) (A : Nat → Prop) (G : va_G) (cI cF : ClassId) (tA tT : Nat) (q qc : Nat) (n : Int32) (f : Nat → Int32) {a0 : Int32} {r : Int32} (h : fX0_signsAt n f a0 = some r) : Ro l yX0_signsAt cX0_signsAt 5 (some .int) 3 79 [.ref q, .int a0] (fB A G cI cF tA tT q qc n f) (.int r) := by
  refine ro_i (plainFor_of_name (by decide)) (Nat.le_of_ble_eq_true rfl) ?_
  intro p e s m args below meth cd Q ls hF hB hl END
  have hF : CallFix p m cd cX0_signsAt 5 s args (wl yX0_signsAt cX0_signsAt 5 (some .int)) RX0 := hF
  obtain ⟨hx, hb, hml, hown, hts⟩ := id hF
  have hl : lv_has ls 5 [(0, .ref q), (1, .int a0)] := hl
  obtain ⟨hE, hP⟩ := hB
  obtain ⟨hK, ⟨hZ, hT⟩, ⟨hZ2, hT2⟩⟩ := id hE
  have hS : va_S A s.heap s.heap [] := va_S.rf
  rw [fX0_signsAt] at h
  refine lv_iconst (v := (1 : Int32)) hx hb dX0_signsAt_0 (by decide) ?_
  refine lv_istore_n (lv' := [(2, .int (1 : Int32)), (0, .ref q), (1, .int a0)]) hx hb dX0_signsAt_1 rfl hl (by decide) rfl (fun ls hl => ?_)
  refine lv_iconst (v := (0 : Int32)) hx hb dX0_signsAt_2 (by decide) ?_
  refine lv_istore_n (lv' := [(3, .int (0 : Int32)), (2, .int (1 : Int32)), (0, .ref q), (1, .int a0)]) hx hb dX0_signsAt_3 rfl hl (by decide) rfl (fun ls hl => ?_)
  have J4 : ∀ (n4 : Nat) (x2_4 : Int32) (x3_4 : Int32), kX0_signsAt_4 n f a0 n4 x2_4 x3_4 = some r → ∀ (ls : Array Slot), lv_has ls 5 [(0, .ref q), (1, .int a0), (2, .int x2_4), (3, .int x3_4)] → W p l e (rmk 3 79) s m args below meth cd s.heap [] 0 0 Q (F0 m 4 ls []) := by
    intro n4
    induction n4 with
    | zero =>
      intro x2_4 x3_4 h
      rw [kX0_signsAt_4] at h
      cases h
    | succ n4 ih4 =>
      intro x2_4 x3_4 h  ls hl
      rw [kX0_signsAt_4] at h
      refine lv_iload_n hx hb dX0_signsAt_4 rfl (lv_at hl 3 rfl) ?_
      refine lv_aload_n hx hb dX0_signsAt_5 rfl (lv_at hl 0 rfl) ?_
      refine va_get (D := G) (ci := 0) (v := .int n) (C := RX0) (T := TX0) (N := 2) hx hb hts (fun w h => wl_in (inX0 w h)) hown hK hP 0 rfl rfl 0 (by decide) (hts _ (wl_in w_23)) (fun _ h9 => h9) rfl dX0_signsAt_6 ?_
      refine lv_icmp_ge (tgt := 60) hx hb dX0_signsAt_9 (by decide) (fun c9 => ?_) (fun c9 => ?_)
      · have h := pt c9 h
        refine lv_iload_n hx hb dX0_signsAt_60 rfl (lv_at hl 2 rfl) ?_
        exact END 61 ls _ (pe h) dX0_signsAt_61
      · have h := pf c9 h
        refine lv_iload_n hx hb dX0_signsAt_12 rfl (lv_at hl 3 rfl) ?_
        refine lv_iconst (v := (1 : Int32)) hx hb dX0_signsAt_13 (by decide) ?_
        refine lv_iadd hx hb dX0_signsAt_14 ?_
        refine lv_istore (lv' := [(4, .int (x3_4 + (1 : Int32))), (0, .ref q), (1, .int a0), (2, .int x2_4), (3, .int x3_4)]) hx hb dX0_signsAt_15 hl (by decide) rfl (fun ls hl => ?_)
        have J17 : ∀ (n17 : Nat) (x2_17 : Int32) (x4_17 : Int32), kX0_signsAt_17 n f a0 x3_4 (kX0_signsAt_4 n f a0 n4) n17 x2_17 x4_17 = some r → ∀ (ls : Array Slot), lv_has ls 5 [(0, .ref q), (1, .int a0), (3, .int x3_4), (2, .int x2_17), (4, .int x4_17)] → W p l e (rmk 3 79) s m args below meth cd s.heap [] 0 0 Q (F0 m 17 ls []) := by
          intro n17
          induction n17 with
          | zero =>
            intro x2_17 x4_17 h
            rw [kX0_signsAt_17] at h
            cases h
          | succ n17 ih17 =>
            intro x2_17 x4_17 h  ls hl
            rw [kX0_signsAt_17] at h
            refine lv_iload hx hb dX0_signsAt_17 (lv_at hl 4 rfl) ?_
            refine lv_aload_n hx hb dX0_signsAt_19 rfl (lv_at hl 0 rfl) ?_
            refine va_get (D := G) (ci := 0) (v := .int n) (C := RX0) (T := TX0) (N := 2) hx hb hts (fun w h => wl_in (inX0 w h)) hown hK hP 0 rfl rfl 0 (by decide) (hts _ (wl_in w_23)) (fun _ h9 => h9) rfl dX0_signsAt_20 ?_
            refine lv_icmp_ge (tgt := 54) hx hb dX0_signsAt_23 (by decide) (fun c23 => ?_) (fun c23 => ?_)
            · have h := pt c23 h
              refine lv_iinc (v := x3_4 + (1 : Int32)) (lv' := [(3, .int (x3_4 + (1 : Int32))), (0, .ref q), (1, .int a0), (2, .int x2_17), (4, .int x4_17)]) hx hb dX0_signsAt_54 hl (k := 2) rfl rfl (by decide) rfl (fun ls hl => ?_)
              refine lv_goto (tgt := 4) hx hb dX0_signsAt_57 (by decide) ?_
              exact ih4 _ _ h  _ (lv_sub hl [1, 2, 3, 0] rfl)
            · have h := pf c23 h
              refine lv_iload_n hx hb dX0_signsAt_26 rfl (lv_at hl 3 rfl) ?_
              refine lv_aload_n hx hb dX0_signsAt_27 rfl (lv_at hl 0 rfl) ?_
              refine va_get (D := G) (ci := 0) (v := .ref qc) (C := RX0) (T := TX0) (N := 2) hx hb hts (fun w h => wl_in (inX0 w h)) hown hK hP 0 rfl rfl 1 (by decide) (hts _ (wl_in w_25)) (fun _ h9 => h9) rfl dX0_signsAt_28 ?_
              refine lv_iload_n hx hb dX0_signsAt_31 rfl (lv_at hl 2 rfl) ?_
              obtain ⟨g1, h⟩ := pg h
              refine va_iald hx hb hK hP 1 0 rfl rfl g1 dX0_signsAt_32 ?_
              refine lv_i2l (v := (f x3_4.toNatClampNeg).toInt64) hx hb dX0_signsAt_33 rfl ?_
              refine lv_aload_n hx hb dX0_signsAt_34 rfl (lv_at hl 0 rfl) ?_
              refine va_get (D := G) (ci := 0) (v := .ref qc) (C := RX0) (T := TX0) (N := 2) hx hb hts (fun w h => wl_in (inX0 w h)) hown hK hP 0 rfl rfl 1 (by decide) (hts _ (wl_in w_25)) (fun _ h9 => h9) rfl dX0_signsAt_35 ?_
              refine lv_iload hx hb dX0_signsAt_38 (lv_at hl 4 rfl) ?_
              obtain ⟨g2, h⟩ := pg h
              refine va_iald hx hb hK hP 1 0 rfl rfl g2 dX0_signsAt_40 ?_
              refine lv_i2l (v := (f x4_17.toNatClampNeg).toInt64) hx hb dX0_signsAt_41 rfl ?_
              refine lv_iload_n hx hb dX0_signsAt_42 rfl (lv_at hl 1 rfl) ?_
              obtain ⟨r3, e4, h⟩ := pb h
              refine ro_S (As := [.long ((f x3_4.toNatClampNeg).toInt64), .long ((f x4_17.toNatClampNeg).toInt64), .int a0]) (rest := [.int x2_17]) hF (fun _ h => wl_in h) (cnX2_signAt l e4) syX2_signAt w_159 ⟨Nat.le_of_ble_eq_true rfl, Nat.le_of_ble_eq_true rfl⟩ mv0 trivial rfl hl.1 rfl (Nat.le_of_ble_eq_true rfl) dX0_signsAt_43 ⟨Nat.zero_le _, Nat.zero_le _⟩ ?_
              refine lv_imul hx hb dX0_signsAt_46 ?_
              refine lv_istore_n (lv' := [(2, .int (x2_17 * r3)), (0, .ref q), (1, .int a0), (3, .int x3_4), (4, .int x4_17)]) hx hb dX0_signsAt_47 rfl hl (by decide) rfl (fun ls hl => ?_)
              refine lv_iinc (v := x4_17 + (1 : Int32)) (lv' := [(4, .int (x4_17 + (1 : Int32))), (2, .int (x2_17 * r3)), (0, .ref q), (1, .int a0), (3, .int x3_4)]) hx hb dX0_signsAt_48 hl (k := 4) rfl rfl (by decide) rfl (fun ls hl => ?_)
              refine lv_goto (tgt := 17) hx hb dX0_signsAt_51 (by decide) ?_
              exact ih17 _ _ h  _ (lv_sub hl [2, 3, 4, 1, 0] rfl)
        exact J17 _ _ _ h  _ (lv_sub hl [1, 2, 4, 3, 0] rfl)
  exact J4 _ _ _ h  _ (lv_sub hl [2, 3, 1, 0] rfl)

theorem syX0_goesAt : Vy yX0_goesAt cX0_goesAt 3 (some .boolean) 1 := ⟨w_167, ⟨w_165, w_166⟩, w_2, by decide +kernel⟩
set_option maxHeartbeats 4000000 in
set_option maxRecDepth 100000 in
theorem cnX0_goesAt (l : Launch) (A : Nat → Prop) (G : va_G) (cI cF : ClassId) (tA tT : Nat) (q qc : Nat) (n : Int32) (f : Nat → Int32) {a0 : Int32} {r : Int32} (h : fX0_goesAt n f a0 = some r) : Ro l yX0_goesAt cX0_goesAt 3 (some .boolean) 4 103 [.ref q, .int a0] (fB A G cI cF tA tT q qc n f) (.int r) := by
  refine ro_z (plainFor_of_name (by decide)) (Nat.le_of_ble_eq_true rfl) ?_
  intro p e s m args below meth cd Q ls hF hB hl END
  have hF : CallFix p m cd cX0_goesAt 3 s args (wl yX0_goesAt cX0_goesAt 3 (some .boolean)) RX0 := hF
  obtain ⟨hx, hb, hml, hown, hts⟩ := id hF
  have hl : lv_has ls 3 [(0, .ref q), (1, .int a0)] := hl
  obtain ⟨hE, hP⟩ := hB
  obtain ⟨hK, ⟨hZ, hT⟩, ⟨hZ2, hT2⟩⟩ := id hE
  have hS : va_S A s.heap s.heap [] := va_S.rf
  rw [fX0_goesAt] at h
  refine lv_iload_n hx hb dX0_goesAt_0 rfl (lv_at hl 1 rfl) ?_
  refine lv_if_ne (tgt := 27) hx hb dX0_goesAt_1 (by decide) (fun c1 => ?_) (fun c1 => ?_)
  · have h := pf c1 h
    refine lv_aload_n hx hb dX0_goesAt_27 rfl (lv_at hl 0 rfl) ?_
    refine va_get (D := G) (ci := 0) (v := .int n) (C := RX0) (T := TX0) (N := 2) hx hb hts (fun w h => wl_in (inX0 w h)) hown hK hP 0 rfl rfl 0 (by decide) (hts _ (wl_in w_23)) (fun _ h9 => h9) rfl dX0_goesAt_28 ?_
    by_cases c31_1 : n = (1 : Int32)
    · have h := pt c31_1 h
      refine lv_tableIn (tgt := 60) hx hb dX0_goesAt_31 (by rw [c31_1]; decide) (by rw [c31_1]; decide) (by rw [c31_1]; rfl) (by decide) ?_
      refine lv_iconst (v := (0 : Int32)) hx hb dX0_goesAt_60 (by decide) ?_
      exact END 61 ls _ (pe h) (by rfl) dX0_goesAt_61
    have h := pf c31_1 h
    by_cases c31_2 : n = (2 : Int32)
    · have h := pt c31_2 h
      refine lv_tableIn (tgt := 62) hx hb dX0_goesAt_31 (by rw [c31_2]; decide) (by rw [c31_2]; decide) (by rw [c31_2]; rfl) (by decide) ?_
      refine lv_aload_n hx hb dX0_goesAt_62 rfl (lv_at hl 0 rfl) ?_
      obtain ⟨r1, e2, h⟩ := pb h
      refine ro_V (As := []) (rest := []) hF (fun _ h => wl_in h) (cnX0_product l A G cI cF tA tT q qc n f e2) syX0_product w_149 ⟨Nat.le_of_ble_eq_true rfl, Nat.le_of_ble_eq_true rfl⟩ fB_mv ⟨hE, hP⟩ (va_recv hK hP (ci := 0) (q0 := 0) rfl rfl) rfl hl.1 rfl (Nat.le_of_ble_eq_true rfl) dX0_goesAt_63 ⟨Nat.zero_le _, Nat.zero_le _⟩ ?_
      refine lv_lneg hx hb dX0_goesAt_66 ?_
      refine lv_iload_n hx hb dX0_goesAt_67 rfl (lv_at hl 1 rfl) ?_
      obtain ⟨r3, e4, h⟩ := pb h
      refine ro_S (As := [.long (-r1), .int a0]) (rest := []) hF (fun _ h => wl_in h) (cnX2_isSquareAtPrime l e4) syX2_isSquareAtPrime w_172 ⟨Nat.le_of_ble_eq_true rfl, Nat.le_of_ble_eq_true rfl⟩ mv0 trivial rfl hl.1 rfl (Nat.le_of_ble_eq_true rfl) dX0_goesAt_68 ⟨Nat.zero_le _, Nat.zero_le _⟩ ?_
      obtain ⟨g5, h⟩ := pg h
      exact END 71 ls _ (pe h) (nbool g5) dX0_goesAt_71
    have h := pf c31_2 h
    by_cases c31_3 : n = (3 : Int32)
    · have h := pt c31_3 h
      refine lv_tableIn (tgt := 72) hx hb dX0_goesAt_31 (by rw [c31_3]; decide) (by rw [c31_3]; decide) (by rw [c31_3]; rfl) (by decide) ?_
      refine lv_aload_n hx hb dX0_goesAt_72 rfl (lv_at hl 0 rfl) ?_
      refine lv_iload_n hx hb dX0_goesAt_73 rfl (lv_at hl 1 rfl) ?_
      obtain ⟨r6, e7, h⟩ := pb h
      refine ro_V (As := [.int a0]) (rest := []) hF (fun _ h => wl_in h) (cnX0_signsAt l A G cI cF tA tT q qc n f e7) syX0_signsAt w_175 ⟨Nat.le_of_ble_eq_true rfl, Nat.le_of_ble_eq_true rfl⟩ fB_mv ⟨hE, hP⟩ (va_recv hK hP (ci := 0) (q0 := 0) rfl rfl) rfl hl.1 rfl (Nat.le_of_ble_eq_true rfl) dX0_goesAt_74 ⟨Nat.zero_le _, Nat.zero_le _⟩ ?_
      refine lv_ldc2 (v := (-1 : Int64)) hx hb hown (hts _ (wl_in w_176)) dX0_goesAt_77 ?_
      refine lv_aload_n hx hb dX0_goesAt_80 rfl (lv_at hl 0 rfl) ?_
      obtain ⟨r8, e9, h⟩ := pb h
      refine ro_V (As := []) (rest := [.long (-1 : Int64), .int r6]) hF (fun _ h => wl_in h) (cnX0_product l A G cI cF tA tT q qc n f e9) syX0_product w_149 ⟨Nat.le_of_ble_eq_true rfl, Nat.le_of_ble_eq_true rfl⟩ fB_mv ⟨hE, hP⟩ (va_recv hK hP (ci := 0) (q0 := 0) rfl rfl) rfl hl.1 rfl (Nat.le_of_ble_eq_true rfl) dX0_goesAt_81 ⟨Nat.zero_le _, Nat.zero_le _⟩ ?_
      refine lv_lneg hx hb dX0_goesAt_84 ?_
      refine lv_iload_n hx hb dX0_goesAt_85 rfl (lv_at hl 1 rfl) ?_
      obtain ⟨r10, e11, h⟩ := pb h
      refine ro_S (As := [.long (-1 : Int64), .long (-r8), .int a0]) (rest := [.int r6]) hF (fun _ h => wl_in h) (cnX2_signAt l e11) syX2_signAt w_159 ⟨Nat.le_of_ble_eq_true rfl, Nat.le_of_ble_eq_true rfl⟩ mv0 trivial rfl hl.1 rfl (Nat.le_of_ble_eq_true rfl) dX0_goesAt_86 ⟨Nat.zero_le _, Nat.zero_le _⟩ ?_
      refine lv_icmp_ne (tgt := 96) hx hb dX0_goesAt_89 (by decide) (fun c89 => ?_) (fun c89 => ?_)
      · have h := pf c89 h
        refine lv_iconst (v := (0 : Int32)) hx hb dX0_goesAt_96 (by decide) ?_
        exact END 97 ls _ (pe h) (by rfl) dX0_goesAt_97
      · have h := pt c89 h
        refine lv_iconst (v := (1 : Int32)) hx hb dX0_goesAt_92 (by decide) ?_
        refine lv_goto (tgt := 97) hx hb dX0_goesAt_93 (by decide) ?_
        exact END 97 ls _ (pe h) (by rfl) dX0_goesAt_97
    have h := pf c31_3 h
    by_cases c31_4 : n = (4 : Int32)
    · have h := pt c31_4 h
      refine lv_tableIn (tgt := 98) hx hb dX0_goesAt_31 (by rw [c31_4]; decide) (by rw [c31_4]; decide) (by rw [c31_4]; rfl) (by decide) ?_
      refine lv_aload_n hx hb dX0_goesAt_98 rfl (lv_at hl 0 rfl) ?_
      obtain ⟨r12, e13, h⟩ := pb h
      refine ro_V (As := []) (rest := []) hF (fun _ h => wl_in h) (cnX0_product l A G cI cF tA tT q qc n f e13) syX0_product w_149 ⟨Nat.le_of_ble_eq_true rfl, Nat.le_of_ble_eq_true rfl⟩ fB_mv ⟨hE, hP⟩ (va_recv hK hP (ci := 0) (q0 := 0) rfl rfl) rfl hl.1 rfl (Nat.le_of_ble_eq_true rfl) dX0_goesAt_99 ⟨Nat.zero_le _, Nat.zero_le _⟩ ?_
      refine lv_iload_n hx hb dX0_goesAt_102 rfl (lv_at hl 1 rfl) ?_
      obtain ⟨r14, e15, h⟩ := pb h
      refine ro_S (As := [.long r12, .int a0]) (rest := []) hF (fun _ h => wl_in h) (cnX2_isSquareAtPrime l e15) syX2_isSquareAtPrime w_172 ⟨Nat.le_of_ble_eq_true rfl, Nat.le_of_ble_eq_true rfl⟩ mv0 trivial rfl hl.1 rfl (Nat.le_of_ble_eq_true rfl) dX0_goesAt_103 ⟨Nat.zero_le _, Nat.zero_le _⟩ ?_
      refine lv_if_eq (tgt := 127) hx hb dX0_goesAt_106 (by decide) (fun c106 => ?_) (fun c106 => ?_)
      · have h := pt c106 h
        refine lv_iconst (v := (1 : Int32)) hx hb dX0_goesAt_127 (by decide) ?_
        refine lv_goto (tgt := 132) hx hb dX0_goesAt_128 (by decide) ?_
        exact END 132 ls _ (pe h) (by rfl) dX0_goesAt_132
      · have h := pf c106 h
        refine lv_aload_n hx hb dX0_goesAt_109 rfl (lv_at hl 0 rfl) ?_
        refine lv_iload_n hx hb dX0_goesAt_110 rfl (lv_at hl 1 rfl) ?_
        obtain ⟨r16, e17, h⟩ := pb h
        refine ro_V (As := [.int a0]) (rest := []) hF (fun _ h => wl_in h) (cnX0_signsAt l A G cI cF tA tT q qc n f e17) syX0_signsAt w_175 ⟨Nat.le_of_ble_eq_true rfl, Nat.le_of_ble_eq_true rfl⟩ fB_mv ⟨hE, hP⟩ (va_recv hK hP (ci := 0) (q0 := 0) rfl rfl) rfl hl.1 rfl (Nat.le_of_ble_eq_true rfl) dX0_goesAt_111 ⟨Nat.zero_le _, Nat.zero_le _⟩ ?_
        refine lv_ldc2 (v := (-1 : Int64)) hx hb hown (hts _ (wl_in w_176)) dX0_goesAt_114 ?_
        refine lv_ldc2 (v := (-1 : Int64)) hx hb hown (hts _ (wl_in w_176)) dX0_goesAt_117 ?_
        refine lv_iload_n hx hb dX0_goesAt_120 rfl (lv_at hl 1 rfl) ?_
        obtain ⟨r18, e19, h⟩ := pb h
        refine ro_S (As := [.long (-1 : Int64), .long (-1 : Int64), .int a0]) (rest := [.int r16]) hF (fun _ h => wl_in h) (cnX2_signAt l e19) syX2_signAt w_159 ⟨Nat.le_of_ble_eq_true rfl, Nat.le_of_ble_eq_true rfl⟩ mv0 trivial rfl hl.1 rfl (Nat.le_of_ble_eq_true rfl) dX0_goesAt_121 ⟨Nat.zero_le _, Nat.zero_le _⟩ ?_
        refine lv_icmp_ne (tgt := 131) hx hb dX0_goesAt_124 (by decide) (fun c124 => ?_) (fun c124 => ?_)
        · have h := pf c124 h
          refine lv_iconst (v := (0 : Int32)) hx hb dX0_goesAt_131 (by decide) ?_
          exact END 132 ls _ (pe h) (by rfl) dX0_goesAt_132
        · have h := pt c124 h
          refine lv_iconst (v := (1 : Int32)) hx hb dX0_goesAt_127 (by decide) ?_
          refine lv_goto (tgt := 132) hx hb dX0_goesAt_128 (by decide) ?_
          exact END 132 ls _ (pe h) (by rfl) dX0_goesAt_132
    have h := pf c31_4 h
    refine lv_tableOut (tgt := 133) hx hb dX0_goesAt_31 (by have q1 := sw_ne c31_1; have q2 := sw_ne c31_2; have q3 := sw_ne c31_3; have q4 := sw_ne c31_4; simp only [show ((1 : Int32)).toInt = 1 from rfl, show ((2 : Int32)).toInt = 2 from rfl, show ((3 : Int32)).toInt = 3 from rfl, show ((4 : Int32)).toInt = 4 from rfl] at *; omega) (by decide) ?_
    refine lv_iconst (v := (1 : Int32)) hx hb dX0_goesAt_133 (by decide) ?_
    exact END 134 ls _ (pe h) (by rfl) dX0_goesAt_134
  · have h := pt c1 h
    refine lv_aload_n hx hb dX0_goesAt_4 rfl (lv_at hl 0 rfl) ?_
    obtain ⟨r20, e21, h⟩ := pb h
    refine ro_V (As := []) (rest := []) hF (fun _ h => wl_in h) (cnX0_countAbove l A G cI cF tA tT q qc n f e21) syX0_countAbove w_168 ⟨Nat.le_of_ble_eq_true rfl, Nat.le_of_ble_eq_true rfl⟩ fB_mv ⟨hE, hP⟩ (va_recv hK hP (ci := 0) (q0 := 0) rfl rfl) rfl hl.1 rfl (Nat.le_of_ble_eq_true rfl) dX0_goesAt_5 ⟨Nat.zero_le _, Nat.zero_le _⟩ ?_
    refine lv_istore_n (lv' := [(2, .int r20), (0, .ref q), (1, .int a0)]) hx hb dX0_goesAt_8 rfl hl (by decide) rfl (fun ls hl => ?_)
    refine lv_iload_n hx hb dX0_goesAt_9 rfl (lv_at hl 0 rfl) ?_
    refine lv_if_le (tgt := 25) hx hb dX0_goesAt_10 (by decide) (fun c10 => ?_) (fun c10 => ?_)
    · have h := pt c10 h
      refine lv_iconst (v := (0 : Int32)) hx hb dX0_goesAt_25 (by decide) ?_
      exact END 26 ls _ (pe h) (by rfl) dX0_goesAt_26
    · have h := pf c10 h
      refine lv_iload_n hx hb dX0_goesAt_13 rfl (lv_at hl 0 rfl) ?_
      refine lv_aload_n hx hb dX0_goesAt_14 rfl (lv_at hl 1 rfl) ?_
      refine va_get (D := G) (ci := 0) (v := .int n) (C := RX0) (T := TX0) (N := 2) hx hb hts (fun w h => wl_in (inX0 w h)) hown hK hP 0 rfl rfl 0 (by decide) (hts _ (wl_in w_23)) (fun _ h9 => h9) rfl dX0_goesAt_15 ?_
      refine lv_icmp_ge (tgt := 25) hx hb dX0_goesAt_18 (by decide) (fun c18 => ?_) (fun c18 => ?_)
      · have h := pt c18 h
        refine lv_iconst (v := (0 : Int32)) hx hb dX0_goesAt_25 (by decide) ?_
        exact END 26 ls _ (pe h) (by rfl) dX0_goesAt_26
      · have h := pf c18 h
        refine lv_iconst (v := (1 : Int32)) hx hb dX0_goesAt_21 (by decide) ?_
        refine lv_goto (tgt := 26) hx hb dX0_goesAt_22 (by decide) ?_
        exact END 26 ls _ (pe h) (by rfl) dX0_goesAt_26

theorem syX0_mayBar : Vy yX0_mayBar cX0_mayBar 3 (some .boolean) 1 := ⟨w_188, ⟨w_187, w_s0⟩, w_2, by decide +kernel⟩
set_option maxHeartbeats 4000000 in
set_option maxRecDepth 100000 in
theorem cnX0_mayBar (l : Launch) (A : Nat → Prop) (G : va_G) (cI cF : ClassId) (tA tT : Nat) (q qc : Nat) (n : Int32) (f : Nat → Int32) {a0 : Int32} {r : Int32} (h : fX0_mayBar n f a0 = some r) : Ro l yX0_mayBar cX0_mayBar 3 (some .boolean) 0 0 [.ref q, .int a0] (fB A G cI cF tA tT q qc n f) (.int r) := by
  refine ro_z (plainFor_of_name (by decide)) (Nat.le_of_ble_eq_true rfl) ?_
  intro p e s m args below meth cd Q ls hF hB hl END
  have hF : CallFix p m cd cX0_mayBar 3 s args (wl yX0_mayBar cX0_mayBar 3 (some .boolean)) RX0 := hF
  obtain ⟨hx, hb, hml, hown, hts⟩ := id hF
  have hl : lv_has ls 3 [(0, .ref q), (1, .int a0)] := hl
  obtain ⟨hE, hP⟩ := hB
  obtain ⟨hK, ⟨hZ, hT⟩, ⟨hZ2, hT2⟩⟩ := id hE
  have hS : va_S A s.heap s.heap [] := va_S.rf
  rw [fX0_mayBar] at h
  refine lv_iload_n hx hb dX0_mayBar_0 rfl (lv_at hl 1 rfl) ?_
  refine lv_if_eq (tgt := 9) hx hb dX0_mayBar_1 (by decide) (fun c1 => ?_) (fun c1 => ?_)
  · have h := pt c1 h
    refine lv_iconst (v := (1 : Int32)) hx hb dX0_mayBar_9 (by decide) ?_
    exact END 10 ls _ (pe h) (by rfl) dX0_mayBar_10
  · have h := pf c1 h
    refine lv_iload_n hx hb dX0_mayBar_4 rfl (lv_at hl 1 rfl) ?_
    refine lv_iconst (v := (2 : Int32)) hx hb dX0_mayBar_5 (by decide) ?_
    refine lv_icmp_ne (tgt := 11) hx hb dX0_mayBar_6 (by decide) (fun c6 => ?_) (fun c6 => ?_)
    · have h := pf c6 h
      refine lv_iconst (v := (0 : Int32)) hx hb dX0_mayBar_11 (by decide) ?_
      refine lv_istore_n (lv' := [(2, .int (0 : Int32)), (0, .ref q), (1, .int a0)]) hx hb dX0_mayBar_12 rfl hl (by decide) rfl (fun ls hl => ?_)
      have J13 : ∀ (n13 : Nat) (x2_13 : Int32), kX0_mayBar_13 n f a0 n13 x2_13 = some r → ∀ (ls : Array Slot), lv_has ls 3 [(0, .ref q), (1, .int a0), (2, .int x2_13)] → W p l e (rmk 0 0) s m args below meth cd s.heap [] 0 0 Q (F0 m 13 ls []) := by
        intro n13
        induction n13 with
        | zero =>
          intro x2_13 h
          rw [kX0_mayBar_13] at h
          cases h
        | succ n13 ih13 =>
          intro x2_13 h  ls hl
          rw [kX0_mayBar_13] at h
          refine lv_iload_n hx hb dX0_mayBar_13 rfl (lv_at hl 2 rfl) ?_
          refine lv_aload_n hx hb dX0_mayBar_14 rfl (lv_at hl 0 rfl) ?_
          refine va_get (D := G) (ci := 0) (v := .int n) (C := RX0) (T := TX0) (N := 2) hx hb hts (fun w h => wl_in (inX0 w h)) hown hK hP 0 rfl rfl 0 (by decide) (hts _ (wl_in w_23)) (fun _ h9 => h9) rfl dX0_mayBar_15 ?_
          refine lv_icmp_ge (tgt := 40) hx hb dX0_mayBar_18 (by decide) (fun c18 => ?_) (fun c18 => ?_)
          · have h := pt c18 h
            refine lv_iconst (v := (0 : Int32)) hx hb dX0_mayBar_40 (by decide) ?_
            exact END 41 ls _ (pe h) (by rfl) dX0_mayBar_41
          · have h := pf c18 h
            refine lv_aload_n hx hb dX0_mayBar_21 rfl (lv_at hl 0 rfl) ?_
            refine va_get (D := G) (ci := 0) (v := .ref qc) (C := RX0) (T := TX0) (N := 2) hx hb hts (fun w h => wl_in (inX0 w h)) hown hK hP 0 rfl rfl 1 (by decide) (hts _ (wl_in w_25)) (fun _ h9 => h9) rfl dX0_mayBar_22 ?_
            refine lv_iload_n hx hb dX0_mayBar_25 rfl (lv_at hl 2 rfl) ?_
            obtain ⟨g1, h⟩ := pg h
            refine va_iald hx hb hK hP 1 0 rfl rfl g1 dX0_mayBar_26 ?_
            refine lv_iload_n hx hb dX0_mayBar_27 rfl (lv_at hl 1 rfl) ?_
            obtain ⟨g2, h⟩ := pg h
            refine lq_irem hx hb dX0_mayBar_28 g2 ?_
            refine lv_if_ne (tgt := 34) hx hb dX0_mayBar_29 (by decide) (fun c29 => ?_) (fun c29 => ?_)
            · have h := pf c29 h
              refine lv_iinc (v := x2_13 + (1 : Int32)) (lv' := [(2, .int (x2_13 + (1 : Int32))), (0, .ref q), (1, .int a0)]) hx hb dX0_mayBar_34 hl (k := 2) rfl rfl (by decide) rfl (fun ls hl => ?_)
              refine lv_goto (tgt := 13) hx hb dX0_mayBar_37 (by decide) ?_
              exact ih13 _ h  _ (lv_sub hl [1, 2, 0] rfl)
            · have h := pt c29 h
              refine lv_iconst (v := (1 : Int32)) hx hb dX0_mayBar_32 (by decide) ?_
              exact END 33 ls _ (pe h) (by rfl) dX0_mayBar_33
      exact J13 _ _ h  _ (lv_sub hl [1, 2, 0] rfl)
    · have h := pt c6 h
      refine lv_iconst (v := (1 : Int32)) hx hb dX0_mayBar_9 (by decide) ?_
      exact END 10 ls _ (pe h) (by rfl) dX0_mayBar_10

theorem syX0_countBars : Vy yX0_countBars cX0_countBars 6 (some .int) 0 := ⟨w_184, ⟨w_182, w_183⟩, w_2, by decide +kernel⟩
set_option maxHeartbeats 4000000 in
set_option maxRecDepth 100000 in
theorem cnX0_countBars (l : Launch) (A : Nat → Prop) (G : va_G) (cI cF : ClassId) (tA tT : Nat) (q qc : Nat) (n : Int32) (f : Nat → Int32) {r : Int32} (h : fX0_countBars n f = some r) : Ro l yX0_countBars cX0_countBars 6 (some .int) 5 125 [.ref q] (fB A G cI cF tA tT q qc n f) (.int r) := by
  refine ro_i (plainFor_of_name (by decide)) (Nat.le_of_ble_eq_true rfl) ?_
  intro p e s m args below meth cd Q ls hF hB hl END
  have hF : CallFix p m cd cX0_countBars 6 s args (wl yX0_countBars cX0_countBars 6 (some .int)) RX0 := hF
  obtain ⟨hx, hb, hml, hown, hts⟩ := id hF
  have hl : lv_has ls 6 [(0, .ref q)] := hl
  obtain ⟨hE, hP⟩ := hB
  obtain ⟨hK, ⟨hZ, hT⟩, ⟨hZ2, hT2⟩⟩ := id hE
  have hS : va_S A s.heap s.heap [] := va_S.rf
  rw [fX0_countBars] at h
  refine lv_iconst (v := (0 : Int32)) hx hb dX0_countBars_0 (by decide) ?_
  refine lv_istore_n (lv' := [(1, .int (0 : Int32)), (0, .ref q)]) hx hb dX0_countBars_1 rfl hl (by decide) rfl (fun ls hl => ?_)
  refine va_gets hx hb hZ hS hown (hts _ (wl_in w_150)) (fun _ h9 => h9) dX0_countBars_2 ?_
  refine lv_astore_n (lv' := [(2, .ref tA), (1, .int (0 : Int32)), (0, .ref q)]) hx hb dX0_countBars_5 rfl hl (by decide) rfl (fun ls hl => ?_)
  refine lv_aload_n hx hb dX0_countBars_6 rfl (lv_at hl 0 rfl) ?_
  refine va_tlen (v := (79 : Int32)) hx hb hT hS rfl dX0_countBars_7 ?_
  refine lv_istore_n (lv' := [(3, .int (79 : Int32)), (2, .ref tA), (1, .int (0 : Int32)), (0, .ref q)]) hx hb dX0_countBars_8 rfl hl (by decide) rfl (fun ls hl => ?_)
  refine lv_iconst (v := (0 : Int32)) hx hb dX0_countBars_9 (by decide) ?_
  refine lv_istore (lv' := [(4, .int (0 : Int32)), (3, .int (79 : Int32)), (2, .ref tA), (1, .int (0 : Int32)), (0, .ref q)]) hx hb dX0_countBars_10 hl (by decide) rfl (fun ls hl => ?_)
  have J12 : ∀ (n12 : Nat) (x1_12 : Int32) (x4_12 : Int32), kX0_countBars_12 n f n12 x1_12 x4_12 = some r → ∀ (ls : Array Slot), lv_has ls 6 [(3, .int (79 : Int32)), (2, .ref tA), (0, .ref q), (1, .int x1_12), (4, .int x4_12)] → W p l e (rmk 5 125) s m args below meth cd s.heap [] 0 0 Q (F0 m 12 ls []) := by
    intro n12
    induction n12 with
    | zero =>
      intro x1_12 x4_12 h
      rw [kX0_countBars_12] at h
      cases h
    | succ n12 ih12 =>
      intro x1_12 x4_12 h  ls hl
      rw [kX0_countBars_12] at h
      refine lv_iload hx hb dX0_countBars_12 (lv_at hl 4 rfl) ?_
      refine lv_iload_n hx hb dX0_countBars_14 rfl (lv_at hl 0 rfl) ?_
      refine lv_icmp_ge (tgt := 51) hx hb dX0_countBars_15 (by decide) (fun c15 => ?_) (fun c15 => ?_)
      · have h := pt c15 h
        refine lv_iload_n hx hb dX0_countBars_51 rfl (lv_at hl 3 rfl) ?_
        exact END 52 ls _ (pe h) dX0_countBars_52
      · have h := pf c15 h
        refine lv_aload_n hx hb dX0_countBars_18 rfl (lv_at hl 1 rfl) ?_
        refine lv_iload hx hb dX0_countBars_19 (lv_at hl 4 rfl) ?_
        obtain ⟨g1, h⟩ := pg h
        refine va_ti (v := .int (allv x4_12.toNatClampNeg)) hx hb hT hS g1 rfl dX0_countBars_21 ?_
        refine lv_istore (lv' := [(5, .int (allv x4_12.toNatClampNeg)), (3, .int (79 : Int32)), (2, .ref tA), (0, .ref q), (1, .int x1_12), (4, .int x4_12)]) hx hb dX0_countBars_22 hl (by decide) rfl (fun ls hl => ?_)
        refine lv_aload_n hx hb dX0_countBars_24 rfl (lv_at hl 3 rfl) ?_
        refine lv_iload hx hb dX0_countBars_25 (lv_at hl 0 rfl) ?_
        obtain ⟨r2, e3, h⟩ := pb h
        refine ro_V (As := [.int (allv x4_12.toNatClampNeg)]) (rest := []) hF (fun _ h => wl_in h) (cnX0_mayBar l A G cI cF tA tT q qc n f e3) syX0_mayBar w_185 ⟨Nat.le_of_ble_eq_true rfl, Nat.le_of_ble_eq_true rfl⟩ fB_mv ⟨hE, hP⟩ (va_recv hK hP (ci := 0) (q0 := 0) rfl rfl) rfl hl.1 rfl (Nat.le_of_ble_eq_true rfl) dX0_countBars_27 ⟨Nat.zero_le _, Nat.zero_le _⟩ ?_
        refine lv_if_eq (tgt := 45) hx hb dX0_countBars_30 (by decide) (fun c30 => ?_) (fun c30 => ?_)
        · have h := pt c30 h
          refine lv_iinc (v := x4_12 + (1 : Int32)) (lv' := [(4, .int (x4_12 + (1 : Int32))), (5, .int (allv x4_12.toNatClampNeg)), (3, .int (79 : Int32)), (2, .ref tA), (0, .ref q), (1, .int x1_12)]) hx hb dX0_countBars_45 hl (k := 5) rfl rfl (by decide) rfl (fun ls hl => ?_)
          refine lv_goto (tgt := 12) hx hb dX0_countBars_48 (by decide) ?_
          exact ih12 _ _ h  _ (lv_sub hl [2, 3, 4, 5, 0] rfl)
        · have h := pf c30 h
          refine lv_aload_n hx hb dX0_countBars_33 rfl (lv_at hl 3 rfl) ?_
          refine lv_iload hx hb dX0_countBars_34 (lv_at hl 0 rfl) ?_
          obtain ⟨r4, e5, h⟩ := pb h
          refine ro_V (As := [.int (allv x4_12.toNatClampNeg)]) (rest := []) hF (fun _ h => wl_in h) (cnX0_goesAt l A G cI cF tA tT q qc n f e5) syX0_goesAt w_189 ⟨Nat.le_of_ble_eq_true rfl, Nat.le_of_ble_eq_true rfl⟩ fB_mv ⟨hE, hP⟩ (va_recv hK hP (ci := 0) (q0 := 0) rfl rfl) rfl hl.1 rfl (Nat.le_of_ble_eq_true rfl) dX0_countBars_36 ⟨Nat.zero_le _, Nat.zero_le _⟩ ?_
          refine lv_if_ne (tgt := 45) hx hb dX0_countBars_39 (by decide) (fun c39 => ?_) (fun c39 => ?_)
          · have h := pf c39 h
            refine lv_iinc (v := x4_12 + (1 : Int32)) (lv' := [(4, .int (x4_12 + (1 : Int32))), (5, .int (allv x4_12.toNatClampNeg)), (3, .int (79 : Int32)), (2, .ref tA), (0, .ref q), (1, .int x1_12)]) hx hb dX0_countBars_45 hl (k := 5) rfl rfl (by decide) rfl (fun ls hl => ?_)
            refine lv_goto (tgt := 12) hx hb dX0_countBars_48 (by decide) ?_
            exact ih12 _ _ h  _ (lv_sub hl [2, 3, 4, 5, 0] rfl)
          · have h := pt c39 h
            refine lv_iinc (v := x1_12 + (1 : Int32)) (lv' := [(1, .int (x1_12 + (1 : Int32))), (5, .int (allv x4_12.toNatClampNeg)), (3, .int (79 : Int32)), (2, .ref tA), (0, .ref q), (4, .int x4_12)]) hx hb dX0_countBars_42 hl (k := 4) rfl rfl (by decide) rfl (fun ls hl => ?_)
            refine lv_iinc (v := x4_12 + (1 : Int32)) (lv' := [(4, .int (x4_12 + (1 : Int32))), (1, .int (x1_12 + (1 : Int32))), (5, .int (allv x4_12.toNatClampNeg)), (3, .int (79 : Int32)), (2, .ref tA), (0, .ref q)]) hx hb dX0_countBars_45 hl (k := 5) rfl rfl (by decide) rfl (fun ls hl => ?_)
            refine lv_goto (tgt := 12) hx hb dX0_countBars_48 (by decide) ?_
            exact ih12 _ _ h  _ (lv_sub hl [3, 4, 5, 1, 0] rfl)
  exact J12 _ _ _ h  _ (lv_sub hl [1, 2, 4, 3, 0] rfl)

theorem syX0_findBar : Vy yX0_findBar cX0_findBar 7 (some .int) 1 := ⟨w_201, ⟨w_199, w_200⟩, w_2, by decide +kernel⟩
set_option maxHeartbeats 4000000 in
set_option maxRecDepth 100000 in
theorem cnX0_findBar (l : Launch) (A : Nat → Prop) (G : va_G) (cI cF : ClassId) (tA tT : Nat) (q qc : Nat) (n : Int32) (f : Nat → Int32) {a0 : Int32} {r : Int32} (h : fX0_findBar n f a0 = some r) : Ro l yX0_findBar cX0_findBar 7 (some .int) 5 125 [.ref q, .int a0] (fB A G cI cF tA tT q qc n f) (.int r) := by
  refine ro_i (plainFor_of_name (by decide)) (Nat.le_of_ble_eq_true rfl) ?_
  intro p e s m args below meth cd Q ls hF hB hl END
  have hF : CallFix p m cd cX0_findBar 7 s args (wl yX0_findBar cX0_findBar 7 (some .int)) RX0 := hF
  obtain ⟨hx, hb, hml, hown, hts⟩ := id hF
  have hl : lv_has ls 7 [(0, .ref q), (1, .int a0)] := hl
  obtain ⟨hE, hP⟩ := hB
  obtain ⟨hK, ⟨hZ, hT⟩, ⟨hZ2, hT2⟩⟩ := id hE
  have hS : va_S A s.heap s.heap [] := va_S.rf
  rw [fX0_findBar] at h
  refine lv_iconst (v := (0 : Int32)) hx hb dX0_findBar_0 (by decide) ?_
  refine lv_istore_n (lv' := [(2, .int (0 : Int32)), (0, .ref q), (1, .int a0)]) hx hb dX0_findBar_1 rfl hl (by decide) rfl (fun ls hl => ?_)
  refine va_gets hx hb hZ hS hown (hts _ (wl_in w_150)) (fun _ h9 => h9) dX0_findBar_2 ?_
  refine lv_astore_n (lv' := [(3, .ref tA), (2, .int (0 : Int32)), (0, .ref q), (1, .int a0)]) hx hb dX0_findBar_5 rfl hl (by decide) rfl (fun ls hl => ?_)
  refine lv_aload_n hx hb dX0_findBar_6 rfl (lv_at hl 0 rfl) ?_
  refine va_tlen (v := (79 : Int32)) hx hb hT hS rfl dX0_findBar_7 ?_
  refine lv_istore (lv' := [(4, .int (79 : Int32)), (3, .ref tA), (2, .int (0 : Int32)), (0, .ref q), (1, .int a0)]) hx hb dX0_findBar_8 hl (by decide) rfl (fun ls hl => ?_)
  refine lv_iconst (v := (0 : Int32)) hx hb dX0_findBar_10 (by decide) ?_
  refine lv_istore (lv' := [(5, .int (0 : Int32)), (4, .int (79 : Int32)), (3, .ref tA), (2, .int (0 : Int32)), (0, .ref q), (1, .int a0)]) hx hb dX0_findBar_11 hl (by decide) rfl (fun ls hl => ?_)
  have J13 : ∀ (n13 : Nat) (x2_13 : Int32) (x5_13 : Int32), kX0_findBar_13 n f a0 n13 x2_13 x5_13 = some r → ∀ (ls : Array Slot), lv_has ls 7 [(4, .int (79 : Int32)), (3, .ref tA), (0, .ref q), (1, .int a0), (2, .int x2_13), (5, .int x5_13)] → W p l e (rmk 5 125) s m args below meth cd s.heap [] 0 0 Q (F0 m 13 ls []) := by
    intro n13
    induction n13 with
    | zero =>
      intro x2_13 x5_13 h
      rw [kX0_findBar_13] at h
      cases h
    | succ n13 ih13 =>
      intro x2_13 x5_13 h  ls hl
      rw [kX0_findBar_13] at h
      refine lv_iload hx hb dX0_findBar_13 (lv_at hl 5 rfl) ?_
      refine lv_iload hx hb dX0_findBar_15 (lv_at hl 0 rfl) ?_
      refine lv_icmp_ge (tgt := 61) hx hb dX0_findBar_17 (by decide) (fun c17 => ?_) (fun c17 => ?_)
      · have h := pt c17 h
        refine lv_iconst (v := (-1 : Int32)) hx hb dX0_findBar_61 (by decide) ?_
        exact END 62 ls _ (pe h) dX0_findBar_62
      · have h := pf c17 h
        refine lv_aload_n hx hb dX0_findBar_20 rfl (lv_at hl 1 rfl) ?_
        refine lv_iload hx hb dX0_findBar_21 (lv_at hl 5 rfl) ?_
        obtain ⟨g1, h⟩ := pg h
        refine va_ti (v := .int (allv x5_13.toNatClampNeg)) hx hb hT hS g1 rfl dX0_findBar_23 ?_
        refine lv_istore (lv' := [(6, .int (allv x5_13.toNatClampNeg)), (4, .int (79 : Int32)), (3, .ref tA), (0, .ref q), (1, .int a0), (2, .int x2_13), (5, .int x5_13)]) hx hb dX0_findBar_24 hl (by decide) rfl (fun ls hl => ?_)
        refine lv_aload_n hx hb dX0_findBar_26 rfl (lv_at hl 3 rfl) ?_
        refine lv_iload hx hb dX0_findBar_27 (lv_at hl 0 rfl) ?_
        obtain ⟨r2, e3, h⟩ := pb h
        refine ro_V (As := [.int (allv x5_13.toNatClampNeg)]) (rest := []) hF (fun _ h => wl_in h) (cnX0_mayBar l A G cI cF tA tT q qc n f e3) syX0_mayBar w_185 ⟨Nat.le_of_ble_eq_true rfl, Nat.le_of_ble_eq_true rfl⟩ fB_mv ⟨hE, hP⟩ (va_recv hK hP (ci := 0) (q0 := 0) rfl rfl) rfl hl.1 rfl (Nat.le_of_ble_eq_true rfl) dX0_findBar_29 ⟨Nat.zero_le _, Nat.zero_le _⟩ ?_
        refine lv_if_eq (tgt := 55) hx hb dX0_findBar_32 (by decide) (fun c32 => ?_) (fun c32 => ?_)
        · have h := pt c32 h
          refine lv_iinc (v := x5_13 + (1 : Int32)) (lv' := [(5, .int (x5_13 + (1 : Int32))), (6, .int (allv x5_13.toNatClampNeg)), (4, .int (79 : Int32)), (3, .ref tA), (0, .ref q), (1, .int a0), (2, .int x2_13)]) hx hb dX0_findBar_55 hl (k := 6) rfl rfl (by decide) rfl (fun ls hl => ?_)
          refine lv_goto (tgt := 13) hx hb dX0_findBar_58 (by decide) ?_
          exact ih13 _ _ h  _ (lv_sub hl [2, 3, 4, 5, 6, 0] rfl)
        · have h := pf c32 h
          refine lv_aload_n hx hb dX0_findBar_35 rfl (lv_at hl 3 rfl) ?_
          refine lv_iload hx hb dX0_findBar_36 (lv_at hl 0 rfl) ?_
          obtain ⟨r4, e5, h⟩ := pb h
          refine ro_V (As := [.int (allv x5_13.toNatClampNeg)]) (rest := []) hF (fun _ h => wl_in h) (cnX0_goesAt l A G cI cF tA tT q qc n f e5) syX0_goesAt w_189 ⟨Nat.le_of_ble_eq_true rfl, Nat.le_of_ble_eq_true rfl⟩ fB_mv ⟨hE, hP⟩ (va_recv hK hP (ci := 0) (q0 := 0) rfl rfl) rfl hl.1 rfl (Nat.le_of_ble_eq_true rfl) dX0_findBar_38 ⟨Nat.zero_le _, Nat.zero_le _⟩ ?_
          refine lv_if_ne (tgt := 55) hx hb dX0_findBar_41 (by decide) (fun c41 => ?_) (fun c41 => ?_)
          · have h := pf c41 h
            refine lv_iinc (v := x5_13 + (1 : Int32)) (lv' := [(5, .int (x5_13 + (1 : Int32))), (6, .int (allv x5_13.toNatClampNeg)), (4, .int (79 : Int32)), (3, .ref tA), (0, .ref q), (1, .int a0), (2, .int x2_13)]) hx hb dX0_findBar_55 hl (k := 6) rfl rfl (by decide) rfl (fun ls hl => ?_)
            refine lv_goto (tgt := 13) hx hb dX0_findBar_58 (by decide) ?_
            exact ih13 _ _ h  _ (lv_sub hl [2, 3, 4, 5, 6, 0] rfl)
          · have h := pt c41 h
            refine lv_iload_n hx hb dX0_findBar_44 rfl (lv_at hl 5 rfl) ?_
            refine lv_iload_n hx hb dX0_findBar_45 rfl (lv_at hl 4 rfl) ?_
            refine lv_icmp_ne (tgt := 52) hx hb dX0_findBar_46 (by decide) (fun c46 => ?_) (fun c46 => ?_)
            · have h := pf c46 h
              refine lv_iinc (v := x2_13 + (1 : Int32)) (lv' := [(2, .int (x2_13 + (1 : Int32))), (6, .int (allv x5_13.toNatClampNeg)), (4, .int (79 : Int32)), (3, .ref tA), (0, .ref q), (1, .int a0), (5, .int x5_13)]) hx hb dX0_findBar_52 hl (k := 5) rfl rfl (by decide) rfl (fun ls hl => ?_)
              refine lv_iinc (v := x5_13 + (1 : Int32)) (lv' := [(5, .int (x5_13 + (1 : Int32))), (2, .int (x2_13 + (1 : Int32))), (6, .int (allv x5_13.toNatClampNeg)), (4, .int (79 : Int32)), (3, .ref tA), (0, .ref q), (1, .int a0)]) hx hb dX0_findBar_55 hl (k := 6) rfl rfl (by decide) rfl (fun ls hl => ?_)
              refine lv_goto (tgt := 13) hx hb dX0_findBar_58 (by decide) ?_
              exact ih13 _ _ h  _ (lv_sub hl [3, 4, 5, 6, 1, 0] rfl)
            · have h := pt c46 h
              refine lv_iload hx hb dX0_findBar_49 (lv_at hl 0 rfl) ?_
              exact END 51 ls _ (pe h) dX0_findBar_51
  exact J13 _ _ _ h  _ (lv_sub hl [1, 2, 4, 5, 3, 0] rfl)

theorem syX0_pairing : Vy yX0_pairing cX0_pairing 7 (some .long) 6 := ⟨w_230, ⟨w_228, w_229⟩, w_2, by decide +kernel⟩
set_option maxHeartbeats 4000000 in
set_option maxRecDepth 100000 in
theorem cnX0_pairing (l : Launch) (A : Nat → Prop) (G : va_G) (cI cF : ClassId) (tA tT : Nat) (q qc : Nat) (n : Int32) (f : Nat → Int32) {a0 : Int32} {a1 : Int32} {a2 : Int32} {a3 : Int32} {a4 : Int32} {a5 : Int32} {r : Int64} (h : fX0_pairing n f a0 a1 a2 a3 a4 a5 = some r) : Ro l yX0_pairing cX0_pairing 7 (some .long) 0 0 [.ref q, .int a0, .int a1, .int a2, .int a3, .int a4, .int a5] (fB A G cI cF tA tT q qc n f) (.long r) := by
  refine ro_l (plainFor_of_name (by decide)) (Nat.le_of_ble_eq_true rfl) ?_
  intro p e s m args below meth cd Q ls hF hB hl END
  have hF : CallFix p m cd cX0_pairing 7 s args (wl yX0_pairing cX0_pairing 7 (some .long)) RX0 := hF
  obtain ⟨hx, hb, hml, hown, hts⟩ := id hF
  have hl : lv_has ls 7 [(0, .ref q), (1, .int a0), (2, .int a1), (3, .int a2), (4, .int a3), (5, .int a4), (6, .int a5)] := hl
  obtain ⟨hE, hP⟩ := hB
  obtain ⟨hK, ⟨hZ, hT⟩, ⟨hZ2, hT2⟩⟩ := id hE
  have hS : va_S A s.heap s.heap [] := va_S.rf
  rw [fX0_pairing] at h
  refine lv_aload_n hx hb dX0_pairing_0 rfl (lv_at hl 0 rfl) ?_
  refine va_get (D := G) (ci := 0) (v := .ref qc) (C := RX0) (T := TX0) (N := 2) hx hb hts (fun w h => wl_in (inX0 w h)) hown hK hP 0 rfl rfl 1 (by decide) (hts _ (wl_in w_25)) (fun _ h9 => h9) rfl dX0_pairing_1 ?_
  refine lv_iconst (v := (0 : Int32)) hx hb dX0_pairing_4 (by decide) ?_
  refine va_iald hx hb hK hP 1 0 rfl rfl (by unfold vp_in; decide) dX0_pairing_5 ?_
  refine lv_i2l (v := (f (0 : Int32).toNatClampNeg).toInt64) hx hb dX0_pairing_6 rfl ?_
  refine lv_iload_n hx hb dX0_pairing_7 rfl (lv_at hl 1 rfl) ?_
  refine lv_i2l (v := a0.toInt64) hx hb dX0_pairing_8 rfl ?_
  refine lv_lmul hx hb dX0_pairing_9 ?_
  refine lv_iload hx hb dX0_pairing_10 (lv_at hl 4 rfl) ?_
  refine lv_i2l (v := a3.toInt64) hx hb dX0_pairing_12 rfl ?_
  refine lv_lmul hx hb dX0_pairing_13 ?_
  refine lv_aload_n hx hb dX0_pairing_14 rfl (lv_at hl 0 rfl) ?_
  refine va_get (D := G) (ci := 0) (v := .ref qc) (C := RX0) (T := TX0) (N := 2) hx hb hts (fun w h => wl_in (inX0 w h)) hown hK hP 0 rfl rfl 1 (by decide) (hts _ (wl_in w_25)) (fun _ h9 => h9) rfl dX0_pairing_15 ?_
  refine lv_iconst (v := (1 : Int32)) hx hb dX0_pairing_18 (by decide) ?_
  refine va_iald hx hb hK hP 1 0 rfl rfl (by unfold vp_in; decide) dX0_pairing_19 ?_
  refine lv_i2l (v := (f (1 : Int32).toNatClampNeg).toInt64) hx hb dX0_pairing_20 rfl ?_
  refine lv_iload_n hx hb dX0_pairing_21 rfl (lv_at hl 2 rfl) ?_
  refine lv_i2l (v := a1.toInt64) hx hb dX0_pairing_22 rfl ?_
  refine lv_lmul hx hb dX0_pairing_23 ?_
  refine lv_iload hx hb dX0_pairing_24 (lv_at hl 5 rfl) ?_
  refine lv_i2l (v := a4.toInt64) hx hb dX0_pairing_26 rfl ?_
  refine lv_lmul hx hb dX0_pairing_27 ?_
  refine lv_ladd hx hb dX0_pairing_28 ?_
  refine lv_aload_n hx hb dX0_pairing_29 rfl (lv_at hl 0 rfl) ?_
  refine va_get (D := G) (ci := 0) (v := .ref qc) (C := RX0) (T := TX0) (N := 2) hx hb hts (fun w h => wl_in (inX0 w h)) hown hK hP 0 rfl rfl 1 (by decide) (hts _ (wl_in w_25)) (fun _ h9 => h9) rfl dX0_pairing_30 ?_
  refine lv_iconst (v := (2 : Int32)) hx hb dX0_pairing_33 (by decide) ?_
  refine va_iald hx hb hK hP 1 0 rfl rfl (by unfold vp_in; decide) dX0_pairing_34 ?_
  refine lv_i2l (v := (f (2 : Int32).toNatClampNeg).toInt64) hx hb dX0_pairing_35 rfl ?_
  refine lv_iload_n hx hb dX0_pairing_36 rfl (lv_at hl 3 rfl) ?_
  refine lv_i2l (v := a2.toInt64) hx hb dX0_pairing_37 rfl ?_
  refine lv_lmul hx hb dX0_pairing_38 ?_
  refine lv_iload hx hb dX0_pairing_39 (lv_at hl 6 rfl) ?_
  refine lv_i2l (v := a5.toInt64) hx hb dX0_pairing_41 rfl ?_
  refine lv_lmul hx hb dX0_pairing_42 ?_
  refine lv_ladd hx hb dX0_pairing_43 ?_
  exact END 44 ls _ (pe h) dX0_pairing_44

theorem syX0_thirdFor : Vy yX0_thirdFor cX0_thirdFor 7 (some .int) 2 := ⟨w_266, ⟨w_264, w_265⟩, w_2, by decide +kernel⟩
set_option maxHeartbeats 4000000 in
set_option maxRecDepth 100000 in
theorem cnX0_thirdFor (l : Launch) (A : Nat → Prop) (G : va_G) (cI cF : ClassId) (tA tT : Nat) (q qc : Nat) (n : Int32) (f : Nat → Int32) {a0 : Int32} {a1 : Int32} {r : Int32} (h : fX0_thirdFor n f a0 a1 = some r) : Ro l yX0_thirdFor cX0_thirdFor 7 (some .int) 0 0 [.ref q, .int a0, .int a1] (fB A G cI cF tA tT q qc n f) (.int r) := by
  refine ro_i (plainFor_of_name (by decide)) (Nat.le_of_ble_eq_true rfl) ?_
  intro p e s m args below meth cd Q ls hF hB hl END
  have hF : CallFix p m cd cX0_thirdFor 7 s args (wl yX0_thirdFor cX0_thirdFor 7 (some .int)) RX0 := hF
  obtain ⟨hx, hb, hml, hown, hts⟩ := id hF
  have hl : lv_has ls 7 [(0, .ref q), (1, .int a0), (2, .int a1)] := hl
  obtain ⟨hE, hP⟩ := hB
  obtain ⟨hK, ⟨hZ, hT⟩, ⟨hZ2, hT2⟩⟩ := id hE
  have hS : va_S A s.heap s.heap [] := va_S.rf
  rw [fX0_thirdFor] at h
  refine lv_aload_n hx hb dX0_thirdFor_0 rfl (lv_at hl 0 rfl) ?_
  refine va_get (D := G) (ci := 0) (v := .ref qc) (C := RX0) (T := TX0) (N := 2) hx hb hts (fun w h => wl_in (inX0 w h)) hown hK hP 0 rfl rfl 1 (by decide) (hts _ (wl_in w_25)) (fun _ h9 => h9) rfl dX0_thirdFor_1 ?_
  refine lv_iconst (v := (2 : Int32)) hx hb dX0_thirdFor_4 (by decide) ?_
  refine va_iald hx hb hK hP 1 0 rfl rfl (by unfold vp_in; decide) dX0_thirdFor_5 ?_
  refine lv_istore_n (lv' := [(3, .int (f (2 : Int32).toNatClampNeg)), (0, .ref q), (1, .int a0), (2, .int a1)]) hx hb dX0_thirdFor_6 rfl hl (by decide) rfl (fun ls hl => ?_)
  refine lv_aload_n hx hb dX0_thirdFor_7 rfl (lv_at hl 1 rfl) ?_
  refine va_get (D := G) (ci := 0) (v := .ref qc) (C := RX0) (T := TX0) (N := 2) hx hb hts (fun w h => wl_in (inX0 w h)) hown hK hP 0 rfl rfl 1 (by decide) (hts _ (wl_in w_25)) (fun _ h9 => h9) rfl dX0_thirdFor_8 ?_
  refine lv_iconst (v := (0 : Int32)) hx hb dX0_thirdFor_11 (by decide) ?_
  refine va_iald hx hb hK hP 1 0 rfl rfl (by unfold vp_in; decide) dX0_thirdFor_12 ?_
  refine lv_iload_n hx hb dX0_thirdFor_13 rfl (lv_at hl 2 rfl) ?_
  refine lv_imul hx hb dX0_thirdFor_14 ?_
  refine lv_iload_n hx hb dX0_thirdFor_15 rfl (lv_at hl 2 rfl) ?_
  refine lv_imul hx hb dX0_thirdFor_16 ?_
  refine lv_aload_n hx hb dX0_thirdFor_17 rfl (lv_at hl 1 rfl) ?_
  refine va_get (D := G) (ci := 0) (v := .ref qc) (C := RX0) (T := TX0) (N := 2) hx hb hts (fun w h => wl_in (inX0 w h)) hown hK hP 0 rfl rfl 1 (by decide) (hts _ (wl_in w_25)) (fun _ h9 => h9) rfl dX0_thirdFor_18 ?_
  refine lv_iconst (v := (1 : Int32)) hx hb dX0_thirdFor_21 (by decide) ?_
  refine va_iald hx hb hK hP 1 0 rfl rfl (by unfold vp_in; decide) dX0_thirdFor_22 ?_
  refine lv_iload_n hx hb dX0_thirdFor_23 rfl (lv_at hl 3 rfl) ?_
  refine lv_imul hx hb dX0_thirdFor_24 ?_
  refine lv_iload_n hx hb dX0_thirdFor_25 rfl (lv_at hl 3 rfl) ?_
  refine lv_imul hx hb dX0_thirdFor_26 ?_
  refine lv_iadd hx hb dX0_thirdFor_27 ?_
  refine lv_ineg hx hb dX0_thirdFor_28 ?_
  refine lv_istore (lv' := [(4, .int (-((((f (0 : Int32).toNatClampNeg) * a0) * a0) + (((f (1 : Int32).toNatClampNeg) * a1) * a1)))), (3, .int (f (2 : Int32).toNatClampNeg)), (0, .ref q), (1, .int a0), (2, .int a1)]) hx hb dX0_thirdFor_29 hl (by decide) rfl (fun ls hl => ?_)
  refine lv_iload_n hx hb dX0_thirdFor_31 rfl (lv_at hl 1 rfl) ?_
  refine lv_if_eq (tgt := 42) hx hb dX0_thirdFor_32 (by decide) (fun c32 => ?_) (fun c32 => ?_)
  · have h := pt c32 h
    refine lv_iconst (v := (-1 : Int32)) hx hb dX0_thirdFor_42 (by decide) ?_
    exact END 43 ls _ (pe h) dX0_thirdFor_43
  · have h := pf c32 h
    refine lv_iload hx hb dX0_thirdFor_35 (lv_at hl 0 rfl) ?_
    refine lv_iload_n hx hb dX0_thirdFor_37 rfl (lv_at hl 1 rfl) ?_
    obtain ⟨g1, h⟩ := pg h
    refine lq_irem hx hb dX0_thirdFor_38 g1 ?_
    refine lv_if_eq (tgt := 44) hx hb dX0_thirdFor_39 (by decide) (fun c39 => ?_) (fun c39 => ?_)
    · have h := pt c39 h
      refine lv_iload hx hb dX0_thirdFor_44 (lv_at hl 0 rfl) ?_
      refine lv_iload_n hx hb dX0_thirdFor_46 rfl (lv_at hl 1 rfl) ?_
      obtain ⟨g2, h⟩ := pg h
      refine lv_idiv hx hb dX0_thirdFor_47 g2 ?_
      refine lv_istore (lv' := [(5, .int ((-((((f (0 : Int32).toNatClampNeg) * a0) * a0) + (((f (1 : Int32).toNatClampNeg) * a1) * a1))) / (f (2 : Int32).toNatClampNeg))), (4, .int (-((((f (0 : Int32).toNatClampNeg) * a0) * a0) + (((f (1 : Int32).toNatClampNeg) * a1) * a1)))), (3, .int (f (2 : Int32).toNatClampNeg)), (0, .ref q), (1, .int a0), (2, .int a1)]) hx hb dX0_thirdFor_48 hl (by decide) rfl (fun ls hl => ?_)
      refine lv_iload hx hb dX0_thirdFor_50 (lv_at hl 0 rfl) ?_
      refine lv_if_lt (tgt := 63) hx hb dX0_thirdFor_52 (by decide) (fun c52 => ?_) (fun c52 => ?_)
      · have h := pt c52 h
        refine lv_iconst (v := (-1 : Int32)) hx hb dX0_thirdFor_63 (by decide) ?_
        exact END 64 ls _ (pe h) dX0_thirdFor_64
      · have h := pf c52 h
        refine lv_iload hx hb dX0_thirdFor_55 (lv_at hl 0 rfl) ?_
        refine lv_sipush (v := (900 : Int32)) hx hb dX0_thirdFor_57 (by decide) ?_
        refine lv_icmp_le (tgt := 65) hx hb dX0_thirdFor_60 (by decide) (fun c60 => ?_) (fun c60 => ?_)
        · have h := pt c60 h
          refine lv_iconst (v := (0 : Int32)) hx hb dX0_thirdFor_65 (by decide) ?_
          refine lv_istore (lv' := [(6, .int (0 : Int32)), (5, .int ((-((((f (0 : Int32).toNatClampNeg) * a0) * a0) + (((f (1 : Int32).toNatClampNeg) * a1) * a1))) / (f (2 : Int32).toNatClampNeg))), (4, .int (-((((f (0 : Int32).toNatClampNeg) * a0) * a0) + (((f (1 : Int32).toNatClampNeg) * a1) * a1)))), (3, .int (f (2 : Int32).toNatClampNeg)), (0, .ref q), (1, .int a0), (2, .int a1)]) hx hb dX0_thirdFor_66 hl (by decide) rfl (fun ls hl => ?_)
          have J68 : ∀ (n68 : Nat) (x6_68 : Int32), kX0_thirdFor_68 f a0 a1 n68 x6_68 = some r → ∀ (ls : Array Slot), lv_has ls 7 [(5, .int ((-((((f (0 : Int32).toNatClampNeg) * a0) * a0) + (((f (1 : Int32).toNatClampNeg) * a1) * a1))) / (f (2 : Int32).toNatClampNeg))), (6, .int x6_68)] → W p l e (rmk 0 0) s m args below meth cd s.heap [] 0 0 Q (F0 m 68 ls []) := by
            intro n68
            induction n68 with
            | zero =>
              intro x6_68 h
              rw [kX0_thirdFor_68] at h
              cases h
            | succ n68 ih68 =>
              intro x6_68 h  ls hl
              rw [kX0_thirdFor_68] at h
              refine lv_iload hx hb dX0_thirdFor_68 (lv_at hl 1 rfl) ?_
              refine lv_bipush (v := (30 : Int32)) hx hb dX0_thirdFor_70 (by decide) ?_
              refine lv_icmp_gt (tgt := 94) hx hb dX0_thirdFor_72 (by decide) (fun c72 => ?_) (fun c72 => ?_)
              · have h := pt c72 h
                refine lv_iconst (v := (-1 : Int32)) hx hb dX0_thirdFor_94 (by decide) ?_
                exact END 95 ls _ (pe h) dX0_thirdFor_95
              · have h := pf c72 h
                refine lv_iload hx hb dX0_thirdFor_75 (lv_at hl 1 rfl) ?_
                refine lv_iload hx hb dX0_thirdFor_77 (lv_at hl 1 rfl) ?_
                refine lv_imul hx hb dX0_thirdFor_79 ?_
                refine lv_iload hx hb dX0_thirdFor_80 (lv_at hl 0 rfl) ?_
                refine lv_icmp_ne (tgt := 88) hx hb dX0_thirdFor_82 (by decide) (fun c82 => ?_) (fun c82 => ?_)
                · have h := pf c82 h
                  refine lv_iinc (v := x6_68 + (1 : Int32)) (lv' := [(6, .int (x6_68 + (1 : Int32))), (5, .int ((-((((f (0 : Int32).toNatClampNeg) * a0) * a0) + (((f (1 : Int32).toNatClampNeg) * a1) * a1))) / (f (2 : Int32).toNatClampNeg)))]) hx hb dX0_thirdFor_88 hl (k := 1) rfl rfl (by decide) rfl (fun ls hl => ?_)
                  refine lv_goto (tgt := 68) hx hb dX0_thirdFor_91 (by decide) ?_
                  exact ih68 _ h  _ (lv_sub hl [1, 0] rfl)
                · have h := pt c82 h
                  refine lv_iload hx hb dX0_thirdFor_85 (lv_at hl 1 rfl) ?_
                  exact END 87 ls _ (pe h) dX0_thirdFor_87
          exact J68 _ _ h  _ (lv_sub hl [1, 0] rfl)
        · have h := pf c60 h
          refine lv_iconst (v := (-1 : Int32)) hx hb dX0_thirdFor_63 (by decide) ?_
          exact END 64 ls _ (pe h) dX0_thirdFor_64
    · have h := pf c39 h
      refine lv_iconst (v := (-1 : Int32)) hx hb dX0_thirdFor_42 (by decide) ?_
      exact END 43 ls _ (pe h) dX0_thirdFor_43
