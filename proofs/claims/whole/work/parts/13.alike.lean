def kX0_isAlike_81 (n : Int32) (f : Nat → Int32) (n2 : Int32) (f2 : Nat → Int32) (x4_46 : Int32) (K46 : Int32 → Option (Int32)) : Option (Int32) :=
    (fX0_signsAt n f (allv x4_46.toNatClampNeg)).bind fun (r12 : Int32) =>
    (fX0_signsAt n2 f2 (allv x4_46.toNatClampNeg)).bind fun (r14 : Int32) =>
    (if r12 = r14 then K46 (x4_46 + (1 : Int32)) else
    some (0 : Int32))
def kX0_isAlike_46 (n : Int32) (f : Nat → Int32) (n2 : Int32) (f2 : Nat → Int32) : Nat → Int32 → Option (Int32)
  | 0, _ => none
  | fu + 1, x4_46 =>
    (if (79 : Int32) ≤ x4_46 then some (1 : Int32) else
    (if ¬ (x4_46 < 0 ∨ 79 ≤ x4_46.toNatClampNeg) then (if (allv x4_46.toNatClampNeg) = 0 then (kX0_isAlike_46 n f n2 f2 fu) (x4_46 + (1 : Int32)) else
    (fX0_mayBar n f (allv x4_46.toNatClampNeg)).bind fun (r10 : Int32) =>
    (if r10 = 0 then (fX0_mayBar n2 f2 (allv x4_46.toNatClampNeg)).bind fun (r16 : Int32) =>
    (if r16 = 0 then (kX0_isAlike_46 n f n2 f2 fu) (x4_46 + (1 : Int32)) else
    kX0_isAlike_81 n f n2 f2 x4_46 (kX0_isAlike_46 n f n2 f2 fu)) else
    kX0_isAlike_81 n f n2 f2 x4_46 (kX0_isAlike_46 n f n2 f2 fu))) else none))
def fX0_isAlike (n : Int32) (f : Nat → Int32) (n2 : Int32) (f2 : Nat → Int32) : Option (Int32) :=
    (if n = n2 then (fX0_countAbove n f).bind fun (r1 : Int32) =>
    (fX0_countAbove n2 f2).bind fun (r3 : Int32) =>
    (if r1 = r3 then (fX0_freeProduct n f).bind fun (r5 : Int64) =>
    (fX0_freeProduct n2 f2).bind fun (r7 : Int64) =>
    (if (lg_cmp r5 r7) = 0 then kX0_isAlike_46 n f n2 f2 1100 (0 : Int32) else
    some (0 : Int32)) else
    some (0 : Int32)) else
    some (0 : Int32))
theorem syX0_isAlike : Vy yX0_isAlike cX0_isAlike 6 (some .boolean) 1 := ⟨w_217, ⟨w_215, w_216⟩, w_2, by decide +kernel⟩
set_option maxHeartbeats 4000000 in
set_option maxRecDepth 100000 in
theorem cnX0_isAlike (l : Launch) (A : Nat → Prop) (G : va_G) (cI cF : ClassId) (tA tT : Nat) (q qc : Nat) (n : Int32) (f : Nat → Int32) (q2 qc2 : Nat) (n2 : Int32) (f2 : Nat → Int32) {r : Int32} (h : fX0_isAlike n f n2 f2 = some r) : Ro l yX0_isAlike cX0_isAlike 6 (some .boolean) 4 103 [.ref q, .ref q2] (f2B A G cI cF tA tT q qc n f q2 qc2 n2 f2) (.int r) := by
  refine ro_z (plainFor_of_name (by decide)) (Nat.le_of_ble_eq_true rfl) ?_
  intro p e s m args below meth cd Q ls hF hB hl END
  have hF : CallFix p m cd cX0_isAlike 6 s args (wl yX0_isAlike cX0_isAlike 6 (some .boolean)) RX0 := hF
  obtain ⟨hx, hb, hml, hown, hts⟩ := id hF
  have hl : lv_has ls 6 [(0, .ref q), (1, .ref q2)] := hl
  obtain ⟨hE, hP, hP2⟩ := hB
  obtain ⟨hK, ⟨hZ, hT⟩, ⟨hZ2, hT2⟩⟩ := id hE
  have hS : va_S A s.heap s.heap [] := va_S.rf
  rw [fX0_isAlike] at h
  refine lv_aload_n hx hb dX0_isAlike_0 rfl (lv_at hl 0 rfl) ?_
  refine va_get (D := G) (ci := 0) (v := .int n) (C := RX0) (T := TX0) (N := 2) hx hb hts (fun w h => wl_in (inX0 w h)) hown hK hP 0 rfl rfl 0 (by decide) (hts _ (wl_in w_23)) (fun _ h9 => h9) rfl dX0_isAlike_1 ?_
  refine lv_aload_n hx hb dX0_isAlike_4 rfl (lv_at hl 1 rfl) ?_
  refine va_get (D := G) (ci := 0) (v := .int n2) (C := RX0) (T := TX0) (N := 2) hx hb hts (fun w h => wl_in (inX0 w h)) hown hK hP2 0 rfl rfl 0 (by decide) (hts _ (wl_in w_23)) (fun _ h9 => h9) rfl dX0_isAlike_5 ?_
  refine lv_icmp_ne (tgt := 34) hx hb dX0_isAlike_8 (by decide) (fun c8 => ?_) (fun c8 => ?_)
  · have h := pf c8 h
    refine lv_iconst (v := (0 : Int32)) hx hb dX0_isAlike_34 (by decide) ?_
    exact END 35 ls _ (pe h) (by rfl) dX0_isAlike_35
  · have h := pt c8 h
    refine lv_aload_n hx hb dX0_isAlike_11 rfl (lv_at hl 0 rfl) ?_
    obtain ⟨r1, e2, h⟩ := pb h
    refine ro_V (As := []) (rest := []) hF (fun _ h => wl_in h) (cnX0_countAbove l A G cI cF tA tT q qc n f e2) syX0_countAbove w_168 ⟨Nat.le_of_ble_eq_true rfl, Nat.le_of_ble_eq_true rfl⟩ fB_mv ⟨hE, hP⟩ (va_recv hK hP (ci := 0) (q0 := 0) rfl rfl) rfl hl.1 rfl (Nat.le_of_ble_eq_true rfl) dX0_isAlike_12 ⟨Nat.zero_le _, Nat.zero_le _⟩ ?_
    refine lv_aload_n hx hb dX0_isAlike_15 rfl (lv_at hl 1 rfl) ?_
    obtain ⟨r3, e4, h⟩ := pb h
    refine ro_V (As := []) (rest := [.int r1]) hF (fun _ h => wl_in h) (cnX0_countAbove l A G cI cF tA tT q2 qc2 n2 f2 e4) syX0_countAbove w_168 ⟨Nat.le_of_ble_eq_true rfl, Nat.le_of_ble_eq_true rfl⟩ fB_mv ⟨hE, hP2⟩ (va_recv hK hP2 (ci := 0) (q0 := 0) rfl rfl) rfl hl.1 rfl (Nat.le_of_ble_eq_true rfl) dX0_isAlike_16 ⟨Nat.zero_le _, Nat.zero_le _⟩ ?_
    refine lv_icmp_ne (tgt := 34) hx hb dX0_isAlike_19 (by decide) (fun c19 => ?_) (fun c19 => ?_)
    · have h := pf c19 h
      refine lv_iconst (v := (0 : Int32)) hx hb dX0_isAlike_34 (by decide) ?_
      exact END 35 ls _ (pe h) (by rfl) dX0_isAlike_35
    · have h := pt c19 h
      refine lv_aload_n hx hb dX0_isAlike_22 rfl (lv_at hl 0 rfl) ?_
      obtain ⟨r5, e6, h⟩ := pb h
      refine ro_V (As := []) (rest := []) hF (fun _ h => wl_in h) (cnX0_freeProduct l A G cI cF tA tT q qc n f e6) syX0_freeProduct w_218 ⟨Nat.le_of_ble_eq_true rfl, Nat.le_of_ble_eq_true rfl⟩ fB_mv ⟨hE, hP⟩ (va_recv hK hP (ci := 0) (q0 := 0) rfl rfl) rfl hl.1 rfl (Nat.le_of_ble_eq_true rfl) dX0_isAlike_23 ⟨Nat.zero_le _, Nat.zero_le _⟩ ?_
      refine lv_aload_n hx hb dX0_isAlike_26 rfl (lv_at hl 1 rfl) ?_
      obtain ⟨r7, e8, h⟩ := pb h
      refine ro_V (As := []) (rest := [.long r5]) hF (fun _ h => wl_in h) (cnX0_freeProduct l A G cI cF tA tT q2 qc2 n2 f2 e8) syX0_freeProduct w_218 ⟨Nat.le_of_ble_eq_true rfl, Nat.le_of_ble_eq_true rfl⟩ fB_mv ⟨hE, hP2⟩ (va_recv hK hP2 (ci := 0) (q0 := 0) rfl rfl) rfl hl.1 rfl (Nat.le_of_ble_eq_true rfl) dX0_isAlike_27 ⟨Nat.zero_le _, Nat.zero_le _⟩ ?_
      refine W.lcmp hx hb dX0_isAlike_30 ?_
      refine lv_if_eq (tgt := 36) hx hb dX0_isAlike_31 (by decide) (fun c31 => ?_) (fun c31 => ?_)
      · have h := pt c31 h
        refine va_gets hx hb hZ hS hown (hts _ (wl_in w_150)) (fun _ h9 => h9) dX0_isAlike_36 ?_
        refine lv_astore_n (lv' := [(2, .ref tA), (0, .ref q), (1, .ref q2)]) hx hb dX0_isAlike_39 rfl hl (by decide) rfl (fun ls hl => ?_)
        refine lv_aload_n hx hb dX0_isAlike_40 rfl (lv_at hl 0 rfl) ?_
        refine va_tlen (v := (79 : Int32)) hx hb hT hS rfl dX0_isAlike_41 ?_
        refine lv_istore_n (lv' := [(3, .int (79 : Int32)), (2, .ref tA), (0, .ref q), (1, .ref q2)]) hx hb dX0_isAlike_42 rfl hl (by decide) rfl (fun ls hl => ?_)
        refine lv_iconst (v := (0 : Int32)) hx hb dX0_isAlike_43 (by decide) ?_
        refine lv_istore (lv' := [(4, .int (0 : Int32)), (3, .int (79 : Int32)), (2, .ref tA), (0, .ref q), (1, .ref q2)]) hx hb dX0_isAlike_44 hl (by decide) rfl (fun ls hl => ?_)
        have J46 : ∀ (n46 : Nat) (x4_46 : Int32), kX0_isAlike_46 n f n2 f2 n46 x4_46 = some r → ∀ (ls : Array Slot), lv_has ls 6 [(3, .int (79 : Int32)), (2, .ref tA), (0, .ref q), (1, .ref q2), (4, .int x4_46)] → W p l e (rmk 4 103) s m args below meth cd s.heap [] 0 0 Q (F0 m 46 ls []) := by
          intro n46
          induction n46 with
          | zero =>
            intro x4_46 h
            rw [kX0_isAlike_46] at h
            cases h
          | succ n46 ih46 =>
            intro x4_46 h  ls hl
            rw [kX0_isAlike_46] at h
            refine lv_iload hx hb dX0_isAlike_46 (lv_at hl 4 rfl) ?_
            refine lv_iload_n hx hb dX0_isAlike_48 rfl (lv_at hl 0 rfl) ?_
            refine lv_icmp_ge (tgt := 104) hx hb dX0_isAlike_49 (by decide) (fun c49 => ?_) (fun c49 => ?_)
            · have h := pt c49 h
              refine lv_iconst (v := (1 : Int32)) hx hb dX0_isAlike_104 (by decide) ?_
              exact END 105 ls _ (pe h) (by rfl) dX0_isAlike_105
            · have h := pf c49 h
              refine lv_aload_n hx hb dX0_isAlike_52 rfl (lv_at hl 1 rfl) ?_
              refine lv_iload hx hb dX0_isAlike_53 (lv_at hl 4 rfl) ?_
              obtain ⟨g9, h⟩ := pg h
              refine va_ti (v := .int (allv x4_46.toNatClampNeg)) hx hb hT hS g9 rfl dX0_isAlike_55 ?_
              refine lv_istore (lv' := [(5, .int (allv x4_46.toNatClampNeg)), (3, .int (79 : Int32)), (2, .ref tA), (0, .ref q), (1, .ref q2), (4, .int x4_46)]) hx hb dX0_isAlike_56 hl (by decide) rfl (fun ls hl => ?_)
              refine lv_iload hx hb dX0_isAlike_58 (lv_at hl 0 rfl) ?_
              refine lv_if_eq (tgt := 98) hx hb dX0_isAlike_60 (by decide) (fun c60 => ?_) (fun c60 => ?_)
              · have h := pt c60 h
                refine lv_iinc (v := x4_46 + (1 : Int32)) (lv' := [(4, .int (x4_46 + (1 : Int32))), (5, .int (allv x4_46.toNatClampNeg)), (3, .int (79 : Int32)), (2, .ref tA), (0, .ref q), (1, .ref q2)]) hx hb dX0_isAlike_98 hl (k := 5) rfl rfl (by decide) rfl (fun ls hl => ?_)
                refine lv_goto (tgt := 46) hx hb dX0_isAlike_101 (by decide) ?_
                exact ih46 _ h  _ (lv_sub hl [2, 3, 4, 5, 0] rfl)
              · have h := pf c60 h
                refine lv_aload_n hx hb dX0_isAlike_63 rfl (lv_at hl 3 rfl) ?_
                refine lv_iload hx hb dX0_isAlike_64 (lv_at hl 0 rfl) ?_
                obtain ⟨r10, e11, h⟩ := pb h
                refine ro_V (As := [.int (allv x4_46.toNatClampNeg)]) (rest := []) hF (fun _ h => wl_in h) (cnX0_mayBar l A G cI cF tA tT q qc n f e11) syX0_mayBar w_185 ⟨Nat.le_of_ble_eq_true rfl, Nat.le_of_ble_eq_true rfl⟩ fB_mv ⟨hE, hP⟩ (va_recv hK hP (ci := 0) (q0 := 0) rfl rfl) rfl hl.1 rfl (Nat.le_of_ble_eq_true rfl) dX0_isAlike_66 ⟨Nat.zero_le _, Nat.zero_le _⟩ ?_
                have J81 : kX0_isAlike_81 n f n2 f2 x4_46 (kX0_isAlike_46 n f n2 f2 n46) = some r → ∀ (ls : Array Slot), lv_has ls 6 [(5, .int (allv x4_46.toNatClampNeg)), (3, .int (79 : Int32)), (2, .ref tA), (0, .ref q), (1, .ref q2), (4, .int x4_46)] → W p l e (rmk 4 103) s m args below meth cd s.heap [] 0 0 Q (F0 m 81 ls []) := by
                  intro h  ls hl
                  rw [kX0_isAlike_81] at h
                  refine lv_aload_n hx hb dX0_isAlike_81 rfl (lv_at hl 3 rfl) ?_
                  refine lv_iload hx hb dX0_isAlike_82 (lv_at hl 0 rfl) ?_
                  obtain ⟨r12, e13, h⟩ := pb h
                  refine ro_V (As := [.int (allv x4_46.toNatClampNeg)]) (rest := []) hF (fun _ h => wl_in h) (cnX0_signsAt l A G cI cF tA tT q qc n f e13) syX0_signsAt w_175 ⟨Nat.le_of_ble_eq_true rfl, Nat.le_of_ble_eq_true rfl⟩ fB_mv ⟨hE, hP⟩ (va_recv hK hP (ci := 0) (q0 := 0) rfl rfl) rfl hl.1 rfl (Nat.le_of_ble_eq_true rfl) dX0_isAlike_84 ⟨Nat.zero_le _, Nat.zero_le _⟩ ?_
                  refine lv_aload_n hx hb dX0_isAlike_87 rfl (lv_at hl 4 rfl) ?_
                  refine lv_iload hx hb dX0_isAlike_88 (lv_at hl 0 rfl) ?_
                  obtain ⟨r14, e15, h⟩ := pb h
                  refine ro_V (As := [.int (allv x4_46.toNatClampNeg)]) (rest := [.int r12]) hF (fun _ h => wl_in h) (cnX0_signsAt l A G cI cF tA tT q2 qc2 n2 f2 e15) syX0_signsAt w_175 ⟨Nat.le_of_ble_eq_true rfl, Nat.le_of_ble_eq_true rfl⟩ fB_mv ⟨hE, hP2⟩ (va_recv hK hP2 (ci := 0) (q0 := 0) rfl rfl) rfl hl.1 rfl (Nat.le_of_ble_eq_true rfl) dX0_isAlike_90 ⟨Nat.zero_le _, Nat.zero_le _⟩ ?_
                  refine lv_icmp_eq (tgt := 98) hx hb dX0_isAlike_93 (by decide) (fun c93 => ?_) (fun c93 => ?_)
                  · have h := pt c93 h
                    refine lv_iinc (v := x4_46 + (1 : Int32)) (lv' := [(4, .int (x4_46 + (1 : Int32))), (5, .int (allv x4_46.toNatClampNeg)), (3, .int (79 : Int32)), (2, .ref tA), (0, .ref q), (1, .ref q2)]) hx hb dX0_isAlike_98 hl (k := 5) rfl rfl (by decide) rfl (fun ls hl => ?_)
                    refine lv_goto (tgt := 46) hx hb dX0_isAlike_101 (by decide) ?_
                    exact ih46 _ h  _ (lv_sub hl [2, 3, 4, 5, 0] rfl)
                  · have h := pf c93 h
                    refine lv_iconst (v := (0 : Int32)) hx hb dX0_isAlike_96 (by decide) ?_
                    exact END 97 ls _ (pe h) (by rfl) dX0_isAlike_97
                refine lv_if_ne (tgt := 81) hx hb dX0_isAlike_69 (by decide) (fun c69 => ?_) (fun c69 => ?_)
                · have h := pf c69 h
                  exact J81 h  _ hl
                · have h := pt c69 h
                  refine lv_aload_n hx hb dX0_isAlike_72 rfl (lv_at hl 4 rfl) ?_
                  refine lv_iload hx hb dX0_isAlike_73 (lv_at hl 0 rfl) ?_
                  obtain ⟨r16, e17, h⟩ := pb h
                  refine ro_V (As := [.int (allv x4_46.toNatClampNeg)]) (rest := []) hF (fun _ h => wl_in h) (cnX0_mayBar l A G cI cF tA tT q2 qc2 n2 f2 e17) syX0_mayBar w_185 ⟨Nat.le_of_ble_eq_true rfl, Nat.le_of_ble_eq_true rfl⟩ fB_mv ⟨hE, hP2⟩ (va_recv hK hP2 (ci := 0) (q0 := 0) rfl rfl) rfl hl.1 rfl (Nat.le_of_ble_eq_true rfl) dX0_isAlike_75 ⟨Nat.zero_le _, Nat.zero_le _⟩ ?_
                  refine lv_if_eq (tgt := 98) hx hb dX0_isAlike_78 (by decide) (fun c78 => ?_) (fun c78 => ?_)
                  · have h := pt c78 h
                    refine lv_iinc (v := x4_46 + (1 : Int32)) (lv' := [(4, .int (x4_46 + (1 : Int32))), (5, .int (allv x4_46.toNatClampNeg)), (3, .int (79 : Int32)), (2, .ref tA), (0, .ref q), (1, .ref q2)]) hx hb dX0_isAlike_98 hl (k := 5) rfl rfl (by decide) rfl (fun ls hl => ?_)
                    refine lv_goto (tgt := 46) hx hb dX0_isAlike_101 (by decide) ?_
                    exact ih46 _ h  _ (lv_sub hl [2, 3, 4, 5, 0] rfl)
                  · have h := pf c78 h
                    exact J81 h  _ hl
        exact J46 _ _ h  _ (lv_sub hl [1, 2, 3, 4, 0] rfl)
      · have h := pf c31 h
        refine lv_iconst (v := (0 : Int32)) hx hb dX0_isAlike_34 (by decide) ?_
        exact END 35 ls _ (pe h) (by rfl) dX0_isAlike_35
