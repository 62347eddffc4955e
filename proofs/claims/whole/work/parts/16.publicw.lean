def kX0_take_48 (x3_5 : Int32) (n_48 : Int32) (f_48 : Nat → Int32) : Option ((Int32) × (Nat → Int32)) :=
    some (x3_5, f_48)
def kX0_take_5 (N : Nat) (g : Nat → Int32) (a1 : Int32) : Nat → Int32 → Int32 → Int32 → (Nat → Int32) → Option ((Int32) × (Nat → Int32))
  | 0, _, _, _, _ => none
  | fu + 1, x3_5, x4_5, n_5, f_5 =>
    (if a1 ≤ x4_5 then kX0_take_48 x3_5 n_5 f_5 else
    (if (Int32.ofNat N) ≤ x4_5 then kX0_take_48 x3_5 n_5 f_5 else
    (if (6 : Int32) ≤ x4_5 then kX0_take_48 x3_5 n_5 f_5 else
    (if ¬ (x4_5 < 0 ∨ N ≤ x4_5.toNatClampNeg) then (if ¬ (x4_5 < 0 ∨ 6 ≤ x4_5.toNatClampNeg) then (kX0_take_5 N g a1 fu) (x3_5 + (1 : Int32)) (x4_5 + (1 : Int32)) n_5 (upd f_5 x4_5.toNatClampNeg (g x4_5.toNatClampNeg)) else none) else none))))
def fX0_take (N : Nat) (g : Nat → Int32) (n : Int32) (f : Nat → Int32) (a1 : Int32) : Option ((Int32) × (Nat → Int32)) :=
    kX0_take_5 N g a1 1100 (0 : Int32) (0 : Int32) n f
def fX0_append (n : Int32) (f : Nat → Int32) (a0 : Int32) : Option ((Int32) × (Nat → Int32)) :=
    (if (6 : Int32) ≤ n then some (n, f) else
    (if ¬ (n < 0 ∨ 6 ≤ n.toNatClampNeg) then some (n + (1 : Int32), upd f n.toNatClampNeg a0) else none))
def kX3_meet_59 (s0_59 : Int32) (s1_59 : Int32) (s2_59 : Int32) (s3_59 : Int32) (s4_59 : Int32) : Option ((Int32) × (Int32) × (Int32) × (Int32) × (Int32)) :=
    some (s0_59 + (1 : Int32), s1_59, s2_59, s3_59, s4_59)
def kX3_meet_37 (a1 : Int32) (a2 : Int32) (a3 : Int32) (r3 : Int32) (s0_37 : Int32) (s1_37 : Int32) (s2_37 : Int32) (s3_37 : Int32) (s4_37 : Int32) : Option ((Int32) × (Int32) × (Int32) × (Int32) × (Int32)) :=
    kX3_meet_59 s0_37 r3 a1 a2 a3
def fX3_meet (s0 : Int32) (s1 : Int32) (s2 : Int32) (s3 : Int32) (s4 : Int32) (a0 : Int32) (a1 : Int32) (a2 : Int32) (a3 : Int32) : Option ((Int32) × (Int32) × (Int32) × (Int32) × (Int32)) :=
    (fX4_isReduced a1 a2 a3).bind fun (r1 : Int32) =>
    (if r1 = 0 then some (s0, s1, s2, s3, s4) else
    (fX1_byKind a0 a1 a2 a3).bind fun (r3 : Int32) =>
    (if s0 = 0 then kX3_meet_37 a1 a2 a3 r3 s0 s1 s2 s3 s4 else
    (if s1 ≤ r3 then kX3_meet_59 s0 s1 s2 s3 s4 else
    kX3_meet_37 a1 a2 a3 r3 s0 s1 s2 s3 s4)))
def kX3_run_49 (a1 : Int32) (x3_7 : Int32) (x4_17 : Int32) (K17 : Int32 → Int32 → Int32 → Int32 → Int32 → Int32 → Option ((Int32) × (Int32) × (Int32) × (Int32) × (Int32))) (r1 : Int32) (s0_49 : Int32) (s1_49 : Int32) (s2_49 : Int32) (s3_49 : Int32) (s4_49 : Int32) : Option ((Int32) × (Int32) × (Int32) × (Int32) × (Int32)) :=
    (if r1 < 0 then K17 (x4_17 + (1 : Int32)) s0_49 s1_49 s2_49 s3_49 s4_49 else
    (fX3_meet s0_49 s1_49 s2_49 s3_49 s4_49 a1 x3_7 x4_17 r1).bind fun (s0v4, s1v5, s2v6, s3v7, s4v8) =>
    K17 (x4_17 + (1 : Int32)) s0v4 s1v5 s2v6 s3v7 s4v8)
def kX3_run_17 (n : Int32) (f : Nat → Int32) (a1 : Int32) (x3_7 : Int32) (K7 : Int32 → Int32 → Int32 → Int32 → Int32 → Int32 → Option ((Int32) × (Int32) × (Int32) × (Int32) × (Int32))) : Nat → Int32 → Int32 → Int32 → Int32 → Int32 → Int32 → Option ((Int32) × (Int32) × (Int32) × (Int32) × (Int32))
  | 0, _, _, _, _, _, _ => none
  | fu + 1, x4_17, s0_17, s1_17, s2_17, s3_17, s4_17 =>
    (if (30 : Int32) < x4_17 then K7 (x3_7 + (1 : Int32)) s0_17 s1_17 s2_17 s3_17 s4_17 else
    (fX0_thirdFor n f x3_7 x4_17).bind fun (r1 : Int32) =>
    (if r1 ≤ 0 then kX3_run_49 a1 x3_7 x4_17 (kX3_run_17 n f a1 x3_7 K7 fu) r1 s0_17 s1_17 s2_17 s3_17 s4_17 else
    (fX3_meet s0_17 s1_17 s2_17 s3_17 s4_17 a1 x3_7 x4_17 (-r1)).bind fun (s0v10, s1v11, s2v12, s3v13, s4v14) =>
    kX3_run_49 a1 x3_7 x4_17 (kX3_run_17 n f a1 x3_7 K7 fu) r1 s0v10 s1v11 s2v12 s3v13 s4v14))
def kX3_run_7 (n : Int32) (f : Nat → Int32) (a1 : Int32) : Nat → Int32 → Int32 → Int32 → Int32 → Int32 → Int32 → Option ((Int32) × (Int32) × (Int32) × (Int32) × (Int32))
  | 0, _, _, _, _, _, _ => none
  | fu + 1, x3_7, s0_7, s1_7, s2_7, s3_7, s4_7 =>
    (if (30 : Int32) < x3_7 then some (s0_7, s1_7, s2_7, s3_7, s4_7) else
    kX3_run_17 n f a1 x3_7 (kX3_run_7 n f a1 fu) 1100 (-30 : Int32) s0_7 s1_7 s2_7 s3_7 s4_7)
def fX3_run (n : Int32) (f : Nat → Int32) (s0 : Int32) (s1 : Int32) (s2 : Int32) (s3 : Int32) (s4 : Int32) (a1 : Int32) : Option ((Int32) × (Int32) × (Int32) × (Int32) × (Int32)) :=
    kX3_run_7 n f a1 1100 (0 : Int32) (0 : Int32) s1 s2 s3 s4
def kX4_form_62 (a0 : Int32) (a1 : Int32) : Nat → Int32 → (Nat → Int32) → (Nat → Int32) → (Nat → Nat → Int32) → Option (Int32 × (Nat → Int32) × (Nat → Int32) × (Nat → Nat → Int32))
  | 0, _, _, _, _ => none
  | fu + 1, x8_62, gf_62, n_62, f_62 =>
    (if a1 ≤ x8_62 then (if ¬ (a0 < 0 ∨ 4 ≤ a0.toNatClampNeg) then (fX0_take 5 gf_62 (n_62 a0.toNatClampNeg) (f_62 a0.toNatClampNeg) a1).bind fun (nv7, fv8) =>
    some (a1, gf_62, up1 n_62 a0.toNatClampNeg nv7, up1 f_62 a0.toNatClampNeg fv8) else none) else
    (if ¬ (x8_62 < 0 ∨ 5 ≤ x8_62.toNatClampNeg) then (fX4_isNumber (gf_62 x8_62.toNatClampNeg) (400 : Int32)).bind fun (r10 : Int32) =>
    (if r10 = 0 then some ((-3 : Int32), gf_62, n_62, f_62) else
    (kX4_form_62 a0 a1 fu) (x8_62 + (1 : Int32)) gf_62 n_62 f_62) else none))
def fX4_form (n : Nat → Int32) (f : Nat → Nat → Int32) (gf : Nat → Int32) (a0 : Int32) (a1 : Int32) (a2 : Int32) (a3 : Int32) (a4 : Int32) (a5 : Int32) (a6 : Int32) : Option (Int32 × (Nat → Int32) × (Nat → Int32) × (Nat → Nat → Int32)) :=
    (fX4_isShelf a0).bind fun (r1 : Int32) =>
    (if r1 = 0 then some ((-3 : Int32), gf, n, f) else
    (if a1 < (1 : Int32) then some ((-3 : Int32), gf, n, f) else
    (if a1 ≤ (5 : Int32) then kX4_form_62 a0 a1 1100 (0 : Int32) (upd (upd (upd (upd (upd gf (0 : Int32).toNatClampNeg a2) (1 : Int32).toNatClampNeg a3) (2 : Int32).toNatClampNeg a4) (3 : Int32).toNatClampNeg a5) (4 : Int32).toNatClampNeg a6) n f else
    some ((-3 : Int32), gf, n, f))))
def fX4_takes (n : Nat → Int32) (f : Nat → Nat → Int32) (xn : Int32) (xf : Nat → Int32) (a0 : Int32) (a1 : Int32) : Option (Int32 × (Int32) × (Nat → Int32)) :=
    (fX4_isShelf a0).bind fun (r1 : Int32) =>
    (if r1 = 0 then some ((-3 : Int32), xn, xf) else
    (fX4_isNumber a1 (400 : Int32)).bind fun (r3 : Int32) =>
    (if r3 = 0 then some ((-3 : Int32), xn, xf) else
    (if ¬ (a0 < 0 ∨ 4 ≤ a0.toNatClampNeg) then (fX0_take 6 (f a0.toNatClampNeg) xn xf (n a0.toNatClampNeg)).bind fun (nv9, fv10) =>
    (fX0_append nv9 fv10 (-a1)).bind fun (nv12, fv13) =>
    (fX0_countBars nv12 fv13).bind fun (r14 : Int32) =>
    (if r14 = 0 then some ((1 : Int32), nv12, fv13) else
    some ((0 : Int32), nv12, fv13)) else none)))
def fX4_measure (tr : Int64) (a0 : Int32) (a1 : Int32) (a2 : Int32) (a3 : Int32) : Option (Int32 × (Int64)) :=
    (if a0 < 0 then some ((-3 : Int32), tr) else
    (if (3 : Int32) ≤ a0 then some ((-3 : Int32), tr) else
    (fX4_areWithin a1 a2 a3 (30 : Int32)).bind fun (r1 : Int32) =>
    (if r1 = 0 then some ((-3 : Int32), tr) else
    (if ¬ (a0 < 0 ∨ 3 ≤ a0.toNatClampNeg) then (fX1_byKind a0 a1 a2 a3).bind fun (r4 : Int32) =>
    some (r4, tr + ((trcv a0.toNatClampNeg).toInt64)) else none))))
def fX4_least (n : Nat → Int32) (f : Nat → Nat → Int32) (s0 : Int32) (s1 : Int32) (s2 : Int32) (s3 : Int32) (s4 : Int32) (a0 : Int32) (a1 : Int32) (a2 : Int32) : Option (Int64 × (Int32) × (Int32) × (Int32) × (Int32) × (Int32)) :=
    (fX4_isShelf a0).bind fun (r1 : Int32) =>
    (if r1 = 0 then some ((-1000000000000000 : Int64), s0, s1, s2, s3, s4) else
    (if ¬ (a0 < 0 ∨ 4 ≤ a0.toNatClampNeg) then (if (n a0.toNatClampNeg) = (3 : Int32) then (if a1 < 0 then some ((-1000000000000000 : Int64), s0, s1, s2, s3, s4) else
    (if (3 : Int32) ≤ a1 then some ((-1000000000000000 : Int64), s0, s1, s2, s3, s4) else
    (if a2 < 0 then some ((-1000000000000000 : Int64), s0, s1, s2, s3, s4) else
    (if a2 ≤ (3 : Int32) then (if ¬ (a0 < 0 ∨ 4 ≤ a0.toNatClampNeg) then (fX3_run (n a0.toNatClampNeg) (f a0.toNatClampNeg) s0 s1 s2 s3 s4 a1).bind fun (s0v10, s1v11, s2v12, s3v13, s4v14) =>
    (if s0v10 = 0 then some ((-999999999999999 : Int64), s0v10, s1v11, s2v12, s3v13, s4v14) else
    (if a2 = (3 : Int32) then some (s1v11.toInt64, s0v10, s1v11, s2v12, s3v13, s4v14) else
    (fX4_pick a2 s2v12.toInt64 s3v13.toInt64 s4v14.toInt64).bind fun (r15 : Int64) =>
    some (r15, s0v10, s1v11, s2v12, s3v13, s4v14))) else none) else
    some ((-1000000000000000 : Int64), s0, s1, s2, s3, s4))))) else
    some ((-1000000000000000 : Int64), s0, s1, s2, s3, s4)) else none))
def fX4_many (n : Nat → Int32) (f : Nat → Nat → Int32) (s0 : Int32) (s1 : Int32) (s2 : Int32) (s3 : Int32) (s4 : Int32) (a0 : Int32) : Option (Int32 × (Int32) × (Int32) × (Int32) × (Int32) × (Int32)) :=
    (fX4_isShelf a0).bind fun (r1 : Int32) =>
    (if r1 = 0 then some ((-3 : Int32), s0, s1, s2, s3, s4) else
    (if ¬ (a0 < 0 ∨ 4 ≤ a0.toNatClampNeg) then (if (n a0.toNatClampNeg) = (3 : Int32) then (if ¬ (a0 < 0 ∨ 4 ≤ a0.toNatClampNeg) then (fX3_run (n a0.toNatClampNeg) (f a0.toNatClampNeg) s0 s1 s2 s3 s4 (0 : Int32)).bind fun (s0v10, s1v11, s2v12, s3v13, s4v14) =>
    some (s0v10, s0v10, s1v11, s2v12, s3v13, s4v14) else none) else
    some ((-3 : Int32), s0, s1, s2, s3, s4)) else none))
theorem syX0_take : Vy yX0_take cX0_take 5 none 2 := ⟨w_132, ⟨w_130, w_131⟩, w_2, by decide +kernel⟩
set_option maxHeartbeats 4000000 in
set_option maxRecDepth 100000 in
theorem cnX0_take (l : Launch) (G : va_G) (cI cF : ClassId) (q qc ra N : Nat) (g : Nat → Int32) (n : Int32) (f : Nat → Int32) (hnd : ([q, qc, ra] : List Nat).Nodup) {a1 : Int32} {n_r : Int32} {f_r : Nat → Int32} (h : fX0_take N g n f a1 = some (n_r, f_r)) : Mu l yX0_take cX0_take 5 none 0 0 [.ref q, .ref ra, .int a1] (fun x => x ∈ ([q, qc, ra] : List Nat)) (tkB G cI cF q qc ra N g n f) (tkB G cI cF q qc ra N g n_r f_r) none := by
  refine mu_v (plainFor_of_name (by decide)) (Nat.le_of_ble_eq_true rfl) tkB_mv ?_
  intro p e s m args below meth cd Q ls hF hB hl END
  have hF : CallFix p m cd cX0_take 5 s args (wl yX0_take cX0_take 5 none) RX0 := hF
  obtain ⟨hx, hb, hml, hown, hts⟩ := id hF
  have hl : lv_has ls 5 [(0, .ref q), (1, .ref ra), (2, .int a1)] := hl
  obtain ⟨hK, hP⟩ := hB
  have hS : va_S (fun x => x ∈ ([q, qc, ra] : List Nat)) s.heap s.heap [] := va_S.rf
  rw [fX0_take] at h
  refine lv_iconst (v := (0 : Int32)) hx hb dX0_take_0 (by decide) ?_
  refine lv_istore_n (lv' := [(3, .int (0 : Int32)), (0, .ref q), (1, .ref ra), (2, .int a1)]) hx hb dX0_take_1 rfl hl (by decide) rfl (fun ls hl => ?_)
  refine lv_iconst (v := (0 : Int32)) hx hb dX0_take_2 (by decide) ?_
  refine lv_istore (lv' := [(4, .int (0 : Int32)), (3, .int (0 : Int32)), (0, .ref q), (1, .ref ra), (2, .int a1)]) hx hb dX0_take_3 hl (by decide) rfl (fun ls hl => ?_)
  have J5 : ∀ (n5 : Nat) (x3_5 : Int32) (x4_5 : Int32) (n_5 : Int32) (f_5 : Nat → Int32), kX0_take_5 N g a1 n5 x3_5 x4_5 n_5 f_5 = some (n_r, f_r) → ∀ (H : Heap) (locs : List Loc), va_P G vwCl (tW q qc ra cI N n_5 f_5 g) H → va_S (fun x => x ∈ ([q, qc, ra] : List Nat)) s.heap H locs → ∀ (ls : Array Slot), lv_has ls 5 [(0, .ref q), (1, .ref ra), (2, .int a1), (3, .int x3_5), (4, .int x4_5)] → W p l e (rmk 0 0) s m args below meth cd H locs 0 0 Q (F0 m 5 ls []) := by
    intro n5
    induction n5 with
    | zero =>
      intro x3_5 x4_5 n_5 f_5 h
      rw [kX0_take_5] at h
      cases h
    | succ n5 ih5 =>
      intro x3_5 x4_5 n_5 f_5 h H locs hP hS ls hl
      rw [kX0_take_5] at h
      refine lv_iload hx hb dX0_take_5 (lv_at hl 4 rfl) ?_
      refine lv_iload_n hx hb dX0_take_7 rfl (lv_at hl 2 rfl) ?_
      have J48 : ∀ (n_48 : Int32) (f_48 : Nat → Int32), kX0_take_48 x3_5 n_48 f_48 = some (n_r, f_r) → ∀ (H : Heap) (locs : List Loc), va_P G vwCl (tW q qc ra cI N n_48 f_48 g) H → va_S (fun x => x ∈ ([q, qc, ra] : List Nat)) s.heap H locs → ∀ (ls : Array Slot), lv_has ls 5 [(0, .ref q), (3, .int x3_5)] → W p l e (rmk 0 0) s m args below meth cd H locs 0 0 Q (F0 m 48 ls []) := by
        intro n_48 f_48 h H locs hP hS ls hl
        rw [kX0_take_48] at h
        refine lv_aload_n hx hb dX0_take_48 rfl (lv_at hl 0 rfl) ?_
        refine lv_iload_n hx hb dX0_take_49 rfl (lv_at hl 1 rfl) ?_
        refine va_put (D := G) (ci := 0) (v := .int x3_5) (ty := .int) (C := RX0) (T := TX0) (N := 2) hx hb hts (fun w h => wl_in (inX0 w h)) tyX0 tyX0_ok nmX0 hown hK hP (va_Dn hnd rfl) hS 0 rfl rfl 0 (by decide) (hts _ (wl_in w_23)) (fun _ h9 => h9) rfl (by decide +kernel) rfl rfl (Nat.le_of_ble_eq_true rfl) dX0_take_50 (fun H locs hP _ hS => ?_)
        have hP : va_P G vwCl (tW q qc ra cI N x3_5 f_48 g) H := hP
        have hh := pe h
        simp only [Prod.mk.injEq] at hh
        obtain ⟨z0, z1⟩ := hh
        subst z0
        subst z1
        exact END _ _ 53 ls s dX0_take_53 rfl ⟨hK, hP⟩ hS
      refine lv_icmp_ge (tgt := 48) hx hb dX0_take_8 (by decide) (fun c8 => ?_) (fun c8 => ?_)
      · have h := pt c8 h
        exact J48 _ _ h _ _ hP hS _ (lv_sub hl [0, 3] rfl)
      · have h := pf c8 h
        refine lv_iload hx hb dX0_take_11 (lv_at hl 4 rfl) ?_
        refine lv_aload_n hx hb dX0_take_13 rfl (lv_at hl 1 rfl) ?_
        refine va_alen (v := Int32.ofNat N) hx hb hK hP 2 0 rfl rfl rfl dX0_take_14 ?_
        refine lv_icmp_ge (tgt := 48) hx hb dX0_take_15 (by decide) (fun c15 => ?_) (fun c15 => ?_)
        · have h := pt c15 h
          exact J48 _ _ h _ _ hP hS _ (lv_sub hl [0, 3] rfl)
        · have h := pf c15 h
          refine lv_iload hx hb dX0_take_18 (lv_at hl 4 rfl) ?_
          refine lv_aload_n hx hb dX0_take_20 rfl (lv_at hl 0 rfl) ?_
          refine va_get (D := G) (ci := 0) (v := .ref qc) (C := RX0) (T := TX0) (N := 2) hx hb hts (fun w h => wl_in (inX0 w h)) hown hK hP 0 rfl rfl 1 (by decide) (hts _ (wl_in w_25)) (fun _ h9 => h9) rfl dX0_take_21 ?_
          refine va_alen (v := (6 : Int32)) hx hb hK hP 1 0 rfl rfl rfl dX0_take_24 ?_
          refine lv_icmp_ge (tgt := 48) hx hb dX0_take_25 (by decide) (fun c25 => ?_) (fun c25 => ?_)
          · have h := pt c25 h
            exact J48 _ _ h _ _ hP hS _ (lv_sub hl [0, 3] rfl)
          · have h := pf c25 h
            refine lv_aload_n hx hb dX0_take_28 rfl (lv_at hl 0 rfl) ?_
            refine va_get (D := G) (ci := 0) (v := .ref qc) (C := RX0) (T := TX0) (N := 2) hx hb hts (fun w h => wl_in (inX0 w h)) hown hK hP 0 rfl rfl 1 (by decide) (hts _ (wl_in w_25)) (fun _ h9 => h9) rfl dX0_take_29 ?_
            refine lv_iload hx hb dX0_take_32 (lv_at hl 4 rfl) ?_
            refine lv_aload_n hx hb dX0_take_34 rfl (lv_at hl 1 rfl) ?_
            refine lv_iload hx hb dX0_take_35 (lv_at hl 4 rfl) ?_
            obtain ⟨g1, h⟩ := pg h
            refine va_iald hx hb hK hP 2 0 rfl rfl g1 dX0_take_37 ?_
            obtain ⟨g2, h⟩ := pg h
            refine va_iast hx hb hK hP (va_Dn hnd rfl) hS 1 0 rfl rfl g2 dX0_take_38 (fun H locs hP _ hS => ?_)
            have hP : va_P G vwCl (tW q qc ra cI N n_5 (upd f_5 x4_5.toNatClampNeg (g x4_5.toNatClampNeg)) g) H := hP
            refine lv_iinc (v := x3_5 + (1 : Int32)) (lv' := [(3, .int (x3_5 + (1 : Int32))), (0, .ref q), (1, .ref ra), (2, .int a1), (4, .int x4_5)]) hx hb dX0_take_39 hl (k := 3) rfl rfl (by decide) rfl (fun ls hl => ?_)
            refine lv_iinc (v := x4_5 + (1 : Int32)) (lv' := [(4, .int (x4_5 + (1 : Int32))), (3, .int (x3_5 + (1 : Int32))), (0, .ref q), (1, .ref ra), (2, .int a1)]) hx hb dX0_take_42 hl (k := 4) rfl rfl (by decide) rfl (fun ls hl => ?_)
            refine lv_goto (tgt := 5) hx hb dX0_take_45 (by decide) ?_
            exact ih5 _ _ _ _ h _ _ hP hS _ (lv_sub hl [2, 3, 4, 1, 0] rfl)
  exact J5 _ _ _ _ _ h _ _ hP hS _ (lv_sub hl [2, 3, 4, 1, 0] rfl)

theorem syX0_append : Vy yX0_append cX0_append 2 none 1 := ⟨w_209, ⟨w_207, w_208⟩, w_2, by decide +kernel⟩
set_option maxHeartbeats 4000000 in
set_option maxRecDepth 100000 in
theorem cnX0_append (l : Launch) (G : va_G) (cI cF : ClassId) (q qc : Nat) (n : Int32) (f : Nat → Int32) (hnd : ([q, qc] : List Nat).Nodup) {a0 : Int32} {n_r : Int32} {f_r : Nat → Int32} (h : fX0_append n f a0 = some (n_r, f_r)) : Mu l yX0_append cX0_append 2 none 0 0 [.ref q, .int a0] (fun x => x ∈ ([q, qc] : List Nat)) (apB G cI cF q qc n f) (apB G cI cF q qc n_r f_r) none := by
  refine mu_v (plainFor_of_name (by decide)) (Nat.le_of_ble_eq_true rfl) apB_mv ?_
  intro p e s m args below meth cd Q ls hF hB hl END
  have hF : CallFix p m cd cX0_append 2 s args (wl yX0_append cX0_append 2 none) RX0 := hF
  obtain ⟨hx, hb, hml, hown, hts⟩ := id hF
  have hl : lv_has ls 2 [(0, .ref q), (1, .int a0)] := hl
  obtain ⟨hK, hP⟩ := hB
  have hS : va_S (fun x => x ∈ ([q, qc] : List Nat)) s.heap s.heap [] := va_S.rf
  rw [fX0_append] at h
  refine lv_aload_n hx hb dX0_append_0 rfl (lv_at hl 0 rfl) ?_
  refine va_get (D := G) (ci := 0) (v := .int n) (C := RX0) (T := TX0) (N := 2) hx hb hts (fun w h => wl_in (inX0 w h)) hown hK hP 0 rfl rfl 0 (by decide) (hts _ (wl_in w_23)) (fun _ h9 => h9) rfl dX0_append_1 ?_
  refine lv_aload_n hx hb dX0_append_4 rfl (lv_at hl 0 rfl) ?_
  refine va_get (D := G) (ci := 0) (v := .ref qc) (C := RX0) (T := TX0) (N := 2) hx hb hts (fun w h => wl_in (inX0 w h)) hown hK hP 0 rfl rfl 1 (by decide) (hts _ (wl_in w_25)) (fun _ h9 => h9) rfl dX0_append_5 ?_
  refine va_alen (v := (6 : Int32)) hx hb hK hP 1 0 rfl rfl rfl dX0_append_8 ?_
  refine lv_icmp_ge (tgt := 32) hx hb dX0_append_9 (by decide) (fun c9 => ?_) (fun c9 => ?_)
  · have h := pt c9 h
    have hh := pe h
    simp only [Prod.mk.injEq] at hh
    obtain ⟨z0, z1⟩ := hh
    subst z0
    subst z1
    exact END _ _ 32 ls s dX0_append_32 rfl ⟨hK, hP⟩ hS
  · have h := pf c9 h
    refine lv_aload_n hx hb dX0_append_12 rfl (lv_at hl 0 rfl) ?_
    refine va_get (D := G) (ci := 0) (v := .ref qc) (C := RX0) (T := TX0) (N := 2) hx hb hts (fun w h => wl_in (inX0 w h)) hown hK hP 0 rfl rfl 1 (by decide) (hts _ (wl_in w_25)) (fun _ h9 => h9) rfl dX0_append_13 ?_
    refine lv_aload_n hx hb dX0_append_16 rfl (lv_at hl 0 rfl) ?_
    refine va_get (D := G) (ci := 0) (v := .int n) (C := RX0) (T := TX0) (N := 2) hx hb hts (fun w h => wl_in (inX0 w h)) hown hK hP 0 rfl rfl 0 (by decide) (hts _ (wl_in w_23)) (fun _ h9 => h9) rfl dX0_append_17 ?_
    refine lv_iload_n hx hb dX0_append_20 rfl (lv_at hl 1 rfl) ?_
    obtain ⟨g1, h⟩ := pg h
    refine va_iast hx hb hK hP (va_Dn hnd rfl) hS 1 0 rfl rfl g1 dX0_append_21 (fun H locs hP _ hS => ?_)
    have hP : va_P G vwCl (fW q qc cI n (upd f n.toNatClampNeg a0)) H := hP
    refine lv_aload_n hx hb dX0_append_22 rfl (lv_at hl 0 rfl) ?_
    refine lv_dup hx hb dX0_append_23 rfl ?_
    refine va_get (D := G) (ci := 0) (v := .int n) (C := RX0) (T := TX0) (N := 2) hx hb hts (fun w h => wl_in (inX0 w h)) hown hK hP 0 rfl rfl 0 (by decide) (hts _ (wl_in w_23)) (fun _ h9 => h9) rfl dX0_append_24 ?_
    refine lv_iconst (v := (1 : Int32)) hx hb dX0_append_27 (by decide) ?_
    refine lv_iadd hx hb dX0_append_28 ?_
    refine va_put (D := G) (ci := 0) (v := .int (n + (1 : Int32))) (ty := .int) (C := RX0) (T := TX0) (N := 2) hx hb hts (fun w h => wl_in (inX0 w h)) tyX0 tyX0_ok nmX0 hown hK hP (va_Dn hnd rfl) hS 0 rfl rfl 0 (by decide) (hts _ (wl_in w_23)) (fun _ h9 => h9) rfl (by decide +kernel) rfl rfl (Nat.le_of_ble_eq_true rfl) dX0_append_29 (fun H locs hP _ hS => ?_)
    have hP : va_P G vwCl (fW q qc cI (n + (1 : Int32)) (upd f n.toNatClampNeg a0)) H := hP
    have hh := pe h
    simp only [Prod.mk.injEq] at hh
    obtain ⟨z0, z1⟩ := hh
    subst z0
    subst z1
    exact END _ _ 32 ls s dX0_append_32 rfl ⟨hK, hP⟩ hS

theorem syX3_meet : Vy yX3_meet cX3_meet 6 none 4 := ⟨w_270, ⟨w_269, w_s1⟩, w_3, by decide +kernel⟩
set_option maxHeartbeats 4000000 in
set_option maxRecDepth 100000 in
theorem cnX3_meet (l : Launch) (G : va_G) (cI cF : ClassId) (se : Nat) (s0 : Int32) (s1 : Int32) (s2 : Int32) (s3 : Int32) (s4 : Int32) (hnd : ([se] : List Nat).Nodup) {a0 : Int32} {a1 : Int32} {a2 : Int32} {a3 : Int32} {s0_r : Int32} {s1_r : Int32} {s2_r : Int32} {s3_r : Int32} {s4_r : Int32} (h : fX3_meet s0 s1 s2 s3 s4 a0 a1 a2 a3 = some (s0_r, s1_r, s2_r, s3_r, s4_r)) : Mu l yX3_meet cX3_meet 6 none 5 114 [.ref se, .int a0, .int a1, .int a2, .int a3] (fun x => x ∈ ([se] : List Nat)) (smBn G cI cF se s0 s1 s2 s3 s4) (smB G cI cF se s0_r s1_r s2_r s3_r s4_r) none := by
  refine mu_v (plainFor_of_name (by decide)) (Nat.le_of_ble_eq_true rfl) smB_mv ?_
  intro p e s m args below meth cd Q ls hF hB hl END
  have hF : CallFix p m cd cX3_meet 6 s args (wl yX3_meet cX3_meet 6 none) RX3 := hF
  obtain ⟨hx, hb, hml, hown, hts⟩ := id hF
  have hl : lv_has ls 6 [(0, .ref se), (1, .int a0), (2, .int a1), (3, .int a2), (4, .int a3)] := hl
  obtain ⟨⟨hK, hP⟩, hN⟩ := hB
  have hS : va_S (fun x => x ∈ ([se] : List Nat)) s.heap s.heap [] := va_S.rf
  rw [fX3_meet] at h
  refine lv_iload_n hx hb dX3_meet_0 rfl (lv_at hl 2 rfl) ?_
  refine lv_iload_n hx hb dX3_meet_1 rfl (lv_at hl 3 rfl) ?_
  refine lv_iload hx hb dX3_meet_2 (lv_at hl 4 rfl) ?_
  obtain ⟨r1, e2, h⟩ := pb h
  refine ro_SN (As := [.int a1, .int a2, .int a3]) (rest := []) hF (fun _ h => wl_in h) (cnX4_isReduced l e2) syX4_isReduced hN ⟨Nat.le_of_ble_eq_true rfl, Nat.le_of_ble_eq_true rfl⟩ mv0 trivial rfl hl.1 rfl (Nat.le_of_ble_eq_true rfl) dX3_meet_4 ⟨Nat.zero_le _, Nat.zero_le _⟩ ?_
  refine lv_if_ne (tgt := 11) hx hb dX3_meet_7 (by decide) (fun c7 => ?_) (fun c7 => ?_)
  · have h := pf c7 h
    refine lv_iload_n hx hb dX3_meet_11 rfl (lv_at hl 1 rfl) ?_
    refine lv_iload_n hx hb dX3_meet_12 rfl (lv_at hl 2 rfl) ?_
    refine lv_iload_n hx hb dX3_meet_13 rfl (lv_at hl 3 rfl) ?_
    refine lv_iload hx hb dX3_meet_14 (lv_at hl 4 rfl) ?_
    obtain ⟨r3, e4, h⟩ := pb h
    refine ro_S (As := [.int a0, .int a1, .int a2, .int a3]) (rest := []) hF (fun _ h => wl_in h) (cnX1_byKind l e4) syX1_byKind w_283 ⟨Nat.le_of_ble_eq_true rfl, Nat.le_of_ble_eq_true rfl⟩ mv0 trivial rfl hl.1 rfl (Nat.le_of_ble_eq_true rfl) dX3_meet_16 ⟨Nat.zero_le _, Nat.zero_le _⟩ ?_
    refine lv_istore (lv' := [(5, .int r3), (0, .ref se), (1, .int a0), (2, .int a1), (3, .int a2), (4, .int a3)]) hx hb dX3_meet_19 hl (by decide) rfl (fun ls hl => ?_)
    refine lv_aload_n hx hb dX3_meet_21 rfl (lv_at hl 1 rfl) ?_
    refine va_get (D := G) (ci := 1) (v := .int s0) (C := RX3) (T := TX3) (N := 5) hx hb hts (fun w h => wl_in (inX3 w h)) hown hK hP 0 rfl rfl 0 (by decide) (hts _ (wl_in w_39)) (fun _ h9 => h9) rfl dX3_meet_22 ?_
    have J59 : ∀ (s0_59 : Int32) (s1_59 : Int32) (s2_59 : Int32) (s3_59 : Int32) (s4_59 : Int32), kX3_meet_59 s0_59 s1_59 s2_59 s3_59 s4_59 = some (s0_r, s1_r, s2_r, s3_r, s4_r) → ∀ (H : Heap) (locs : List Loc), va_P G vwCl (sW se s0_59 s1_59 s2_59 s3_59 s4_59) H → va_S (fun x => x ∈ ([se] : List Nat)) s.heap H locs → ∀ (ls : Array Slot), lv_has ls 6 [(0, .ref se)] → W p l e (rmk 5 114) s m args below meth cd H locs 0 0 Q (F0 m 59 ls []) := by
      intro s0_59 s1_59 s2_59 s3_59 s4_59 h H locs hP hS ls hl
      rw [kX3_meet_59] at h
      refine lv_aload_n hx hb dX3_meet_59 rfl (lv_at hl 0 rfl) ?_
      refine lv_dup hx hb dX3_meet_60 rfl ?_
      refine va_get (D := G) (ci := 1) (v := .int s0_59) (C := RX3) (T := TX3) (N := 5) hx hb hts (fun w h => wl_in (inX3 w h)) hown hK hP 0 rfl rfl 0 (by decide) (hts _ (wl_in w_39)) (fun _ h9 => h9) rfl dX3_meet_61 ?_
      refine lv_iconst (v := (1 : Int32)) hx hb dX3_meet_64 (by decide) ?_
      refine lv_iadd hx hb dX3_meet_65 ?_
      refine va_put (D := G) (ci := 1) (v := .int (s0_59 + (1 : Int32))) (ty := .int) (C := RX3) (T := TX3) (N := 5) hx hb hts (fun w h => wl_in (inX3 w h)) tyX3 tyX3_ok nmX3 hown hK hP (va_Dn hnd rfl) hS 0 rfl rfl 0 (by decide) (hts _ (wl_in w_39)) (fun _ h9 => h9) rfl (by decide +kernel) rfl rfl (Nat.le_of_ble_eq_true rfl) dX3_meet_66 (fun H locs hP _ hS => ?_)
      have hP : va_P G vwCl (sW se (s0_59 + (1 : Int32)) s1_59 s2_59 s3_59 s4_59) H := hP
      have hh := pe h
      simp only [Prod.mk.injEq] at hh
      obtain ⟨z0, z1, z2, z3, z4⟩ := hh
      subst z0
      subst z1
      subst z2
      subst z3
      subst z4
      exact END _ _ 69 ls s dX3_meet_69 rfl ⟨hK, hP⟩ hS
    have J37 : ∀ (s0_37 : Int32) (s1_37 : Int32) (s2_37 : Int32) (s3_37 : Int32) (s4_37 : Int32), kX3_meet_37 a1 a2 a3 r3 s0_37 s1_37 s2_37 s3_37 s4_37 = some (s0_r, s1_r, s2_r, s3_r, s4_r) → ∀ (H : Heap) (locs : List Loc), va_P G vwCl (sW se s0_37 s1_37 s2_37 s3_37 s4_37) H → va_S (fun x => x ∈ ([se] : List Nat)) s.heap H locs → ∀ (ls : Array Slot), lv_has ls 6 [(5, .int r3), (0, .ref se), (2, .int a1), (3, .int a2), (4, .int a3)] → W p l e (rmk 5 114) s m args below meth cd H locs 0 0 Q (F0 m 37 ls []) := by
      intro s0_37 s1_37 s2_37 s3_37 s4_37 h H locs hP hS ls hl
      rw [kX3_meet_37] at h
      refine lv_aload_n hx hb dX3_meet_37 rfl (lv_at hl 1 rfl) ?_
      refine lv_iload hx hb dX3_meet_38 (lv_at hl 0 rfl) ?_
      refine va_put (D := G) (ci := 1) (v := .int r3) (ty := .int) (C := RX3) (T := TX3) (N := 5) hx hb hts (fun w h => wl_in (inX3 w h)) tyX3 tyX3_ok nmX3 hown hK hP (va_Dn hnd rfl) hS 0 rfl rfl 1 (by decide) (hts _ (wl_in w_41)) (fun _ h9 => h9) rfl (by decide +kernel) rfl rfl (Nat.le_of_ble_eq_true rfl) dX3_meet_40 (fun H locs hP _ hS => ?_)
      have hP : va_P G vwCl (sW se s0_37 r3 s2_37 s3_37 s4_37) H := hP
      refine lv_aload_n hx hb dX3_meet_43 rfl (lv_at hl 1 rfl) ?_
      refine lv_iload_n hx hb dX3_meet_44 rfl (lv_at hl 2 rfl) ?_
      refine va_put (D := G) (ci := 1) (v := .int a1) (ty := .int) (C := RX3) (T := TX3) (N := 5) hx hb hts (fun w h => wl_in (inX3 w h)) tyX3 tyX3_ok nmX3 hown hK hP (va_Dn hnd rfl) hS 0 rfl rfl 2 (by decide) (hts _ (wl_in w_43)) (fun _ h9 => h9) rfl (by decide +kernel) rfl rfl (Nat.le_of_ble_eq_true rfl) dX3_meet_45 (fun H locs hP _ hS => ?_)
      have hP : va_P G vwCl (sW se s0_37 r3 a1 s3_37 s4_37) H := hP
      refine lv_aload_n hx hb dX3_meet_48 rfl (lv_at hl 1 rfl) ?_
      refine lv_iload_n hx hb dX3_meet_49 rfl (lv_at hl 3 rfl) ?_
      refine va_put (D := G) (ci := 1) (v := .int a2) (ty := .int) (C := RX3) (T := TX3) (N := 5) hx hb hts (fun w h => wl_in (inX3 w h)) tyX3 tyX3_ok nmX3 hown hK hP (va_Dn hnd rfl) hS 0 rfl rfl 3 (by decide) (hts _ (wl_in w_45)) (fun _ h9 => h9) rfl (by decide +kernel) rfl rfl (Nat.le_of_ble_eq_true rfl) dX3_meet_50 (fun H locs hP _ hS => ?_)
      have hP : va_P G vwCl (sW se s0_37 r3 a1 a2 s4_37) H := hP
      refine lv_aload_n hx hb dX3_meet_53 rfl (lv_at hl 1 rfl) ?_
      refine lv_iload hx hb dX3_meet_54 (lv_at hl 4 rfl) ?_
      refine va_put (D := G) (ci := 1) (v := .int a3) (ty := .int) (C := RX3) (T := TX3) (N := 5) hx hb hts (fun w h => wl_in (inX3 w h)) tyX3 tyX3_ok nmX3 hown hK hP (va_Dn hnd rfl) hS 0 rfl rfl 4 (by decide) (hts _ (wl_in w_47)) (fun _ h9 => h9) rfl (by decide +kernel) rfl rfl (Nat.le_of_ble_eq_true rfl) dX3_meet_56 (fun H locs hP _ hS => ?_)
      have hP : va_P G vwCl (sW se s0_37 r3 a1 a2 a3) H := hP
      exact J59 _ _ _ _ _ h _ _ hP hS _ (lv_sub hl [1] rfl)
    refine lv_if_eq (tgt := 37) hx hb dX3_meet_25 (by decide) (fun c25 => ?_) (fun c25 => ?_)
    · have h := pt c25 h
      exact J37 _ _ _ _ _ h _ _ hP hS _ (lv_sub hl [0, 1, 3, 4, 5] rfl)
    · have h := pf c25 h
      refine lv_iload hx hb dX3_meet_28 (lv_at hl 0 rfl) ?_
      refine lv_aload_n hx hb dX3_meet_30 rfl (lv_at hl 1 rfl) ?_
      refine va_get (D := G) (ci := 1) (v := .int s1) (C := RX3) (T := TX3) (N := 5) hx hb hts (fun w h => wl_in (inX3 w h)) hown hK hP 0 rfl rfl 1 (by decide) (hts _ (wl_in w_41)) (fun _ h9 => h9) rfl dX3_meet_31 ?_
      refine lv_icmp_ge (tgt := 59) hx hb dX3_meet_34 (by decide) (fun c34 => ?_) (fun c34 => ?_)
      · have h := pt c34 h
        exact J59 _ _ _ _ _ h _ _ hP hS _ (lv_sub hl [1] rfl)
      · have h := pf c34 h
        exact J37 _ _ _ _ _ h _ _ hP hS _ (lv_sub hl [0, 1, 3, 4, 5] rfl)
  · have h := pt c7 h
    have hh := pe h
    simp only [Prod.mk.injEq] at hh
    obtain ⟨z0, z1, z2, z3, z4⟩ := hh
    subst z0
    subst z1
    subst z2
    subst z3
    subst z4
    exact END _ _ 10 ls s dX3_meet_10 rfl ⟨hK, hP⟩ hS

theorem syX3_run : Vy yX3_run cX3_run 6 none 2 := ⟨w_262, ⟨w_260, w_261⟩, w_3, by decide +kernel⟩
set_option maxHeartbeats 4000000 in
set_option maxRecDepth 100000 in
theorem cnX3_run (l : Launch) (A : Nat → Prop) (G : va_G) (cI cF : ClassId) (tA tT : Nat) (se q qc : Nat) (n : Int32) (f : Nat → Int32) (s0 : Int32) (s1 : Int32) (s2 : Int32) (s3 : Int32) (s4 : Int32) (hnd : ([se, q, qc] : List Nat).Nodup) (hAA : ∀ x, x ∈ ([se, q, qc] : List Nat) → A x) {a1 : Int32} {s0_r : Int32} {s1_r : Int32} {s2_r : Int32} {s3_r : Int32} {s4_r : Int32} (h : fX3_run n f s0 s1 s2 s3 s4 a1 = some (s0_r, s1_r, s2_r, s3_r, s4_r)) : Mu l yX3_run cX3_run 6 none 6 139 [.ref se, .ref q, .int a1] (fun x => x ∈ ([se, q, qc] : List Nat)) (rnBn A G cI cF tA tT se q qc n f s0 s1 s2 s3 s4) (rnB A G cI cF tA tT se q qc n f s0_r s1_r s2_r s3_r s4_r) none := by
  refine mu_v (plainFor_of_name (by decide)) (Nat.le_of_ble_eq_true rfl) rnB_mv ?_
  intro p e s m args below meth cd Q ls hF hB hl END
  have hF : CallFix p m cd cX3_run 6 s args (wl yX3_run cX3_run 6 none) RX3 := hF
  obtain ⟨hx, hb, hml, hown, hts⟩ := id hF
  have hl : lv_has ls 6 [(0, .ref se), (1, .ref q), (2, .int a1)] := hl
  obtain ⟨⟨hE, hP⟩, hN⟩ := hB
  obtain ⟨hK, ⟨hZ, hT⟩, ⟨hZ2, hT2⟩⟩ := id hE
  have hS : va_S (fun x => x ∈ ([se, q, qc] : List Nat)) s.heap s.heap [] := va_S.rf
  rw [fX3_run] at h
  refine lv_aload_n hx hb dX3_run_0 rfl (lv_at hl 0 rfl) ?_
  refine lv_iconst (v := (0 : Int32)) hx hb dX3_run_1 (by decide) ?_
  refine va_put (D := G) (ci := 1) (v := .int (0 : Int32)) (ty := .int) (C := RX3) (T := TX3) (N := 5) hx hb hts (fun w h => wl_in (inX3 w h)) tyX3 tyX3_ok nmX3 hown hK hP (va_Dn hnd rfl) hS 0 rfl rfl 0 (by decide) (hts _ (wl_in w_39)) (fun _ h9 => h9) rfl (by decide +kernel) rfl rfl (Nat.le_of_ble_eq_true rfl) dX3_run_2 (fun H locs hP _ hS => ?_)
  have hP : va_P G vwCl (rW se q qc cI n f (0 : Int32) s1 s2 s3 s4) H := hP
  refine lv_iconst (v := (0 : Int32)) hx hb dX3_run_5 (by decide) ?_
  refine lv_istore_n (lv' := [(3, .int (0 : Int32)), (0, .ref se), (1, .ref q), (2, .int a1)]) hx hb dX3_run_6 rfl hl (by decide) rfl (fun ls hl => ?_)
  have J7 : ∀ (n7 : Nat) (x3_7 : Int32) (s0_7 : Int32) (s1_7 : Int32) (s2_7 : Int32) (s3_7 : Int32) (s4_7 : Int32), kX3_run_7 n f a1 n7 x3_7 s0_7 s1_7 s2_7 s3_7 s4_7 = some (s0_r, s1_r, s2_r, s3_r, s4_r) → ∀ (H : Heap) (locs : List Loc), va_P G vwCl (rW se q qc cI n f s0_7 s1_7 s2_7 s3_7 s4_7) H → va_S (fun x => x ∈ ([se, q, qc] : List Nat)) s.heap H locs → ∀ (ls : Array Slot), lv_has ls 6 [(0, .ref se), (1, .ref q), (2, .int a1), (3, .int x3_7)] → W p l e (rmk 6 139) s m args below meth cd H locs 0 0 Q (F0 m 7 ls []) := by
    intro n7
    induction n7 with
    | zero =>
      intro x3_7 s0_7 s1_7 s2_7 s3_7 s4_7 h
      rw [kX3_run_7] at h
      cases h
    | succ n7 ih7 =>
      intro x3_7 s0_7 s1_7 s2_7 s3_7 s4_7 h H locs hP hS ls hl
      rw [kX3_run_7] at h
      refine lv_iload_n hx hb dX3_run_7 rfl (lv_at hl 3 rfl) ?_
      refine lv_bipush (v := (30 : Int32)) hx hb dX3_run_8 (by decide) ?_
      refine lv_icmp_gt (tgt := 76) hx hb dX3_run_10 (by decide) (fun c10 => ?_) (fun c10 => ?_)
      · have h := pt c10 h
        have hh := pe h
        simp only [Prod.mk.injEq] at hh
        obtain ⟨z0, z1, z2, z3, z4⟩ := hh
        subst z0
        subst z1
        subst z2
        subst z3
        subst z4
        exact END _ _ 76 ls s dX3_run_76 rfl ⟨eB_S hE hS hAA, hP⟩ hS
      · have h := pf c10 h
        refine lv_bipush (v := (-30 : Int32)) hx hb dX3_run_13 (by decide) ?_
        refine lv_istore (lv' := [(4, .int (-30 : Int32)), (0, .ref se), (1, .ref q), (2, .int a1), (3, .int x3_7)]) hx hb dX3_run_15 hl (by decide) rfl (fun ls hl => ?_)
        have J17 : ∀ (n17 : Nat) (x4_17 : Int32) (s0_17 : Int32) (s1_17 : Int32) (s2_17 : Int32) (s3_17 : Int32) (s4_17 : Int32), kX3_run_17 n f a1 x3_7 (kX3_run_7 n f a1 n7) n17 x4_17 s0_17 s1_17 s2_17 s3_17 s4_17 = some (s0_r, s1_r, s2_r, s3_r, s4_r) → ∀ (H : Heap) (locs : List Loc), va_P G vwCl (rW se q qc cI n f s0_17 s1_17 s2_17 s3_17 s4_17) H → va_S (fun x => x ∈ ([se, q, qc] : List Nat)) s.heap H locs → ∀ (ls : Array Slot), lv_has ls 6 [(0, .ref se), (1, .ref q), (2, .int a1), (3, .int x3_7), (4, .int x4_17)] → W p l e (rmk 6 139) s m args below meth cd H locs 0 0 Q (F0 m 17 ls []) := by
          intro n17
          induction n17 with
          | zero =>
            intro x4_17 s0_17 s1_17 s2_17 s3_17 s4_17 h
            rw [kX3_run_17] at h
            cases h
          | succ n17 ih17 =>
            intro x4_17 s0_17 s1_17 s2_17 s3_17 s4_17 h H locs hP hS ls hl
            rw [kX3_run_17] at h
            refine lv_iload hx hb dX3_run_17 (lv_at hl 4 rfl) ?_
            refine lv_bipush (v := (30 : Int32)) hx hb dX3_run_19 (by decide) ?_
            refine lv_icmp_gt (tgt := 70) hx hb dX3_run_21 (by decide) (fun c21 => ?_) (fun c21 => ?_)
            · have h := pt c21 h
              refine lv_iinc (v := x3_7 + (1 : Int32)) (lv' := [(3, .int (x3_7 + (1 : Int32))), (0, .ref se), (1, .ref q), (2, .int a1), (4, .int x4_17)]) hx hb dX3_run_70 hl (k := 3) rfl rfl (by decide) rfl (fun ls hl => ?_)
              refine lv_goto (tgt := 7) hx hb dX3_run_73 (by decide) ?_
              exact ih7 _ _ _ _ _ _ h _ _ hP hS _ (lv_sub hl [1, 2, 3, 0] rfl)
            · have h := pf c21 h
              refine lv_aload_n hx hb dX3_run_24 rfl (lv_at hl 1 rfl) ?_
              refine lv_iload_n hx hb dX3_run_25 rfl (lv_at hl 3 rfl) ?_
              refine lv_iload hx hb dX3_run_26 (lv_at hl 4 rfl) ?_
              obtain ⟨r1, e2, h⟩ := pb h
              refine ro_V (As := [.int x3_7, .int x4_17]) (rest := []) hF (fun _ h => wl_in h) (cnX0_thirdFor l A G cI cF tA tT q qc n f e2) syX0_thirdFor w_263 ⟨Nat.le_of_ble_eq_true rfl, Nat.le_of_ble_eq_true rfl⟩ fB_mv ⟨(eB_S hE hS hAA), (va_P.sub hP [1, 2] rfl)⟩ (va_recv hK (va_P.sub hP [1, 2] rfl) (ci := 0) (q0 := 0) rfl rfl) rfl hl.1 rfl (Nat.le_of_ble_eq_true rfl) dX3_run_28 ⟨Nat.zero_le _, Nat.zero_le _⟩ ?_
              refine lv_istore (lv' := [(5, .int r1), (0, .ref se), (1, .ref q), (2, .int a1), (3, .int x3_7), (4, .int x4_17)]) hx hb dX3_run_31 hl (by decide) rfl (fun ls hl => ?_)
              refine lv_iload hx hb dX3_run_33 (lv_at hl 0 rfl) ?_
              have J49 : ∀ (s0_49 : Int32) (s1_49 : Int32) (s2_49 : Int32) (s3_49 : Int32) (s4_49 : Int32), kX3_run_49 a1 x3_7 x4_17 (kX3_run_17 n f a1 x3_7 (kX3_run_7 n f a1 n7) n17) r1 s0_49 s1_49 s2_49 s3_49 s4_49 = some (s0_r, s1_r, s2_r, s3_r, s4_r) → ∀ (H : Heap) (locs : List Loc), va_P G vwCl (rW se q qc cI n f s0_49 s1_49 s2_49 s3_49 s4_49) H → va_S (fun x => x ∈ ([se, q, qc] : List Nat)) s.heap H locs → ∀ (ls : Array Slot), lv_has ls 6 [(5, .int r1), (0, .ref se), (1, .ref q), (2, .int a1), (3, .int x3_7), (4, .int x4_17)] → W p l e (rmk 6 139) s m args below meth cd H locs 0 0 Q (F0 m 49 ls []) := by
                intro s0_49 s1_49 s2_49 s3_49 s4_49 h H locs hP hS ls hl
                rw [kX3_run_49] at h
                refine lv_iload hx hb dX3_run_49 (lv_at hl 0 rfl) ?_
                refine lv_if_lt (tgt := 64) hx hb dX3_run_51 (by decide) (fun c51 => ?_) (fun c51 => ?_)
                · have h := pt c51 h
                  refine lv_iinc (v := x4_17 + (1 : Int32)) (lv' := [(4, .int (x4_17 + (1 : Int32))), (5, .int r1), (0, .ref se), (1, .ref q), (2, .int a1), (3, .int x3_7)]) hx hb dX3_run_64 hl (k := 5) rfl rfl (by decide) rfl (fun ls hl => ?_)
                  refine lv_goto (tgt := 17) hx hb dX3_run_67 (by decide) ?_
                  exact ih17 _ _ _ _ _ _ h _ _ hP hS _ (lv_sub hl [2, 3, 4, 5, 0] rfl)
                · have h := pf c51 h
                  refine lv_aload_n hx hb dX3_run_54 rfl (lv_at hl 1 rfl) ?_
                  refine lv_iload_n hx hb dX3_run_55 rfl (lv_at hl 3 rfl) ?_
                  refine lv_iload_n hx hb dX3_run_56 rfl (lv_at hl 4 rfl) ?_
                  refine lv_iload hx hb dX3_run_57 (lv_at hl 5 rfl) ?_
                  refine lv_iload hx hb dX3_run_59 (lv_at hl 0 rfl) ?_
                  obtain ⟨⟨s0v4, s1v5, s2v6, s3v7, s4v8⟩, e3, h⟩ := pb h
                  refine mu_Vp (As := [.int a1, .int x3_7, .int x4_17, .int r1]) (rest := []) hF (fun _ h => wl_in h) (cnX3_meet l G cI cF se s0_49 s1_49 s2_49 s3_49 s4_49 (cNd hnd [0] (by decide) rfl) e3) syX3_meet w_267 ⟨Nat.le_of_ble_eq_true rfl, Nat.le_of_ble_eq_true rfl⟩ smBn_mv smB_mv ⟨⟨hK, hP.sub [0] rfl⟩, hN⟩ (va_recv hK hP (ci := 1) (q0 := 0) rfl rfl) hS (cMem [0] rfl) rfl hl.1 rfl (Nat.le_of_ble_eq_true rfl) dX3_run_61 ⟨Nat.zero_le _, Nat.zero_le _⟩ (fun H locs hB1 _ hk1 hS => ?_)
                  have hP1 := hB1.2
                  have hP := rP_meet hnd hP hk1 hP1
                  have hP : va_P G vwCl (rW se q qc cI n f s0v4 s1v5 s2v6 s3v7 s4v8) H := hP
                  refine W.eq (g2 := F0 m 64 ls []) rfl ?_
                  refine lv_iinc (v := x4_17 + (1 : Int32)) (lv' := [(4, .int (x4_17 + (1 : Int32))), (5, .int r1), (0, .ref se), (1, .ref q), (2, .int a1), (3, .int x3_7)]) hx hb dX3_run_64 hl (k := 5) rfl rfl (by decide) rfl (fun ls hl => ?_)
                  refine lv_goto (tgt := 17) hx hb dX3_run_67 (by decide) ?_
                  exact ih17 _ _ _ _ _ _ h _ _ hP hS _ (lv_sub hl [2, 3, 4, 5, 0] rfl)
              refine lv_if_le (tgt := 49) hx hb dX3_run_35 (by decide) (fun c35 => ?_) (fun c35 => ?_)
              · have h := pt c35 h
                exact J49 _ _ _ _ _ h _ _ hP hS _ hl
              · have h := pf c35 h
                refine lv_aload_n hx hb dX3_run_38 rfl (lv_at hl 1 rfl) ?_
                refine lv_iload_n hx hb dX3_run_39 rfl (lv_at hl 3 rfl) ?_
                refine lv_iload_n hx hb dX3_run_40 rfl (lv_at hl 4 rfl) ?_
                refine lv_iload hx hb dX3_run_41 (lv_at hl 5 rfl) ?_
                refine lv_iload hx hb dX3_run_43 (lv_at hl 0 rfl) ?_
                refine lv_ineg hx hb dX3_run_45 ?_
                obtain ⟨⟨s0v10, s1v11, s2v12, s3v13, s4v14⟩, e9, h⟩ := pb h
                refine mu_Vp (As := [.int a1, .int x3_7, .int x4_17, .int (-r1)]) (rest := []) hF (fun _ h => wl_in h) (cnX3_meet l G cI cF se s0_17 s1_17 s2_17 s3_17 s4_17 (cNd hnd [0] (by decide) rfl) e9) syX3_meet w_267 ⟨Nat.le_of_ble_eq_true rfl, Nat.le_of_ble_eq_true rfl⟩ smBn_mv smB_mv ⟨⟨hK, hP.sub [0] rfl⟩, hN⟩ (va_recv hK hP (ci := 1) (q0 := 0) rfl rfl) hS (cMem [0] rfl) rfl hl.1 rfl (Nat.le_of_ble_eq_true rfl) dX3_run_46 ⟨Nat.zero_le _, Nat.zero_le _⟩ (fun H locs hB1 _ hk1 hS => ?_)
                have hP1 := hB1.2
                have hP := rP_meet hnd hP hk1 hP1
                have hP : va_P G vwCl (rW se q qc cI n f s0v10 s1v11 s2v12 s3v13 s4v14) H := hP
                refine W.eq (g2 := F0 m 49 ls []) rfl ?_
                exact J49 _ _ _ _ _ h _ _ hP hS _ hl
        exact J17 _ _ _ _ _ _ _ h _ _ hP hS _ (lv_sub hl [1, 2, 3, 4, 0] rfl)
  exact J7 _ _ _ _ _ _ _ h _ _ hP hS _ (lv_sub hl [1, 2, 3, 0] rfl)

theorem syX4_form : Vy yX4_form cX4_form 9 (some .int) 7 := ⟨w_125, ⟨w_123, w_124⟩, w_1, by decide +kernel⟩
set_option maxHeartbeats 4000000 in
set_option maxRecDepth 100000 in
theorem cnX4_form (l : Launch) (A : Nat → Prop) (G : va_G) (cI cF : ClassId) (tA tT : Nat) (o sh xx xc gv se : Nat) (fa ca : Nat → Nat) (n : Nat → Int32) (f : Nat → Nat → Int32) (xn : Int32) (xf : Nat → Int32) (gf : Nat → Int32) (s0 : Int32) (s1 : Int32) (s2 : Int32) (s3 : Int32) (s4 : Int32) (tr : Int64) (hnd : (cAd o sh xx xc gv se fa ca).Nodup) (hAA : ∀ x, x ∈ cAd o sh xx xc gv se fa ca → A x) {a0 : Int32} {a1 : Int32} {a2 : Int32} {a3 : Int32} {a4 : Int32} {a5 : Int32} {a6 : Int32} {r : Int32} {gf_r : Nat → Int32} {n_r : Nat → Int32} {f_r : Nat → Nat → Int32} (h : fX4_form n f gf a0 a1 a2 a3 a4 a5 a6 = some (r, gf_r, n_r, f_r)) : Mu l yX4_form cX4_form 9 (some .int) 2 42 [.ref o, .int a0, .int a1, .int a2, .int a3, .int a4, .int a5, .int a6] (fun x => x ∈ (cAd o sh xx xc gv se fa ca)) (cB A G cI cF tA tT o sh xx xc gv se fa ca n f xn xf gf s0 s1 s2 s3 s4 tr) (cB A G cI cF tA tT o sh xx xc gv se fa ca n_r f_r xn xf gf_r s0 s1 s2 s3 s4 tr) (some (.int r)) := by
  refine mu_i (plainFor_of_name (by decide)) (Nat.le_of_ble_eq_true rfl) cB_mv ?_
  intro p e s m args below meth cd Q ls hF hB hl END
  have hF : CallFix p m cd cX4_form 9 s args (wl yX4_form cX4_form 9 (some .int)) RX4 := hF
  obtain ⟨hx, hb, hml, hown, hts⟩ := id hF
  have hl : lv_has ls 9 [(0, .ref o), (1, .int a0), (2, .int a1), (3, .int a2), (4, .int a3), (5, .int a4), (6, .int a5), (7, .int a6)] := hl
  obtain ⟨hE, hP⟩ := hB
  obtain ⟨hK, ⟨hZ, hT⟩, ⟨hZ2, hT2⟩⟩ := id hE
  have hS : va_S (fun x => x ∈ (cAd o sh xx xc gv se fa ca)) s.heap s.heap [] := va_S.rf
  rw [fX4_form] at h
  refine lv_iload_n hx hb dX4_form_0 rfl (lv_at hl 1 rfl) ?_
  obtain ⟨r1, e2, h⟩ := pb h
  refine ro_S (As := [.int a0]) (rest := []) hF (fun _ h => wl_in h) (cnX4_isShelf l e2) syX4_isShelf w_126 ⟨Nat.le_of_ble_eq_true rfl, Nat.le_of_ble_eq_true rfl⟩ mv0 trivial rfl hl.1 rfl (Nat.le_of_ble_eq_true rfl) dX4_form_1 ⟨Nat.zero_le _, Nat.zero_le _⟩ ?_
  refine lv_if_eq (tgt := 17) hx hb dX4_form_4 (by decide) (fun c4 => ?_) (fun c4 => ?_)
  · have h := pt c4 h
    refine lv_bipush (v := (-3 : Int32)) hx hb dX4_form_17 (by decide) ?_
    have hh := pe h
    simp only [Prod.mk.injEq] at hh
    obtain ⟨z0, z1, z2, z3⟩ := hh
    subst z1
    subst z2
    subst z3
    exact END _ _ 19 ls s _ z0 dX4_form_19 rfl ⟨eB_S hE hS hAA, hP⟩ hS
  · have h := pf c4 h
    refine lv_iload_n hx hb dX4_form_7 rfl (lv_at hl 2 rfl) ?_
    refine lv_iconst (v := (1 : Int32)) hx hb dX4_form_8 (by decide) ?_
    refine lv_icmp_lt (tgt := 17) hx hb dX4_form_9 (by decide) (fun c9 => ?_) (fun c9 => ?_)
    · have h := pt c9 h
      refine lv_bipush (v := (-3 : Int32)) hx hb dX4_form_17 (by decide) ?_
      have hh := pe h
      simp only [Prod.mk.injEq] at hh
      obtain ⟨z0, z1, z2, z3⟩ := hh
      subst z1
      subst z2
      subst z3
      exact END _ _ 19 ls s _ z0 dX4_form_19 rfl ⟨eB_S hE hS hAA, hP⟩ hS
    · have h := pf c9 h
      refine lv_iload_n hx hb dX4_form_12 rfl (lv_at hl 2 rfl) ?_
      refine lv_iconst (v := (5 : Int32)) hx hb dX4_form_13 (by decide) ?_
      refine lv_icmp_le (tgt := 20) hx hb dX4_form_14 (by decide) (fun c14 => ?_) (fun c14 => ?_)
      · have h := pt c14 h
        refine lv_aload_n hx hb dX4_form_20 rfl (lv_at hl 0 rfl) ?_
        refine va_get (D := G) (ci := 2) (v := .ref gv) (C := RX4) (T := TX4) (N := 5) hx hb hts (fun w h => wl_in (inX4 w h)) hown hK hP 0 rfl rfl 2 (by decide) (hts _ (wl_in w_62)) (fun _ h9 => h9) rfl dX4_form_21 ?_
        refine lv_iconst (v := (0 : Int32)) hx hb dX4_form_24 (by decide) ?_
        refine lv_iload_n hx hb dX4_form_25 rfl (lv_at hl 3 rfl) ?_
        refine va_iast hx hb hK hP (va_Dn hnd rfl) hS 4 0 rfl rfl (by unfold vp_in; decide) dX4_form_26 (fun H locs hP _ hS => ?_)
        have hP : va_P G vwCl (cW cI cF o sh xx xc gv se fa ca n f xn xf (upd gf (0 : Int32).toNatClampNeg a2) s0 s1 s2 s3 s4 tr) H := hP
        refine lv_aload_n hx hb dX4_form_27 rfl (lv_at hl 0 rfl) ?_
        refine va_get (D := G) (ci := 2) (v := .ref gv) (C := RX4) (T := TX4) (N := 5) hx hb hts (fun w h => wl_in (inX4 w h)) hown hK hP 0 rfl rfl 2 (by decide) (hts _ (wl_in w_62)) (fun _ h9 => h9) rfl dX4_form_28 ?_
        refine lv_iconst (v := (1 : Int32)) hx hb dX4_form_31 (by decide) ?_
        refine lv_iload hx hb dX4_form_32 (lv_at hl 4 rfl) ?_
        refine va_iast hx hb hK hP (va_Dn hnd rfl) hS 4 0 rfl rfl (by unfold vp_in; decide) dX4_form_34 (fun H locs hP _ hS => ?_)
        have hP : va_P G vwCl (cW cI cF o sh xx xc gv se fa ca n f xn xf (upd (upd gf (0 : Int32).toNatClampNeg a2) (1 : Int32).toNatClampNeg a3) s0 s1 s2 s3 s4 tr) H := hP
        refine lv_aload_n hx hb dX4_form_35 rfl (lv_at hl 0 rfl) ?_
        refine va_get (D := G) (ci := 2) (v := .ref gv) (C := RX4) (T := TX4) (N := 5) hx hb hts (fun w h => wl_in (inX4 w h)) hown hK hP 0 rfl rfl 2 (by decide) (hts _ (wl_in w_62)) (fun _ h9 => h9) rfl dX4_form_36 ?_
        refine lv_iconst (v := (2 : Int32)) hx hb dX4_form_39 (by decide) ?_
        refine lv_iload hx hb dX4_form_40 (lv_at hl 5 rfl) ?_
        refine va_iast hx hb hK hP (va_Dn hnd rfl) hS 4 0 rfl rfl (by unfold vp_in; decide) dX4_form_42 (fun H locs hP _ hS => ?_)
        have hP : va_P G vwCl (cW cI cF o sh xx xc gv se fa ca n f xn xf (upd (upd (upd gf (0 : Int32).toNatClampNeg a2) (1 : Int32).toNatClampNeg a3) (2 : Int32).toNatClampNeg a4) s0 s1 s2 s3 s4 tr) H := hP
        refine lv_aload_n hx hb dX4_form_43 rfl (lv_at hl 0 rfl) ?_
        refine va_get (D := G) (ci := 2) (v := .ref gv) (C := RX4) (T := TX4) (N := 5) hx hb hts (fun w h => wl_in (inX4 w h)) hown hK hP 0 rfl rfl 2 (by decide) (hts _ (wl_in w_62)) (fun _ h9 => h9) rfl dX4_form_44 ?_
        refine lv_iconst (v := (3 : Int32)) hx hb dX4_form_47 (by decide) ?_
        refine lv_iload hx hb dX4_form_48 (lv_at hl 6 rfl) ?_
        refine va_iast hx hb hK hP (va_Dn hnd rfl) hS 4 0 rfl rfl (by unfold vp_in; decide) dX4_form_50 (fun H locs hP _ hS => ?_)
        have hP : va_P G vwCl (cW cI cF o sh xx xc gv se fa ca n f xn xf (upd (upd (upd (upd gf (0 : Int32).toNatClampNeg a2) (1 : Int32).toNatClampNeg a3) (2 : Int32).toNatClampNeg a4) (3 : Int32).toNatClampNeg a5) s0 s1 s2 s3 s4 tr) H := hP
        refine lv_aload_n hx hb dX4_form_51 rfl (lv_at hl 0 rfl) ?_
        refine va_get (D := G) (ci := 2) (v := .ref gv) (C := RX4) (T := TX4) (N := 5) hx hb hts (fun w h => wl_in (inX4 w h)) hown hK hP 0 rfl rfl 2 (by decide) (hts _ (wl_in w_62)) (fun _ h9 => h9) rfl dX4_form_52 ?_
        refine lv_iconst (v := (4 : Int32)) hx hb dX4_form_55 (by decide) ?_
        refine lv_iload hx hb dX4_form_56 (lv_at hl 7 rfl) ?_
        refine va_iast hx hb hK hP (va_Dn hnd rfl) hS 4 0 rfl rfl (by unfold vp_in; decide) dX4_form_58 (fun H locs hP _ hS => ?_)
        have hP : va_P G vwCl (cW cI cF o sh xx xc gv se fa ca n f xn xf (upd (upd (upd (upd (upd gf (0 : Int32).toNatClampNeg a2) (1 : Int32).toNatClampNeg a3) (2 : Int32).toNatClampNeg a4) (3 : Int32).toNatClampNeg a5) (4 : Int32).toNatClampNeg a6) s0 s1 s2 s3 s4 tr) H := hP
        refine lv_iconst (v := (0 : Int32)) hx hb dX4_form_59 (by decide) ?_
        refine lv_istore (lv' := [(8, .int (0 : Int32)), (0, .ref o), (1, .int a0), (2, .int a1), (3, .int a2), (4, .int a3), (5, .int a4), (6, .int a5), (7, .int a6)]) hx hb dX4_form_60 hl (by decide) rfl (fun ls hl => ?_)
        have J62 : ∀ (n62 : Nat) (x8_62 : Int32) (gf_62 : Nat → Int32) (n_62 : Nat → Int32) (f_62 : Nat → Nat → Int32), kX4_form_62 a0 a1 n62 x8_62 gf_62 n_62 f_62 = some (r, gf_r, n_r, f_r) → ∀ (H : Heap) (locs : List Loc), va_P G vwCl (cW cI cF o sh xx xc gv se fa ca n_62 f_62 xn xf gf_62 s0 s1 s2 s3 s4 tr) H → va_S (fun x => x ∈ (cAd o sh xx xc gv se fa ca)) s.heap H locs → ∀ (ls : Array Slot), lv_has ls 9 [(0, .ref o), (1, .int a0), (2, .int a1), (8, .int x8_62)] → W p l e (rmk 2 42) s m args below meth cd H locs 0 0 Q (F0 m 62 ls []) := by
          intro n62
          induction n62 with
          | zero =>
            intro x8_62 gf_62 n_62 f_62 h
            rw [kX4_form_62] at h
            cases h
          | succ n62 ih62 =>
            intro x8_62 gf_62 n_62 f_62 h H locs hP hS ls hl
            rw [kX4_form_62] at h
            refine lv_iload hx hb dX4_form_62 (lv_at hl 3 rfl) ?_
            refine lv_iload_n hx hb dX4_form_64 rfl (lv_at hl 2 rfl) ?_
            refine lv_icmp_ge (tgt := 93) hx hb dX4_form_65 (by decide) (fun c65 => ?_) (fun c65 => ?_)
            · have h := pt c65 h
              refine lv_aload_n hx hb dX4_form_93 rfl (lv_at hl 0 rfl) ?_
              refine va_get (D := G) (ci := 2) (v := .ref sh) (C := RX4) (T := TX4) (N := 5) hx hb hts (fun w h => wl_in (inX4 w h)) hown hK hP 0 rfl rfl 0 (by decide) (hts _ (wl_in w_60)) (fun _ h9 => h9) rfl dX4_form_94 ?_
              refine lv_iload_n hx hb dX4_form_97 rfl (lv_at hl 1 rfl) ?_
              obtain ⟨g3, h⟩ := pg h
              refine c_aald hx hb hK hP g3 dX4_form_98 ?_
              have hj5 := vin_lt g3
              have hPj4 := cP_form hP hj5
              refine lv_aload_n hx hb dX4_form_99 rfl (lv_at hl 0 rfl) ?_
              refine va_get (D := G) (ci := 2) (v := .ref gv) (C := RX4) (T := TX4) (N := 5) hx hb hts (fun w h => wl_in (inX4 w h)) hown hK hP 0 rfl rfl 2 (by decide) (hts _ (wl_in w_62)) (fun _ h9 => h9) rfl dX4_form_100 ?_
              refine lv_iload_n hx hb dX4_form_103 rfl (lv_at hl 2 rfl) ?_
              obtain ⟨⟨nv7, fv8⟩, e6, h⟩ := pb h
              refine mu_Vp (As := [.ref gv, .int a1]) (rest := []) hF (fun _ h => wl_in h) (cnX0_take l G cI cF (fa a0.toNatClampNeg) (ca a0.toNatClampNeg) gv 5 gf_62 (n_62 a0.toNatClampNeg) (f_62 a0.toNatClampNeg) (cNd_t hnd hj5) e6) syX0_take w_129 ⟨Nat.le_of_ble_eq_true rfl, Nat.le_of_ble_eq_true rfl⟩ tkB_mv.p tkB_mv ⟨hK, cP_tW hP hj5⟩ (va_recv hK (cP_form hP hj5) (ci := 0) (q0 := 0) rfl rfl) hS (cMem_t hj5) rfl hl.1 rfl (Nat.le_of_ble_eq_true rfl) dX4_form_104 ⟨Nat.zero_le _, Nat.zero_le _⟩ (fun H locs hB1 _ hk1 hS => ?_)
              have hP1 := hB1.2
              have hP := cP_take hnd hP hj5 hk1 hP1
              have hP : va_P G vwCl (cW cI cF o sh xx xc gv se fa ca (up1 n_62 a0.toNatClampNeg nv7) (up1 f_62 a0.toNatClampNeg fv8) xn xf gf_62 s0 s1 s2 s3 s4 tr) H := hP
              refine W.eq (g2 := F0 m 107 ls []) rfl ?_
              refine lv_iload_n hx hb dX4_form_107 rfl (lv_at hl 2 rfl) ?_
              have hh := pe h
              simp only [Prod.mk.injEq] at hh
              obtain ⟨z0, z1, z2, z3⟩ := hh
              subst z1
              subst z2
              subst z3
              exact END _ _ 108 ls s _ z0 dX4_form_108 rfl ⟨eB_S hE hS hAA, hP⟩ hS
            · have h := pf c65 h
              refine lv_aload_n hx hb dX4_form_68 rfl (lv_at hl 0 rfl) ?_
              refine va_get (D := G) (ci := 2) (v := .ref gv) (C := RX4) (T := TX4) (N := 5) hx hb hts (fun w h => wl_in (inX4 w h)) hown hK hP 0 rfl rfl 2 (by decide) (hts _ (wl_in w_62)) (fun _ h9 => h9) rfl dX4_form_69 ?_
              refine lv_iload hx hb dX4_form_72 (lv_at hl 3 rfl) ?_
              obtain ⟨g9, h⟩ := pg h
              refine va_iald hx hb hK hP 4 0 rfl rfl g9 dX4_form_74 ?_
              refine lv_sipush (v := (400 : Int32)) hx hb dX4_form_75 (by decide) ?_
              obtain ⟨r10, e11, h⟩ := pb h
              refine ro_S (As := [.int (gf_62 x8_62.toNatClampNeg), .int (400 : Int32)]) (rest := []) hF (fun _ h => wl_in h) (cnX4_isNumber l e11) syX4_isNumber w_81 ⟨Nat.le_of_ble_eq_true rfl, Nat.le_of_ble_eq_true rfl⟩ mv0 trivial rfl hl.1 rfl (Nat.le_of_ble_eq_true rfl) dX4_form_78 ⟨Nat.zero_le _, Nat.zero_le _⟩ ?_
              refine lv_if_ne (tgt := 87) hx hb dX4_form_81 (by decide) (fun c81 => ?_) (fun c81 => ?_)
              · have h := pf c81 h
                refine lv_iinc (v := x8_62 + (1 : Int32)) (lv' := [(8, .int (x8_62 + (1 : Int32))), (0, .ref o), (1, .int a0), (2, .int a1)]) hx hb dX4_form_87 hl (k := 3) rfl rfl (by decide) rfl (fun ls hl => ?_)
                refine lv_goto (tgt := 62) hx hb dX4_form_90 (by decide) ?_
                exact ih62 _ _ _ _ h _ _ hP hS _ (lv_sub hl [1, 2, 3, 0] rfl)
              · have h := pt c81 h
                refine lv_bipush (v := (-3 : Int32)) hx hb dX4_form_84 (by decide) ?_
                have hh := pe h
                simp only [Prod.mk.injEq] at hh
                obtain ⟨z0, z1, z2, z3⟩ := hh
                subst z1
                subst z2
                subst z3
                exact END _ _ 86 ls s _ z0 dX4_form_86 rfl ⟨eB_S hE hS hAA, hP⟩ hS
        exact J62 _ _ _ _ _ h _ _ hP hS _ (lv_sub hl [1, 2, 3, 0] rfl)
      · have h := pf c14 h
        refine lv_bipush (v := (-3 : Int32)) hx hb dX4_form_17 (by decide) ?_
        have hh := pe h
        simp only [Prod.mk.injEq] at hh
        obtain ⟨z0, z1, z2, z3⟩ := hh
        subst z1
        subst z2
        subst z3
        exact END _ _ 19 ls s _ z0 dX4_form_19 rfl ⟨eB_S hE hS hAA, hP⟩ hS

theorem syX4_takes : Vy yX4_takes cX4_takes 4 (some .int) 2 := ⟨w_205, ⟨w_203, w_204⟩, w_1, by decide +kernel⟩
set_option maxHeartbeats 4000000 in
set_option maxRecDepth 100000 in
theorem cnX4_takes (l : Launch) (A : Nat → Prop) (G : va_G) (cI cF : ClassId) (tA tT : Nat) (o sh xx xc gv se : Nat) (fa ca : Nat → Nat) (n : Nat → Int32) (f : Nat → Nat → Int32) (xn : Int32) (xf : Nat → Int32) (gf : Nat → Int32) (s0 : Int32) (s1 : Int32) (s2 : Int32) (s3 : Int32) (s4 : Int32) (tr : Int64) (hnd : (cAd o sh xx xc gv se fa ca).Nodup) (hAA : ∀ x, x ∈ cAd o sh xx xc gv se fa ca → A x) {a0 : Int32} {a1 : Int32} {r : Int32} {xn_r : Int32} {xf_r : Nat → Int32} (h : fX4_takes n f xn xf a0 a1 = some (r, xn_r, xf_r)) : Mu l yX4_takes cX4_takes 4 (some .int) 6 150 [.ref o, .int a0, .int a1] (fun x => x ∈ (cAd o sh xx xc gv se fa ca)) (cB A G cI cF tA tT o sh xx xc gv se fa ca n f xn xf gf s0 s1 s2 s3 s4 tr) (cB A G cI cF tA tT o sh xx xc gv se fa ca n f xn_r xf_r gf s0 s1 s2 s3 s4 tr) (some (.int r)) := by
  refine mu_i (plainFor_of_name (by decide)) (Nat.le_of_ble_eq_true rfl) cB_mv ?_
  intro p e s m args below meth cd Q ls hF hB hl END
  have hF : CallFix p m cd cX4_takes 4 s args (wl yX4_takes cX4_takes 4 (some .int)) RX4 := hF
  obtain ⟨hx, hb, hml, hown, hts⟩ := id hF
  have hl : lv_has ls 4 [(0, .ref o), (1, .int a0), (2, .int a1)] := hl
  obtain ⟨hE, hP⟩ := hB
  obtain ⟨hK, ⟨hZ, hT⟩, ⟨hZ2, hT2⟩⟩ := id hE
  have hS : va_S (fun x => x ∈ (cAd o sh xx xc gv se fa ca)) s.heap s.heap [] := va_S.rf
  rw [fX4_takes] at h
  refine lv_iload_n hx hb dX4_takes_0 rfl (lv_at hl 1 rfl) ?_
  obtain ⟨r1, e2, h⟩ := pb h
  refine ro_S (As := [.int a0]) (rest := []) hF (fun _ h => wl_in h) (cnX4_isShelf l e2) syX4_isShelf w_126 ⟨Nat.le_of_ble_eq_true rfl, Nat.le_of_ble_eq_true rfl⟩ mv0 trivial rfl hl.1 rfl (Nat.le_of_ble_eq_true rfl) dX4_takes_1 ⟨Nat.zero_le _, Nat.zero_le _⟩ ?_
  refine lv_if_eq (tgt := 17) hx hb dX4_takes_4 (by decide) (fun c4 => ?_) (fun c4 => ?_)
  · have h := pt c4 h
    refine lv_bipush (v := (-3 : Int32)) hx hb dX4_takes_17 (by decide) ?_
    have hh := pe h
    simp only [Prod.mk.injEq] at hh
    obtain ⟨z0, z1, z2⟩ := hh
    subst z1
    subst z2
    exact END _ _ 19 ls s _ z0 dX4_takes_19 rfl ⟨eB_S hE hS hAA, hP⟩ hS
  · have h := pf c4 h
    refine lv_iload_n hx hb dX4_takes_7 rfl (lv_at hl 2 rfl) ?_
    refine lv_sipush (v := (400 : Int32)) hx hb dX4_takes_8 (by decide) ?_
    obtain ⟨r3, e4, h⟩ := pb h
    refine ro_S (As := [.int a1, .int (400 : Int32)]) (rest := []) hF (fun _ h => wl_in h) (cnX4_isNumber l e4) syX4_isNumber w_81 ⟨Nat.le_of_ble_eq_true rfl, Nat.le_of_ble_eq_true rfl⟩ mv0 trivial rfl hl.1 rfl (Nat.le_of_ble_eq_true rfl) dX4_takes_11 ⟨Nat.zero_le _, Nat.zero_le _⟩ ?_
    refine lv_if_ne (tgt := 20) hx hb dX4_takes_14 (by decide) (fun c14 => ?_) (fun c14 => ?_)
    · have h := pf c14 h
      refine lv_aload_n hx hb dX4_takes_20 rfl (lv_at hl 0 rfl) ?_
      refine va_get (D := G) (ci := 2) (v := .ref sh) (C := RX4) (T := TX4) (N := 5) hx hb hts (fun w h => wl_in (inX4 w h)) hown hK hP 0 rfl rfl 0 (by decide) (hts _ (wl_in w_60)) (fun _ h9 => h9) rfl dX4_takes_21 ?_
      refine lv_iload_n hx hb dX4_takes_24 rfl (lv_at hl 1 rfl) ?_
      obtain ⟨g5, h⟩ := pg h
      refine c_aald hx hb hK hP g5 dX4_takes_25 ?_
      have hj7 := vin_lt g5
      have hPj6 := cP_form hP hj7
      refine lv_astore_n (lv' := [(3, .ref (fa a0.toNatClampNeg)), (0, .ref o), (1, .int a0), (2, .int a1)]) hx hb dX4_takes_26 rfl hl (by decide) rfl (fun ls hl => ?_)
      refine lv_aload_n hx hb dX4_takes_27 rfl (lv_at hl 1 rfl) ?_
      refine va_get (D := G) (ci := 2) (v := .ref xx) (C := RX4) (T := TX4) (N := 5) hx hb hts (fun w h => wl_in (inX4 w h)) hown hK hP 0 rfl rfl 1 (by decide) (hts _ (wl_in w_61)) (fun _ h9 => h9) rfl dX4_takes_28 ?_
      refine lv_aload_n hx hb dX4_takes_31 rfl (lv_at hl 0 rfl) ?_
      refine va_get (D := G) (ci := 0) (v := .ref (ca a0.toNatClampNeg)) (C := RX0) (T := TX0) (N := 2) hx hb hts (fun w h => wl_in (inX0 w h)) hown hK hPj6 0 rfl rfl 1 (by decide) (hts _ (wl_in w_26)) (fun _ h9 => h9) rfl dX4_takes_32 ?_
      refine lv_aload_n hx hb dX4_takes_35 rfl (lv_at hl 0 rfl) ?_
      refine va_get (D := G) (ci := 0) (v := .int (n a0.toNatClampNeg)) (C := RX0) (T := TX0) (N := 2) hx hb hts (fun w h => wl_in (inX0 w h)) hown hK hPj6 0 rfl rfl 0 (by decide) (hts _ (wl_in w_24)) (fun _ h9 => h9) rfl dX4_takes_36 ?_
      obtain ⟨⟨nv9, fv10⟩, e8, h⟩ := pb h
      refine mu_Vp (As := [.ref (ca a0.toNatClampNeg), .int (n a0.toNatClampNeg)]) (rest := []) hF (fun _ h => wl_in h) (cnX0_take l G cI cF xx xc (ca a0.toNatClampNeg) 6 (f a0.toNatClampNeg) xn xf (cNd_x hnd hj7) e8) syX0_take w_129 ⟨Nat.le_of_ble_eq_true rfl, Nat.le_of_ble_eq_true rfl⟩ tkB_mv.p tkB_mv ⟨hK, cP_xW hP hj7⟩ (va_recv hK hP (ci := 0) (q0 := 2) rfl rfl) hS (cMem_x hj7) rfl hl.1 rfl (Nat.le_of_ble_eq_true rfl) dX4_takes_39 ⟨Nat.zero_le _, Nat.zero_le _⟩ (fun H locs hB1 _ hk1 hS => ?_)
      have hP1 := hB1.2
      have hP := cP_ext hnd hP hj7 hk1 hP1
      have hP : va_P G vwCl (cW cI cF o sh xx xc gv se fa ca n f nv9 fv10 gf s0 s1 s2 s3 s4 tr) H := hP
      refine W.eq (g2 := F0 m 42 ls []) rfl ?_
      refine lv_aload_n hx hb dX4_takes_42 rfl (lv_at hl 1 rfl) ?_
      refine va_get (D := G) (ci := 2) (v := .ref xx) (C := RX4) (T := TX4) (N := 5) hx hb hts (fun w h => wl_in (inX4 w h)) hown hK hP 0 rfl rfl 1 (by decide) (hts _ (wl_in w_61)) (fun _ h9 => h9) rfl dX4_takes_43 ?_
      refine lv_iload_n hx hb dX4_takes_46 rfl (lv_at hl 3 rfl) ?_
      refine lv_ineg hx hb dX4_takes_47 ?_
      obtain ⟨⟨nv12, fv13⟩, e11, h⟩ := pb h
      refine mu_Vp (As := [.int (-a1)]) (rest := []) hF (fun _ h => wl_in h) (cnX0_append l G cI cF xx xc nv9 fv10 (cNd_a hnd) e11) syX0_append w_206 ⟨Nat.le_of_ble_eq_true rfl, Nat.le_of_ble_eq_true rfl⟩ apB_mv.p apB_mv ⟨hK, hP.sub [2, 3] rfl⟩ (va_recv hK hP (ci := 0) (q0 := 2) rfl rfl) hS cMem_a rfl hl.1 rfl (Nat.le_of_ble_eq_true rfl) dX4_takes_48 ⟨Nat.zero_le _, Nat.zero_le _⟩ (fun H locs hB1 _ hk1 hS => ?_)
      have hP1 := hB1.2
      have hP := cP_app hnd hP hk1 hP1
      have hP : va_P G vwCl (cW cI cF o sh xx xc gv se fa ca n f nv12 fv13 gf s0 s1 s2 s3 s4 tr) H := hP
      refine W.eq (g2 := F0 m 51 ls []) rfl ?_
      refine lv_aload_n hx hb dX4_takes_51 rfl (lv_at hl 1 rfl) ?_
      refine va_get (D := G) (ci := 2) (v := .ref xx) (C := RX4) (T := TX4) (N := 5) hx hb hts (fun w h => wl_in (inX4 w h)) hown hK hP 0 rfl rfl 1 (by decide) (hts _ (wl_in w_61)) (fun _ h9 => h9) rfl dX4_takes_52 ?_
      obtain ⟨r14, e15, h⟩ := pb h
      refine ro_V (As := []) (rest := []) hF (fun _ h => wl_in h) (cnX0_countBars l A G cI cF tA tT xx xc nv12 fv13 e15) syX0_countBars w_181 ⟨Nat.le_of_ble_eq_true rfl, Nat.le_of_ble_eq_true rfl⟩ fB_mv ⟨(eB_S hE hS hAA), (va_P.sub (ws' := fW xx xc cI nv12 fv13) hP [2, 3] rfl)⟩ (va_recv hK (va_P.sub (ws' := fW xx xc cI nv12 fv13) hP [2, 3] rfl) (ci := 0) (q0 := 0) rfl rfl) rfl hl.1 rfl (Nat.le_of_ble_eq_true rfl) dX4_takes_55 ⟨Nat.zero_le _, Nat.zero_le _⟩ ?_
      refine lv_if_ne (tgt := 65) hx hb dX4_takes_58 (by decide) (fun c58 => ?_) (fun c58 => ?_)
      · have h := pf c58 h
        refine lv_iconst (v := (0 : Int32)) hx hb dX4_takes_65 (by decide) ?_
        have hh := pe h
        simp only [Prod.mk.injEq] at hh
        obtain ⟨z0, z1, z2⟩ := hh
        subst z1
        subst z2
        exact END _ _ 66 ls s _ z0 dX4_takes_66 rfl ⟨eB_S hE hS hAA, hP⟩ hS
      · have h := pt c58 h
        refine lv_iconst (v := (1 : Int32)) hx hb dX4_takes_61 (by decide) ?_
        refine lv_goto (tgt := 66) hx hb dX4_takes_62 (by decide) ?_
        have hh := pe h
        simp only [Prod.mk.injEq] at hh
        obtain ⟨z0, z1, z2⟩ := hh
        subst z1
        subst z2
        exact END _ _ 66 ls s _ z0 dX4_takes_66 rfl ⟨eB_S hE hS hAA, hP⟩ hS
    · have h := pt c14 h
      refine lv_bipush (v := (-3 : Int32)) hx hb dX4_takes_17 (by decide) ?_
      have hh := pe h
      simp only [Prod.mk.injEq] at hh
      obtain ⟨z0, z1, z2⟩ := hh
      subst z1
      subst z2
      exact END _ _ 19 ls s _ z0 dX4_takes_19 rfl ⟨eB_S hE hS hAA, hP⟩ hS

theorem syX4_measure : Vy yX4_measure cX4_measure 5 (some .int) 4 := ⟨w_234, ⟨w_232, w_233⟩, w_1, by decide +kernel⟩
set_option maxHeartbeats 4000000 in
set_option maxRecDepth 100000 in
theorem cnX4_measure (l : Launch) (A : Nat → Prop) (G : va_G) (cI cF : ClassId) (tA tT : Nat) (o sh xx xc gv se : Nat) (fa ca : Nat → Nat) (n : Nat → Int32) (f : Nat → Nat → Int32) (xn : Int32) (xf : Nat → Int32) (gf : Nat → Int32) (s0 : Int32) (s1 : Int32) (s2 : Int32) (s3 : Int32) (s4 : Int32) (tr : Int64) (hnd : (cAd o sh xx xc gv se fa ca).Nodup) (hAA : ∀ x, x ∈ cAd o sh xx xc gv se fa ca → A x) {a0 : Int32} {a1 : Int32} {a2 : Int32} {a3 : Int32} {r : Int32} {tr_r : Int64} (h : fX4_measure tr a0 a1 a2 a3 = some (r, tr_r)) : Mu l yX4_measure cX4_measure 5 (some .int) 5 114 [.ref o, .int a0, .int a1, .int a2, .int a3] (fun x => x ∈ (cAd o sh xx xc gv se fa ca)) (cB A G cI cF tA tT o sh xx xc gv se fa ca n f xn xf gf s0 s1 s2 s3 s4 tr) (cB A G cI cF tA tT o sh xx xc gv se fa ca n f xn xf gf s0 s1 s2 s3 s4 tr_r) (some (.int r)) := by
  refine mu_i (plainFor_of_name (by decide)) (Nat.le_of_ble_eq_true rfl) cB_mv ?_
  intro p e s m args below meth cd Q ls hF hB hl END
  have hF : CallFix p m cd cX4_measure 5 s args (wl yX4_measure cX4_measure 5 (some .int)) RX4 := hF
  obtain ⟨hx, hb, hml, hown, hts⟩ := id hF
  have hl : lv_has ls 5 [(0, .ref o), (1, .int a0), (2, .int a1), (3, .int a2), (4, .int a3)] := hl
  obtain ⟨hE, hP⟩ := hB
  obtain ⟨hK, ⟨hZ, hT⟩, ⟨hZ2, hT2⟩⟩ := id hE
  have hS : va_S (fun x => x ∈ (cAd o sh xx xc gv se fa ca)) s.heap s.heap [] := va_S.rf
  rw [fX4_measure] at h
  refine lv_iload_n hx hb dX4_measure_0 rfl (lv_at hl 1 rfl) ?_
  refine lv_if_lt (tgt := 21) hx hb dX4_measure_1 (by decide) (fun c1 => ?_) (fun c1 => ?_)
  · have h := pt c1 h
    refine lv_bipush (v := (-3 : Int32)) hx hb dX4_measure_21 (by decide) ?_
    have hh := pe h
    simp only [Prod.mk.injEq] at hh
    obtain ⟨z0, z1⟩ := hh
    subst z1
    exact END _ _ 23 ls s _ z0 dX4_measure_23 rfl ⟨eB_S hE hS hAA, hP⟩ hS
  · have h := pf c1 h
    refine lv_iload_n hx hb dX4_measure_4 rfl (lv_at hl 1 rfl) ?_
    refine lv_iconst (v := (3 : Int32)) hx hb dX4_measure_5 (by decide) ?_
    refine lv_icmp_ge (tgt := 21) hx hb dX4_measure_6 (by decide) (fun c6 => ?_) (fun c6 => ?_)
    · have h := pt c6 h
      refine lv_bipush (v := (-3 : Int32)) hx hb dX4_measure_21 (by decide) ?_
      have hh := pe h
      simp only [Prod.mk.injEq] at hh
      obtain ⟨z0, z1⟩ := hh
      subst z1
      exact END _ _ 23 ls s _ z0 dX4_measure_23 rfl ⟨eB_S hE hS hAA, hP⟩ hS
    · have h := pf c6 h
      refine lv_iload_n hx hb dX4_measure_9 rfl (lv_at hl 2 rfl) ?_
      refine lv_iload_n hx hb dX4_measure_10 rfl (lv_at hl 3 rfl) ?_
      refine lv_iload hx hb dX4_measure_11 (lv_at hl 4 rfl) ?_
      refine lv_bipush (v := (30 : Int32)) hx hb dX4_measure_13 (by decide) ?_
      obtain ⟨r1, e2, h⟩ := pb h
      refine ro_S (As := [.int a1, .int a2, .int a3, .int (30 : Int32)]) (rest := []) hF (fun _ h => wl_in h) (cnX4_areWithin l e2) syX4_areWithin w_223 ⟨Nat.le_of_ble_eq_true rfl, Nat.le_of_ble_eq_true rfl⟩ mv0 trivial rfl hl.1 rfl (Nat.le_of_ble_eq_true rfl) dX4_measure_15 ⟨Nat.zero_le _, Nat.zero_le _⟩ ?_
      refine lv_if_ne (tgt := 24) hx hb dX4_measure_18 (by decide) (fun c18 => ?_) (fun c18 => ?_)
      · have h := pf c18 h
        refine lv_aload_n hx hb dX4_measure_24 rfl (lv_at hl 0 rfl) ?_
        refine lv_dup hx hb dX4_measure_25 rfl ?_
        refine va_get (D := G) (ci := 2) (v := .long tr) (C := RX4) (T := TX4) (N := 5) hx hb hts (fun w h => wl_in (inX4 w h)) hown hK hP 0 rfl rfl 4 (by decide) (hts _ (wl_in w_64)) (fun _ h9 => h9) rfl dX4_measure_26 ?_
        refine va_gets hx hb hZ2 (A := A) va_S.rf hown (hts _ (wl_in w_235)) (fun _ h9 => h9) dX4_measure_29 ?_
        refine lv_iload_n hx hb dX4_measure_32 rfl (lv_at hl 1 rfl) ?_
        obtain ⟨g3, h⟩ := pg h
        refine va_ti (v := .int (trcv a0.toNatClampNeg)) hx hb hT2 va_S.rf g3 rfl dX4_measure_33 ?_
        refine lv_i2l (v := (trcv a0.toNatClampNeg).toInt64) hx hb dX4_measure_34 rfl ?_
        refine lv_ladd hx hb dX4_measure_35 ?_
        refine va_put (D := G) (ci := 2) (v := .long (tr + ((trcv a0.toNatClampNeg).toInt64))) (ty := .long) (C := RX4) (T := TX4) (N := 5) hx hb hts (fun w h => wl_in (inX4 w h)) tyX4 tyX4_ok nmX4 hown hK hP (va_Dn hnd rfl) hS 0 rfl rfl 4 (by decide) (hts _ (wl_in w_64)) (fun _ h9 => h9) rfl (by decide +kernel) rfl rfl (Nat.le_of_ble_eq_true rfl) dX4_measure_36 (fun H locs hP _ hS => ?_)
        have hP : va_P G vwCl (cW cI cF o sh xx xc gv se fa ca n f xn xf gf s0 s1 s2 s3 s4 (tr + ((trcv a0.toNatClampNeg).toInt64))) H := hP
        refine lv_iload_n hx hb dX4_measure_39 rfl (lv_at hl 1 rfl) ?_
        refine lv_iload_n hx hb dX4_measure_40 rfl (lv_at hl 2 rfl) ?_
        refine lv_iload_n hx hb dX4_measure_41 rfl (lv_at hl 3 rfl) ?_
        refine lv_iload hx hb dX4_measure_42 (lv_at hl 4 rfl) ?_
        obtain ⟨r4, e5, h⟩ := pb h
        refine ro_S (As := [.int a0, .int a1, .int a2, .int a3]) (rest := []) hF (fun _ h => wl_in h) (cnX1_byKind l e5) syX1_byKind w_237 ⟨Nat.le_of_ble_eq_true rfl, Nat.le_of_ble_eq_true rfl⟩ mv0 trivial rfl hl.1 rfl (Nat.le_of_ble_eq_true rfl) dX4_measure_44 ⟨Nat.zero_le _, Nat.zero_le _⟩ ?_
        have hh := pe h
        simp only [Prod.mk.injEq] at hh
        obtain ⟨z0, z1⟩ := hh
        subst z1
        exact END _ _ 47 ls s _ z0 dX4_measure_47 rfl ⟨eB_S hE hS hAA, hP⟩ hS
      · have h := pt c18 h
        refine lv_bipush (v := (-3 : Int32)) hx hb dX4_measure_21 (by decide) ?_
        have hh := pe h
        simp only [Prod.mk.injEq] at hh
        obtain ⟨z0, z1⟩ := hh
        subst z1
        exact END _ _ 23 ls s _ z0 dX4_measure_23 rfl ⟨eB_S hE hS hAA, hP⟩ hS

theorem syX4_least : Vy yX4_least cX4_least 4 (some .long) 3 := ⟨w_258, ⟨w_256, w_257⟩, w_1, by decide +kernel⟩
set_option maxHeartbeats 4000000 in
set_option maxRecDepth 100000 in
theorem cnX4_least (l : Launch) (A : Nat → Prop) (G : va_G) (cI cF : ClassId) (tA tT : Nat) (o sh xx xc gv se : Nat) (fa ca : Nat → Nat) (n : Nat → Int32) (f : Nat → Nat → Int32) (xn : Int32) (xf : Nat → Int32) (gf : Nat → Int32) (s0 : Int32) (s1 : Int32) (s2 : Int32) (s3 : Int32) (s4 : Int32) (tr : Int64) (hnd : (cAd o sh xx xc gv se fa ca).Nodup) (hAA : ∀ x, x ∈ cAd o sh xx xc gv se fa ca → A x) {a0 : Int32} {a1 : Int32} {a2 : Int32} {r : Int64} {s0_r : Int32} {s1_r : Int32} {s2_r : Int32} {s3_r : Int32} {s4_r : Int32} (h : fX4_least n f s0 s1 s2 s3 s4 a0 a1 a2 = some (r, s0_r, s1_r, s2_r, s3_r, s4_r)) : Mu l yX4_least cX4_least 4 (some .long) 7 164 [.ref o, .int a0, .int a1, .int a2] (fun x => x ∈ (cAd o sh xx xc gv se fa ca)) (cBn A G cI cF tA tT o sh xx xc gv se fa ca n f xn xf gf s0 s1 s2 s3 s4 tr) (cB A G cI cF tA tT o sh xx xc gv se fa ca n f xn xf gf s0_r s1_r s2_r s3_r s4_r tr) (some (.long r)) := by
  refine mu_l (plainFor_of_name (by decide)) (Nat.le_of_ble_eq_true rfl) cB_mv ?_
  intro p e s m args below meth cd Q ls hF hB hl END
  have hF : CallFix p m cd cX4_least 4 s args (wl yX4_least cX4_least 4 (some .long)) RX4 := hF
  obtain ⟨hx, hb, hml, hown, hts⟩ := id hF
  have hl : lv_has ls 4 [(0, .ref o), (1, .int a0), (2, .int a1), (3, .int a2)] := hl
  obtain ⟨⟨hE, hP⟩, hN⟩ := hB
  obtain ⟨hK, ⟨hZ, hT⟩, ⟨hZ2, hT2⟩⟩ := id hE
  have hS : va_S (fun x => x ∈ (cAd o sh xx xc gv se fa ca)) s.heap s.heap [] := va_S.rf
  rw [fX4_least] at h
  refine lv_iload_n hx hb dX4_least_0 rfl (lv_at hl 1 rfl) ?_
  obtain ⟨r1, e2, h⟩ := pb h
  refine ro_S (As := [.int a0]) (rest := []) hF (fun _ h => wl_in h) (cnX4_isShelf l e2) syX4_isShelf w_126 ⟨Nat.le_of_ble_eq_true rfl, Nat.le_of_ble_eq_true rfl⟩ mv0 trivial rfl hl.1 rfl (Nat.le_of_ble_eq_true rfl) dX4_least_1 ⟨Nat.zero_le _, Nat.zero_le _⟩ ?_
  refine lv_if_eq (tgt := 20) hx hb dX4_least_4 (by decide) (fun c4 => ?_) (fun c4 => ?_)
  · have h := pt c4 h
    refine lv_ldc2 (v := (-1000000000000000 : Int64)) hx hb hown (hts _ (wl_in w_226)) dX4_least_20 ?_
    have hh := pe h
    simp only [Prod.mk.injEq] at hh
    obtain ⟨z0, z1, z2, z3, z4, z5⟩ := hh
    subst z1
    subst z2
    subst z3
    subst z4
    subst z5
    exact END _ _ 23 ls s _ z0 dX4_least_23 rfl ⟨eB_S hE hS hAA, hP⟩ hS
  · have h := pf c4 h
    refine lv_aload_n hx hb dX4_least_7 rfl (lv_at hl 0 rfl) ?_
    refine va_get (D := G) (ci := 2) (v := .ref sh) (C := RX4) (T := TX4) (N := 5) hx hb hts (fun w h => wl_in (inX4 w h)) hown hK hP 0 rfl rfl 0 (by decide) (hts _ (wl_in w_60)) (fun _ h9 => h9) rfl dX4_least_8 ?_
    refine lv_iload_n hx hb dX4_least_11 rfl (lv_at hl 1 rfl) ?_
    obtain ⟨g3, h⟩ := pg h
    refine c_aald hx hb hK hP g3 dX4_least_12 ?_
    have hj5 := vin_lt g3
    have hPj4 := cP_form hP hj5
    refine va_get (D := G) (ci := 0) (v := .int (n a0.toNatClampNeg)) (C := RX0) (T := TX0) (N := 2) hx hb hts (fun w h => wl_in (inX0 w h)) hown hK hPj4 0 rfl rfl 0 (by decide) (hts _ (wl_in w_24)) (fun _ h9 => h9) rfl dX4_least_13 ?_
    refine lv_iconst (v := (3 : Int32)) hx hb dX4_least_16 (by decide) ?_
    refine lv_icmp_eq (tgt := 24) hx hb dX4_least_17 (by decide) (fun c17 => ?_) (fun c17 => ?_)
    · have h := pt c17 h
      refine lv_iload_n hx hb dX4_least_24 rfl (lv_at hl 2 rfl) ?_
      refine lv_if_lt (tgt := 42) hx hb dX4_least_25 (by decide) (fun c25 => ?_) (fun c25 => ?_)
      · have h := pt c25 h
        refine lv_ldc2 (v := (-1000000000000000 : Int64)) hx hb hown (hts _ (wl_in w_226)) dX4_least_42 ?_
        have hh := pe h
        simp only [Prod.mk.injEq] at hh
        obtain ⟨z0, z1, z2, z3, z4, z5⟩ := hh
        subst z1
        subst z2
        subst z3
        subst z4
        subst z5
        exact END _ _ 45 ls s _ z0 dX4_least_45 rfl ⟨eB_S hE hS hAA, hP⟩ hS
      · have h := pf c25 h
        refine lv_iload_n hx hb dX4_least_28 rfl (lv_at hl 2 rfl) ?_
        refine lv_iconst (v := (3 : Int32)) hx hb dX4_least_29 (by decide) ?_
        refine lv_icmp_ge (tgt := 42) hx hb dX4_least_30 (by decide) (fun c30 => ?_) (fun c30 => ?_)
        · have h := pt c30 h
          refine lv_ldc2 (v := (-1000000000000000 : Int64)) hx hb hown (hts _ (wl_in w_226)) dX4_least_42 ?_
          have hh := pe h
          simp only [Prod.mk.injEq] at hh
          obtain ⟨z0, z1, z2, z3, z4, z5⟩ := hh
          subst z1
          subst z2
          subst z3
          subst z4
          subst z5
          exact END _ _ 45 ls s _ z0 dX4_least_45 rfl ⟨eB_S hE hS hAA, hP⟩ hS
        · have h := pf c30 h
          refine lv_iload_n hx hb dX4_least_33 rfl (lv_at hl 3 rfl) ?_
          refine lv_if_lt (tgt := 42) hx hb dX4_least_34 (by decide) (fun c34 => ?_) (fun c34 => ?_)
          · have h := pt c34 h
            refine lv_ldc2 (v := (-1000000000000000 : Int64)) hx hb hown (hts _ (wl_in w_226)) dX4_least_42 ?_
            have hh := pe h
            simp only [Prod.mk.injEq] at hh
            obtain ⟨z0, z1, z2, z3, z4, z5⟩ := hh
            subst z1
            subst z2
            subst z3
            subst z4
            subst z5
            exact END _ _ 45 ls s _ z0 dX4_least_45 rfl ⟨eB_S hE hS hAA, hP⟩ hS
          · have h := pf c34 h
            refine lv_iload_n hx hb dX4_least_37 rfl (lv_at hl 3 rfl) ?_
            refine lv_iconst (v := (3 : Int32)) hx hb dX4_least_38 (by decide) ?_
            refine lv_icmp_le (tgt := 46) hx hb dX4_least_39 (by decide) (fun c39 => ?_) (fun c39 => ?_)
            · have h := pt c39 h
              refine lv_aload_n hx hb dX4_least_46 rfl (lv_at hl 0 rfl) ?_
              refine va_get (D := G) (ci := 2) (v := .ref se) (C := RX4) (T := TX4) (N := 5) hx hb hts (fun w h => wl_in (inX4 w h)) hown hK hP 0 rfl rfl 3 (by decide) (hts _ (wl_in w_63)) (fun _ h9 => h9) rfl dX4_least_47 ?_
              refine lv_aload_n hx hb dX4_least_50 rfl (lv_at hl 0 rfl) ?_
              refine va_get (D := G) (ci := 2) (v := .ref sh) (C := RX4) (T := TX4) (N := 5) hx hb hts (fun w h => wl_in (inX4 w h)) hown hK hP 0 rfl rfl 0 (by decide) (hts _ (wl_in w_60)) (fun _ h9 => h9) rfl dX4_least_51 ?_
              refine lv_iload_n hx hb dX4_least_54 rfl (lv_at hl 1 rfl) ?_
              obtain ⟨g6, h⟩ := pg h
              refine c_aald hx hb hK hP g6 dX4_least_55 ?_
              have hj8 := vin_lt g6
              have hPj7 := cP_form hP hj8
              refine lv_iload_n hx hb dX4_least_56 rfl (lv_at hl 2 rfl) ?_
              obtain ⟨⟨s0v10, s1v11, s2v12, s3v13, s4v14⟩, e9, h⟩ := pb h
              refine mu_Vp (As := [.ref (fa a0.toNatClampNeg), .int a1]) (rest := []) hF (fun _ h => wl_in h) (cnX3_run l A G cI cF tA tT se (fa a0.toNatClampNeg) (ca a0.toNatClampNeg) (n a0.toNatClampNeg) (f a0.toNatClampNeg) s0 s1 s2 s3 s4 (cNd_r hnd hj8) (fun x hx => hAA x (cMem_r hj8 x hx)) e9) syX3_run w_259 ⟨Nat.le_of_ble_eq_true rfl, Nat.le_of_ble_eq_true rfl⟩ rnBn_mv rnB_mv ⟨⟨eB_S hE hS hAA, cP_rW hP hj8⟩, hN⟩ (va_recv hK hP (ci := 1) (q0 := 5) rfl rfl) hS (cMem_r hj8) rfl hl.1 rfl (Nat.le_of_ble_eq_true rfl) dX4_least_57 ⟨Nat.zero_le _, Nat.zero_le _⟩ (fun H locs hB1 _ hk1 hS => ?_)
              have hP1 := hB1.2
              have hP := cP_run hnd hP hj8 hk1 hP1
              have hP : va_P G vwCl (cW cI cF o sh xx xc gv se fa ca n f xn xf gf s0v10 s1v11 s2v12 s3v13 s4v14 tr) H := hP
              refine W.eq (g2 := F0 m 60 ls []) rfl ?_
              refine lv_aload_n hx hb dX4_least_60 rfl (lv_at hl 0 rfl) ?_
              refine va_get (D := G) (ci := 2) (v := .ref se) (C := RX4) (T := TX4) (N := 5) hx hb hts (fun w h => wl_in (inX4 w h)) hown hK hP 0 rfl rfl 3 (by decide) (hts _ (wl_in w_63)) (fun _ h9 => h9) rfl dX4_least_61 ?_
              refine va_get (D := G) (ci := 1) (v := .int s0v10) (C := RX3) (T := TX3) (N := 5) hx hb hts (fun w h => wl_in (inX3 w h)) hown hK hP 5 rfl rfl 0 (by decide) (hts _ (wl_in w_40)) (fun _ h9 => h9) rfl dX4_least_64 ?_
              refine lv_if_ne (tgt := 74) hx hb dX4_least_67 (by decide) (fun c67 => ?_) (fun c67 => ?_)
              · have h := pf c67 h
                refine lv_iload_n hx hb dX4_least_74 rfl (lv_at hl 3 rfl) ?_
                refine lv_iconst (v := (3 : Int32)) hx hb dX4_least_75 (by decide) ?_
                refine lv_icmp_ne (tgt := 88) hx hb dX4_least_76 (by decide) (fun c76 => ?_) (fun c76 => ?_)
                · have h := pf c76 h
                  refine lv_iload_n hx hb dX4_least_88 rfl (lv_at hl 3 rfl) ?_
                  refine lv_aload_n hx hb dX4_least_89 rfl (lv_at hl 0 rfl) ?_
                  refine va_get (D := G) (ci := 2) (v := .ref se) (C := RX4) (T := TX4) (N := 5) hx hb hts (fun w h => wl_in (inX4 w h)) hown hK hP 0 rfl rfl 3 (by decide) (hts _ (wl_in w_63)) (fun _ h9 => h9) rfl dX4_least_90 ?_
                  refine va_get (D := G) (ci := 1) (v := .int s2v12) (C := RX3) (T := TX3) (N := 5) hx hb hts (fun w h => wl_in (inX3 w h)) hown hK hP 5 rfl rfl 2 (by decide) (hts _ (wl_in w_44)) (fun _ h9 => h9) rfl dX4_least_93 ?_
                  refine lv_i2l (v := s2v12.toInt64) hx hb dX4_least_96 rfl ?_
                  refine lv_aload_n hx hb dX4_least_97 rfl (lv_at hl 0 rfl) ?_
                  refine va_get (D := G) (ci := 2) (v := .ref se) (C := RX4) (T := TX4) (N := 5) hx hb hts (fun w h => wl_in (inX4 w h)) hown hK hP 0 rfl rfl 3 (by decide) (hts _ (wl_in w_63)) (fun _ h9 => h9) rfl dX4_least_98 ?_
                  refine va_get (D := G) (ci := 1) (v := .int s3v13) (C := RX3) (T := TX3) (N := 5) hx hb hts (fun w h => wl_in (inX3 w h)) hown hK hP 5 rfl rfl 3 (by decide) (hts _ (wl_in w_46)) (fun _ h9 => h9) rfl dX4_least_101 ?_
                  refine lv_i2l (v := s3v13.toInt64) hx hb dX4_least_104 rfl ?_
                  refine lv_aload_n hx hb dX4_least_105 rfl (lv_at hl 0 rfl) ?_
                  refine va_get (D := G) (ci := 2) (v := .ref se) (C := RX4) (T := TX4) (N := 5) hx hb hts (fun w h => wl_in (inX4 w h)) hown hK hP 0 rfl rfl 3 (by decide) (hts _ (wl_in w_63)) (fun _ h9 => h9) rfl dX4_least_106 ?_
                  refine va_get (D := G) (ci := 1) (v := .int s4v14) (C := RX3) (T := TX3) (N := 5) hx hb hts (fun w h => wl_in (inX3 w h)) hown hK hP 5 rfl rfl 4 (by decide) (hts _ (wl_in w_48)) (fun _ h9 => h9) rfl dX4_least_109 ?_
                  refine lv_i2l (v := s4v14.toInt64) hx hb dX4_least_112 rfl ?_
                  obtain ⟨r15, e16, h⟩ := pb h
                  refine ro_S (As := [.int a2, .long s2v12.toInt64, .long s3v13.toInt64, .long s4v14.toInt64]) (rest := []) hF (fun _ h => wl_in h) (cnX4_pick l e16) syX4_pick w_285 ⟨Nat.le_of_ble_eq_true rfl, Nat.le_of_ble_eq_true rfl⟩ mv0 trivial rfl hl.1 rfl (Nat.le_of_ble_eq_true rfl) dX4_least_113 ⟨Nat.zero_le _, Nat.zero_le _⟩ ?_
                  have hh := pe h
                  simp only [Prod.mk.injEq] at hh
                  obtain ⟨z0, z1, z2, z3, z4, z5⟩ := hh
                  subst z1
                  subst z2
                  subst z3
                  subst z4
                  subst z5
                  exact END _ _ 116 ls s _ z0 dX4_least_116 rfl ⟨eB_S hE hS hAA, hP⟩ hS
                · have h := pt c76 h
                  refine lv_aload_n hx hb dX4_least_79 rfl (lv_at hl 0 rfl) ?_
                  refine va_get (D := G) (ci := 2) (v := .ref se) (C := RX4) (T := TX4) (N := 5) hx hb hts (fun w h => wl_in (inX4 w h)) hown hK hP 0 rfl rfl 3 (by decide) (hts _ (wl_in w_63)) (fun _ h9 => h9) rfl dX4_least_80 ?_
                  refine va_get (D := G) (ci := 1) (v := .int s1v11) (C := RX3) (T := TX3) (N := 5) hx hb hts (fun w h => wl_in (inX3 w h)) hown hK hP 5 rfl rfl 1 (by decide) (hts _ (wl_in w_42)) (fun _ h9 => h9) rfl dX4_least_83 ?_
                  refine lv_i2l (v := s1v11.toInt64) hx hb dX4_least_86 rfl ?_
                  have hh := pe h
                  simp only [Prod.mk.injEq] at hh
                  obtain ⟨z0, z1, z2, z3, z4, z5⟩ := hh
                  subst z1
                  subst z2
                  subst z3
                  subst z4
                  subst z5
                  exact END _ _ 87 ls s _ z0 dX4_least_87 rfl ⟨eB_S hE hS hAA, hP⟩ hS
              · have h := pt c67 h
                refine lv_ldc2 (v := (-999999999999999 : Int64)) hx hb hown (hts _ (wl_in w_284)) dX4_least_70 ?_
                have hh := pe h
                simp only [Prod.mk.injEq] at hh
                obtain ⟨z0, z1, z2, z3, z4, z5⟩ := hh
                subst z1
                subst z2
                subst z3
                subst z4
                subst z5
                exact END _ _ 73 ls s _ z0 dX4_least_73 rfl ⟨eB_S hE hS hAA, hP⟩ hS
            · have h := pf c39 h
              refine lv_ldc2 (v := (-1000000000000000 : Int64)) hx hb hown (hts _ (wl_in w_226)) dX4_least_42 ?_
              have hh := pe h
              simp only [Prod.mk.injEq] at hh
              obtain ⟨z0, z1, z2, z3, z4, z5⟩ := hh
              subst z1
              subst z2
              subst z3
              subst z4
              subst z5
              exact END _ _ 45 ls s _ z0 dX4_least_45 rfl ⟨eB_S hE hS hAA, hP⟩ hS
    · have h := pf c17 h
      refine lv_ldc2 (v := (-1000000000000000 : Int64)) hx hb hown (hts _ (wl_in w_226)) dX4_least_20 ?_
      have hh := pe h
      simp only [Prod.mk.injEq] at hh
      obtain ⟨z0, z1, z2, z3, z4, z5⟩ := hh
      subst z1
      subst z2
      subst z3
      subst z4
      subst z5
      exact END _ _ 23 ls s _ z0 dX4_least_23 rfl ⟨eB_S hE hS hAA, hP⟩ hS

theorem syX4_many : Vy yX4_many cX4_many 2 (some .int) 1 := ⟨w_291, ⟨w_289, w_290⟩, w_1, by decide +kernel⟩
set_option maxHeartbeats 4000000 in
set_option maxRecDepth 100000 in
theorem cnX4_many (l : Launch) (A : Nat → Prop) (G : va_G) (cI cF : ClassId) (tA tT : Nat) (o sh xx xc gv se : Nat) (fa ca : Nat → Nat) (n : Nat → Int32) (f : Nat → Nat → Int32) (xn : Int32) (xf : Nat → Int32) (gf : Nat → Int32) (s0 : Int32) (s1 : Int32) (s2 : Int32) (s3 : Int32) (s4 : Int32) (tr : Int64) (hnd : (cAd o sh xx xc gv se fa ca).Nodup) (hAA : ∀ x, x ∈ cAd o sh xx xc gv se fa ca → A x) {a0 : Int32} {r : Int32} {s0_r : Int32} {s1_r : Int32} {s2_r : Int32} {s3_r : Int32} {s4_r : Int32} (h : fX4_many n f s0 s1 s2 s3 s4 a0 = some (r, s0_r, s1_r, s2_r, s3_r, s4_r)) : Mu l yX4_many cX4_many 2 (some .int) 7 164 [.ref o, .int a0] (fun x => x ∈ (cAd o sh xx xc gv se fa ca)) (cBn A G cI cF tA tT o sh xx xc gv se fa ca n f xn xf gf s0 s1 s2 s3 s4 tr) (cB A G cI cF tA tT o sh xx xc gv se fa ca n f xn xf gf s0_r s1_r s2_r s3_r s4_r tr) (some (.int r)) := by
  refine mu_i (plainFor_of_name (by decide)) (Nat.le_of_ble_eq_true rfl) cB_mv ?_
  intro p e s m args below meth cd Q ls hF hB hl END
  have hF : CallFix p m cd cX4_many 2 s args (wl yX4_many cX4_many 2 (some .int)) RX4 := hF
  obtain ⟨hx, hb, hml, hown, hts⟩ := id hF
  have hl : lv_has ls 2 [(0, .ref o), (1, .int a0)] := hl
  obtain ⟨⟨hE, hP⟩, hN⟩ := hB
  obtain ⟨hK, ⟨hZ, hT⟩, ⟨hZ2, hT2⟩⟩ := id hE
  have hS : va_S (fun x => x ∈ (cAd o sh xx xc gv se fa ca)) s.heap s.heap [] := va_S.rf
  rw [fX4_many] at h
  refine lv_iload_n hx hb dX4_many_0 rfl (lv_at hl 1 rfl) ?_
  obtain ⟨r1, e2, h⟩ := pb h
  refine ro_S (As := [.int a0]) (rest := []) hF (fun _ h => wl_in h) (cnX4_isShelf l e2) syX4_isShelf w_126 ⟨Nat.le_of_ble_eq_true rfl, Nat.le_of_ble_eq_true rfl⟩ mv0 trivial rfl hl.1 rfl (Nat.le_of_ble_eq_true rfl) dX4_many_1 ⟨Nat.zero_le _, Nat.zero_le _⟩ ?_
  refine lv_if_eq (tgt := 20) hx hb dX4_many_4 (by decide) (fun c4 => ?_) (fun c4 => ?_)
  · have h := pt c4 h
    refine lv_bipush (v := (-3 : Int32)) hx hb dX4_many_20 (by decide) ?_
    have hh := pe h
    simp only [Prod.mk.injEq] at hh
    obtain ⟨z0, z1, z2, z3, z4, z5⟩ := hh
    subst z1
    subst z2
    subst z3
    subst z4
    subst z5
    exact END _ _ 22 ls s _ z0 dX4_many_22 rfl ⟨eB_S hE hS hAA, hP⟩ hS
  · have h := pf c4 h
    refine lv_aload_n hx hb dX4_many_7 rfl (lv_at hl 0 rfl) ?_
    refine va_get (D := G) (ci := 2) (v := .ref sh) (C := RX4) (T := TX4) (N := 5) hx hb hts (fun w h => wl_in (inX4 w h)) hown hK hP 0 rfl rfl 0 (by decide) (hts _ (wl_in w_60)) (fun _ h9 => h9) rfl dX4_many_8 ?_
    refine lv_iload_n hx hb dX4_many_11 rfl (lv_at hl 1 rfl) ?_
    obtain ⟨g3, h⟩ := pg h
    refine c_aald hx hb hK hP g3 dX4_many_12 ?_
    have hj5 := vin_lt g3
    have hPj4 := cP_form hP hj5
    refine va_get (D := G) (ci := 0) (v := .int (n a0.toNatClampNeg)) (C := RX0) (T := TX0) (N := 2) hx hb hts (fun w h => wl_in (inX0 w h)) hown hK hPj4 0 rfl rfl 0 (by decide) (hts _ (wl_in w_24)) (fun _ h9 => h9) rfl dX4_many_13 ?_
    refine lv_iconst (v := (3 : Int32)) hx hb dX4_many_16 (by decide) ?_
    refine lv_icmp_eq (tgt := 23) hx hb dX4_many_17 (by decide) (fun c17 => ?_) (fun c17 => ?_)
    · have h := pt c17 h
      refine lv_aload_n hx hb dX4_many_23 rfl (lv_at hl 0 rfl) ?_
      refine va_get (D := G) (ci := 2) (v := .ref se) (C := RX4) (T := TX4) (N := 5) hx hb hts (fun w h => wl_in (inX4 w h)) hown hK hP 0 rfl rfl 3 (by decide) (hts _ (wl_in w_63)) (fun _ h9 => h9) rfl dX4_many_24 ?_
      refine lv_aload_n hx hb dX4_many_27 rfl (lv_at hl 0 rfl) ?_
      refine va_get (D := G) (ci := 2) (v := .ref sh) (C := RX4) (T := TX4) (N := 5) hx hb hts (fun w h => wl_in (inX4 w h)) hown hK hP 0 rfl rfl 0 (by decide) (hts _ (wl_in w_60)) (fun _ h9 => h9) rfl dX4_many_28 ?_
      refine lv_iload_n hx hb dX4_many_31 rfl (lv_at hl 1 rfl) ?_
      obtain ⟨g6, h⟩ := pg h
      refine c_aald hx hb hK hP g6 dX4_many_32 ?_
      have hj8 := vin_lt g6
      have hPj7 := cP_form hP hj8
      refine lv_iconst (v := (0 : Int32)) hx hb dX4_many_33 (by decide) ?_
      obtain ⟨⟨s0v10, s1v11, s2v12, s3v13, s4v14⟩, e9, h⟩ := pb h
      refine mu_Vp (As := [.ref (fa a0.toNatClampNeg), .int (0 : Int32)]) (rest := []) hF (fun _ h => wl_in h) (cnX3_run l A G cI cF tA tT se (fa a0.toNatClampNeg) (ca a0.toNatClampNeg) (n a0.toNatClampNeg) (f a0.toNatClampNeg) s0 s1 s2 s3 s4 (cNd_r hnd hj8) (fun x hx => hAA x (cMem_r hj8 x hx)) e9) syX3_run w_259 ⟨Nat.le_of_ble_eq_true rfl, Nat.le_of_ble_eq_true rfl⟩ rnBn_mv rnB_mv ⟨⟨eB_S hE hS hAA, cP_rW hP hj8⟩, hN⟩ (va_recv hK hP (ci := 1) (q0 := 5) rfl rfl) hS (cMem_r hj8) rfl hl.1 rfl (Nat.le_of_ble_eq_true rfl) dX4_many_34 ⟨Nat.zero_le _, Nat.zero_le _⟩ (fun H locs hB1 _ hk1 hS => ?_)
      have hP1 := hB1.2
      have hP := cP_run hnd hP hj8 hk1 hP1
      have hP : va_P G vwCl (cW cI cF o sh xx xc gv se fa ca n f xn xf gf s0v10 s1v11 s2v12 s3v13 s4v14 tr) H := hP
      refine W.eq (g2 := F0 m 37 ls []) rfl ?_
      refine lv_aload_n hx hb dX4_many_37 rfl (lv_at hl 0 rfl) ?_
      refine va_get (D := G) (ci := 2) (v := .ref se) (C := RX4) (T := TX4) (N := 5) hx hb hts (fun w h => wl_in (inX4 w h)) hown hK hP 0 rfl rfl 3 (by decide) (hts _ (wl_in w_63)) (fun _ h9 => h9) rfl dX4_many_38 ?_
      refine va_get (D := G) (ci := 1) (v := .int s0v10) (C := RX3) (T := TX3) (N := 5) hx hb hts (fun w h => wl_in (inX3 w h)) hown hK hP 5 rfl rfl 0 (by decide) (hts _ (wl_in w_40)) (fun _ h9 => h9) rfl dX4_many_41 ?_
      have hh := pe h
      simp only [Prod.mk.injEq] at hh
      obtain ⟨z0, z1, z2, z3, z4, z5⟩ := hh
      subst z1
      subst z2
      subst z3
      subst z4
      subst z5
      exact END _ _ 44 ls s _ z0 dX4_many_44 rfl ⟨eB_S hE hS hAA, hP⟩ hS
    · have h := pf c17 h
      refine lv_bipush (v := (-3 : Int32)) hx hb dX4_many_20 (by decide) ?_
      have hh := pe h
      simp only [Prod.mk.injEq] at hh
      obtain ⟨z0, z1, z2, z3, z4, z5⟩ := hh
      subst z1
      subst z2
      subst z3
      subst z4
      subst z5
      exact END _ _ 22 ls s _ z0 dX4_many_22 rfl ⟨eB_S hE hS hAA, hP⟩ hS
