section LAW
variable {p : Program} {l : Launch} {e : Env} {s : State} {m : MethodId} {below : List Frame} {meth : Method} {c : Code} {b L : Nat} {xs : Nat → Int32} {G : va_G} {cI cF : ClassId} {tA tT o sh xx xc gv se : Nat} {fa ca : Nat → Nat} {h0 hs hr : Nat} {x3 : Int32}
variable {n : Nat → Int32} {f : Nat → Nat → Int32} {xn : Int32} {xf gf : Nat → Int32} {s0 s1 s2 s3 s4 : Int32} {tr tm : Int64} {sz rw : Nat → Int32} {bx by_ bz bm so : Int32} {H : Heap} {locs : List Loc} {ls : Array Slot}
theorem lp_idx {L i : Nat} {x3 : Int32} (hL : L ≤ 4608) (e : x3 = nI i) (h : i + 9 ≤ L) : Idx x3 L := by
  subst e
  refine ⟨(by rw [show (1 : Int32) = nI 1 from rfl, nI_add]; exact vp_in_nI (by omega) (by omega)), (by rw [show (2 : Int32) = nI 2 from rfl, nI_add]; exact vp_in_nI (by omega) (by omega)), (by rw [show (3 : Int32) = nI 3 from rfl, nI_add]; exact vp_in_nI (by omega) (by omega)), (by rw [show (4 : Int32) = nI 4 from rfl, nI_add]; exact vp_in_nI (by omega) (by omega)), (by rw [show (5 : Int32) = nI 5 from rfl, nI_add]; exact vp_in_nI (by omega) (by omega)), (by rw [show (6 : Int32) = nI 6 from rfl, nI_add]; exact vp_in_nI (by omega) (by omega)), (by rw [show (7 : Int32) = nI 7 from rfl, nI_add]; exact vp_in_nI (by omega) (by omega)), (by rw [show (8 : Int32) = nI 8 from rfl, nI_add]; exact vp_in_nI (by omega) (by omega))⟩
theorem lp_lt {L i : Nat} (hL : L ≤ 4608) (hi : i ≤ L) (h : ¬ nI L - (9 : Int32) < nI i) : i + 9 ≤ L := by
  have h9 : (nI L - nI 9).toInt = (L : Int) - (9 : Nat) := pk_sub_toInt (by omega) (by omega)
  have h2 : (nI i).toInt = (i : Int) := nI_toInt (by omega)
  have h3 : ¬ (nI L - nI 9) < nI i := h
  rw [Int32.lt_iff_toInt_lt, h9, h2] at h3
  omega
set_option maxHeartbeats 4000000 in
set_option maxRecDepth 100000 in
theorem law_loop (hL : L ≤ 4608) (C0 : lw_At p s m meth c b L xs) (X : Fix s o sh xx xc gv se fa ca h0 hs hr) :
    ∀ (k i : Nat) (x3 : Int32), i ≤ L → L + 1 ≤ i + k → x3 = nI i → ∀ (n : Nat → Int32) (f : Nat → Nat → Int32) (xn : Int32) (xf gf : Nat → Int32) (s0 s1 s2 s3 s4 : Int32) (tr tm : Int64) (sz rw : Nat → Int32) (bx by_ bz bm so : Int32) (H : Heap) (locs : List Loc) (ls : Array Slot), Rel n f tr sz rw tm → cB (lA s) G cI cF tA tT o sh xx xc gv se fa ca n f xn xf gf s0 s1 s2 s3 s4 tr s H → mB G h0 hs hr cI cF tm sz rw bx by_ bz bm so s H → va_S (lA s) s.heap H locs → lv_has ls 4 [(0, .ref b), (1, .ref o), (2, .ref h0), (3, .int x3)] → W p l e room_1 s m #[Value.ref b] below meth c H locs 17 97 (lw_Z below #[Value.ref b] s) (F0 m 18 ls []) := by
  obtain ⟨hx, hb, hret, hml, hown, hts, hX, hbl, hlocks, hgv⟩ := id C0
  have hbA : ¬ lA s b := Nat.not_le.mpr hbl
  intro k
  induction k with
  | zero =>
    intro i x3 h1 h2
    exact absurd h2 (by omega)
  | succ k ih =>
    intro i x3 hi hin ex3 n f xn xf gf s0 s1 s2 s3 s4 tr tm sz rw bx by_ bz bm so H locs ls hR hC hM hS hl
    refine lv_iload_n hx hb dL_law_18 rfl (lv_at hl 3 rfl) ?_
    refine lv_aload_n hx hb dL_law_19 rfl (lv_at hl 0 rfl) ?_
    refine va_slen hx hb hX hbl hbA hS dL_law_20 ?_
    refine lv_bipush (v := (9 : Int32)) hx hb dL_law_21 (by decide) ?_
    refine lv_isub hx hb dL_law_23 ?_
    refine lv_icmp_gt (tgt := 919) hx hb dL_law_24 (by decide) (fun _ => ?_) (fun c24 => ?_)
    · refine lv_iconst (v := (1 : Int32)) hx hb dL_law_919 (by decide) ?_
      refine va_forget (fun q hq => hS.2.2 q hq) ?_
      refine W.widen (k := 600000) (n := 7302250) (by decide) (by decide) ?_
      exact lw_ret hx hb hret hlocks dL_law_920
    · have h9 : i + 9 ≤ L := lp_lt hL hi (by rw [ex3] at c24; exact c24)
      have hidx := lp_idx hL ex3 h9
      have hK : LCont p l e s m below meth c b G cI cF tA tT o sh xx xc gv se fa ca h0 hs hr x3 := by
        intro n f xn xf gf s0 s1 s2 s3 s4 tr tm sz rw bx by_ bz bm so H locs ls hR hC hM hS hl
        refine lv_iinc (v := x3 + (9 : Int32)) (lv' := [(3, .int (x3 + (9 : Int32))), (0, .ref b), (1, .ref o), (2, .ref h0)]) hx hb dL_law_913 hl (k := 3) rfl rfl (by decide) rfl (fun ls hl => ?_)
        refine lv_goto (tgt := 18) hx hb dL_law_916 (by decide) ?_
        exact ih (i + 9) (x3 + (9 : Int32)) h9 (by omega) (by rw [ex3]; exact nI_add i 9) _ _ _ _ _ _ _ _ _ _ _ _ _ _ _ _ _ _ _ _ _ _ hR hC hM hS (lv_sub hl [1, 2, 3, 0] rfl)
      refine lv_aload_n hx hb dL_law_27 rfl (lv_at hl 0 rfl) ?_
      refine lv_iload_n hx hb dL_law_28 rfl (lv_at hl 3 rfl) ?_
      refine va_sld hx hb hX hbl hbA hS (by rw [ex3]; exact vp_in_nI (by omega) (by omega)) dL_law_29 ?_
      refine lv_bipush (v := (31 : Int32)) hx hb dL_law_30 (by decide) ?_
      refine lv_iand hx hb dL_law_32 ?_
      refine lv_topi (fun t et => ?_)
      by_cases t0 : t = (0 : Int32)
      · refine lv_tableIn (tgt := 128) hx hb dL_law_33 (by rw [t0]; decide) (by rw [t0]; decide) (by rw [t0]; rfl) (by decide) ?_
        exact law_free C0 X hidx hK hR hC hM hS hl
      by_cases t1 : t = (1 : Int32)
      · refine lv_tableIn (tgt := 151) hx hb dL_law_33 (by rw [t1]; decide) (by rw [t1]; decide) (by rw [t1]; rfl) (by decide) ?_
        exact law_sign C0 X hidx hK hR hC hM hS hl
      by_cases t2 : t = (2 : Int32)
      · refine lv_tableIn (tgt := 194) hx hb dL_law_33 (by rw [t2]; decide) (by rw [t2]; decide) (by rw [t2]; rfl) (by decide) ?_
        exact law_odds C0 X hidx hK hR hC hM hS hl
      by_cases t3 : t = (3 : Int32)
      · refine lv_tableIn (tgt := 227) hx hb dL_law_33 (by rw [t3]; decide) (by rw [t3]; decide) (by rw [t3]; rfl) (by decide) ?_
        exact law_form C0 X hidx hK hR hC hM hS hl
      by_cases t4 : t = (4 : Int32)
      · refine lv_tableIn (tgt := 314) hx hb dL_law_33 (by rw [t4]; decide) (by rw [t4]; decide) (by rw [t4]; rfl) (by decide) ?_
        exact law_at C0 X hidx hK hR hC hM hS hl
      by_cases t5 : t = (5 : Int32)
      · refine lv_tableIn (tgt := 347) hx hb dL_law_33 (by rw [t5]; decide) (by rw [t5]; decide) (by rw [t5]; rfl) (by decide) ?_
        exact law_whole C0 X hidx hK hR hC hM hS hl
      by_cases t6 : t = (6 : Int32)
      · refine lv_tableIn (tgt := 381) hx hb dL_law_33 (by rw [t6]; decide) (by rw [t6]; decide) (by rw [t6]; rfl) (by decide) ?_
        exact law_hold C0 X hidx hK hR hC hM hS hl
      by_cases t7 : t = (7 : Int32)
      · refine lv_tableIn (tgt := 414) hx hb dL_law_33 (by rw [t7]; decide) (by rw [t7]; decide) (by rw [t7]; rfl) (by decide) ?_
        exact law_goes C0 X hidx hK hR hC hM hS hl
      by_cases t8 : t = (8 : Int32)
      · refine lv_tableIn (tgt := 447) hx hb dL_law_33 (by rw [t8]; decide) (by rw [t8]; decide) (by rw [t8]; rfl) (by decide) ?_
        exact law_nought C0 X hidx hK hR hC hM hS hl
      by_cases t9 : t = (9 : Int32)
      · refine lv_tableIn (tgt := 470) hx hb dL_law_33 (by rw [t9]; decide) (by rw [t9]; decide) (by rw [t9]; rfl) (by decide) ?_
        exact law_bars C0 X hidx hK hR hC hM hS hl
      by_cases t10 : t = (10 : Int32)
      · refine lv_tableIn (tgt := 493) hx hb dL_law_33 (by rw [t10]; decide) (by rw [t10]; decide) (by rw [t10]; rfl) (by decide) ?_
        exact law_bar C0 X hidx hK hR hC hM hS hl
      by_cases t11 : t = (11 : Int32)
      · refine lv_tableIn (tgt := 526) hx hb dL_law_33 (by rw [t11]; decide) (by rw [t11]; decide) (by rw [t11]; rfl) (by decide) ?_
        exact law_takes C0 X hidx hK hR hC hM hS hl
      by_cases t12 : t = (12 : Int32)
      · refine lv_tableIn (tgt := 559) hx hb dL_law_33 (by rw [t12]; decide) (by rw [t12]; decide) (by rw [t12]; rfl) (by decide) ?_
        exact law_alike C0 X hidx hK hR hC hM hS hl
      by_cases t13 : t = (13 : Int32)
      · refine lv_tableIn (tgt := 592) hx hb dL_law_33 (by rw [t13]; decide) (by rw [t13]; decide) (by rw [t13]; rfl) (by decide) ?_
        exact law_worth C0 X hidx hK hR hC hM hS hl
      by_cases t14 : t = (14 : Int32)
      · refine lv_tableIn (tgt := 646) hx hb dL_law_33 (by rw [t14]; decide) (by rw [t14]; decide) (by rw [t14]; rfl) (by decide) ?_
        exact law_measure C0 X hidx hK hR hC hM hS hl
      by_cases t15 : t = (15 : Int32)
      · refine lv_tableIn (tgt := 699) hx hb dL_law_33 (by rw [t15]; decide) (by rw [t15]; decide) (by rw [t15]; rfl) (by decide) ?_
        exact law_least C0 X hidx hK hR hC hM hS hl
      by_cases t16 : t = (16 : Int32)
      · refine lv_tableIn (tgt := 743) hx hb dL_law_33 (by rw [t16]; decide) (by rw [t16]; decide) (by rw [t16]; rfl) (by decide) ?_
        exact law_many C0 X hidx hK hR hC hM hS hl
      by_cases t17 : t = (17 : Int32)
      · refine lv_tableIn (tgt := 766) hx hb dL_law_33 (by rw [t17]; decide) (by rw [t17]; decide) (by rw [t17]; rfl) (by decide) ?_
        exact law_line C0 X hidx hK hR hC hM hS hl
      by_cases t18 : t = (18 : Int32)
      · refine lv_tableIn (tgt := 866) hx hb dL_law_33 (by rw [t18]; decide) (by rw [t18]; decide) (by rw [t18]; rfl) (by decide) ?_
        exact law_count C0 X hidx hK hR hC hM hS hl
      by_cases t19 : t = (19 : Int32)
      · refine lv_tableIn (tgt := 899) hx hb dL_law_33 (by rw [t19]; decide) (by rw [t19]; decide) (by rw [t19]; rfl) (by decide) ?_
        exact law_trace C0 X hidx hK hR hC hM hS hl
      refine lv_tableOut (tgt := 913) hx hb dL_law_33 (by have q0 := sw_ne t0; have q1 := sw_ne t1; have q2 := sw_ne t2; have q3 := sw_ne t3; have q4 := sw_ne t4; have q5 := sw_ne t5; have q6 := sw_ne t6; have q7 := sw_ne t7; have q8 := sw_ne t8; have q9 := sw_ne t9; have q10 := sw_ne t10; have q11 := sw_ne t11; have q12 := sw_ne t12; have q13 := sw_ne t13; have q14 := sw_ne t14; have q15 := sw_ne t15; have q16 := sw_ne t16; have q17 := sw_ne t17; have q18 := sw_ne t18; have q19 := sw_ne t19; simp only [show (0 : Int32).toInt = 0 from rfl, show (1 : Int32).toInt = 1 from rfl, show (2 : Int32).toInt = 2 from rfl, show (3 : Int32).toInt = 3 from rfl, show (4 : Int32).toInt = 4 from rfl, show (5 : Int32).toInt = 5 from rfl, show (6 : Int32).toInt = 6 from rfl, show (7 : Int32).toInt = 7 from rfl, show (8 : Int32).toInt = 8 from rfl, show (9 : Int32).toInt = 9 from rfl, show (10 : Int32).toInt = 10 from rfl, show (11 : Int32).toInt = 11 from rfl, show (12 : Int32).toInt = 12 from rfl, show (13 : Int32).toInt = 13 from rfl, show (14 : Int32).toInt = 14 from rfl, show (15 : Int32).toInt = 15 from rfl, show (16 : Int32).toInt = 16 from rfl, show (17 : Int32).toInt = 17 from rfl, show (18 : Int32).toInt = 18 from rfl, show (19 : Int32).toInt = 19 from rfl] at *; omega) (by decide) ?_
      exact hK _ _ _ _ _ _ _ _ _ _ _ _ _ _ _ _ _ _ _ _ _ _ hR hC hM hS hl
end LAW
