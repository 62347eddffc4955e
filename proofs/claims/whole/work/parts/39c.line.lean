/-! the line through a solution -/
theorem nb {c x : Int} {p q : Nat} (hc : c.natAbs ≤ p) (hx : x.natAbs ≤ q) : (c * x).natAbs ≤ p * q := by
  rw [Int.natAbs_mul]
  exact Nat.mul_le_mul hc hx
theorem l_mb {X Y : Int64} {p q : Nat} (hX : X.toInt.natAbs ≤ p) (hY : Y.toInt.natAbs ≤ q) (h : p * q < 9000000000000000000) : (X * Y).toInt.natAbs ≤ p * q := by
  have e := nb hX hY
  rw [l_mul (by omega) (by omega)]
  exact e
theorem l_ab {X Y : Int64} {p q : Nat} (hX : X.toInt.natAbs ≤ p) (hY : Y.toInt.natAbs ≤ q) (h : p + q < 9000000000000000000) : (X + Y).toInt.natAbs ≤ p + q := by
  rw [l_add (by omega) (by omega)]
  omega
theorem l_sb {X Y : Int64} {p q : Nat} (hX : X.toInt.natAbs ≤ p) (hY : Y.toInt.natAbs ≤ q) (h : p + q < 9000000000000000000) : (X - Y).toInt.natAbs ≤ p + q := by
  rw [l_sub (by omega) (by omega)]
  omega
theorem near_b {x : Int32} (h : Near x) : x.toInt64.toInt.natAbs ≤ 30 := by
  rw [i2l]
  have := h.1
  have := h.2
  omega
theorem pair_b {f rw : Nat → Int32} {j : Nat} (h : Row f rw j 3) {x y z u v w : Int32} (hx : Near x) (hy : Near y) (hz : Near z) (hu : Near u) (hv : Near v) (hw : Near w) : (((((f 0).toInt64 * x.toInt64) * u.toInt64) + (((f 1).toInt64 * y.toInt64) * v.toInt64)) + (((f 2).toInt64 * z.toInt64) * w.toInt64)).toInt.natAbs ≤ 1080000 := by
  have c : ∀ i, i < 3 → (f i).toInt64.toInt.natAbs ≤ 400 := by
    intro i hi
    obtain ⟨-, -, c1, c2⟩ := h.2.2 i hi
    rw [i2l]
    omega
  have m : ∀ i (a b : Int32), i < 3 → Near a → Near b → (((f i).toInt64 * a.toInt64) * b.toInt64).toInt.natAbs ≤ 400 * 30 * 30 := by
    intro i a b hi ha hb
    exact l_mb (l_mb (c i hi) (near_b ha) (by decide)) (near_b hb) (by decide)
  exact l_ab (l_ab (m 0 x u (by decide) hx hu) (m 1 y v (by decide) hy hv) (by decide)) (m 2 z w (by decide) hz hw) (by decide)
theorem lin_b {E P : Int64} (hE : E.toInt.natAbs ≤ 1080000) (hP : P.toInt.natAbs ≤ 1080000) {a b : Int32} (ha : Near a) (hb : Near b) : Sm (E * a.toInt64 - ((2 : Int64) * P) * b.toInt64) := by
  have e := l_sb (l_mb hE (near_b ha) (by decide)) (l_mb (l_mb (X := (2 : Int64)) (p := 2) (by decide) hP (by decide)) (near_b hb) (by decide)) (by decide)
  unfold Sm
  omega
theorem g3_r {X Y Z : Int64} (hX : Sm X) (hY : Sm Y) (hZ : Sm Z) : (fX5_common X Y).bind (fun r => fX5_common r Z) = some (lN (g3 X.toInt Y.toInt Z.toInt)) := by
  obtain ⟨s1, s2⟩ := Sm_gcd hX hY
  rw [common_r hX hY, Option.bind_some, common_r s1 hZ, s2, Int.natAbs_natCast, Nat.gcd_assoc]
  rfl
/-- the end of both: the same answer -/
theorem lin_same {X Y Z : Int64} (hX : Sm X) (hY : Sm Y) (hZ : Sm Z) (A B C : Int64) {i : Nat} (hi : i ≤ 2) : ∃ r : Int64,
    ((fX4_reducer X Y Z).bind fun (r19 : Int64) => (if (lg_cmp r19 (0 : Int64)) = 0 then (fX4_pick (nI i) A B C).bind fun (r24 : Int64) => some r24 else (fX4_pick (nI i) X Y Z).bind fun (r21 : Int64) => (if ¬ r19 = 0 then some (r21 / r19) else none))) = some r ∧
    ((fX5_common X Y).bind fun (r16 : Int64) => (fX5_common r16 Z).bind fun (r18 : Int64) => (if (lg_cmp r18 (0 : Int64)) = 0 then (if nI i = 0 then some A else (if nI i = (1 : Int32) then some B else some C)) else (fX5_isFirstAbove X Y Z).bind fun (r20 : Int32) => (if r20 = 0 then (if nI i = 0 then (if ¬ (-r18) = 0 then some (X / (-r18)) else none) else (if nI i = (1 : Int32) then (if ¬ (-r18) = 0 then some (Y / (-r18)) else none) else (if ¬ (-r18) = 0 then some (Z / (-r18)) else none))) else (if nI i = 0 then (if ¬ r18 = 0 then some (X / r18) else none) else (if nI i = (1 : Int32) then (if ¬ r18 = 0 then some (Y / r18) else none) else (if ¬ r18 = 0 then some (Z / r18) else none)))))) = some r := by
  have hg := g3_lt hX hY hZ
  have hb := common_r hX hY
  obtain ⟨s1, s2⟩ := Sm_gcd hX hY
  have hc := common_r s1 hZ
  rw [s2, Int.natAbs_natCast, Nat.gcd_assoc] at hc
  have hc' : fX5_common (lN (X.toInt.natAbs.gcd Y.toInt.natAbs)) Z = some (lN (g3 X.toInt Y.toInt Z.toInt)) := hc
  rw [hb, Option.bind_some, hc', Option.bind_some]
  obtain ⟨R, r1, r2⟩ := reducer_v hX hY hZ
  rw [r1, Option.bind_some]
  have hz : lg_cmp (lN (g3 X.toInt Y.toInt Z.toInt)) (0 : Int64) = 0 ↔ g3 X.toInt Y.toInt Z.toInt = 0 := cmpN (by omega)
  have hpick : ∀ a b c : Int64, fX4_pick (nI i) a b c = some (if nI i = 0 then a else if nI i = (1 : Int32) then b else c) := by
    intro a b c
    unfold fX4_pick
    by_cases q0 : nI i = 0
    · rw [if_pos q0, if_pos q0]
    · rw [if_neg q0, if_neg q0]
      by_cases q1 : nI i = (1 : Int32)
      · rw [if_pos q1, if_pos q1]
      · rw [if_neg q1, if_neg q1]
  have hI : (nI i = 0) ∨ (¬ nI i = 0 ∧ nI i = (1 : Int32)) ∨ (¬ nI i = 0 ∧ ¬ nI i = (1 : Int32)) := by
    by_cases q0 : nI i = 0
    · exact Or.inl q0
    · by_cases q1 : nI i = (1 : Int32)
      · exact Or.inr (Or.inl ⟨q0, q1⟩)
      · exact Or.inr (Or.inr ⟨q0, q1⟩)
  by_cases h0 : g3 X.toInt Y.toInt Z.toInt = 0
  · have e : R = lN (g3 X.toInt Y.toInt Z.toInt) := by
      rcases r2 with q | q
      · exact q.1
      · exact absurd h0 q.2.2
    subst e
    rw [if_pos (hz.mpr h0), if_pos (hz.mpr h0), hpick, Option.bind_some]
    rcases hI with q | ⟨q, q'⟩ | ⟨q, q'⟩
    · rw [if_pos q, if_pos q]
      exact ⟨_, rfl, rfl⟩
    · rw [if_neg q, if_neg q, if_pos q', if_pos q']
      exact ⟨_, rfl, rfl⟩
    · rw [if_neg q, if_neg q, if_neg q', if_neg q']
      exact ⟨_, rfl, rfl⟩
  · have n1 : ¬ lN (g3 X.toInt Y.toInt Z.toInt) = 0 := lN_ne (by omega) h0
    have n2 : ¬ -lN (g3 X.toInt Y.toInt Z.toInt) = 0 := by
      intro q
      have v : (lN (g3 X.toInt Y.toInt Z.toInt)).toInt = (g3 X.toInt Y.toInt Z.toInt : Int) := pk_lT (by omega)
      rw [l_eq, l_neg (by rw [v]; omega), v] at q
      have z : (0 : Int64).toInt = 0 := rfl
      omega
    have n3 : ¬ lg_cmp (-lN (g3 X.toInt Y.toInt Z.toInt)) (0 : Int64) = 0 := by
      rw [cmp0]
      intro q
      exact n2 (by rw [l_eq]; exact q)
    rw [if_neg (fun q => h0 (hz.mp q))]
    rcases above_v X Y Z with ⟨a1, a2⟩ | ⟨a1, a2⟩
    · have e : R = lN (g3 X.toInt Y.toInt Z.toInt) := by
        rcases r2 with q | q
        · exact q.1
        · exact absurd a2 q.2.1
      subst e
      rw [if_neg (fun q => h0 (hz.mp q)), a1, bn1, hpick, Option.bind_some, if_pos n1]
      rcases hI with q | ⟨q, q'⟩ | ⟨q, q'⟩
      · rw [if_pos q, if_pos q, if_pos n1]
        exact ⟨_, rfl, rfl⟩
      · rw [if_neg q, if_neg q, if_pos q', if_pos q', if_pos n1]
        exact ⟨_, rfl, rfl⟩
      · rw [if_neg q, if_neg q, if_neg q', if_neg q', if_pos n1]
        exact ⟨_, rfl, rfl⟩
    · have e : R = -lN (g3 X.toInt Y.toInt Z.toInt) := by
        rcases r2 with q | q
        · rcases q.2 with w | w
          · exact absurd w a2
          · exact absurd w h0
        · exact q.1
      subst e
      rw [if_neg n3, a1, bn0, hpick, Option.bind_some, if_pos n2]
      rcases hI with q | ⟨q, q'⟩ | ⟨q, q'⟩
      · rw [if_pos q, if_pos q, if_pos n2]
        exact ⟨_, rfl, rfl⟩
      · rw [if_neg q, if_neg q, if_pos q', if_pos q', if_pos n2]
        exact ⟨_, rfl, rfl⟩
      · rw [if_neg q, if_neg q, if_neg q', if_neg q', if_pos n2]
        exact ⟨_, rfl, rfl⟩
theorem row_z {f rw : Nat → Int32} {j : Nat} (h : Row f rw j 3) : rw ((6 : Int32) * nI j).toNatClampNeg = f 0 ∧ ¬ (((6 : Int32) * nI j) < 0 ∨ 24 ≤ ((6 : Int32) * nI j).toNatClampNeg) := by
  have e : (6 : Int32) * nI j = (6 : Int32) * nI j + nI 0 := by
    rw [six]
    show nI 6 * nI j = _
    rw [pk_mul]
    rfl
  rw [e]
  exact ⟨row_at h (by decide), row_ok h (by decide)⟩
section PURE3
variable {n : Nat → Int32} {f : Nat → Nat → Int32} {tr tm : Int64} {sz rw : Nat → Int32}
theorem line_end {j : Nat} (h : Row (f j) rw j 3) {a1 a2 a3 a4 a5 a6 : Int32} (n1 : Near a1) (n2 : Near a2) (n3 : Near a3) (n4 : Near a4) (n5 : Near a5) (n6 : Near a6) {i : Nat} (hi : i ≤ 2) (hs : fX5_isSolution sz rw (nI j) a1 a2 a3 = some 1) : ∃ r, kX4_line_120 n f (nI j) a1 a2 a3 a4 a5 a6 (nI i) = some r ∧ kX5_line_63 sz rw (nI j) a1 a2 a3 a4 a5 a6 (nI i) = some r := by
  have hj := h.1
  have e1 : rw (((6 : Int32) * nI j) + (1 : Int32)).toNatClampNeg = f j 1 := row_at h (i := 1) (by decide)
  have e2 : rw (((6 : Int32) * nI j) + (2 : Int32)).toNatClampNeg = f j 2 := row_at h (i := 2) (by decide)
  have o1 : ¬ ((((6 : Int32) * nI j) + (1 : Int32)) < 0 ∨ 24 ≤ (((6 : Int32) * nI j) + (1 : Int32)).toNatClampNeg) := row_ok h (i := 1) (by decide)
  have o2 : ¬ ((((6 : Int32) * nI j) + (2 : Int32)) < 0 ∨ 24 ≤ (((6 : Int32) * nI j) + (2 : Int32)).toNatClampNeg) := row_ok h (i := 2) (by decide)
  obtain ⟨e0, o0⟩ := row_z h
  have bE := pair_b h n4 n5 n6 n4 n5 n6
  have bP := pair_b h n1 n2 n3 n4 n5 n6
  unfold kX4_line_120 kX5_line_63 kX5_line_276 fX0_pairing
  rw [hs, bn1, worth_v h]
  simp only [Option.bind_some]
  rw [if_pos o0, if_pos o1, if_pos o2, e0, e1, e2, nI_cl (by omega)]
  exact lin_same (lin_b bE bP n1 n4) (lin_b bE bP n2 n5) (lin_b bE bP n3 n6) a1.toInt64 a2.toInt64 a3.toInt64 hi
theorem P_line (hR : Rel n f tr sz rw tm) : ∀ (a0 a1 a2 a3 a4 a5 a6 a7 : Int32), ∃ r, fX4_line n f tr a0 a1 a2 a3 a4 a5 a6 a7 = some r ∧ fX5_line sz rw a0 a1 a2 a3 a4 a5 a6 a7 = some r := by
  intro a0 a1 a2 a3 a4 a5 a6 a7
  unfold fX4_line fX5_line
  rcases three_cases hR a0 with ⟨t1, t2⟩ | ⟨j, hj, rfl, t1, t2, t3, h⟩
  · rw [t1, bn0]
    refine ⟨_, ?_, rfl⟩
    rcases t2 with q | ⟨j, hj, rfl, q, q3⟩
    · rw [q, bn0]
    · rw [q, bn1, if_pos (g_ok hj (by omega)), nI_cl (by omega), if_neg q3]
  have g := g_ok hj (by omega)
  have t3' : n (nI j).toNatClampNeg = 3 := by rw [nI_cl (by omega)]; exact t3
  rw [t1, t2, bn1, bn1, if_pos g, if_pos g, if_pos t3']
  rcases rng_cases a7 (m := 2) (M := 2) (L := 2) (by decide) rfl rfl with ⟨i, hi, rfl, i1, i2, i3⟩ | ⟨i1, i2⟩
  · rw [i1, bn1, if_neg i2, if_pos i3]
    rcases near_cases a1 a2 a3 with ⟨h1, h2, n1, n2, n3⟩ | ⟨h1, h2⟩
    · rw [h1, h2, bn1, bn1]
      have hW : ∀ r : Int64, fX0_pairing (n (nI j).toNatClampNeg) (f (nI j).toNatClampNeg) a1 a2 a3 a1 a2 a3 = some r → r.toInt = Wz (f j) a1.toInt a2.toInt a3.toInt := by
        intro r hr
        unfold fX0_pairing at hr
        rw [nI_cl (by omega)] at hr
        have e := worth_i h (B := 30) (by decide) (by decide) (x := a1) (y := a2) (z := a3) n1 n2 n3
        rw [← e]
        exact congrArg Int64.toInt (Option.some.inj hr).symm
      obtain ⟨w, hw⟩ : ∃ w, fX0_pairing (n (nI j).toNatClampNeg) (f (nI j).toNatClampNeg) a1 a2 a3 a1 a2 a3 = some w := ⟨_, rfl⟩
      have hw' := hW w hw
      rw [hw, Option.bind_some]
      rcases isSol_v (sz := sz) h n1 n2 n3 with ⟨s1, s2⟩ | ⟨s1, s2⟩
      · have hr : fX4_isReduced a1 a2 a3 = some 1 := by
          rcases isReduced_v a1 a2 a3 with q | q
          · exact q.1
          · exact absurd s2.1 q.2
        rw [hr, bn1, if_pos (cmp0.mpr (by rw [hw']; exact s2.2))]
        rcases near_cases a4 a5 a6 with ⟨g1, g2, n4, n5, n6⟩ | ⟨g1, g2⟩
        · rw [g1, g2, bn1, bn1]
          obtain ⟨r, r1, r2⟩ := line_end (n := n) h n1 n2 n3 n4 n5 n6 hi s1
          rw [r1, r2]
          by_cases q4 : a4 = 0
          · by_cases q5 : a5 = 0
            · by_cases q6 : a6 = 0
              · rw [if_pos q4, if_pos q5, if_pos q6]
                exact ⟨_, rfl, rfl⟩
              · rw [if_pos q4, if_pos q5, if_neg q6]
                exact ⟨_, rfl, rfl⟩
            · rw [if_pos q4, if_neg q5]
              exact ⟨_, rfl, rfl⟩
          · rw [if_neg q4]
            exact ⟨_, rfl, rfl⟩
        · rw [g1, g2, bn0, bn0]
          exact ⟨_, rfl, rfl⟩
      · have hc : ∀ (x y : Option Int64), ((fX4_isReduced a1 a2 a3).bind fun (r9 : Int32) => if r9 = 0 then some (-1000000000000000 : Int64) else if lg_cmp w (0 : Int64) = 0 then x else some (-1000000000000000 : Int64)) = some (-1000000000000000 : Int64) := by
          intro x y
          rcases isReduced_v a1 a2 a3 with q | q
          · rw [q.1, bn1, if_neg]
            intro u
            rw [cmp0, hw'] at u
            exact s2 ⟨q.2, u⟩
          · rw [q.1, bn0]
        rw [hc _ none]
        refine ⟨_, rfl, ?_⟩
        rcases near_cases a4 a5 a6 with ⟨g1, g2, n4, n5, n6⟩ | ⟨g1, g2⟩
        · have hk : kX5_line_63 sz rw (nI j) a1 a2 a3 a4 a5 a6 (nI i) = some (-1000000000000000 : Int64) := by
            unfold kX5_line_63
            rw [s1, bn0]
          rw [g2, bn1, hk]
          by_cases q4 : a4 = 0
          · by_cases q5 : a5 = 0
            · by_cases q6 : a6 = 0
              · rw [if_pos q4, if_pos q5, if_pos q6]
              · rw [if_pos q4, if_pos q5, if_neg q6]
            · rw [if_pos q4, if_neg q5]
          · rw [if_neg q4]
        · rw [g2, bn0]
    · rw [h1, h2, bn0, bn0]
      exact ⟨_, rfl, rfl⟩
  · rw [i1, bn0]
    refine ⟨_, ?_, rfl⟩
    rcases i2 with q | ⟨q1, q2⟩
    · rw [if_pos q]
    · rw [if_neg q1, if_neg q2]
end PURE3
