/-! worth, measure, least, many, line -/
theorem win_cases (a B : Int32) {L U : Int64} (hB : 0 ≤ B.toInt) (hL : L.toInt = -B.toInt) (hU : U.toInt = B.toInt) : (fX4_isWithin a B = some 1 ∧ fX5_in a.toInt64 L U = some 1 ∧ -B.toInt ≤ a.toInt ∧ a.toInt ≤ B.toInt) ∨ (fX4_isWithin a B = some 0 ∧ fX5_in a.toInt64 L U = some 0) := by
  rw [within_v hB]
  by_cases h : -B.toInt ≤ a.toInt ∧ a.toInt ≤ B.toInt
  · left
    rw [if_pos h, in_1 (by rw [i2l, hL]; exact h.1) (by rw [i2l, hU]; exact h.2)]
    exact ⟨rfl, rfl, h.1, h.2⟩
  · right
    rw [if_neg h, in_0 (by rw [i2l, hL, hU]; exact h)]
    exact ⟨rfl, rfl⟩
theorem near_cases (x y z : Int32) : (fX4_areWithin x y z 30 = some 1 ∧ fX5_isNear x y z = some 1 ∧ Near x ∧ Near y ∧ Near z) ∨ (fX4_areWithin x y z 30 = some 0 ∧ fX5_isNear x y z = some 0) := by
  unfold fX4_areWithin fX5_isNear
  rcases win_cases x 30 (L := -30) (U := 30) (by decide) rfl rfl with ⟨h1, h2, h3⟩ | ⟨h1, h2⟩
  · rw [h1, h2, bn1, bn1]
    rcases win_cases y 30 (L := -30) (U := 30) (by decide) rfl rfl with ⟨g1, g2, g3⟩ | ⟨g1, g2⟩
    · rw [g1, g2, bn1, bn1]
      rcases win_cases z 30 (L := -30) (U := 30) (by decide) rfl rfl with ⟨q1, q2, q3⟩ | ⟨q1, q2⟩
      · rw [q1, q2, bn1]
        exact Or.inl ⟨rfl, rfl, h3, g3, q3⟩
      · rw [q1, q2, bn0]
        exact Or.inr ⟨rfl, rfl⟩
    · rw [g1, g2, bn0, bn0]
      exact Or.inr ⟨rfl, rfl⟩
  · rw [h1, h2, bn0, bn0]
    exact Or.inr ⟨rfl, rfl⟩
section PURE2
variable {n : Nat → Int32} {f : Nat → Nat → Int32} {tr tm : Int64} {sz rw : Nat → Int32}
/-- a shelf with three coefficients, or not -/
theorem three_cases (hR : Rel n f tr sz rw tm) (a : Int32) : (fX5_isThree sz rw a = some 0 ∧ (fX4_isShelf a = some 0 ∨ ∃ j : Nat, j < 4 ∧ a = nI j ∧ fX4_isShelf (nI j) = some 1 ∧ ¬ n j = 3)) ∨ ∃ j : Nat, j < 4 ∧ a = nI j ∧ fX5_isThree sz rw (nI j) = some 1 ∧ fX4_isShelf (nI j) = some 1 ∧ n j = 3 ∧ Row (f j) rw j 3 := by
  unfold fX5_isThree
  rcases shelf_cases a with ⟨h1, h2⟩ | ⟨j, hj, rfl, h1, h2⟩
  · left
    rw [h2, bn0]
    exact ⟨rfl, Or.inl h1⟩
  obtain ⟨k, k1, k5, e1, e2, h⟩ := rel_row hR hj
  have g := g_ok hj (by omega)
  by_cases hk : k = 3
  · subst hk
    right
    refine ⟨j, hj, rfl, ?_, h1, e1, h⟩
    rw [h2, bn1, if_pos g, nI_cl (by omega), if_pos (show sz j = 3 from e2)]
  · left
    have hn : ¬ nI k = 3 := kne (by omega) (b := 3) (by decide) hk
    rw [h2, bn1, if_pos g, nI_cl (by omega), e2, if_neg hn]
    exact ⟨rfl, Or.inr ⟨j, hj, rfl, h1, by rw [e1]; exact hn⟩⟩
theorem P_worth (hR : Rel n f tr sz rw tm) : ∀ (a0 a1 a2 a3 : Int32), ∃ r, fX4_worth n f tr a0 a1 a2 a3 = some r ∧ fX5_worth sz rw a0 a1 a2 a3 = some r := by
  intro a0 a1 a2 a3
  unfold fX4_worth fX5_worth
  rcases three_cases hR a0 with ⟨t1, t2⟩ | ⟨j, hj, rfl, t1, t2, t3, h⟩
  · rw [t1, bn0]
    refine ⟨_, ?_, rfl⟩
    rcases t2 with q | ⟨j, hj, rfl, q, q3⟩
    · rw [q, bn0]
    · rw [q, bn1, if_pos (g_ok hj (by omega)), nI_cl (by omega), if_neg q3]
  have g := g_ok hj (by omega)
  rw [t1, t2, bn1, bn1, if_pos g, if_pos g, nI_cl (by omega), t3, if_pos rfl]
  unfold fX4_areWithin
  rcases win_cases a1 1000 (L := -1000) (U := 1000) (by decide) rfl rfl with ⟨h1, h2, h3⟩ | ⟨h1, h2⟩
  · rw [h1, h2, bn1, bn1]
    rcases win_cases a2 1000 (L := -1000) (U := 1000) (by decide) rfl rfl with ⟨g1, g2, g3⟩ | ⟨g1, g2⟩
    · rw [g1, g2, bn1, bn1]
      rcases win_cases a3 1000 (L := -1000) (U := 1000) (by decide) rfl rfl with ⟨q1, q2, q3⟩ | ⟨q1, q2⟩
      · rw [q1, q2, bn1, bn1, bn1, worth_v h, Option.bind_some]
        exact ⟨_, rfl, rfl⟩
      · rw [q1, q2, bn0, bn0]
        exact ⟨_, rfl, rfl⟩
    · rw [g1, g2, bn0, bn0]
      exact ⟨_, rfl, rfl⟩
  · rw [h1, h2, bn0, bn0]
    exact ⟨_, rfl, rfl⟩
theorem P_measure (hR : Rel n f tr sz rw tm) : ∀ (a0 a1 a2 a3 : Int32), ∃ r tr2 tm2, fX4_measure tr a0 a1 a2 a3 = some (r, tr2) ∧ fX5_measure sz rw tm a0 a1 a2 a3 = some (r, tm2) ∧ Rel n f tr2 sz rw tm2 := by
  intro a0 a1 a2 a3
  unfold fX4_measure fX5_measure
  rcases rng_cases a0 (m := 2) (M := 2) (L := 2) (by decide) rfl rfl with ⟨i, hi, rfl, i1, i2, i3⟩ | ⟨i1, i2⟩
  · have i4 : ¬ (3 : Int32) ≤ nI i := lt_nI (k := 3) (by decide) (by omega)
    rw [i1, bn1, if_neg i2, if_neg i4]
    rcases near_cases a1 a2 a3 with ⟨h1, h2, -⟩ | ⟨h1, h2⟩
    · obtain ⟨m, m1, m2⟩ := mea_ok (k := i) (by omega) a1 a2 a3
      rw [h1, h2, bn1, bn1, if_pos (g_ok (by omega) (by omega)), nI_cl (by omega), m1, Option.bind_some]
      unfold kX5_measure_57
      rw [m2, Option.bind_some, Option.bind_some, Option.bind_some]
      refine ⟨m, tr + (trcv i).toInt64, tr + (trcv i).toInt64, rfl, ?_, ?_⟩
      · obtain ⟨h, -⟩ := hR
        subst h
        rcases (by omega : i = 0 ∨ i = 1 ∨ i = 2) with rfl | rfl | rfl <;> rfl
      · exact ⟨rfl, hR.2⟩
    · rw [h1, h2, bn0, bn0]
      exact ⟨_, _, _, rfl, rfl, hR⟩
  · rw [i1, bn0]
    refine ⟨_, _, _, ?_, rfl, hR⟩
    rcases i2 with q | ⟨q1, q2⟩
    · rw [if_pos q]
    · rw [if_neg q1, if_pos (by rw [i_le] at q2 ⊢; have t2 : (2 : Int32).toInt = 2 := rfl; have t3 : (3 : Int32).toInt = 3 := rfl; omega)]
theorem P_least (hR : Rel n f tr sz rw tm) {s0 s1 s2 s3 s4 bx by_ bz bm so : Int32} : ∀ (a0 a1 a2 : Int32), ∃ r s02 s12 s22 s32 s42 bx2 by_2 bz2 bm2 so2, fX4_least n f s0 s1 s2 s3 s4 a0 a1 a2 = some (r, s02, s12, s22, s32, s42) ∧ fX5_least sz rw bx by_ bz bm so a0 a1 a2 = some (r, bx2, by_2, bz2, bm2, so2) := by
  intro a0 a1 a2
  unfold fX4_least fX5_least
  rcases three_cases hR a0 with ⟨t1, t2⟩ | ⟨j, hj, rfl, t1, t2, t3, h⟩
  · rw [t1, bn0]
    refine ⟨-1000000000000000, s0, s1, s2, s3, s4, _, _, _, _, _, ?_, rfl⟩
    · rcases t2 with q | ⟨j, hj, rfl, q, q3⟩
      · rw [q, bn0]
      · rw [q, bn1, if_pos (g_ok hj (by omega)), nI_cl (by omega), if_neg q3]
  have g := g_ok hj (by omega)
  rw [t1, t2, bn1, bn1, if_pos g, if_pos g, nI_cl (by omega), t3, if_pos rfl]
  rcases rng_cases a1 (m := 2) (M := 2) (L := 2) (by decide) rfl rfl with ⟨k, hk, rfl, i1, i2, i3⟩ | ⟨i1, i2⟩
  · have i4 : ¬ (3 : Int32) ≤ nI k := lt_nI (k := 3) (by decide) (by omega)
    rw [i1, bn1, if_neg i2, if_neg i4]
    rcases rng_cases a2 (m := 3) (M := 3) (L := 3) (by decide) rfl rfl with ⟨i, hi, rfl, l1, l2, l3⟩ | ⟨l1, l2⟩
    · rw [l1, bn1, if_neg l2, if_pos l3]
      obtain ⟨u0, u1, u2, u3, u4, cx, cy, cz, cm, co, hS, e1, e2⟩ := seek_same (sz := sz) h (k := k) (by omega) s0 s1 s2 s3 s4 bx by_ bz bm so
      rw [show (3 : Int32) = nI 3 from rfl, e1, e2, Option.bind_some, Option.bind_some]
      obtain ⟨c0, c1⟩ := hS
      subst c0
      by_cases hz : u0 = 0
      · show ∃ r s02 s12 s22 s32 s42 bx2 by_2 bz2 bm2 so2, (if u0 = 0 then _ else _) = _ ∧ (if u0 = 0 then _ else _) = _
        rw [if_pos hz, if_pos hz]
        exact ⟨_, _, _, _, _, _, _, _, _, _, _, rfl, rfl⟩
      · obtain ⟨q1, q2, q3, q4⟩ := c1 hz
        subst q1; subst q2; subst q3; subst q4
        show ∃ r s02 s12 s22 s32 s42 bx2 by_2 bz2 bm2 so2, (if u0 = 0 then _ else _) = _ ∧ (if u0 = 0 then _ else _) = _
        rw [if_neg hz, if_neg hz]
        rcases (by omega : i = 0 ∨ i = 1 ∨ i = 2 ∨ i = 3) with rfl | rfl | rfl | rfl
        · exact ⟨_, _, _, _, _, _, _, _, _, _, _, rfl, rfl⟩
        · exact ⟨_, _, _, _, _, _, _, _, _, _, _, rfl, rfl⟩
        · exact ⟨_, _, _, _, _, _, _, _, _, _, _, rfl, rfl⟩
        · exact ⟨_, _, _, _, _, _, _, _, _, _, _, rfl, rfl⟩
    · rw [l1, bn0]
      refine ⟨-1000000000000000, s0, s1, s2, s3, s4, _, _, _, _, _, ?_, rfl⟩
      · rcases l2 with q | ⟨q1, q2⟩
        · rw [if_pos q]
        · rw [if_neg q1, if_neg q2]
  · rw [i1, bn0]
    refine ⟨-1000000000000000, s0, s1, s2, s3, s4, _, _, _, _, _, ?_, rfl⟩
    · rcases i2 with q | ⟨q1, q2⟩
      · rw [if_pos q]
      · rw [if_neg q1, if_pos (by rw [i_le] at q2 ⊢; have t2 : (2 : Int32).toInt = 2 := rfl; have t3 : (3 : Int32).toInt = 3 := rfl; omega)]
theorem P_many (hR : Rel n f tr sz rw tm) {s0 s1 s2 s3 s4 bx by_ bz bm so : Int32} : ∀ (a0 : Int32), ∃ r s02 s12 s22 s32 s42 bx2 by_2 bz2 bm2 so2, fX4_many n f s0 s1 s2 s3 s4 a0 = some (r, s02, s12, s22, s32, s42) ∧ fX5_many sz rw bx by_ bz bm so a0 = some (r, bx2, by_2, bz2, bm2, so2) := by
  intro a0
  unfold fX4_many fX5_many
  rcases three_cases hR a0 with ⟨t1, t2⟩ | ⟨j, hj, rfl, t1, t2, t3, h⟩
  · rw [t1, bn0]
    refine ⟨-3, s0, s1, s2, s3, s4, _, _, _, _, _, ?_, rfl⟩
    rcases t2 with q | ⟨j, hj, rfl, q, q3⟩
    · rw [q, bn0]
    · rw [q, bn1, if_pos (g_ok hj (by omega)), nI_cl (by omega), if_neg q3]
  have g := g_ok hj (by omega)
  obtain ⟨u0, u1, u2, u3, u4, cx, cy, cz, cm, co, hS, e1, e2⟩ := seek_same (sz := sz) h (k := 0) (by omega) s0 s1 s2 s3 s4 bx by_ bz bm so
  rw [t1, t2, bn1, bn1, if_pos g, if_pos g, nI_cl (by omega), t3, if_pos rfl, show (3 : Int32) = nI 3 from rfl, show (0 : Int32) = nI 0 from rfl, e1, e2, Option.bind_some, Option.bind_some]
  obtain ⟨c0, -⟩ := hS
  subst c0
  exact ⟨_, _, _, _, _, _, _, _, _, _, _, rfl, rfl⟩
end PURE2
