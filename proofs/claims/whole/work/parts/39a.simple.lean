/-! what both sides answer: the members that only read -/
/-- both sides hold the same forms, and the same trace -/
def Rel (n : Nat → Int32) (f : Nat → Nat → Int32) (tr : Int64) (sz rw : Nat → Int32) (tm : Int64) : Prop :=
  tr = tm ∧ ∀ j : Nat, j < 4 → ∃ k : Nat, 1 ≤ k ∧ k ≤ 5 ∧ n j = nI k ∧ sz j = nI k ∧ ∀ i : Nat, i < k → f j i = rw (6 * j + i) ∧ f j i ≠ 0 ∧ -400 ≤ (f j i).toInt ∧ (f j i).toInt ≤ 400
theorem bn0 {α : Type} (x y : Option α) : ((some (0 : Int32)).bind fun r => if r = 0 then x else y) = x := rfl
theorem bn1 {α : Type} (x y : Option α) : ((some (1 : Int32)).bind fun r => if r = 0 then x else y) = y := rfl
theorem rel_row {n : Nat → Int32} {f : Nat → Nat → Int32} {tr tm : Int64} {sz rw : Nat → Int32} (hR : Rel n f tr sz rw tm) {j : Nat} (hj : j < 4) : ∃ k : Nat, 1 ≤ k ∧ k ≤ 5 ∧ n j = nI k ∧ sz j = nI k ∧ Row (f j) rw j k := by
  obtain ⟨k, k1, k5, e1, e2, e3⟩ := hR.2 j hj
  exact ⟨k, k1, k5, e1, e2, hj, by omega, e3⟩
theorem num_Ok {a : Int32} {k : Int} (h : Num a k) (hk : k ≤ 1000000) : Ok a.toInt64 := by
  obtain ⟨h0, h1, h2⟩ := h
  unfold Ok
  rw [i2l]
  exact ⟨ne_int h0, by omega⟩
theorem rng_cases (a : Int32) {m : Nat} {M : Int32} {L : Int64} (hm : m < 1000) (hM : M = nI m) (hL : L.toInt = m) : (∃ i : Nat, i ≤ m ∧ a = nI i ∧ fX5_in (nI i).toInt64 0 L = some 1 ∧ ¬ nI i < 0 ∧ nI i ≤ M) ∨ (fX5_in a.toInt64 0 L = some 0 ∧ (a < 0 ∨ (¬ a < 0 ∧ ¬ a ≤ M))) := by
  have z : (0 : Int32).toInt = 0 := rfl
  have z6 : (0 : Int64).toInt = 0 := rfl
  subst hM
  by_cases h : 0 ≤ a.toInt ∧ a.toInt < ((m + 1 : Nat) : Int)
  · left
    obtain ⟨i, hi, rfl⟩ := of_rng h.1 h.2 (by omega)
    refine ⟨i, by omega, rfl, in_1 (by rw [i2l, c32 i (by omega), z6]; omega) (by rw [i2l, c32 i (by omega), hL]; omega), ?_, ?_⟩
    · rw [i_lt, c32 i (by omega), z]; omega
    · rw [i_le, c32 i (by omega), c32 m (by omega)]; omega
  · right
    refine ⟨in_0 (by rw [i2l, hL, z6]; omega), ?_⟩
    rw [i_lt, i_le, z, c32 m (by omega)]
    omega
section PURE1
variable {n : Nat → Int32} {f : Nat → Nat → Int32} {tr tm : Int64} {sz rw : Nat → Int32}
theorem P_free (hR : Rel n f tr sz rw tm) : ∀ (a0 : Int32), ∃ r, fX4_free n f tr a0 = some r ∧ fX5_free sz rw a0 = some r := by
  intro a0
  unfold fX4_free fX5_free
  rcases num_cases a0 (1000000 : Int32) (by decide) with ⟨h1, h2, -⟩ | ⟨h1, h2, h0, h3, h4⟩
  · rw [h1, h2, bn0, bn0]
    exact ⟨_, rfl, rfl⟩
  · have e : (1000000 : Int32).toInt = 1000000 := rfl
    obtain ⟨r, r1, r2⟩ := free_same (a := a0) (ne_int h0) (by omega)
    rw [h1, h2, bn1, bn1]
    exact ⟨r, r1, r2⟩
theorem P_sign (hR : Rel n f tr sz rw tm) : ∀ (a0 a1 a2 : Int32), ∃ r, fX4_sign n f tr a0 a1 a2 = some r ∧ fX5_sign sz rw a0 a1 a2 = some r := by
  intro a0 a1 a2
  unfold fX4_sign fX5_sign
  rcases num_cases a0 (1000000 : Int32) (by decide) with ⟨h1, h2, -⟩ | ⟨h1, h2, h3⟩
  · rw [h1, h2, bn0, bn0]
    exact ⟨_, rfl, rfl⟩
  rw [h1, h2, bn1, bn1]
  rcases num_cases a1 (1000000 : Int32) (by decide) with ⟨g1, g2, -⟩ | ⟨g1, g2, g3⟩
  · rw [g1, g2, bn0, bn0]
    exact ⟨_, rfl, rfl⟩
  rw [g1, g2, bn1, bn1]
  rcases place_cases a2 with ⟨p1, p2⟩ | ⟨p, hP, rfl, p1, p2⟩
  · rw [p1, p2, bn0, bn0]
    exact ⟨_, rfl, rfl⟩
  rw [p1, p2, bn1, bn1, signAt_v hP (num_Ok h3 (by decide)) (num_Ok g3 (by decide)), signOf_v hP (num_Ok h3 (by decide)) (num_Ok g3 (by decide)), Option.bind_some]
  exact ⟨_, rfl, rfl⟩
theorem P_odds (hR : Rel n f tr sz rw tm) : ∀ (a0 a1 : Int32), ∃ r, fX4_odds n f tr a0 a1 = some r ∧ fX5_odds sz rw a0 a1 = some r := by
  intro a0 a1
  unfold fX4_odds fX5_odds
  rcases num_cases a0 (400 : Int32) (by decide) with ⟨h1, h2, -⟩ | ⟨h1, h2, h3⟩
  · rw [h1, h2, bn0, bn0]
    exact ⟨_, rfl, rfl⟩
  rw [h1, h2, bn1, bn1]
  rcases num_cases a1 (400 : Int32) (by decide) with ⟨g1, g2, -⟩ | ⟨g1, g2, g3⟩
  · rw [g1, g2, bn0, bn0]
    exact ⟨_, rfl, rfl⟩
  rw [g1, g2, bn1, bn1]
  have ha := num_Ok h3 (by decide)
  have hb := num_Ok g3 (by decide)
  have e1 := odds_c ha hb 398 0 1100 (by decide) (by rw [rank_0]; decide)
  rw [rank_0] at e1
  have e2 := odds_r ha hb (sz := sz) (rw := rw) 398 0 1100 (by decide) (by decide)
  exact ⟨_, e1, e2⟩
theorem P_at (hR : Rel n f tr sz rw tm) : ∀ (a0 a1 : Int32), ∃ r, fX4_at n f tr a0 a1 = some r ∧ fX5_at sz rw a0 a1 = some r := by
  intro a0 a1
  unfold fX4_at fX5_at
  rcases shelf_cases a0 with ⟨h1, h2⟩ | ⟨j, hj, rfl, h1, h2⟩
  · rw [h1, h2, bn0, bn0]
    exact ⟨_, rfl, rfl⟩
  obtain ⟨k, k1, k5, e1, e2, h⟩ := rel_row hR hj
  have z : (0 : Int32).toInt = 0 := rfl
  have z6 : (0 : Int64).toInt = 0 := rfl
  have o : (1 : Int32).toInt = 1 := rfl
  have hL : ((nI k - (1 : Int32)).toInt64).toInt = (k : Int) - 1 := by
    rw [i2l, i_sub (by rw [c32 k (by omega), o]; omega) (by rw [c32 k (by omega), o]; omega), c32 k (by omega), o]
  have g := g_ok hj (by omega)
  rw [h1, h2, bn1, bn1, if_pos g, if_pos g, if_pos g, nI_cl (by omega), e1, e2]
  by_cases hi : 0 ≤ a1.toInt ∧ a1.toInt < (k : Int)
  · obtain ⟨i, hi', rfl⟩ := of_rng hi.1 hi.2 (by omega)
    rw [if_neg (by rw [i_lt, c32 i (by omega), z]; omega), if_pos (by rw [i_lt, c32 i (by omega), c32 k (by omega)]; omega), if_pos (g_ok (by omega) (by omega)), in_1 (by rw [i2l, c32 i (by omega), z6]; omega) (by rw [i2l, c32 i (by omega), hL]; omega), bn1, if_pos (row_ok h hi'), row_at h hi', nI_cl (by omega)]
    exact ⟨_, rfl, rfl⟩
  · rw [in_0 (by rw [i2l, hL, z6]; omega), bn0]
    refine ⟨_, ?_, rfl⟩
    by_cases h0 : a1 < 0
    · rw [if_pos h0]
    · rw [if_neg h0, if_neg (by rw [i_lt, c32 k (by omega)]; rw [i_lt, z] at h0; omega)]
theorem P_whole (hR : Rel n f tr sz rw tm) : ∀ (a0 a1 : Int32), ∃ r, fX4_whole n f tr a0 a1 = some r ∧ fX5_whole sz rw a0 a1 = some r := by
  intro a0 a1
  unfold fX4_whole fX5_whole
  rcases shelf_cases a0 with ⟨h1, h2⟩ | ⟨j, hj, rfl, h1, h2⟩
  · rw [h1, h2, bn0, bn0]
    exact ⟨_, rfl, rfl⟩
  obtain ⟨k, k1, k5, e1, e2, h⟩ := rel_row hR hj
  rw [h1, h2, bn1, bn1]
  rcases rng_cases a1 (m := 1) (M := 1) (L := 1) (by decide) rfl rfl with ⟨i, hi, rfl, i1, i2, i3⟩ | ⟨i1, i2⟩
  · rw [i1, bn1, if_neg i2, if_pos i3]
    have g := g_ok hj (by omega)
    rw [if_pos g, if_pos g, if_pos g, nI_cl (by omega), e1, e2]
    by_cases h0 : i = 0
    · subst h0
      rw [if_pos (show nI 0 = 0 from rfl), if_pos (show nI 0 = 0 from rfl), product_c (by omega), product_r h]
      exact ⟨_, rfl, rfl⟩
    · have hn : ¬ nI i = 0 := kne (by omega) (by decide) h0
      obtain ⟨U, u1, u2⟩ := freeP_same h e2
      rw [if_neg hn, if_neg hn, u1, u2]
      exact ⟨_, rfl, rfl⟩
  · rw [i1, bn0]
    refine ⟨_, ?_, rfl⟩
    rcases i2 with q | ⟨q1, q2⟩
    · rw [if_pos q]
    · rw [if_neg q1, if_neg q2]
theorem P_hold (hR : Rel n f tr sz rw tm) : ∀ (a0 a1 : Int32), ∃ r, fX4_hold n f tr a0 a1 = some r ∧ fX5_hold sz rw a0 a1 = some r := by
  intro a0 a1
  unfold fX4_hold fX5_hold
  rcases shelf_cases a0 with ⟨h1, h2⟩ | ⟨j, hj, rfl, h1, h2⟩
  · rw [h1, h2, bn0, bn0]
    exact ⟨_, rfl, rfl⟩
  obtain ⟨k, k1, k5, e1, e2, h⟩ := rel_row hR hj
  rw [h1, h2, bn1, bn1]
  rcases place_cases a1 with ⟨p1, p2⟩ | ⟨p, hP, rfl, p1, p2⟩
  · rw [p1, p2, bn0, bn0]
    exact ⟨_, rfl, rfl⟩
  have g := g_ok hj (by omega)
  rw [p1, p2, bn1, bn1, if_pos g, if_pos g, nI_cl (by omega), e1, e2, signs_c h hP, hold_r h hP]
  exact ⟨_, rfl, rfl⟩
theorem P_goes (hR : Rel n f tr sz rw tm) : ∀ (a0 a1 : Int32), ∃ r, fX4_goes n f tr a0 a1 = some r ∧ fX5_goes sz rw a0 a1 = some r := by
  intro a0 a1
  unfold fX4_goes fX5_goes
  rcases shelf_cases a0 with ⟨h1, h2⟩ | ⟨j, hj, rfl, h1, h2⟩
  · rw [h1, h2, bn0, bn0]
    exact ⟨_, rfl, rfl⟩
  obtain ⟨k, k1, k5, e1, e2, h⟩ := rel_row hR hj
  rw [h1, h2, bn1, bn1]
  rcases place_cases a1 with ⟨p1, p2⟩ | ⟨p, hP, rfl, p1, p2⟩
  · rw [p1, p2, bn0, bn0]
    exact ⟨_, rfl, rfl⟩
  have g := g_ok hj (by omega)
  rw [p1, p2, bn1, bn1, if_pos g, if_pos g, nI_cl (by omega), e1, e2, goes_c h k1 hP, going_r h k1 hP, Option.bind_some]
  cases goB (f j) p k
  · exact ⟨0, rfl, rfl⟩
  · exact ⟨1, rfl, rfl⟩
theorem cb_0 (g : Nat → Int32) (k : Nat) : nI (cbn g k 398) = 0 ↔ cbn g k 398 = 0 := by
  have := cbn_le g k 398
  show nI (cbn g k 398) = nI 0 ↔ cbn g k 398 = 0
  rw [nI_eq (by omega) (by omega)]
theorem P_nought (hR : Rel n f tr sz rw tm) : ∀ (a0 : Int32), ∃ r, fX4_nought n f tr a0 = some r ∧ fX5_nought sz rw a0 = some r := by
  intro a0
  unfold fX4_nought fX5_nought
  rcases shelf_cases a0 with ⟨h1, h2⟩ | ⟨j, hj, rfl, h1, h2⟩
  · rw [h1, h2, bn0, bn0]
    exact ⟨_, rfl, rfl⟩
  obtain ⟨k, k1, k5, e1, e2, h⟩ := rel_row hR hj
  have g := g_ok hj (by omega)
  rw [h1, h2, bn1, bn1, if_pos g, if_pos g, nI_cl (by omega), e1, e2, countBars_v h k1, isNought_v h k1, Option.bind_some, Option.bind_some]
  by_cases hc : cbn (f j) k 398 = 0
  · rw [if_pos ((cb_0 _ _).mpr hc), if_neg (by rw [b2i_0]; simp [hc])]
    exact ⟨_, rfl, rfl⟩
  · rw [if_neg (fun q => hc ((cb_0 _ _).mp q)), if_pos (by rw [b2i_0]; simp [hc])]
    exact ⟨_, rfl, rfl⟩
theorem P_bars (hR : Rel n f tr sz rw tm) : ∀ (a0 : Int32), ∃ r, fX4_bars n f tr a0 = some r ∧ fX5_bars sz rw a0 = some r := by
  intro a0
  unfold fX4_bars fX5_bars
  rcases shelf_cases a0 with ⟨h1, h2⟩ | ⟨j, hj, rfl, h1, h2⟩
  · rw [h1, h2, bn0, bn0]
    exact ⟨_, rfl, rfl⟩
  obtain ⟨k, k1, k5, e1, e2, h⟩ := rel_row hR hj
  have g := g_ok hj (by omega)
  rw [h1, h2, bn1, bn1, if_pos g, nI_cl (by omega), e1, countBars_v h k1, barOf_v h k1 e2, fbr_m1 _ _ 398 (by decide), Option.bind_some, Option.bind_some]
  refine ⟨_, rfl, ?_⟩
  have hc := cbn_le (f j) k 398
  have t : (-10 : Int32).toInt = -10 := rfl
  have c := c32 (cbn (f j) k 398) (by omega)
  have d : ((-10 : Int32) - nI (cbn (f j) k 398)).toInt = -10 - (cbn (f j) k 398 : Int) := by
    rw [i_sub (by rw [t, c]; omega) (by rw [t, c]; omega), t, c]
  show some ((-10 : Int32) - ((-10 : Int32) - nI (cbn (f j) k 398))) = _
  refine congrArg some ?_
  rw [i_eq, i_sub (by rw [t, d]; omega) (by rw [t, d]; omega), t, d, c]
  omega
theorem P_bar (hR : Rel n f tr sz rw tm) : ∀ (a0 a1 : Int32), ∃ r, fX4_bar n f tr a0 a1 = some r ∧ fX5_bar sz rw a0 a1 = some r := by
  intro a0 a1
  unfold fX4_bar fX5_bar
  rcases shelf_cases a0 with ⟨h1, h2⟩ | ⟨j, hj, rfl, h1, h2⟩
  · rw [h1, h2, bn0, bn0]
    exact ⟨_, rfl, rfl⟩
  obtain ⟨k, k1, k5, e1, e2, h⟩ := rel_row hR hj
  rw [h1, h2, bn1, bn1]
  by_cases h0 : 0 ≤ a1
  · have g := g_ok hj (by omega)
    rw [if_pos h0, if_pos h0, if_pos g, nI_cl (by omega), e1, findBar_v h k1, barOf_v h k1 e2, Option.bind_some, Option.bind_some]
    have z : (0 : Int32).toInt = 0 := rfl
    cases hq : fbr (f j) k a1 398 with
    | none =>
      have hc := cbn_le (f j) k 398
      have t : (-10 : Int32).toInt = -10 := rfl
      have c := c32 (cbn (f j) k 398) (by omega)
      have d : ((-10 : Int32) - nI (cbn (f j) k 398)).toInt = -10 - (cbn (f j) k 398 : Int) := by
        rw [i_sub (by rw [t, c]; omega) (by rw [t, c]; omega), t, c]
      refine ⟨-3, rfl, ?_⟩
      show (if (0 : Int32) ≤ (-10 : Int32) - nI (cbn (f j) k 398) then _ else _) = _
      rw [if_neg (by rw [i_le, d, z]; omega)]
    | some q =>
      have hl := fbr_lt _ _ _ _ _ hq
      have hp : (0 : Int32) ≤ nI q := by rw [i_le, c32 q (by omega), z]; omega
      refine ⟨nI q, ?_, ?_⟩
      · show (if (0 : Int32) ≤ nI q then _ else _) = _
        rw [if_pos hp]
        rfl
      · show (if (0 : Int32) ≤ nI q then _ else _) = _
        rw [if_pos hp]
        rfl
  · rw [if_neg h0, if_neg h0]
    exact ⟨_, rfl, rfl⟩
theorem P_alike (hR : Rel n f tr sz rw tm) : ∀ (a0 a1 : Int32), ∃ r, fX4_alike n f tr a0 a1 = some r ∧ fX5_alike sz rw a0 a1 = some r := by
  intro a0 a1
  unfold fX4_alike fX5_alike fX0_isAlike
  rcases shelf_cases a0 with ⟨h1, h2⟩ | ⟨j, hj, rfl, h1, h2⟩
  · rw [h1, h2, bn0, bn0]
    exact ⟨_, rfl, rfl⟩
  rw [h1, h2, bn1, bn1]
  rcases shelf_cases a1 with ⟨g1, g2⟩ | ⟨i, hi, rfl, g1, g2⟩
  · rw [g1, g2, bn0, bn0]
    exact ⟨_, rfl, rfl⟩
  obtain ⟨k, k1, k5, e1, e2, h⟩ := rel_row hR hj
  obtain ⟨m, m1, m5, d1, d2, h'⟩ := rel_row hR hi
  have ga := g_ok hj (by omega)
  have gb := g_ok hi (by omega)
  rw [g1, g2, bn1, bn1, if_pos ga, if_pos ga, if_pos gb, if_pos gb, nI_cl (j := j) (by omega), nI_cl (j := i) (by omega), e1, e2, d1, d2]
  by_cases hkm : k = m
  · subst hkm
    obtain ⟨U, u1, u2⟩ := freeP_same h e2
    obtain ⟨V, v1, v2⟩ := freeP_same h' d2
    rw [if_pos rfl, if_pos rfl, above_c (by omega), above_c (by omega), above_r h, above_r h', Option.bind_some, Option.bind_some, Option.bind_some, Option.bind_some]
    by_cases ha : nI (abv (f j) k) = nI (abv (f i) k)
    · rw [if_pos ha, if_pos ha, u1, u2, v1, v2, Option.bind_some, Option.bind_some, Option.bind_some, Option.bind_some]
      by_cases hc : lg_cmp U V = 0
      · have hA : alb (f j) (f i) k 2 = true := by
          simp [alb, isP_1]
        have c1 := alike_c h h' 398 0 1100 (by decide) (by rw [rank_0]; decide) rfl
        rw [rank_0] at c1
        have c2 := alike_r h h' e2 396 2 1100 (by decide) (by decide) (by decide)
        rw [hA] at c2
        rw [if_pos hc, if_pos hc]
        refine ⟨b2i (alb (f j) (f i) k 398), ?_, c2⟩
        rw [show (0 : Int32) = nI 0 from rfl, c1, Option.bind_some]
        cases alb (f j) (f i) k 398 <;> rfl
      · rw [if_neg hc, if_neg hc]
        exact ⟨_, rfl, rfl⟩
    · rw [if_neg ha, if_neg ha]
      exact ⟨_, rfl, rfl⟩
  · have hn : ¬ nI k = nI m := kne (by omega) (by omega) hkm
    rw [if_neg hn, if_neg hn]
    exact ⟨_, rfl, rfl⟩
theorem P_count (hR : Rel n f tr sz rw tm) : ∀ (a0 a1 : Int32), ∃ r, fX4_count n f tr a0 a1 = some r ∧ fX5_count sz rw a0 a1 = some r := by
  intro a0 a1
  unfold fX4_count fX5_count
  rcases shelf_cases a0 with ⟨h1, h2⟩ | ⟨j, hj, rfl, h1, h2⟩
  · rw [h1, h2, bn0, bn0]
    exact ⟨_, rfl, rfl⟩
  obtain ⟨k, k1, k5, e1, e2, h⟩ := rel_row hR hj
  rw [h1, h2, bn1, bn1]
  rcases rng_cases a1 (m := 1) (M := 1) (L := 1) (by decide) rfl rfl with ⟨i, hi, rfl, i1, i2, i3⟩ | ⟨i1, i2⟩
  · rw [i1, bn1, if_neg i2, if_pos i3]
    have g := g_ok hj (by omega)
    rw [if_pos g, if_pos g, if_pos g, if_pos g, nI_cl (by omega), e1, e2]
    by_cases h0 : i = 0
    · subst h0
      rw [if_pos (show nI 0 = 0 from rfl), if_pos (show nI 0 = 0 from rfl)]
      exact ⟨_, rfl, rfl⟩
    · have hn : ¬ nI i = 0 := kne (by omega) (by decide) h0
      rw [if_neg hn, if_neg hn, above_c (by omega), above_r h]
      exact ⟨_, rfl, rfl⟩
  · rw [i1, bn0]
    refine ⟨_, ?_, rfl⟩
    rcases i2 with q | ⟨q1, q2⟩
    · rw [if_pos q]
    · rw [if_neg q1, if_neg q2]
theorem P_trace (hR : Rel n f tr sz rw tm) : ∃ r, fX4_trace n f tr  = some r ∧ fX5_trace sz rw tm  = some r := by
  obtain ⟨h, -⟩ := hR
  subst h
  exact ⟨tr, rfl, rfl⟩
end PURE1
