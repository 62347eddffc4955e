/-! reduced solutions -/
def fab (x y z : Int) : Prop := 0 < x ∨ (x = 0 ∧ (0 < y ∨ (y = 0 ∧ 0 < z)))
theorem cgt (X : Int64) : (0 : Int32) < lg_cmp X (0 : Int64) ↔ 0 < X.toInt := by rw [lg_cmp_gt, l_lt]; exact Iff.rfl
theorem cge (X : Int64) : (0 : Int32) ≤ lg_cmp X (0 : Int64) ↔ 0 ≤ X.toInt := by rw [lg_cmp_ge, l_le]; exact Iff.rfl
theorem cle (X : Int64) : lg_cmp X (0 : Int64) ≤ (0 : Int32) ↔ X.toInt ≤ 0 := by rw [lg_cmp_le, l_le]; exact Iff.rfl
theorem above_v (X Y Z : Int64) : (fX5_isFirstAbove X Y Z = some 1 ∧ fab X.toInt Y.toInt Z.toInt) ∨ (fX5_isFirstAbove X Y Z = some 0 ∧ ¬ fab X.toInt Y.toInt Z.toInt) := by
  unfold fX5_isFirstAbove fab
  simp only [cgt, cle, cmp0]
  by_cases h1 : 0 < X.toInt
  · left; rw [if_pos h1]; exact ⟨rfl, Or.inl h1⟩
  · rw [if_neg h1]
    by_cases h2 : X.toInt = 0
    · rw [if_pos h2]
      by_cases h3 : 0 < Y.toInt
      · left; rw [if_pos h3]; exact ⟨rfl, Or.inr ⟨h2, Or.inl h3⟩⟩
      · rw [if_neg h3]
        by_cases h4 : Y.toInt = 0
        · rw [if_pos h4]
          by_cases h5 : Z.toInt ≤ 0
          · right; rw [if_pos h5]; exact ⟨rfl, by omega⟩
          · left; rw [if_neg h5]; exact ⟨rfl, by omega⟩
        · right; rw [if_neg h4]; exact ⟨rfl, by omega⟩
    · right; rw [if_neg h2]; exact ⟨rfl, by omega⟩
def g3 (x y z : Int) : Nat := Nat.gcd x.natAbs (Nat.gcd y.natAbs z.natAbs)
theorem Sm_gcd {Y Z : Int64} (hY : Sm Y) (hZ : Sm Z) : Sm (lN (Nat.gcd Y.toInt.natAbs Z.toInt.natAbs)) ∧ (lN (Nat.gcd Y.toInt.natAbs Z.toInt.natAbs)).toInt = (Nat.gcd Y.toInt.natAbs Z.toInt.natAbs : Int) := by
  have e40 : (2 : Nat) ^ 40 = 1099511627776 := by decide
  have hle : Nat.gcd Y.toInt.natAbs Z.toInt.natAbs < 2 ^ 40 := by
    rcases Nat.eq_zero_or_pos Y.toInt.natAbs with z | z
    · rw [z, Nat.gcd_zero_left]; exact hZ
    · exact Nat.lt_of_le_of_lt (Nat.gcd_le_left _ z) hY
  have e : (lN (Nat.gcd Y.toInt.natAbs Z.toInt.natAbs)).toInt = (Nat.gcd Y.toInt.natAbs Z.toInt.natAbs : Int) := pk_lT (by omega)
  refine ⟨?_, e⟩
  unfold Sm
  rw [e, Int.natAbs_natCast]
  exact hle
/-- the class's divisor: the common one, below 0 where the first number is -/
theorem reducer_v {X Y Z : Int64} (hX : Sm X) (hY : Sm Y) (hZ : Sm Z) : ∃ R : Int64, fX4_reducer X Y Z = some R ∧ ((R = lN (g3 X.toInt Y.toInt Z.toInt) ∧ (fab X.toInt Y.toInt Z.toInt ∨ g3 X.toInt Y.toInt Z.toInt = 0)) ∨ (R = -lN (g3 X.toInt Y.toInt Z.toInt) ∧ ¬ fab X.toInt Y.toInt Z.toInt ∧ g3 X.toInt Y.toInt Z.toInt ≠ 0)) := by
  obtain ⟨s1, e1⟩ := Sm_gcd hY hZ
  unfold fX4_reducer
  rw [common_c hY hZ, Option.bind_some, common_c hX s1, Option.bind_some, e1, Int.natAbs_natCast]
  have eg : Nat.gcd X.toInt.natAbs (Nat.gcd Y.toInt.natAbs Z.toInt.natAbs) = g3 X.toInt Y.toInt Z.toInt := rfl
  rw [eg]
  have hg0 : g3 X.toInt Y.toInt Z.toInt = 0 ↔ X.toInt = 0 ∧ Y.toInt = 0 ∧ Z.toInt = 0 := by
    unfold g3
    rw [Nat.gcd_eq_zero_iff, Nat.gcd_eq_zero_iff]
    omega
  unfold kX4_reducer_34
  simp only [cmp0, cge]
  have fin : ∀ (t : Int), (0 ≤ t → (fab X.toInt Y.toInt Z.toInt ∨ g3 X.toInt Y.toInt Z.toInt = 0)) → (¬ 0 ≤ t → (¬ fab X.toInt Y.toInt Z.toInt ∧ g3 X.toInt Y.toInt Z.toInt ≠ 0)) → ∃ R : Int64, (if 0 ≤ t then some (lN (g3 X.toInt Y.toInt Z.toInt)) else some (-lN (g3 X.toInt Y.toInt Z.toInt))) = some R ∧ ((R = lN (g3 X.toInt Y.toInt Z.toInt) ∧ (fab X.toInt Y.toInt Z.toInt ∨ g3 X.toInt Y.toInt Z.toInt = 0)) ∨ (R = -lN (g3 X.toInt Y.toInt Z.toInt) ∧ ¬ fab X.toInt Y.toInt Z.toInt ∧ g3 X.toInt Y.toInt Z.toInt ≠ 0)) := by
    intro t h1 h2
    by_cases h : 0 ≤ t
    · exact ⟨_, if_pos h, Or.inl ⟨rfl, h1 h⟩⟩
    · exact ⟨_, if_neg h, Or.inr ⟨rfl, h2 h⟩⟩
  by_cases hx : X.toInt = 0
  · rw [if_pos hx]
    by_cases hy : Y.toInt = 0
    · rw [if_pos hy]
      refine fin _ (fun q => ?_) (fun q => ?_)
      · rw [hg0]; unfold fab; omega
      · rw [ne_eq, hg0]; unfold fab; omega
    · rw [if_neg hy]
      refine fin _ (fun q => ?_) (fun q => ?_)
      · rw [hg0]; unfold fab; omega
      · rw [ne_eq, hg0]; unfold fab; omega
  · rw [if_neg hx]
    refine fin _ (fun q => ?_) (fun q => ?_)
    · rw [hg0]; unfold fab; omega
    · rw [ne_eq, hg0]; unfold fab; omega
theorem g3_lt {X Y Z : Int64} (hX : Sm X) (hY : Sm Y) (hZ : Sm Z) : g3 X.toInt Y.toInt Z.toInt < 2 ^ 40 := by
  obtain ⟨s1, e1⟩ := Sm_gcd hY hZ
  have h := (Sm_gcd hX s1).1
  unfold Sm at h
  rw [(Sm_gcd hX s1).2, e1, Int.natAbs_natCast, Int.natAbs_natCast] at h
  exact h
theorem Sm_i {x : Int32} : Sm x.toInt64 := by
  unfold Sm
  rw [i2l]
  have := i_rng x
  have e40 : (2 : Nat) ^ 40 = 1099511627776 := by decide
  omega
/-- a point without common divisors, the first number above 0 -/
def Red (x y z : Int) : Prop := fab x y z ∧ g3 x y z = 1
theorem isReduced_v (x y z : Int32) : (fX4_isReduced x y z = some 1 ∧ Red x.toInt y.toInt z.toInt) ∨ (fX4_isReduced x y z = some 0 ∧ ¬ Red x.toInt y.toInt z.toInt) := by
  obtain ⟨R, r1, r2⟩ := reducer_v (X := x.toInt64) (Y := y.toInt64) (Z := z.toInt64) Sm_i Sm_i Sm_i
  have hlt := g3_lt (X := x.toInt64) (Y := y.toInt64) (Z := z.toInt64) Sm_i Sm_i Sm_i
  have e40 : (2 : Nat) ^ 40 = 1099511627776 := by decide
  rw [i2l, i2l, i2l] at r2 hlt
  unfold fX4_isReduced Red
  rw [r1, Option.bind_some]
  have o1 : (1 : Int64).toInt = 1 := rfl
  have h1 : lg_cmp R (1 : Int64) = 0 ↔ R.toInt = 1 := by rw [lg_cmp_eq, l_eq]; exact Iff.rfl
  simp only [h1]
  have eg : (lN (g3 x.toInt y.toInt z.toInt)).toInt = (g3 x.toInt y.toInt z.toInt : Int) := pk_lT (by omega)
  rcases r2 with ⟨q1, q2⟩ | ⟨q1, q2, q3⟩
  · rw [q1, eg]
    by_cases hg : g3 x.toInt y.toInt z.toInt = 1
    · left
      rw [if_pos (by omega)]
      refine ⟨rfl, ?_, hg⟩
      rcases q2 with q | q
      · exact q
      · omega
    · right
      rw [if_neg (by omega)]
      exact ⟨rfl, fun q => hg q.2⟩
  · right
    rw [q1, l_neg (by rw [eg]; omega), eg, if_neg (by omega)]
    exact ⟨rfl, fun q => q2 q.1⟩
/-! measures -/
theorem size_v (x : Int32) : fX5_size x = some (iabs x) := by
  unfold fX5_size iabs
  by_cases h : 0 ≤ x
  · rw [if_pos h, if_pos h]
  · rw [if_neg h, if_neg h, Int32.zero_sub]
theorem max3 (a b c : Int32) : (if c ≤ (if a ≤ b then b else a) then (if a ≤ b then b else a) else c) = imax a (imax b c) := by
  unfold imax
  simp only [i_le, i_lt]
  by_cases h1 : a.toInt ≤ b.toInt
  · simp only [h1, if_true]
    by_cases h2 : c.toInt ≤ b.toInt
    · rw [if_pos h2, if_neg (show ¬ b.toInt < c.toInt by omega)]
      by_cases h3 : a.toInt < b.toInt
      · rw [if_pos h3]
      · rw [if_neg h3, i_eq]; omega
    · rw [if_neg h2, if_pos (show b.toInt < c.toInt by omega), if_pos (show a.toInt < c.toInt by omega)]
  · simp only [h1, if_false]
    by_cases h2 : c.toInt ≤ a.toInt
    · rw [if_pos h2]
      by_cases h4 : b.toInt < c.toInt
      · rw [if_pos h4, if_neg (show ¬ a.toInt < c.toInt by omega)]
      · rw [if_neg h4, if_neg (show ¬ a.toInt < b.toInt by omega)]
    · rw [if_neg h2, if_pos (show b.toInt < c.toInt by omega), if_pos (show a.toInt < c.toInt by omega)]
theorem mea_v {k : Nat} (hk : k < 3) (x y z : Int32) : fX1_byKind (nI k) x y z = fX5_measureOf (nI k) x y z := by
  have hm := max3 (iabs x) (iabs y) (iabs z)
  have key : fX5_measureOf (nI k) x y z = kX5_measureOf_42 (nI k) x y z (imax (iabs x) (imax (iabs y) (iabs z))) := by
    unfold fX5_measureOf kX5_measureOf_22
    simp only [size_v, Option.bind_some]
    rw [← hm]
    by_cases h1 : iabs x ≤ iabs y
    · simp only [h1, if_true]
      by_cases h2 : iabs z ≤ iabs y
      · rw [if_pos h2, if_pos h2]
      · rw [if_neg h2, if_neg h2]
    · simp only [h1, if_false]
      by_cases h2 : iabs z ≤ iabs x
      · rw [if_pos h2, if_pos h2]
      · rw [if_neg h2, if_neg h2]
  rw [key]
  unfold kX5_measureOf_42 kX5_measureOf_68 fX1_byKind fX1_odd fX1_wide fX1_great
  simp only [size_v, Option.bind_some]
  rcases (show k = 0 ∨ k = 1 ∨ k = 2 by omega) with rfl | rfl | rfl
  · rw [if_pos (show nI 0 = (0 : Int32) from rfl), if_pos (show nI 0 ≤ (0 : Int32) by decide), if_neg (show ¬ nI 0 = (2 : Int32) by decide), Int32.add_zero]
  · rw [if_neg (show ¬ nI 1 = (0 : Int32) by decide), if_pos (show nI 1 = (1 : Int32) from rfl), if_neg (show ¬ nI 1 ≤ (0 : Int32) by decide), if_neg (show ¬ nI 1 = (2 : Int32) by decide)]
    simp only [Int32.add_assoc]
  · rw [if_neg (show ¬ nI 2 = (0 : Int32) by decide), if_neg (show ¬ nI 2 = (1 : Int32) by decide), if_neg (show ¬ nI 2 ≤ (0 : Int32) by decide), if_pos (show nI 2 = (2 : Int32) from rfl)]
    simp only [Int32.add_assoc]
theorem mea_ok {k : Nat} (hk : k < 3) (x y z : Int32) : ∃ m, fX1_byKind (nI k) x y z = some m ∧ fX5_measureOf (nI k) x y z = some m := by
  have h := mea_v hk x y z
  unfold fX1_byKind fX1_odd fX1_wide fX1_great at h ⊢
  simp only [Option.bind_some] at h ⊢
  rcases (show k = 0 ∨ k = 1 ∨ k = 2 by omega) with rfl | rfl | rfl
  · rw [if_pos (show nI 0 = (0 : Int32) from rfl)] at h ⊢
    exact ⟨_, rfl, h.symm⟩
  · rw [if_neg (show ¬ nI 1 = (0 : Int32) by decide), if_pos (show nI 1 = (1 : Int32) from rfl)] at h ⊢
    exact ⟨_, rfl, h.symm⟩
  · rw [if_neg (show ¬ nI 2 = (0 : Int32) by decide), if_neg (show ¬ nI 2 = (1 : Int32) by decide)] at h ⊢
    exact ⟨_, rfl, h.symm⟩
