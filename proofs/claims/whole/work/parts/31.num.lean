/-! numbers of the machine as whole numbers -/
theorem i_lt (x y : Int32) : x < y ↔ x.toInt < y.toInt := Int32.lt_iff_toInt_lt
theorem i_le (x y : Int32) : x ≤ y ↔ x.toInt ≤ y.toInt := Int32.le_iff_toInt_le
theorem i_eq (x y : Int32) : x = y ↔ x.toInt = y.toInt := Int32.toInt_inj.symm
theorem l_lt (x y : Int64) : x < y ↔ x.toInt < y.toInt := Int64.lt_iff_toInt_lt
theorem l_le (x y : Int64) : x ≤ y ↔ x.toInt ≤ y.toInt := Int64.le_iff_toInt_le
theorem l_eq (x y : Int64) : x = y ↔ x.toInt = y.toInt := Int64.toInt_inj.symm
theorem i_rng (x : Int32) : -2147483648 ≤ x.toInt ∧ x.toInt < 2147483648 := by
  have h1 := Int32.le_toInt x
  have h2 := Int32.toInt_lt x
  omega
theorem l_rng (x : Int64) : -9223372036854775808 ≤ x.toInt ∧ x.toInt < 9223372036854775808 := by
  have h1 := Int64.le_toInt x
  have h2 := Int64.toInt_lt x
  omega
theorem i_bm {z : Int} (h1 : -2147483648 ≤ z) (h2 : z < 2147483648) : z.bmod (2 ^ 32) = z := by
  rw [Int.bmod_eq_of_le (by omega) (by omega)]
theorem l_bm {z : Int} (h1 : -9223372036854775808 ≤ z) (h2 : z < 9223372036854775808) : z.bmod (2 ^ 64) = z := by
  rw [Int.bmod_eq_of_le (by omega) (by omega)]
theorem i_add {x y : Int32} (h1 : -2147483648 ≤ x.toInt + y.toInt) (h2 : x.toInt + y.toInt < 2147483648) : (x + y).toInt = x.toInt + y.toInt := by
  rw [Int32.toInt_add, i_bm h1 h2]
theorem i_sub {x y : Int32} (h1 : -2147483648 ≤ x.toInt - y.toInt) (h2 : x.toInt - y.toInt < 2147483648) : (x - y).toInt = x.toInt - y.toInt := by
  rw [Int32.toInt_sub, i_bm h1 h2]
theorem i_mul {x y : Int32} (h1 : -2147483648 ≤ x.toInt * y.toInt) (h2 : x.toInt * y.toInt < 2147483648) : (x * y).toInt = x.toInt * y.toInt := by
  rw [Int32.toInt_mul, i_bm h1 h2]
theorem i_neg {x : Int32} (h : x.toInt ≠ -2147483648) : (-x).toInt = -x.toInt := by
  have := i_rng x
  rw [Int32.toInt_neg, i_bm (by omega) (by omega)]
theorem l_add {x y : Int64} (h1 : -9223372036854775808 ≤ x.toInt + y.toInt) (h2 : x.toInt + y.toInt < 9223372036854775808) : (x + y).toInt = x.toInt + y.toInt := by
  rw [Int64.toInt_add, l_bm h1 h2]
theorem l_sub {x y : Int64} (h1 : -9223372036854775808 ≤ x.toInt - y.toInt) (h2 : x.toInt - y.toInt < 9223372036854775808) : (x - y).toInt = x.toInt - y.toInt := by
  rw [Int64.toInt_sub, l_bm h1 h2]
theorem l_mul {x y : Int64} (h1 : -9223372036854775808 ≤ x.toInt * y.toInt) (h2 : x.toInt * y.toInt < 9223372036854775808) : (x * y).toInt = x.toInt * y.toInt := by
  rw [Int64.toInt_mul, l_bm h1 h2]
theorem l_neg {x : Int64} (h : x.toInt ≠ -9223372036854775808) : (-x).toInt = -x.toInt := by
  have := l_rng x
  rw [Int64.toInt_neg, l_bm (by omega) (by omega)]
theorem i2l (x : Int32) : x.toInt64.toInt = x.toInt := Int32.toInt_toInt64 x
theorem l2i {x : Int64} (h1 : -2147483648 ≤ x.toInt) (h2 : x.toInt < 2147483648) : x.toInt32.toInt = x.toInt := by
  rw [Int64.toInt_toInt32, i_bm h1 h2]
theorem td_abs (a b : Int) : (a.tdiv b).natAbs ≤ a.natAbs := by
  rw [Int.natAbs_tdiv]
  exact Nat.div_le_self _ _
theorem i_div {x y : Int32} (h : x.toInt ≠ -2147483648) : (x / y).toInt = x.toInt.tdiv y.toInt := by
  have h1 := i_rng x
  have h2 := td_abs x.toInt y.toInt
  rw [Int32.toInt_div, i_bm (by omega) (by omega)]
theorem l_div {x y : Int64} (h : x.toInt ≠ -9223372036854775808) : (x / y).toInt = x.toInt.tdiv y.toInt := by
  have h1 := l_rng x
  have h2 := td_abs x.toInt y.toInt
  rw [Int64.toInt_div, l_bm (by omega) (by omega)]
theorem tm_abs (a b : Int) : (a.tmod b).natAbs ≤ a.natAbs := by
  rw [Int.natAbs_tmod]
  exact Nat.mod_le _ _
theorem tdm_abs (a b : Int) : (a.tdiv b * b).natAbs ≤ a.natAbs := by
  rw [Int.natAbs_mul, Int.natAbs_tdiv]
  exact Nat.div_mul_le_self _ _
theorem irm_i {x y : Int32} (h : x.toInt ≠ -2147483648) : (irm x y).toInt = x.toInt.tmod y.toInt := by
  unfold irm
  have h1 := i_rng x
  have h2 := tdm_abs x.toInt y.toInt
  have hd := i_div (y := y) h
  have hm : (x / y * y).toInt = x.toInt.tdiv y.toInt * y.toInt := by
    rw [i_mul (by rw [hd]; omega) (by rw [hd]; omega), hd]
  have ht := Int.tdiv_mul_add_tmod x.toInt y.toInt
  have h3 := tm_abs x.toInt y.toInt
  rw [i_sub (by rw [hm]; omega) (by rw [hm]; omega), hm]
  omega
theorem lrm_i {x y : Int64} (h : x.toInt ≠ -9223372036854775808) : (lrm x y).toInt = x.toInt.tmod y.toInt := by
  unfold lrm
  have h1 := l_rng x
  have h2 := tdm_abs x.toInt y.toInt
  have hd := l_div (y := y) h
  have hm : (x / y * y).toInt = x.toInt.tdiv y.toInt * y.toInt := by
    rw [l_mul (by rw [hd]; omega) (by rw [hd]; omega), hd]
  have ht := Int.tdiv_mul_add_tmod x.toInt y.toInt
  have h3 := tm_abs x.toInt y.toInt
  rw [l_sub (by rw [hm]; omega) (by rw [hm]; omega), hm]
  omega
theorem c32 (k : Nat) (h : k < 2147483648) : (nI k).toInt = (k : Int) := nI_toInt (by omega)
/-! the tests of arguments -/
theorem in_1 {a lo hi : Int64} (h1 : lo.toInt ≤ a.toInt) (h2 : a.toInt ≤ hi.toInt) : fX5_in a lo hi = some 1 := by
  unfold fX5_in
  rw [if_neg (by rw [lg_cmp_lt, l_lt]; omega), if_neg (by rw [lg_cmp_gt, l_lt]; omega)]
theorem in_0 {a lo hi : Int64} (h : ¬ (lo.toInt ≤ a.toInt ∧ a.toInt ≤ hi.toInt)) : fX5_in a lo hi = some 0 := by
  unfold fX5_in
  by_cases h1 : a.toInt < lo.toInt
  · rw [if_pos (by rw [lg_cmp_lt, l_lt]; exact h1)]
  · rw [if_neg (by rw [lg_cmp_lt, l_lt]; exact h1), if_pos (by rw [lg_cmp_gt, l_lt]; omega)]
theorem nI_cl {j : Nat} (h : j < 2147483648) : (nI j).toNatClampNeg = j := nI_clamp (by omega)
theorem of_rng {x : Int32} {k : Nat} (h1 : 0 ≤ x.toInt) (h2 : x.toInt < k) (hk : k ≤ 2147483648) : ∃ j : Nat, j < k ∧ x = nI j := by
  refine ⟨x.toInt.toNat, by omega, ?_⟩
  rw [i_eq, c32 _ (by omega)]
  omega
theorem g_ok {j k : Nat} (h : j < k) (hk : j < 2147483648) : ¬ (nI j < 0 ∨ k ≤ (nI j).toNatClampNeg) := by
  rw [nI_cl hk, i_lt, c32 j hk]
  have : (0 : Int32).toInt = 0 := rfl
  omega
theorem shelf_cases (a : Int32) : (fX4_isShelf a = some 0 ∧ fX5_isShelf a = some 0) ∨ ∃ j : Nat, j < 4 ∧ a = nI j ∧ fX4_isShelf (nI j) = some 1 ∧ fX5_isShelf (nI j) = some 1 := by
  have e0 : (0 : Int32).toInt = 0 := rfl
  have e4 : (4 : Int32).toInt = 4 := rfl
  have l0 : (0 : Int64).toInt = 0 := rfl
  have l3 : (3 : Int64).toInt = 3 := rfl
  by_cases h : 0 ≤ a.toInt ∧ a.toInt < 4
  · right
    obtain ⟨j, hj, rfl⟩ := of_rng (k := 4) h.1 h.2 (by decide)
    refine ⟨j, hj, rfl, ?_, ?_⟩
    · unfold fX4_isShelf
      rw [if_neg (by rw [i_lt, c32 j (by omega)]; omega), if_neg (by rw [i_le, c32 j (by omega)]; omega)]
    · unfold fX5_isShelf
      rw [in_1 (by rw [i2l, c32 j (by omega)]; omega) (by rw [i2l, c32 j (by omega)]; omega)]
      rfl
  · left
    refine ⟨?_, ?_⟩
    · unfold fX4_isShelf
      by_cases h1 : a.toInt < 0
      · rw [if_pos (by rw [i_lt]; omega)]
      · rw [if_neg (by rw [i_lt]; omega), if_pos (by rw [i_le]; omega)]
    · unfold fX5_isShelf
      rw [in_0 (by rw [i2l]; omega)]
      rfl
/-- a number of the document, up to a bound -/
def Num (a : Int32) (k : Int) : Prop := a ≠ 0 ∧ -k ≤ a.toInt ∧ a.toInt ≤ k
theorem within_v {a k : Int32} (hk : 0 ≤ k.toInt) : fX4_isWithin a k = some (if -k.toInt ≤ a.toInt ∧ a.toInt ≤ k.toInt then 1 else 0) := by
  have hn : (-k).toInt = -k.toInt := i_neg (by omega)
  unfold fX4_isWithin
  by_cases h1 : a.toInt < -k.toInt
  · rw [if_pos (by rw [i_lt, hn]; exact h1), if_neg (by omega)]
  · rw [if_neg (by rw [i_lt, hn]; exact h1)]
    by_cases h2 : k.toInt < a.toInt
    · rw [if_pos (by rw [i_lt]; exact h2), if_neg (by omega)]
    · rw [if_neg (by rw [i_lt]; exact h2), if_pos (by omega)]
theorem num_cases (a k : Int32) (hk : 0 ≤ k.toInt) : (fX4_isNumber a k = some 0 ∧ fX5_isTold a k = some 0 ∧ ¬ Num a k.toInt) ∨ (fX4_isNumber a k = some 1 ∧ fX5_isTold a k = some 1 ∧ Num a k.toInt) := by
  have hn : (-k).toInt = -k.toInt := i_neg (by omega)
  unfold fX4_isNumber fX5_isTold
  by_cases h0 : a = 0
  · left
    rw [if_pos h0, if_pos h0]
    exact ⟨rfl, rfl, fun q => q.1 h0⟩
  · rw [if_neg h0, if_neg h0, within_v hk]
    by_cases h : -k.toInt ≤ a.toInt ∧ a.toInt ≤ k.toInt
    · right
      rw [if_pos h, in_1 (by rw [i2l, i2l, hn]; exact h.1) (by rw [i2l, i2l]; exact h.2)]
      exact ⟨rfl, rfl, h0, h.1, h.2⟩
    · left
      rw [if_neg h, in_0 (by rw [i2l, i2l, i2l, hn]; exact h)]
      exact ⟨rfl, rfl, fun q => h ⟨q.2.1, q.2.2⟩⟩
