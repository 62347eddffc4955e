/-! nought -/
def isq (t : Int) : Prop := 0 < t ∧ ∃ r : Nat, t = ((r * r : Nat) : Int)
theorem wsq_v {T : Int64} (hT : T.toInt ≤ 160000) : ∀ (c r fu : Nat), r + c = 401 → c < fu → (∀ s, s < r → ((s * s : Nat) : Int) < T.toInt) → (kX5_isWholeSquare_2 T fu (lN r) = some 1 ∧ isq T.toInt) ∨ (kX5_isWholeSquare_2 T fu (lN r) = some 0 ∧ ¬ isq T.toInt) := by
  intro c
  induction c with
  | zero =>
    intro r fu hr hf hs
    have := hs 400 (by omega)
    have e : ((400 * 400 : Nat) : Int) = 160000 := by decide
    omega
  | succ c ih =>
    intro r fu hr hf hs
    obtain ⟨fu, rfl⟩ : ∃ z, fu = z + 1 := ⟨fu - 1, by omega⟩
    have hq := mul_self_le (show r ≤ 400 by omega)
    have e2 : (lN (r * r)).toInt = ((r * r : Nat) : Int) := lN_toInt (by omega)
    have e1 : (lN r * lN r).toInt = ((r * r : Nat) : Int) := by rw [lN_mul, e2]
    rw [kX5_isWholeSquare_2]
    by_cases h : T.toInt ≤ ((r * r : Nat) : Int)
    · rw [if_pos (by rw [lg_cmp_ge, l_le, e1]; exact h)]
      by_cases h0 : T.toInt ≤ 0
      · right
        rw [if_pos (by rw [lg_cmp_le, l_le]; exact h0)]
        exact ⟨rfl, fun q => by have := q.1; omega⟩
      · rw [if_neg (by rw [lg_cmp_le, l_le]; exact h0)]
        by_cases h1 : ((r * r : Nat) : Int) = T.toInt
        · left
          rw [if_pos (by rw [lg_cmp_eq, l_eq, e1]; exact h1)]
          exact ⟨rfl, by omega, r, h1.symm⟩
        · right
          rw [if_neg (by rw [lg_cmp_eq, l_eq, e1]; exact h1)]
          refine ⟨rfl, fun q => ?_⟩
          obtain ⟨-, s, hs2⟩ := q
          rcases Nat.lt_or_ge s r with g | g
          · have := hs s g; omega
          · have := mul_self_le g; omega
    · rw [if_neg (by rw [lg_cmp_ge, l_le, e1]; exact h), lN_1]
      refine ih (r + 1) fu (by omega) (by omega) (fun s hs2 => ?_)
      rcases Nat.lt_or_ge s r with g | g
      · exact hs s g
      · obtain rfl : s = r := by omega
        omega
theorem cbn_0 {f : Nat → Int32} {k : Nat} : ∀ p, cbn f k p = 0 ↔ ∀ q, q < p → isP q = true → baB f k q = false := by
  intro p
  induction p with
  | zero => exact ⟨fun _ q h => by omega, fun _ => rfl⟩
  | succ p ih =>
    rw [cbn]
    constructor
    · intro h q hq hP
      have h1 : cbn f k p = 0 := by omega
      rcases Nat.lt_or_ge q p with g | g
      · exact ih.mp h1 q g hP
      · obtain rfl : q = p := by omega
        rw [h1, hP, Bool.true_and] at h
        cases hb : baB f k q with
        | false => rfl
        | true => rw [hb] at h; cases h
    · intro h
      rw [ih.mpr (fun q hq hP => h q (by omega) hP)]
      cases hP : isP p with
      | false => rfl
      | true => rw [h p (by omega) hP]; rfl
theorem prod2 {f rw : Nat → Int32} {j : Nat} (h : Row f rw j 2) : (prodI f 2).toInt = (f 0).toInt * (f 1).toInt := by
  obtain ⟨-, a1, a2, a3⟩ := h.2.2 0 (by decide)
  obtain ⟨-, b1, b2, b3⟩ := h.2.2 1 (by decide)
  have hm : ((f 0).toInt * (f 1).toInt).natAbs ≤ 400 * 400 := by
    rw [Int.natAbs_mul]
    exact Nat.mul_le_mul (by omega) (by omega)
  have e0 : (1 * (f 0).toInt64 : Int64).toInt = (f 0).toInt := by
    have o1 : (1 : Int64).toInt = 1 := rfl
    rw [l_mul (by rw [i2l, o1]; omega) (by rw [i2l, o1]; omega), i2l, o1, Int.one_mul]
  show (1 * (f 0).toInt64 * (f 1).toInt64 : Int64).toInt = _
  rw [l_mul (by rw [e0, i2l]; omega) (by rw [e0, i2l]; omega), e0, i2l]
theorem ne_int {c : Int32} (h : c ≠ 0) : c.toInt ≠ 0 := fun q => h (by rw [i_eq]; exact q)
theorem abv2 (f : Nat → Int32) : abv f 2 = (if f 0 ≤ 0 then 0 else 1) + (if f 1 ≤ 0 then 0 else 1) := by
  rw [abv, abv, abv, Nat.zero_add]
theorem nought2 {f rw : Nat → Int32} {j : Nat} (h : Row f rw j 2) : cbn f 2 398 = 0 ↔ isq (-(prodI f 2).toInt) := by
  obtain ⟨-, a1, a2, a3⟩ := h.2.2 0 (by decide)
  obtain ⟨-, b1, b2, b3⟩ := h.2.2 1 (by decide)
  have a1 := ne_int a1
  have b1 := ne_int b1
  rw [cbn_0, prod2 h]
  have e0 : (0 : Int32).toInt = 0 := rfl
  have go0 : goB f 0 2 = true ↔ (f 0).toInt * (f 1).toInt < 0 := by
    unfold goB
    rw [if_pos rfl, decide_eq_true_eq, abv2]
    simp only [i_le, e0]
    constructor
    · intro q
      by_cases c0 : (f 0).toInt ≤ 0 <;> by_cases c1 : (f 1).toInt ≤ 0 <;> simp [c0, c1] at q
      · exact Int.mul_neg_of_neg_of_pos (by omega) (by omega)
      · exact Int.mul_neg_of_pos_of_neg (by omega) (by omega)
    · intro q
      by_cases c0 : (f 0).toInt ≤ 0 <;> by_cases c1 : (f 1).toInt ≤ 0
      · have := Int.mul_pos_of_neg_of_neg (show (f 0).toInt < 0 by omega) (show (f 1).toInt < 0 by omega); omega
      · simp [c0, c1]
      · simp [c0, c1]
      · have := Int.mul_pos (show 0 < (f 0).toInt by omega) (show 0 < (f 1).toInt by omega); omega
  have goP : ∀ p, p ≠ 0 → goB f p 2 = sqB (-((f 0).toInt * (f 1).toInt)) p := by
    intro p hp
    unfold goB
    rw [if_neg hp, if_neg (by decide), if_pos rfl, prod2 h]
  constructor
  · intro hb
    have h0 := hb 0 (by decide) isP_0
    unfold baB at h0
    rw [mayB_0, Bool.true_and] at h0
    have hneg := go0.mp (by cases hg : goB f 0 2 with | true => rfl | false => rw [hg] at h0; cases h0)
    have eab : -((f 0).toInt * (f 1).toInt) = (((f 0).toInt.natAbs * (f 1).toInt.natAbs : Nat) : Int) := by
      rw [← Int.natAbs_mul]; omega
    obtain ⟨r, hr⟩ := two_sq (a := (f 0).toInt.natAbs) (b := (f 1).toInt.natAbs) (by omega) (by omega) (by omega) (by omega) (by
      intro p hP hp0 hor
      have hp := isP_ge p hP
      have hof : ofB f p 2 = true := by
        rcases hor with z | z
        · exact ofB_mono 2 0 (by decide) (dvd_abs.mpr z)
        · exact ofB_mono 2 1 (by decide) (dvd_abs.mpr z)
      have hm : mayB f p 2 = true := by unfold mayB; rw [hof, Bool.or_true]
      have hbp := hb p hp hP
      unfold baB at hbp
      rw [hm, Bool.true_and, goP p hp0, eab] at hbp
      cases hs : sqB (((f 0).toInt.natAbs * (f 1).toInt.natAbs : Nat) : Int) p with
      | true => rfl
      | false => rw [hs] at hbp; cases hbp)
    exact ⟨by omega, r, by rw [eab, hr]⟩
  · intro hq p hp hP
    obtain ⟨hpos, r, hr⟩ := hq
    unfold baB
    by_cases hp0 : p = 0
    · subst hp0
      rw [go0.mpr (by omega)]
      exact Bool.and_false _
    · have hm : ((f 0).toInt * (f 1).toInt).natAbs ≤ 400 * 400 := by
        rw [Int.natAbs_mul]
        exact Nat.mul_le_mul (by omega) (by omega)
      have hr0 : 0 < r := by
        rcases Nat.eq_zero_or_pos r with z | z
        · subst z; omega
        · exact z
      rw [goP p hp0, hr, sq_at hP hp0 hr0 (by
        have e63 : (2 : Nat) ^ 63 = 9223372036854775808 := by decide
        omega)]
      exact Bool.and_false _
theorem isNought_v {f rw sz : Nat → Int32} {j k : Nat} (h : Row f rw j k) (hk1 : 1 ≤ k) : fX5_isNought sz rw (nI j) (nI k) = some (b2i (decide (cbn f k 398 = 0))) := by
  have hk := h.2.1
  unfold fX5_isNought
  by_cases k2 : k = 2
  · subst k2
    have pr := product_r (sz := sz) h
    rw [if_pos (show nI 2 = (2 : Int32) from rfl)]
    rw [show (2 : Int32) = nI 2 from rfl, pr, Option.bind_some]
    obtain ⟨-, -, en⟩ := prod_Ok h
    have hb := (prod_ok h 2 (by decide)).2
    have e2 : (400 : Nat) ^ 2 = 160000 := by decide
    unfold fX5_isWholeSquare
    rcases wsq_v (T := -prodI f 2) (by rw [en]; omega) 401 0 1100 (by decide) (by decide) (fun s hs => by omega) with ⟨g1, g2⟩ | ⟨g1, g2⟩
    · rw [en] at g2
      rw [decide_eq_true ((nought2 h).mpr g2)]
      rw [show (0 : Int64) = lN 0 from rfl, g1]
      rfl
    · rw [en] at g2
      rw [decide_eq_false (fun q => g2 ((nought2 h).mp q))]
      rw [show (0 : Int64) = lN 0 from rfl, g1]
      rfl
  · rw [if_neg (show ¬ nI k = (2 : Int32) from kne (by omega) (by decide) k2)]
    exact nought_r h hk1 398 0 1100 (by omega) (by omega) rfl
/-! common divisors -/
theorem gstep (a b : Nat) : Nat.gcd b (a % b) = Nat.gcd a b := by
  rw [Nat.gcd_comm b (a % b), ← Nat.gcd_rec b a, Nat.gcd_comm]
theorem half_mod {b r : Nat} (hr : 0 < r) (hb : r < b) : 2 * (b % r) < b := by
  rcases Nat.lt_or_ge (2 * r) b with q | q
  · have := Nat.mod_lt b hr; omega
  · rcases Nat.lt_or_ge b (2 * r) with g | g
    · have : b % r = b - r := by rw [Nat.mod_eq_sub_mod (by omega), Nat.mod_eq_of_lt (by omega)]
      omega
    · have e : b = 2 * r := by omega
      rw [e, Nat.mul_mod_left]; omega
theorem cmpN {b : Nat} (hb : b < 2 ^ 63) : lg_cmp (lN b) (0 : Int64) = 0 ↔ b = 0 := by
  rw [lg_cmp_eq, show (0 : Int64) = lN 0 from rfl, pk_lEQ hb (by decide)]
theorem lN_ne {b : Nat} (hb : b < 2 ^ 63) (h : b ≠ 0) : ¬ lN b = 0 := by
  rw [show (0 : Int64) = lN 0 from rfl, pk_lEQ hb (by decide)]; exact h
theorem gcd_c : ∀ (k a b t fu : Nat), b < 2 ^ k → a < 2 ^ 63 → k ≤ 40 → t + 2 * k ≤ 98 → 2 * k + 1 < fu → kX4_commonDivisor_15 fu (lN a) (lN b) (nI t) = some (lN (Nat.gcd a b)) := by
  intro k
  induction k with
  | zero =>
    intro a b t fu hb ha _ ht hf
    obtain ⟨fu, rfl⟩ : ∃ z, fu = z + 1 := ⟨fu - 1, by omega⟩
    obtain rfl : b = 0 := by omega
    rw [kX4_commonDivisor_15, if_neg (by rw [i_le, c32 t (by omega)]; show ¬ (100 : Int) ≤ t; omega), if_pos (by decide), Nat.gcd_zero_right]
  | succ k ih =>
    intro a b t fu hb ha hk ht hf
    obtain ⟨fu, rfl⟩ : ∃ z, fu = z + 1 := ⟨fu - 1, by omega⟩
    have h40 : 2 ^ (k + 1) ≤ 2 ^ 40 := Nat.pow_le_pow_right (by decide) hk
    have e40 : (2 : Nat) ^ 40 = 1099511627776 := by decide
    have e63 : (2 : Nat) ^ 63 = 9223372036854775808 := by decide
    rw [kX4_commonDivisor_15, if_neg (by rw [i_le, c32 t (by omega)]; show ¬ (100 : Int) ≤ t; omega)]
    by_cases h0 : b = 0
    · subst h0
      rw [if_pos (by decide), Nat.gcd_zero_right]
    · rw [if_neg (fun q => h0 ((cmpN (by omega)).mp q)), if_pos (lN_ne (by omega) h0), lrm_n ha (by omega) (by omega), nI_1]
      obtain ⟨fu, rfl⟩ : ∃ z, fu = z + 1 := ⟨fu - 1, by omega⟩
      have hr := Nat.mod_lt a (show 0 < b by omega)
      rw [kX4_commonDivisor_15, if_neg (by rw [i_le, c32 _ (by omega)]; show ¬ (100 : Int) ≤ ((t + 1 : Nat) : Int); omega)]
      by_cases h1 : a % b = 0
      · rw [h1, if_pos (by decide), ← gstep, h1, Nat.gcd_zero_right]
      · rw [if_neg (fun q => h1 ((cmpN (by omega)).mp q)), if_pos (lN_ne (by omega) h1), lrm_n (by omega) (by omega) (by omega), nI_1]
        have hh := half_mod (show 0 < a % b by omega) hr
        rw [Nat.pow_succ] at hb
        rw [ih (a % b) (b % (a % b)) (t + 1 + 1) fu (by omega) (by omega) (by omega) (by omega) (by omega), gstep, gstep]
theorem gcd_r : ∀ (k a b fu : Nat), b < 2 ^ k → a < 2 ^ 63 → k ≤ 40 → 2 * k + 1 < fu → kX5_common_28 fu (lN a) (lN b) = some (lN (Nat.gcd a b)) := by
  intro k
  induction k with
  | zero =>
    intro a b fu hb ha _ hf
    obtain ⟨fu, rfl⟩ : ∃ z, fu = z + 1 := ⟨fu - 1, by omega⟩
    obtain rfl : b = 0 := by omega
    rw [kX5_common_28, if_pos (by decide), Nat.gcd_zero_right]
  | succ k ih =>
    intro a b fu hb ha hk hf
    obtain ⟨fu, rfl⟩ : ∃ z, fu = z + 1 := ⟨fu - 1, by omega⟩
    have h40 : 2 ^ (k + 1) ≤ 2 ^ 40 := Nat.pow_le_pow_right (by decide) hk
    have e40 : (2 : Nat) ^ 40 = 1099511627776 := by decide
    have e63 : (2 : Nat) ^ 63 = 9223372036854775808 := by decide
    rw [kX5_common_28]
    by_cases h0 : b = 0
    · subst h0
      rw [if_pos (by decide), Nat.gcd_zero_right]
    · rw [if_neg (fun q => h0 ((cmpN (by omega)).mp q)), if_pos (lN_ne (by omega) h0), lrm_n ha (by omega) (by omega)]
      obtain ⟨fu, rfl⟩ : ∃ z, fu = z + 1 := ⟨fu - 1, by omega⟩
      have hr := Nat.mod_lt a (show 0 < b by omega)
      rw [kX5_common_28]
      by_cases h1 : a % b = 0
      · rw [h1, if_pos (by decide), ← gstep, h1, Nat.gcd_zero_right]
      · rw [if_neg (fun q => h1 ((cmpN (by omega)).mp q)), if_pos (lN_ne (by omega) h1), lrm_n (by omega) (by omega) (by omega)]
        have hh := half_mod (show 0 < a % b by omega) hr
        rw [Nat.pow_succ] at hb
        rw [ih (a % b) (b % (a % b)) fu (by omega) (by omega) (by omega) (by omega), gstep, gstep]
/-- numbers that the class's hundred steps are enough for -/
def Sm (X : Int64) : Prop := X.toInt.natAbs < 2 ^ 40
theorem labs_v {X : Int64} (h : Sm X) : labs X = lN X.toInt.natAbs := by
  have e40 : (2 : Nat) ^ 40 = 1099511627776 := by decide
  have hs : X.toInt.natAbs < 1099511627776 := by unfold Sm at h; omega
  unfold labs
  rw [l_eq, pk_lT (by omega)]
  by_cases h0 : 0 < X
  · rw [if_pos h0]
    rw [l_lt] at h0
    have : (0 : Int64).toInt = 0 := rfl
    omega
  · rw [if_neg h0, l_neg (by omega)]
    rw [l_lt] at h0
    have : (0 : Int64).toInt = 0 := rfl
    omega
theorem common_c {X Y : Int64} (hX : Sm X) (hY : Sm Y) : fX4_commonDivisor X Y = some (lN (Nat.gcd X.toInt.natAbs Y.toInt.natAbs)) := by
  have e40 : (2 : Nat) ^ 40 = 1099511627776 := by decide
  have e63 : (2 : Nat) ^ 63 = 9223372036854775808 := by decide
  unfold Sm at *
  unfold fX4_commonDivisor
  rw [labs_v hX, labs_v hY]
  exact gcd_c 40 _ _ 0 1100 hY (by omega) (by decide) (by decide) (by decide)
theorem abs_r {X : Int64} (h : Sm X) : (if (0 : Int32) ≤ lg_cmp X (0 : Int64) then X else -X) = lN X.toInt.natAbs := by
  have e40 : (2 : Nat) ^ 40 = 1099511627776 := by decide
  have hs : X.toInt.natAbs < 1099511627776 := by unfold Sm at h; omega
  have o : (0 : Int64).toInt = 0 := rfl
  by_cases h0 : 0 ≤ X.toInt
  · rw [if_pos (by rw [lg_cmp_ge, l_le]; exact h0), l_eq, pk_lT (by omega)]
    omega
  · rw [if_neg (by rw [lg_cmp_ge, l_le]; exact h0), l_eq, pk_lT (by omega), l_neg (by omega)]
    omega
theorem common_r {X Y : Int64} (hX : Sm X) (hY : Sm Y) : fX5_common X Y = some (lN (Nat.gcd X.toInt.natAbs Y.toInt.natAbs)) := by
  have e40 : (2 : Nat) ^ 40 = 1099511627776 := by decide
  have e63 : (2 : Nat) ^ 63 = 9223372036854775808 := by decide
  have key : kX5_common_28 1100 (lN X.toInt.natAbs) (lN Y.toInt.natAbs) = some (lN (Nat.gcd X.toInt.natAbs Y.toInt.natAbs)) := by
    unfold Sm at *
    exact gcd_r 40 _ _ 1100 hY (by omega) (by decide) (by decide)
  rw [← abs_r hX, ← abs_r hY] at key
  unfold fX5_common kX5_common_12 kX5_common_26
  refine Eq.trans ?_ key
  by_cases hx : (0 : Int32) ≤ lg_cmp X (0 : Int64) <;> by_cases hy : (0 : Int32) ≤ lg_cmp Y (0 : Int64) <;> simp only [hx, hy, if_true, if_false]
