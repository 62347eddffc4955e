/-! the search -/
def Wz (f : Nat → Int32) (x y z : Int) : Int := (f 0).toInt * x * x + (f 1).toInt * y * y + (f 2).toInt * z * z
theorem bnd3 {c x : Int} {B : Int} (hB : 0 ≤ B) (hc1 : -400 ≤ c) (hc2 : c ≤ 400) (hx1 : -B ≤ x) (hx2 : x ≤ B) : -(400 * (B * B)) ≤ c * x * x ∧ c * x * x ≤ 400 * (B * B) := by
  have h : (c * x * x).natAbs ≤ 400 * (B.natAbs * B.natAbs) := by
    rw [Int.natAbs_mul, Int.natAbs_mul, Nat.mul_assoc]
    exact Nat.mul_le_mul (by omega) (Nat.mul_le_mul (by omega) (by omega))
  have e : ((400 * (B.natAbs * B.natAbs) : Nat) : Int) = 400 * (B * B) := by
    rw [Int.natCast_mul, Int.natCast_mul, Int.natAbs_of_nonneg hB]
    rfl
  omega
theorem l_sq {c x : Int32} {B : Int} (hB0 : 0 ≤ B) (hB : B ≤ 1000) (hc1 : -400 ≤ c.toInt) (hc2 : c.toInt ≤ 400) (hx1 : -B ≤ x.toInt) (hx2 : x.toInt ≤ B) : (c.toInt64 * x.toInt64 * x.toInt64).toInt = c.toInt * x.toInt * x.toInt := by
  have h1 := bnd3 hB0 hc1 hc2 hx1 hx2
  have hBB : B * B ≤ 1000 * 1000 := Int.mul_le_mul hB hB hB0 (by decide)
  have h2 : (c.toInt * x.toInt).natAbs ≤ 400 * 1000 := by
    rw [Int.natAbs_mul]
    exact Nat.mul_le_mul (by omega) (by omega)
  have e1 : (c.toInt64 * x.toInt64).toInt = c.toInt * x.toInt := by
    rw [l_mul (by rw [i2l, i2l]; omega) (by rw [i2l, i2l]; omega), i2l, i2l]
  rw [l_mul (by rw [e1, i2l]; omega) (by rw [e1, i2l]; omega), e1, i2l]
theorem worth_v {f rw sz : Nat → Int32} {j : Nat} (h : Row f rw j 3) (x y z : Int32) : fX5_worthOf sz rw (nI j) x.toInt64 y.toInt64 z.toInt64 = some (((((f 0).toInt64 * x.toInt64) * x.toInt64) + (((f 1).toInt64 * y.toInt64) * y.toInt64)) + (((f 2).toInt64 * z.toInt64) * z.toInt64)) := by
  have hj := h.1
  have e0 : (6 : Int32) * nI j = (6 : Int32) * nI j + nI 0 := by rw [nI_0, Int32.add_zero]
  unfold fX5_worthOf
  rw [show (1 : Int32) = nI 1 from rfl, show (2 : Int32) = nI 2 from rfl, if_pos (by rw [e0]; exact row_ok h (by decide)), if_pos (row_ok h (by decide)), if_pos (row_ok h (by decide)), row_at h (show 1 < 3 by decide), row_at h (show 2 < 3 by decide)]
  have := row_at h (show 0 < 3 by decide)
  rw [← e0] at this
  rw [this]
theorem worth_i {f rw : Nat → Int32} {j : Nat} (h : Row f rw j 3) {x y z : Int32} {B : Int} (hB0 : 0 ≤ B) (hB : B ≤ 1000) (hx : -B ≤ x.toInt ∧ x.toInt ≤ B) (hy : -B ≤ y.toInt ∧ y.toInt ≤ B) (hz : -B ≤ z.toInt ∧ z.toInt ≤ B) : (((((f 0).toInt64 * x.toInt64) * x.toInt64) + (((f 1).toInt64 * y.toInt64) * y.toInt64)) + (((f 2).toInt64 * z.toInt64) * z.toInt64)).toInt = Wz f x.toInt y.toInt z.toInt := by
  obtain ⟨-, a1, a2, a3⟩ := h.2.2 0 (by decide)
  obtain ⟨-, b1, b2, b3⟩ := h.2.2 1 (by decide)
  obtain ⟨-, c1, c2, c3⟩ := h.2.2 2 (by decide)
  have hBB : B * B ≤ 1000 * 1000 := Int.mul_le_mul hB hB hB0 (by decide)
  have p0 := bnd3 hB0 a2 a3 hx.1 hx.2
  have p1 := bnd3 hB0 b2 b3 hy.1 hy.2
  have p2 := bnd3 hB0 c2 c3 hz.1 hz.2
  have e0 := l_sq hB0 hB a2 a3 hx.1 hx.2
  have e1 := l_sq hB0 hB b2 b3 hy.1 hy.2
  have e2 := l_sq hB0 hB c2 c3 hz.1 hz.2
  have s1 : ((((f 0).toInt64 * x.toInt64) * x.toInt64) + (((f 1).toInt64 * y.toInt64) * y.toInt64)).toInt = (f 0).toInt * x.toInt * x.toInt + (f 1).toInt * y.toInt * y.toInt := by
    rw [l_add (by rw [e0, e1]; omega) (by rw [e0, e1]; omega), e0, e1]
  unfold Wz
  rw [l_add (by rw [s1, e2]; omega) (by rw [s1, e2]; omega), s1, e2]
def Near (x : Int32) : Prop := -30 ≤ x.toInt ∧ x.toInt ≤ 30
def Sol (f : Nat → Int32) (x y z : Int32) : Prop := Red x.toInt y.toInt z.toInt ∧ Wz f x.toInt y.toInt z.toInt = 0
theorem isSol_v {f rw sz : Nat → Int32} {j : Nat} (h : Row f rw j 3) {x y z : Int32} (hx : Near x) (hy : Near y) (hz : Near z) : (fX5_isSolution sz rw (nI j) x y z = some 1 ∧ Sol f x y z) ∨ (fX5_isSolution sz rw (nI j) x y z = some 0 ∧ ¬ Sol f x y z) := by
  have e40 : (2 : Nat) ^ 40 = 1099511627776 := by decide
  unfold fX5_isSolution Sol Red
  have ha := above_v x.toInt64 y.toInt64 z.toInt64
  rw [i2l, i2l, i2l] at ha
  rcases ha with ⟨h1, h2⟩ | ⟨h1, h2⟩
  · rw [h1, Option.bind_some, if_neg (by decide), worth_v h, Option.bind_some]
    have hw := worth_i h (by decide) (by decide) (x := x) (y := y) (z := z) (B := 30) hx hy hz
    simp only [cmp0, hw]
    by_cases hW : Wz f x.toInt y.toInt z.toInt = 0
    · rw [if_pos hW, common_r Sm_i Sm_i, Option.bind_some]
      obtain ⟨s1, e1⟩ := Sm_gcd (Y := x.toInt64) (Z := y.toInt64) Sm_i Sm_i
      rw [common_r s1 Sm_i, Option.bind_some, e1, Int.natAbs_natCast, i2l, i2l, i2l, Nat.gcd_assoc]
      have hlt := g3_lt (X := x.toInt64) (Y := y.toInt64) (Z := z.toInt64) Sm_i Sm_i Sm_i
      rw [i2l, i2l, i2l] at hlt
      have eg : Nat.gcd x.toInt.natAbs (Nat.gcd y.toInt.natAbs z.toInt.natAbs) = g3 x.toInt y.toInt z.toInt := rfl
      rw [eg]
      have hc : lg_cmp (lN (g3 x.toInt y.toInt z.toInt)) (1 : Int64) = 0 ↔ g3 x.toInt y.toInt z.toInt = 1 := by
        rw [lg_cmp_eq, show (1 : Int64) = lN 1 from rfl, pk_lEQ (by omega) (by decide)]
      by_cases hg : g3 x.toInt y.toInt z.toInt = 1
      · left; rw [if_pos (hc.mpr hg)]; exact ⟨rfl, ⟨h2, hg⟩, hW⟩
      · right; rw [if_neg (fun q => hg (hc.mp q))]; exact ⟨rfl, fun q => hg q.1.2⟩
    · right; rw [if_neg hW]; exact ⟨rfl, fun q => hW q.2⟩
  · right; rw [h1]; exact ⟨rfl, fun q => h2 q.1.1⟩
theorem i_sq {c x : Int32} (hc1 : -400 ≤ c.toInt) (hc2 : c.toInt ≤ 400) (hx : Near x) : (c * x * x).toInt = c.toInt * x.toInt * x.toInt := by
  have h1 := bnd3 (B := 30) (by decide) hc1 hc2 hx.1 hx.2
  have h2 : (c.toInt * x.toInt).natAbs ≤ 400 * 30 := by
    rw [Int.natAbs_mul]
    exact Nat.mul_le_mul (by omega) (by have := hx.1; have := hx.2; omega)
  have e1 : (c * x).toInt = c.toInt * x.toInt := by rw [i_mul (by omega) (by omega)]
  rw [i_mul (by rw [e1]; omega) (by rw [e1]; omega), e1]
theorem third_loop {f : Nat → Int32} {x y : Int32} {q : Int} (hQ : ((-((((f (0 : Int32).toNatClampNeg) * x) * x) + (((f (1 : Int32).toNatClampNeg) * y) * y))) / (f (2 : Int32).toNatClampNeg)).toInt = q) : ∀ (c z fu : Nat), z + c = 31 → c < fu → (∀ w, w < z → ((w * w : Nat) : Int) ≠ q) → (∃ w, w ≤ 30 ∧ kX0_thirdFor_68 f x y fu (nI z) = some (nI w) ∧ ((w * w : Nat) : Int) = q) ∨ (kX0_thirdFor_68 f x y fu (nI z) = some (-1) ∧ ∀ w, w ≤ 30 → ((w * w : Nat) : Int) ≠ q) := by
  intro c
  induction c with
  | zero =>
    intro z fu hz hf hw
    obtain ⟨fu, rfl⟩ : ∃ t, fu = t + 1 := ⟨fu - 1, by omega⟩
    obtain rfl : z = 31 := by omega
    right
    rw [kX0_thirdFor_68, if_pos (by decide)]
    exact ⟨rfl, fun w h => hw w (by omega)⟩
  | succ c ih =>
    intro z fu hz hf hw
    obtain ⟨fu, rfl⟩ : ∃ t, fu = t + 1 := ⟨fu - 1, by omega⟩
    have hq := mul_self_le (show z ≤ 30 by omega)
    rw [kX0_thirdFor_68, if_neg (by rw [i_lt, c32 z (by omega)]; show ¬ (30 : Int) < z; omega)]
    by_cases h : ((z * z : Nat) : Int) = q
    · left
      rw [if_pos (by rw [i_eq, hQ, pk_mul, c32 _ (by omega)]; exact h)]
      exact ⟨z, by omega, rfl, h⟩
    · rw [if_neg (by rw [i_eq, hQ, pk_mul, c32 _ (by omega)]; exact h), nI_1]
      refine ih (z + 1) fu (by omega) (by omega) (fun w hw2 => ?_)
      rcases Nat.lt_or_ge w z with g | g
      · exact hw w g
      · obtain rfl : w = z := by omega
        exact h
theorem third_v {f rw : Nat → Int32} {j : Nat} (h : Row f rw j 3) {x y : Int32} (hx : Near x) (hy : Near y) : (∃ w, w ≤ 30 ∧ fX0_thirdFor (nI 3) f x y = some (nI w) ∧ Wz f x.toInt y.toInt (w : Int) = 0) ∨ (fX0_thirdFor (nI 3) f x y = some (-1) ∧ ∀ w : Nat, w ≤ 30 → Wz f x.toInt y.toInt (w : Int) ≠ 0) := by
  obtain ⟨-, a1, a2, a3⟩ := h.2.2 0 (by decide)
  obtain ⟨-, b1, b2, b3⟩ := h.2.2 1 (by decide)
  obtain ⟨-, c1, c2, c3⟩ := h.2.2 2 (by decide)
  have t0 : (0 : Int32).toNatClampNeg = 0 := by decide
  have t1 : (1 : Int32).toNatClampNeg = 1 := by decide
  have t2 : (2 : Int32).toNatClampNeg = 2 := by decide
  have p0 := bnd3 (B := 30) (by decide) a2 a3 hx.1 hx.2
  have p1 := bnd3 (B := 30) (by decide) b2 b3 hy.1 hy.2
  have e0 := i_sq a2 a3 hx
  have e1 := i_sq b2 b3 hy
  have eS : (((f 0) * x * x) + ((f 1) * y * y)).toInt = (f 0).toInt * x.toInt * x.toInt + (f 1).toInt * y.toInt * y.toInt := by
    rw [i_add (by rw [e0, e1]; omega) (by rw [e0, e1]; omega), e0, e1]
  have eR : (-(((f 0) * x * x) + ((f 1) * y * y))).toInt = -((f 0).toInt * x.toInt * x.toInt + (f 1).toInt * y.toInt * y.toInt) := by
    rw [i_neg (by rw [eS]; omega), eS]
  have hc2 := ne_int c1
  generalize hr : -((f 0).toInt * x.toInt * x.toInt + (f 1).toInt * y.toInt * y.toInt) = r at eR
  have hrb : r.natAbs ≤ 720000 := by omega
  have eQ : ((-(((f 0) * x * x) + ((f 1) * y * y))) / (f 2)).toInt = r.tdiv (f 2).toInt := by rw [i_div (by rw [eR]; omega), eR]
  have eM : (irm (-(((f 0) * x * x) + ((f 1) * y * y))) (f 2)).toInt = r.tmod (f 2).toInt := by rw [irm_i (by rw [eR]; omega), eR]
  have hW : ∀ w : Nat, Wz f x.toInt y.toInt (w : Int) = 0 ↔ (f 2).toInt * ((w * w : Nat) : Int) = r := by
    intro w
    unfold Wz
    rw [Int.natCast_mul, ← Int.mul_assoc]
    omega
  have hdm := Int.tdiv_mul_add_tmod r (f 2).toInt
  have o0 : (0 : Int32).toInt = 0 := rfl
  unfold fX0_thirdFor
  rw [t0, t1, t2, if_neg c1, if_pos c1]
  by_cases hm : r.tmod (f 2).toInt = 0
  · rw [hm, Int.add_zero] at hdm
    have hW2 : ∀ w : Nat, Wz f x.toInt y.toInt (w : Int) = 0 ↔ ((w * w : Nat) : Int) = r.tdiv (f 2).toInt := by
      intro w
      rw [hW]
      constructor
      · intro q
        rw [← hdm, Int.mul_comm] at q
        exact Int.eq_of_mul_eq_mul_right hc2 q
      · intro q
        rw [q, Int.mul_comm]
        exact hdm
    rw [if_pos (by rw [i_eq, eM, o0]; exact hm), if_pos c1]
    by_cases hn : r.tdiv (f 2).toInt < 0
    · right
      rw [if_pos (by rw [i_lt, eQ, o0]; exact hn)]
      refine ⟨rfl, fun w _ q => ?_⟩
      have := (hW2 w).mp q
      omega
    · rw [if_neg (by rw [i_lt, eQ, o0]; exact hn)]
      by_cases h9 : r.tdiv (f 2).toInt ≤ 900
      · rw [if_pos (by rw [i_le, eQ]; exact h9)]
        rcases third_loop (f := f) (x := x) (y := y) (q := r.tdiv (f 2).toInt) (by rw [t0, t1, t2]; exact eQ) 31 0 1100 (by decide) (by decide) (fun w hw => by omega) with ⟨w, w1, w2, w3⟩ | ⟨g1, g2⟩
        · left
          exact ⟨w, w1, w2, (hW2 w).mpr w3⟩
        · right
          exact ⟨g1, fun w hw q => g2 w hw ((hW2 w).mp q)⟩
      · right
        rw [if_neg (by rw [i_le, eQ]; exact h9)]
        refine ⟨rfl, fun w hw q => ?_⟩
        have h1 := (hW2 w).mp q
        have h2 := mul_self_le hw
        omega
  · right
    rw [if_neg (by rw [i_eq, eM, o0]; exact hm)]
    refine ⟨rfl, fun w _ q => hm ?_⟩
    rw [← (hW w).mp q]
    exact Int.mul_tmod_right _ _
