/-! squares divided out of a product -/
theorem s64 {p : Nat} (hp : p < 398) : ((nI p * nI p).toInt64).toInt = ((p * p : Nat) : Int) := by
  have h := mul_self_le (show p ≤ 397 by omega)
  rw [pk_mul, i2l, c32 _ (by omega)]
theorem s64_ne {p : Nat} (h2 : 2 ≤ p) (hp : p < 398) : ¬ (nI p * nI p).toInt64 = 0 := by
  have h : 0 < p * p := Nat.mul_pos (by omega) (by omega)
  rw [l_eq, s64 hp]
  show ¬ ((p * p : Nat) : Int) = 0
  omega
theorem pp2 {p : Nat} (h2 : 2 ≤ p) : (2 : Int) ≤ ((p * p : Nat) : Int) := by
  have := Nat.mul_le_mul h2 h2
  omega
theorem fp_in {p r : Nat} (h2 : 2 ≤ p) (hp : p < 398) (hr : r < 79) (ha : allv r = nI p) (K : Int64 → Int32 → Option Int64) : ∀ (k : Nat) (X : Int64) (fu t : Nat), X.toInt ≠ 0 → X.toInt.natAbs < 2 ^ k → k < fu → t + k ≤ 63 → ∃ U : Int64, U.toInt = (wo ((p * p : Nat) : Int) k X.toInt).1 ∧ kX0_freeProduct_39 (nI r) K fu X (nI t) = K U (nI r + 1) := by
  have hq := mul_self_le (show p ≤ 397 by omega)
  have hq2 := Nat.mul_le_mul h2 h2
  intro k
  induction k with
  | zero => intro X fu t h0 h1; omega
  | succ k ih =>
    intro X fu t h0 h1 hf ht
    obtain ⟨fu, rfl⟩ : ∃ x, fu = x + 1 := ⟨fu - 1, by omega⟩
    have hk : 2 ^ (k + 1) ≤ 2 ^ 63 := Nat.pow_le_pow_right (by decide) (by omega)
    have hX : X.toInt ≠ -9223372036854775808 := by omega
    rw [kX0_freeProduct_39, nI_cl (show r < 2147483648 by omega), ha, if_neg (by rw [i_le, c32 t (by omega)]; show ¬ (64 : Int) ≤ t; omega), if_neg (by rw [pk_mul, i_le, c32 _ (by omega)]; show ¬ ((p * p : Nat) : Int) ≤ 1; omega), if_pos (s64_ne h2 hp)]
    have hr' : (lrm X (nI p * nI p).toInt64).toInt = X.toInt.tmod ((p * p : Nat) : Int) := by rw [lrm_i hX, s64 hp]
    by_cases h : X.toInt.tmod ((p * p : Nat) : Int) = 0
    · have ew : wo ((p * p : Nat) : Int) (k + 1) X.toInt = ((wo ((p * p : Nat) : Int) k (X.toInt.tdiv ((p * p : Nat) : Int))).1, (wo ((p * p : Nat) : Int) k (X.toInt.tdiv ((p * p : Nat) : Int))).2 + 1) := by rw [wo, if_pos h]
      rw [ew, if_pos (by rw [cmp0, hr']; exact h), if_pos (s64_ne h2 hp), nI_1]
      have hd : (X / (nI p * nI p).toInt64).toInt = X.toInt.tdiv ((p * p : Nat) : Int) := by rw [l_div hX, s64 hp]
      have := ih (X / (nI p * nI p).toInt64) fu (t + 1) (by rw [hd]; exact td_ne h0 h) (by rw [hd]; exact td_lt (pp2 h2) h1) (by omega) (by omega)
      rw [hd] at this
      exact this
    · have ew : wo ((p * p : Nat) : Int) (k + 1) X.toInt = (X.toInt, 0) := by rw [wo, if_neg h]
      rw [ew, if_neg (by rw [cmp0, hr']; exact h)]
      exact ⟨X, rfl, rfl⟩
theorem fo_in {p : Nat} (h2 : 2 ≤ p) (hp : p < 398) (K : Int64 → Int32 → Option Int64) : ∀ (k : Nat) (X : Int64) (fu : Nat), X.toInt ≠ 0 → X.toInt.natAbs < 2 ^ k → k ≤ 63 → k < fu → ∃ U : Int64, U.toInt = (wo ((p * p : Nat) : Int) k X.toInt).1 ∧ kX5_freeOf_23 (nI p) K fu X = K U (nI p + 1) := by
  intro k
  induction k with
  | zero => intro X fu h0 h1; omega
  | succ k ih =>
    intro X fu h0 h1 h63 hf
    obtain ⟨fu, rfl⟩ : ∃ x, fu = x + 1 := ⟨fu - 1, by omega⟩
    have hk : 2 ^ (k + 1) ≤ 2 ^ 63 := Nat.pow_le_pow_right (by decide) (by omega)
    have hX : X.toInt ≠ -9223372036854775808 := by omega
    rw [kX5_freeOf_23, if_pos (s64_ne h2 hp)]
    have hr' : (lrm X (nI p * nI p).toInt64).toInt = X.toInt.tmod ((p * p : Nat) : Int) := by rw [lrm_i hX, s64 hp]
    by_cases h : X.toInt.tmod ((p * p : Nat) : Int) = 0
    · have ew : wo ((p * p : Nat) : Int) (k + 1) X.toInt = ((wo ((p * p : Nat) : Int) k (X.toInt.tdiv ((p * p : Nat) : Int))).1, (wo ((p * p : Nat) : Int) k (X.toInt.tdiv ((p * p : Nat) : Int))).2 + 1) := by rw [wo, if_pos h]
      rw [ew, if_pos (by rw [cmp0, hr']; exact h), if_pos (s64_ne h2 hp)]
      have hd : (X / (nI p * nI p).toInt64).toInt = X.toInt.tdiv ((p * p : Nat) : Int) := by rw [l_div hX, s64 hp]
      have := ih (X / (nI p * nI p).toInt64) fu (by rw [hd]; exact td_ne h0 h) (by rw [hd]; exact td_lt (pp2 h2) h1) (by omega) (by omega)
      rw [hd] at this
      exact this
    · have ew : wo ((p * p : Nat) : Int) (k + 1) X.toInt = (X.toInt, 0) := by rw [wo, if_neg h]
      rw [ew, if_neg (by rw [cmp0, hr']; exact h)]
      exact ⟨X, rfl, rfl⟩
def fr (x : Int) : Nat → Int
  | 0 => x
  | p + 1 => if isP p = true ∧ p ≠ 0 then (wo ((p * p : Nat) : Int) 63 (fr x p)).1 else fr x p
theorem fr_ok {x : Int} (hx : x ≠ 0) : ∀ p, fr x p ≠ 0 ∧ (fr x p).natAbs ≤ x.natAbs := by
  intro p
  induction p with
  | zero => exact ⟨hx, Nat.le_refl _⟩
  | succ p ih =>
    rw [fr]
    split
    · rename_i hq
      have h2 := p_ge2 hq.1 hq.2
      exact ⟨wo_ne _ (pp2 h2) 63 _ ih.1, Nat.le_trans (wo_abs _ 63 _) ih.2⟩
    · exact ih
theorem wo_dvd (s : Int) (k : Nat) (x : Int) : (wo s k x).1.natAbs ∣ x.natAbs := by
  have h := wo_mul s k x
  have e : x.natAbs = (wo s k x).1.natAbs * (s ^ (wo s k x).2).natAbs := by rw [← Int.natAbs_mul, ← h]
  rw [e]
  exact Nat.dvd_mul_right _ _
theorem fr_nd {x : Int} (hx : x ≠ 0) (hb : x.natAbs < 2 ^ 63) : ∀ p q, q < p → isP q = true → q ≠ 0 → ¬ q * q ∣ (fr x p).natAbs := by
  intro p
  induction p with
  | zero => intro q h; omega
  | succ p ih =>
    intro q hq hP h0
    have ho := fr_ok hx p
    rw [fr]
    split
    · rename_i hc
      have h2 := p_ge2 hc.1 hc.2
      rcases Nat.lt_or_ge q p with g | g
      · intro hd
        exact ih q g hP h0 (Nat.dvd_trans hd (wo_dvd _ 63 _))
      · obtain rfl : q = p := by omega
        intro hd
        exact wo_nd _ (pp2 h2) 63 _ ho.1 (by omega) (dvd_abs.mpr hd)
    · rename_i hc
      rcases Nat.lt_or_ge q p with g | g
      · exact ih q g hP h0
      · obtain rfl : q = p := by omega
        exact absurd ⟨hP, h0⟩ hc
theorem fp_out {x : Int} (hx : x ≠ 0) (hb : x.natAbs < 2 ^ 63) : ∀ (d p fu : Nat) (X : Int64), p + d = 398 → 79 - rank p < fu → X.toInt = fr x p → ∃ U : Int64, U.toInt = fr x 398 ∧ kX0_freeProduct_16 fu X (nI (rank p)) = some U := by
  intro d
  induction d with
  | zero =>
    intro p fu X hp hf hX
    obtain ⟨fu, rfl⟩ : ∃ z, fu = z + 1 := ⟨fu - 1, by omega⟩
    obtain rfl : p = 398 := by omega
    rw [kX0_freeProduct_16, rank_end, if_pos (by decide)]
    exact ⟨X, hX, rfl⟩
  | succ d ih =>
    intro p fu X hp hf hX
    cases hP : isP p with
    | false =>
      have := ih (p + 1) fu X (by omega) (by rw [rank_f p (by omega) hP]; exact hf) (by rw [fr, if_neg (by rw [hP]; intro q; cases q.1)]; exact hX)
      rw [rank_f p (by omega) hP] at this
      exact this
    | true =>
      obtain ⟨r1, r2, r3⟩ := rank_t p (by omega) hP
      obtain ⟨fu, rfl⟩ : ∃ z, fu = z + 1 := ⟨fu - 1, by omega⟩
      rw [kX0_freeProduct_16, if_neg (i79 r3), if_pos (g_ok (by omega) (by omega))]
      by_cases h0 : p = 0
      · subst h0
        have r2' : rank 1 = rank 0 + 1 := r2
        have := ih 1 fu X (by omega) (by omega) (by rw [fr, if_neg (fun q => q.2 rfl)]; exact hX)
        rw [r2'] at this
        rw [kX0_freeProduct_39, nI_cl (by omega), r1, if_neg (by decide), if_pos (by decide), nI_1]
        exact this
      · have h2 := p_ge2 hP h0
        have ho := fr_ok hx p
        obtain ⟨U, u1, u2⟩ := fp_in h2 (by omega) r3 r1 (kX0_freeProduct_16 fu) 63 X 1100 0 (by rw [hX]; exact ho.1) (by rw [hX]; omega) (by decide) (by decide)
        have := ih (p + 1) fu U (by omega) (by omega) (by rw [u1, hX, fr, if_pos ⟨hP, h0⟩])
        rw [r2] at this
        rw [← nI_0, u2, nI_1]
        exact this
theorem comp_q : ∀ p : Nat, p < 398 → 2 ≤ p → isP p = false → ∃ q ∈ ([2, 3, 5, 7, 11, 13, 17, 19] : List Nat), q < p ∧ p % q = 0 := by decide +kernel
theorem comp_p : ∀ q ∈ ([2, 3, 5, 7, 11, 13, 17, 19] : List Nat), isP q = true ∧ q ≠ 0 := by decide +kernel
theorem fo_out {x : Int} (hx : x ≠ 0) (hb : x.natAbs < 2 ^ 63) : ∀ (d p fu : Nat) (X : Int64), p + d = 398 → 2 ≤ p → d < fu → X.toInt = fr x p → ∃ U : Int64, U.toInt = fr x 398 ∧ kX5_freeOf_15 fu X (nI p) = some U := by
  intro d
  induction d with
  | zero =>
    intro p fu X hp _ hf hX
    obtain ⟨fu, rfl⟩ : ∃ z, fu = z + 1 := ⟨fu - 1, by omega⟩
    obtain rfl : p = 398 := by omega
    rw [kX5_freeOf_15, if_pos (by decide)]
    exact ⟨X, hX, rfl⟩
  | succ d ih =>
    intro p fu X hp h2 hf hX
    obtain ⟨fu, rfl⟩ : ∃ z, fu = z + 1 := ⟨fu - 1, by omega⟩
    have ho := fr_ok hx p
    obtain ⟨U, u1, u2⟩ := fo_in h2 (by omega) (kX5_freeOf_15 fu) 63 X 1100 (by rw [hX]; exact ho.1) (by rw [hX]; omega) (by decide) (by decide)
    rw [kX5_freeOf_15, if_neg (i398 (by omega)), u2, nI_1]
    refine ih (p + 1) fu U (by omega) (by omega) (by omega) ?_
    rw [u1, hX, fr]
    cases hP : isP p with
    | true => rw [if_pos ⟨rfl, by omega⟩]
    | false =>
      rw [if_neg (by intro q; cases q.1)]
      obtain ⟨q, q1, q2, q3⟩ := comp_q p (by omega) h2 hP
      obtain ⟨q4, q5⟩ := comp_p q q1
      have hn := fr_nd hx hb p q q2 q4 q5
      have hd : q * q ∣ p * p := Nat.mul_dvd_mul (Nat.dvd_of_mod_eq_zero q3) (Nat.dvd_of_mod_eq_zero q3)
      rw [wo, if_neg (fun z => hn (Nat.dvd_trans hd (dvd_abs.mp z)))]
theorem freeP_same {f rw sz : Nat → Int32} {j k : Nat} (h : Row f rw j k) (hz : sz j = nI k) : ∃ U : Int64, fX0_freeProduct (nI k) f = some U ∧ fX5_freeOf sz rw (nI j) = some U := by
  have hj := h.1
  obtain ⟨⟨o1, o2⟩, -, -⟩ := prod_Ok h
  obtain ⟨U, u1, u2⟩ := fp_out o1 o2 398 0 1100 (prodI f k) (by omega) (by rw [rank_0]; decide) rfl
  obtain ⟨V, v1, v2⟩ := fo_out o1 o2 396 2 1100 (prodI f k) (by omega) (by omega) (by omega) (by
    rw [fr, if_neg (by rw [isP_1]; intro q; cases q.1), fr, if_neg (fun q => q.2 rfl)]
    rfl)
  have e : U = V := by rw [l_eq, u1, v1]
  subst e
  refine ⟨U, ?_, ?_⟩
  · unfold fX0_freeProduct
    rw [product_c h.2.1, Option.bind_some]
    rw [rank_0] at u2
    exact u2
  · unfold fX5_freeOf
    rw [if_pos (g_ok (by omega) (by omega)), nI_cl (by omega), hz, product_r h, Option.bind_some]
    exact v2
