/-! the places -/
def PL : List Nat := [0, 2, 3, 5, 7, 11, 13, 17, 19, 23, 29, 31, 37, 41, 43, 47, 53, 59, 61, 67, 71, 73, 79, 83, 89, 97, 101, 103, 107, 109, 113, 127, 131, 137, 139, 149, 151, 157, 163, 167, 173, 179, 181, 191, 193, 197, 199, 211, 223, 227, 229, 233, 239, 241, 251, 257, 263, 269, 271, 277, 281, 283, 293, 307, 311, 313, 317, 331, 337, 347, 349, 353, 359, 367, 373, 379, 383, 389, 397]
def isP (k : Nat) : Bool := PL.contains k
def rank (p : Nat) : Nat := (PL.filter (fun q => decide (q < p))).length
theorem allv_PL : ∀ j : Nat, j < 79 → allv j = nI (PL.getD j 0) ∧ PL.getD j 0 < 398 ∧ isP (PL.getD j 0) = true := by decide +kernel
theorem rank_t : ∀ p : Nat, p < 398 → isP p = true → allv (rank p) = nI p ∧ rank (p + 1) = rank p + 1 ∧ rank p < 79 := by decide +kernel
theorem rank_f : ∀ p : Nat, p < 398 → isP p = false → rank (p + 1) = rank p := by decide +kernel
theorem rank_0 : rank 0 = 0 := by decide +kernel
theorem rank_2 : rank 2 = 1 := by decide +kernel
theorem rank_end : rank 398 = 79 := by decide +kernel
theorem isP_1 : isP 1 = false := by decide +kernel
theorem isP_ge (p : Nat) (h : isP p = true) : p < 398 := by
  have h1 : p ∈ PL := by simpa [isP] using h
  have h2 : ∀ q ∈ PL, q < 398 := by decide +kernel
  exact h2 p h1
theorem pl5 : ∀ p : Nat, p < 398 → fX5_isPlace (nI p) = some (if isP p then 1 else 0) := by decide +kernel
theorem pr5 : ∀ p : Nat, p < 398 → 2 ≤ p → fX5_isPrime (nI p) = some (if isP p then 1 else 0) := by decide +kernel
theorem pr5_0 : fX5_isPrime (nI 0) = some 0 := by decide +kernel
theorem pr5_1 : fX5_isPrime (nI 1) = some 0 := by decide +kernel
theorem pl2_loop (a : Int32) : ∀ (k j fu : Nat), j + k = 79 → k < fu → (kX2_isPlace_9 a fu (nI j) = some 1 ∧ ∃ i, j ≤ i ∧ i < 79 ∧ allv i = a) ∨ (kX2_isPlace_9 a fu (nI j) = some 0 ∧ ∀ i, j ≤ i → i < 79 → allv i ≠ a) := by
  intro k
  induction k with
  | zero =>
    intro j fu hj hf
    obtain ⟨fu, rfl⟩ : ∃ x, fu = x + 1 := ⟨fu - 1, by omega⟩
    right
    obtain rfl : j = 79 := by omega
    rw [kX2_isPlace_9]
    exact ⟨if_pos (by decide), fun i h1 h2 => by omega⟩
  | succ k ih =>
    intro j fu hj hf
    obtain ⟨fu, rfl⟩ : ∃ x, fu = x + 1 := ⟨fu - 1, by omega⟩
    rw [kX2_isPlace_9, if_neg (by rw [i_le, c32 j (by omega)]; show ¬ (79 : Int) ≤ j; omega), if_pos (g_ok (by omega) (by omega)), nI_cl (by omega)]
    by_cases h : allv j = a
    · left
      exact ⟨if_pos h, j, Nat.le_refl j, by omega, h⟩
    · rw [if_neg h, nI_1]
      rcases ih (j + 1) fu (by omega) (by omega) with ⟨h1, i, h2, h3⟩ | ⟨h1, h2⟩
      · left
        exact ⟨h1, i, by omega, h3⟩
      · right
        refine ⟨h1, fun i h3 h4 => ?_⟩
        rcases Nat.lt_or_ge j i with q | q
        · exact h2 i q h4
        · obtain rfl : i = j := by omega
          exact h
theorem place_cases (a : Int32) : (fX2_isPlace a = some 0 ∧ fX5_isPlace a = some 0) ∨ ∃ p : Nat, isP p = true ∧ a = nI p ∧ fX2_isPlace (nI p) = some 1 ∧ fX5_isPlace (nI p) = some 1 := by
  rcases pl2_loop a 79 0 1100 rfl (by decide) with ⟨h1, i, h2, h3, h4⟩ | ⟨h1, h2⟩
  · right
    obtain ⟨e1, e2, e3⟩ := allv_PL i h3
    refine ⟨PL.getD i 0, e3, by rw [← h4, e1], ?_, ?_⟩
    · rw [← e1, h4]; exact h1
    · rw [pl5 _ e2, e3]; rfl
  · left
    refine ⟨h1, ?_⟩
    by_cases h : 0 ≤ a.toInt ∧ a.toInt < 398
    · obtain ⟨p, hp, rfl⟩ := of_rng (k := 398) h.1 h.2 (by decide)
      rw [pl5 p hp]
      cases hq : isP p with
      | false => rfl
      | true =>
        obtain ⟨r1, r2, r3⟩ := rank_t p hp hq
        exact absurd r1 (h2 _ (Nat.zero_le _) r3)
    · have e0 : (0 : Int32).toInt = 0 := rfl
      have e2 : (2 : Int64).toInt = 2 := rfl
      have e3 : (397 : Int64).toInt = 397 := rfl
      unfold fX5_isPlace
      rw [if_neg (by rw [i_eq]; omega), in_0 (by rw [i2l]; omega)]
      rfl
/-! powers of a prime in a number -/
def wo (p : Int) : Nat → Int → Int × Nat
  | 0, x => (x, 0)
  | k + 1, x => if x.tmod p = 0 then ((wo p k (x.tdiv p)).1, (wo p k (x.tdiv p)).2 + 1) else (x, 0)
theorem td_lt {x p : Int} {k : Nat} (hp : 2 ≤ p) (h : x.natAbs < 2 ^ (k + 1)) : (x.tdiv p).natAbs < 2 ^ k := by
  have h0 : (x.tdiv p).natAbs = x.natAbs / p.natAbs := Int.natAbs_tdiv x p
  have h1 : x.natAbs / p.natAbs ≤ x.natAbs / 2 := Nat.div_le_div_left (by omega) (by decide)
  rw [Nat.pow_succ] at h
  rw [h0]
  omega
theorem td_ne {x p : Int} (hx : x ≠ 0) (h : x.tmod p = 0) : x.tdiv p ≠ 0 := by
  intro q
  have := Int.tdiv_mul_add_tmod x p
  rw [q, h] at this
  omega
theorem wo_ne (p : Int) (hp : 2 ≤ p) : ∀ (k : Nat) (x : Int), x ≠ 0 → (wo p k x).1 ≠ 0 := by
  intro k
  induction k with
  | zero => intro x hx; exact hx
  | succ k ih =>
    intro x hx
    rw [wo]
    by_cases h : x.tmod p = 0
    · rw [if_pos h]; exact ih _ (td_ne hx h)
    · rw [if_neg h]; exact hx
theorem wo_nd (p : Int) (hp : 2 ≤ p) : ∀ (k : Nat) (x : Int), x ≠ 0 → x.natAbs < 2 ^ k → (wo p k x).1.tmod p ≠ 0 := by
  intro k
  induction k with
  | zero => intro x hx h; omega
  | succ k ih =>
    intro x hx hlt
    rw [wo]
    by_cases h : x.tmod p = 0
    · rw [if_pos h]; exact ih _ (td_ne hx h) (td_lt hp hlt)
    · rw [if_neg h]; exact h
theorem wo_le (p : Int) : ∀ (k : Nat) (x : Int), (wo p k x).2 ≤ k := by
  intro k
  induction k with
  | zero => intro x; exact Nat.le_refl 0
  | succ k ih =>
    intro x
    rw [wo]
    by_cases h : x.tmod p = 0
    · rw [if_pos h]; exact Nat.succ_le_succ (ih _)
    · rw [if_neg h]; exact Nat.zero_le _
theorem wo_abs (p : Int) : ∀ (k : Nat) (x : Int), (wo p k x).1.natAbs ≤ x.natAbs := by
  intro k
  induction k with
  | zero => intro x; exact Nat.le_refl _
  | succ k ih =>
    intro x
    rw [wo]
    by_cases h : x.tmod p = 0
    · rw [if_pos h]; exact Nat.le_trans (ih _) (td_abs x p)
    · rw [if_neg h]; exact Nat.le_refl _
theorem wo_mul (p : Int) : ∀ (k : Nat) (x : Int), x = (wo p k x).1 * p ^ (wo p k x).2 := by
  intro k
  induction k with
  | zero => intro x; simp [wo]
  | succ k ih =>
    intro x
    rw [wo]
    by_cases h : x.tmod p = 0
    · rw [if_pos h]
      have h1 := ih (x.tdiv p)
      have h2 := Int.tdiv_mul_add_tmod x p
      rw [h, Int.add_zero] at h2
      show x = (wo p k (x.tdiv p)).1 * p ^ ((wo p k (x.tdiv p)).2 + 1)
      rw [Int.pow_succ, ← Int.mul_assoc, ← h1, h2]
    · rw [if_neg h]; simp
theorem p64 {p : Nat} (h : p < 398) : (nI p).toInt64.toInt = (p : Int) := by rw [i2l, c32 p (by omega)]
theorem p64_ne {p : Nat} (h2 : 2 ≤ p) (h : p < 398) : ¬ (nI p).toInt64 = 0 := by
  rw [l_eq, p64 h]
  show ¬ (p : Int) = 0
  omega
theorem cmp0 {x : Int64} : lg_cmp x (0 : Int64) = 0 ↔ x.toInt = 0 := by
  rw [lg_cmp_eq, l_eq]
  exact Iff.rfl
theorem unit_v {p : Nat} (h2 : 2 ≤ p) (hp : p < 398) : ∀ (k : Nat) (X : Int64) (fu t : Nat), X.toInt ≠ 0 → X.toInt.natAbs < 2 ^ k → k < fu → t + k ≤ 63 → ∃ U : Int64, U.toInt = (wo p k X.toInt).1 ∧ kX2_unit_5 (nI p) fu X (nI t) = some U := by
  intro k
  induction k with
  | zero => intro X fu t h0 h1; omega
  | succ k ih =>
    intro X fu t h0 h1 hf ht
    obtain ⟨fu, rfl⟩ : ∃ x, fu = x + 1 := ⟨fu - 1, by omega⟩
    have hk : 2 ^ (k + 1) ≤ 2 ^ 63 := Nat.pow_le_pow_right (by decide) (by omega)
    have hX : X.toInt ≠ -9223372036854775808 := by omega
    rw [kX2_unit_5, if_neg (by rw [i_le, c32 t (by omega)]; show ¬ (64 : Int) ≤ t; omega), if_neg (by rw [i_le, c32 p (by omega)]; show ¬ (p : Int) ≤ 1; omega), if_neg (by rw [cmp0]; exact h0), if_pos (p64_ne h2 hp)]
    have hr : (lrm X (nI p).toInt64).toInt = X.toInt.tmod p := by rw [lrm_i hX, p64 hp]
    by_cases h : X.toInt.tmod p = 0
    · have ew : wo p (k + 1) X.toInt = ((wo p k (X.toInt.tdiv p)).1, (wo p k (X.toInt.tdiv p)).2 + 1) := by rw [wo, if_pos h]
      rw [ew, if_pos (by rw [cmp0, hr]; exact h), if_pos (p64_ne h2 hp), nI_1]
      have hd : (X / (nI p).toInt64).toInt = X.toInt.tdiv p := by rw [l_div hX, p64 hp]
      have := ih (X / (nI p).toInt64) fu (t + 1) (by rw [hd]; exact td_ne h0 h) (by rw [hd]; exact td_lt (by omega) h1) (by omega) (by omega)
      rw [hd] at this
      exact this
    · have ew : wo p (k + 1) X.toInt = (X.toInt, 0) := by rw [wo, if_neg h]
      rw [ew, if_neg (by rw [cmp0, hr]; exact h)]
      exact ⟨X, rfl, rfl⟩
def par (e : Nat) : Int32 := if e % 2 = 1 then 1 else 0
theorem par_b (e : Nat) : par e &&& 1 = par e := by unfold par; split <;> rfl
theorem par_f (e : Nat) : (if par e = 0 then (1 : Int32) else 0) = par (e + 1) := by
  unfold par
  rcases Nat.mod_two_eq_zero_or_one e with h | h
  · have h2 : (e + 1) % 2 = 1 := by omega
    simp [h, h2]
  · have h2 : (e + 1) % 2 = 0 := by omega
    simp [h, h2]
theorem odd_v {p : Nat} (h2 : 2 ≤ p) (hp : p < 398) : ∀ (k : Nat) (X : Int64) (fu t e : Nat), X.toInt ≠ 0 → X.toInt.natAbs < 2 ^ k → k < fu → t + k ≤ 63 → kX2_hasOddPower_8 (nI p) fu (par e) X (nI t) = some (par (e + (wo p k X.toInt).2)) := by
  intro k
  induction k with
  | zero => intro X fu t e h0 h1; omega
  | succ k ih =>
    intro X fu t e h0 h1 hf ht
    obtain ⟨fu, rfl⟩ : ∃ x, fu = x + 1 := ⟨fu - 1, by omega⟩
    have hk : 2 ^ (k + 1) ≤ 2 ^ 63 := Nat.pow_le_pow_right (by decide) (by omega)
    have hX : X.toInt ≠ -9223372036854775808 := by omega
    rw [kX2_hasOddPower_8, if_neg (by rw [i_le, c32 t (by omega)]; show ¬ (64 : Int) ≤ t; omega), if_neg (by rw [i_le, c32 p (by omega)]; show ¬ (p : Int) ≤ 1; omega), if_neg (by rw [cmp0]; exact h0), if_pos (p64_ne h2 hp)]
    have hr : (lrm X (nI p).toInt64).toInt = X.toInt.tmod p := by rw [lrm_i hX, p64 hp]
    rw [wo]
    by_cases h : X.toInt.tmod p = 0
    · rw [if_pos (by rw [cmp0, hr]; exact h), if_pos (p64_ne h2 hp), if_pos h]
      have hd : (X / (nI p).toInt64).toInt = X.toInt.tdiv p := by rw [l_div hX, p64 hp]
      have := ih (X / (nI p).toInt64) fu (t + 1) (e + 1) (by rw [hd]; exact td_ne h0 h) (by rw [hd]; exact td_lt (by omega) h1) (by omega) (by omega)
      rw [hd, ← par_f, ← nI_1] at this
      show (if par e = 0 then kX2_hasOddPower_8 (nI p) fu 1 (X / (nI p).toInt64) (nI t + 1) else kX2_hasOddPower_8 (nI p) fu 0 (X / (nI p).toInt64) (nI t + 1)) = _
      rw [show e + ((wo p k (X.toInt.tdiv p)).2 + 1) = e + 1 + (wo p k (X.toInt.tdiv p)).2 by omega, ← this]
      by_cases hq : par e = 0
      · rw [if_pos hq, if_pos hq]
      · rw [if_neg hq, if_neg hq]
    · rw [if_neg (by rw [cmp0, hr]; exact h), if_neg h, if_pos (par_b e)]
      rfl
theorem without_v {p : Nat} (h2 : 2 ≤ p) (hp : p < 398) : ∀ (k : Nat) (X : Int64) (fu e : Nat), X.toInt ≠ 0 → X.toInt.natAbs < 2 ^ k → k ≤ 63 → k < fu → ∃ U : Int64, U.toInt = (wo p k X.toInt).1 ∧ kX5_without_8 (nI p) fu X (nI e) = some (U, nI (e + (wo p k X.toInt).2)) := by
  intro k
  induction k with
  | zero => intro X fu e h0 h1; omega
  | succ k ih =>
    intro X fu e h0 h1 h63 hf
    obtain ⟨fu, rfl⟩ : ∃ x, fu = x + 1 := ⟨fu - 1, by omega⟩
    have hk : 2 ^ (k + 1) ≤ 2 ^ 63 := Nat.pow_le_pow_right (by decide) (by omega)
    have hX : X.toInt ≠ -9223372036854775808 := by omega
    rw [kX5_without_8, if_pos (p64_ne h2 hp)]
    have hr : (lrm X (nI p).toInt64).toInt = X.toInt.tmod p := by rw [lrm_i hX, p64 hp]
    by_cases h : X.toInt.tmod p = 0
    · have ew : wo p (k + 1) X.toInt = ((wo p k (X.toInt.tdiv p)).1, (wo p k (X.toInt.tdiv p)).2 + 1) := by rw [wo, if_pos h]
      rw [ew, if_pos (by rw [cmp0, hr]; exact h), if_pos (p64_ne h2 hp), nI_1]
      have hd : (X / (nI p).toInt64).toInt = X.toInt.tdiv p := by rw [l_div hX, p64 hp]
      have := ih (X / (nI p).toInt64) fu (e + 1) (by rw [hd]; exact td_ne h0 h) (by rw [hd]; exact td_lt (by omega) h1) (by omega) (by omega)
      rw [hd] at this
      show ∃ U : Int64, U.toInt = (wo p k (X.toInt.tdiv p)).1 ∧ _ = some (U, nI (e + ((wo p k (X.toInt.tdiv p)).2 + 1)))
      rw [show e + ((wo p k (X.toInt.tdiv p)).2 + 1) = e + 1 + (wo p k (X.toInt.tdiv p)).2 by omega]
      exact this
    · have ew : wo p (k + 1) X.toInt = (X.toInt, 0) := by rw [wo, if_neg h]
      rw [ew, if_neg (by rw [cmp0, hr]; exact h)]
      exact ⟨X, rfl, rfl⟩
/-- what has no more than 63 binary digits -/
def Ok (X : Int64) : Prop := X.toInt ≠ 0 ∧ X.toInt.natAbs < 2 ^ 63
theorem parts_v {p : Nat} (h2 : 2 ≤ p) (hp : p < 398) {X : Int64} (h : Ok X) {sz rw : Nat → Int32} : ∃ U : Int64, U.toInt = (wo p 63 X.toInt).1 ∧ fX2_unit X (nI p) = some U ∧ fX2_hasOddPower X (nI p) = some (par (wo p 63 X.toInt).2) ∧ fX5_without sz rw X (nI p) = some (U, nI (wo p 63 X.toInt).2) := by
  obtain ⟨U, h3, h4⟩ := unit_v h2 hp 63 X 1100 0 h.1 h.2 (by decide) (by decide)
  obtain ⟨V, h5, h6⟩ := without_v h2 hp 63 X 1100 0 h.1 h.2 (by decide) (by decide)
  have h7 := odd_v h2 hp 63 X 1100 0 0 h.1 h.2 (by decide) (by decide)
  have e : U = V := by rw [l_eq, h3, h5]
  subst e
  rw [Nat.zero_add] at h6 h7
  exact ⟨U, h3, h4, h7, h6⟩
