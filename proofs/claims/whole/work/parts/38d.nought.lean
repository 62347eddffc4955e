/-! two coefficients: squares of whole numbers -/
theorem wo_uniq (p : Nat) (h2 : 2 ≤ p) : ∀ (k : Nat) (u : Int) (e : Nat), u.tmod p ≠ 0 → (u * (p : Int) ^ e).natAbs < 2 ^ k → wo p k (u * (p : Int) ^ e) = (u, e) := by
  intro k
  induction k with
  | zero =>
    intro u e hu h
    exfalso
    have h0 : (u * (p : Int) ^ e).natAbs = 0 := by omega
    rw [Int.natAbs_mul, Int.natAbs_pow] at h0
    rcases Nat.mul_eq_zero.mp h0 with z | z
    · have : u = 0 := by omega
      rw [this] at hu
      exact hu (Int.zero_tmod _)
    · have : 0 < (p : Int).natAbs ^ e := Nat.pow_pos (by omega)
      omega
  | succ k ih =>
    intro u e hu h
    cases e with
    | zero =>
      rw [Int.pow_zero, Int.mul_one, wo, if_neg hu]
    | succ e =>
      have e1 : u * (p : Int) ^ (e + 1) = (u * (p : Int) ^ e) * p := by rw [Int.pow_succ, Int.mul_assoc]
      have hd : (u * (p : Int) ^ (e + 1)).tmod p = 0 := by rw [e1]; exact Int.mul_tmod_left _ _
      have hq : (u * (p : Int) ^ (e + 1)).tdiv p = u * (p : Int) ^ e := by rw [e1]; exact Int.mul_tdiv_cancel _ (by omega)
      have hl := td_lt (p := (p : Int)) (by omega) h
      rw [hq] at hl
      rw [wo, if_pos hd, hq, ih u e hu hl]
/-- the places above 0 are primes -/
theorem pl_prime : ∀ p : Nat, p < 398 → isP p = true → 2 ≤ p → ∀ d : Nat, d < p → 2 ≤ d → p % d ≠ 0 := by decide +kernel
theorem pl_cop {p n : Nat} (hP : isP p = true) (h0 : p ≠ 0) (hn : ¬ p ∣ n) : p.Coprime n := by
  have hp := isP_ge p hP
  have h2 := p_ge2 hP h0
  have h1 : p.gcd n ∣ p := Nat.gcd_dvd_left p n
  have h3 : p.gcd n ∣ n := Nat.gcd_dvd_right p n
  have hpos : 0 < p.gcd n := Nat.gcd_pos_of_pos_left n (by omega)
  have hle := Nat.le_of_dvd (by omega) h1
  rcases Nat.lt_or_ge (p.gcd n) 2 with q | q
  · exact (show p.gcd n = 1 by omega)
  · rcases Nat.lt_or_ge (p.gcd n) p with g | g
    · exact absurd (Nat.mod_eq_zero_of_dvd h1) (pl_prime p hp hP h2 _ g q)
    · have e : p.gcd n = p := by omega
      rw [e] at h3
      exact absurd h3 hn
theorem pl_sq {p n : Nat} (hP : isP p = true) (h0 : p ≠ 0) (hn : ¬ p ∣ n) : ¬ p ∣ n * n := by
  intro h
  have hc := pl_cop hP h0 hn
  exact hn (hc.dvd_of_dvd_mul_right h)
theorem fermat : ∀ p : Nat, p < 398 → isP p = true → 3 ≤ p → ∀ x, x < p → 1 ≤ x → x ^ (p - 1) % p = 1 := by decide +kernel
theorem tm_dvd {u : Int} {p : Nat} : u.tmod p = 0 ↔ p ∣ u.natAbs := dvd_abs
/-- a square of a whole number is a square at each prime -/
theorem sq_at {p r : Nat} (hP : isP p = true) (h0 : p ≠ 0) (hr : 0 < r) (hb : r * r < 2 ^ 63) : sqB ((r * r : Nat) : Int) p = true := by
  have hp := isP_ge p hP
  have h2 := p_ge2 hP h0
  have hr63 : r < 2 ^ 63 := Nat.lt_of_le_of_lt (Nat.le_mul_of_pos_left r hr) hb
  have hw := wo_mul (p : Int) 63 (r : Int)
  have hnd := wo_nd (p : Int) (by omega) 63 (r : Int) (by omega) (by rw [Int.natAbs_natCast]; exact hr63)
  generalize (wo (p : Int) 63 (r : Int)).1 = u at hw hnd
  generalize (wo (p : Int) 63 (r : Int)).2 = e at hw
  have hsq : ((r * r : Nat) : Int) = (u * u) * (p : Int) ^ (2 * e) := by
    rw [Int.natCast_mul, hw, Nat.two_mul, Int.pow_add]
    simp only [Int.mul_assoc, Int.mul_left_comm, Int.mul_comm]
  have hn2 : (u * u).tmod p ≠ 0 := by
    intro q
    rw [tm_dvd, Int.natAbs_mul] at q
    exact pl_sq hP h0 (fun z => hnd (tm_dvd.mpr z)) q
  have hwo : wo (p : Int) 63 ((r * r : Nat) : Int) = (u * u, 2 * e) := by
    rw [hsq]
    refine wo_uniq p h2 63 (u * u) (2 * e) hn2 ?_
    rw [← hsq, Int.natAbs_natCast]
    exact hb
  unfold sqB
  rw [hwo]
  show (decide (2 * e % 2 = 0) && (if p = 2 then decide (u * u % 8 = 1) else rsd (u * u) p)) = true
  rw [decide_eq_true (show 2 * e % 2 = 0 by omega), Bool.true_and]
  by_cases hp2 : p = 2
  · subst hp2
    rw [if_pos rfl, decide_eq_true_eq]
    have ho : ¬ u % 2 = 0 := fun q => hnd (Int.tmod_eq_zero_of_dvd (Int.dvd_of_emod_eq_zero q))
    have h8 : u % 8 = 1 ∨ u % 8 = 3 ∨ u % 8 = 5 ∨ u % 8 = 7 := by omega
    rw [Int.mul_emod]
    rcases h8 with q | q | q | q <;> rw [q] <;> decide
  · rw [if_neg hp2]
    unfold rsd
    rw [decide_eq_true_eq]
    have hpp : (p : Int) ≠ 0 := by omega
    have e1 := Int.emod_nonneg u hpp
    have e2 := Int.emod_lt_of_pos u (show (0 : Int) < p by omega)
    have hx0 : (u % (p : Int)).toNat ≠ 0 := by
      intro q
      exact hnd (Int.tmod_eq_zero_of_dvd (Int.dvd_of_emod_eq_zero (by omega)))
    have ex : ((u * u) % (p : Int)).toNat = ((u % (p : Int)).toNat * (u % (p : Int)).toNat) % p := by
      have h1 : ((u % (p : Int)).toNat : Int) = u % (p : Int) := by omega
      have h3 : (u * u) % (p : Int) = ((((u % (p : Int)).toNat * (u % (p : Int)).toNat) % p : Nat) : Int) := by
        rw [Int.natCast_emod, Int.natCast_mul, h1, ← Int.mul_emod]
      rw [h3]
      rfl
    rw [ex, ← Nat.pow_mod, ← Nat.pow_two, ← Nat.pow_mul]
    have hodd : 2 * ((p - 1) / 2) = p - 1 := by
      have : ∀ q, q < 398 → isP q = true → q ≠ 0 → q ≠ 2 → q % 2 = 1 := by decide +kernel
      have := this p hp hP h0 hp2
      omega
    rw [hodd]
    exact fermat p hp hP (by omega) _ (by omega) (by omega)
/-- what is left when the greatest square is divided out -/
theorem core_ex (N : Nat) (hN : 0 < N) : ∃ V m : Nat, N = V * (m * m) ∧ ∀ e, 2 ≤ e → ¬ e * e ∣ V := by
  induction N using Nat.strongRecOn with
  | ind N ih =>
    by_cases h : ∃ e, 2 ≤ e ∧ e * e ∣ N
    · obtain ⟨e, h2, c, hc⟩ := h
      have h4 : 2 * 2 ≤ e * e := Nat.mul_le_mul h2 h2
      have hcpos : 0 < c := by
        rcases Nat.eq_zero_or_pos c with z | z
        · rw [z, Nat.mul_zero] at hc; omega
        · exact z
      have hlt : c < N := by
        have h5 := Nat.mul_le_mul_right c h4
        rw [hc]
        omega
      obtain ⟨V, m, g1, g2⟩ := ih c hlt hcpos
      refine ⟨V, m * e, ?_, g2⟩
      rw [hc, g1]
      simp only [Nat.mul_assoc, Nat.mul_left_comm, Nat.mul_comm]
    · exact ⟨N, 1, by simp, fun e e1 e2 => h ⟨e, e1, e2⟩⟩
theorem small_prime : ∀ q : Nat, q < 401 → 2 ≤ q → (∀ d, d < q → 2 ≤ d → ¬ q % d = 0) → isP q = true := by decide +kernel
theorem min_div (V : Nat) (hV : 2 ≤ V) : ∃ q, 2 ≤ q ∧ q ∣ V ∧ ∀ d, 2 ≤ d → d < q → ¬ d ∣ V := by
  obtain ⟨q, ⟨h1, h2⟩, h3⟩ := pk_least (fun q => 2 ≤ q ∧ q ∣ V) ⟨V, hV, Nat.dvd_refl V⟩
  exact ⟨q, h1, h2, fun d d1 d2 d3 => h3 d d2 ⟨d1, d3⟩⟩
theorem euclid {q a b : Nat} (h2 : 2 ≤ q) (hq : ∀ d, 2 ≤ d → d < q → ¬ d ∣ q) (h : q ∣ a * b) : q ∣ a ∨ q ∣ b := by
  by_cases ha : q ∣ a
  · exact Or.inl ha
  · right
    have h1 : q.gcd a ∣ q := Nat.gcd_dvd_left q a
    have h3 : q.gcd a ∣ a := Nat.gcd_dvd_right q a
    have hpos : 0 < q.gcd a := Nat.gcd_pos_of_pos_left a (by omega)
    have hle := Nat.le_of_dvd (by omega) h1
    have hc : q.Coprime a := by
      rcases Nat.lt_or_ge (q.gcd a) 2 with z | z
      · exact (show q.gcd a = 1 by omega)
      · rcases Nat.lt_or_ge (q.gcd a) q with g | g
        · exact absurd h1 (hq _ z g)
        · have e : q.gcd a = q := by omega
          rw [e] at h3
          exact absurd h3 ha
    exact hc.dvd_of_dvd_mul_left h
/-- of two coefficients: no bar just if - D is a square of a whole number -/
theorem two_sq {a b : Nat} (ha : 0 < a) (ha4 : a ≤ 400) (hb : 0 < b) (hb4 : b ≤ 400) (h : ∀ p, isP p = true → p ≠ 0 → (p ∣ a ∨ p ∣ b) → sqB ((a * b : Nat) : Int) p = true) : ∃ r, a * b = r * r := by
  have hab := Nat.mul_pos ha hb
  have hab4 := Nat.mul_le_mul ha4 hb4
  obtain ⟨V, m, g1, g2⟩ := core_ex (a * b) hab
  have hV0 : 0 < V := by
    rcases Nat.eq_zero_or_pos V with z | z
    · rw [z, Nat.zero_mul] at g1; omega
    · exact z
  have hm0 : 0 < m := by
    rcases Nat.eq_zero_or_pos m with z | z
    · rw [z, Nat.zero_mul, Nat.mul_zero] at g1; omega
    · exact z
  rcases Nat.lt_or_ge V 2 with hV | hV
  · refine ⟨m, ?_⟩
    rw [g1, show V = 1 by omega, Nat.one_mul]
  · exfalso
    obtain ⟨q, q1, q2, q3⟩ := min_div V hV
    have hqq : ∀ d, 2 ≤ d → d < q → ¬ d ∣ q := fun d d1 d2 d3 => q3 d d1 d2 (Nat.dvd_trans d3 q2)
    have hqab : q ∣ a * b := by rw [g1]; exact Nat.dvd_mul_right_of_dvd q2 _
    have hor := euclid q1 hqq hqab
    have hq400 : q ≤ 400 := by
      rcases hor with z | z
      · exact Nat.le_trans (Nat.le_of_dvd ha z) ha4
      · exact Nat.le_trans (Nat.le_of_dvd hb z) hb4
    have hP : isP q = true := small_prime q (by omega) q1 (fun d d1 d2 d3 => hqq d d2 d1 (Nat.dvd_of_mod_eq_zero d3))
    have hs := h q hP (by omega) hor
    obtain ⟨w, hw⟩ := q2
    have hwq : ¬ q ∣ w := by
      intro z
      refine g2 q q1 ?_
      rw [hw]
      exact Nat.mul_dvd_mul_left q z
    have hmw := wo_mul (q : Int) 63 (m : Int)
    have hm63 : m < 2 ^ 63 := by
      have h5 : m * m ≤ V * (m * m) := Nat.le_mul_of_pos_left _ hV0
      have h6 : m ≤ m * m := Nat.le_mul_of_pos_left m hm0
      have e63 : (2 : Nat) ^ 63 = 9223372036854775808 := by decide
      omega
    have hmn := wo_nd (q : Int) (by omega) 63 (m : Int) (by omega) (by rw [Int.natAbs_natCast]; exact hm63)
    generalize (wo (q : Int) 63 (m : Int)).1 = u at hmw hmn
    generalize (wo (q : Int) 63 (m : Int)).2 = e at hmw
    have hE : ((a * b : Nat) : Int) = ((w : Int) * (u * u)) * (q : Int) ^ (2 * e + 1) := by
      rw [g1, hw, Int.natCast_mul, Int.natCast_mul, Int.natCast_mul, hmw, Int.pow_succ, Nat.two_mul, Int.pow_add]
      simp only [Int.mul_assoc, Int.mul_left_comm, Int.mul_comm]
    have hnd : ((w : Int) * (u * u)).tmod q ≠ 0 := by
      intro z
      rw [tm_dvd, Int.natAbs_mul, Int.natAbs_mul, Int.natAbs_natCast] at z
      rcases euclid q1 hqq z with y | y
      · exact hwq y
      · exact pl_sq hP (by omega) (fun x => hmn (tm_dvd.mpr x)) y
    have hwo : wo (q : Int) 63 ((a * b : Nat) : Int) = ((w : Int) * (u * u), 2 * e + 1) := by
      rw [hE]
      refine wo_uniq q q1 63 _ _ hnd ?_
      rw [← hE, Int.natAbs_natCast]
      have e63 : (2 : Nat) ^ 63 = 9223372036854775808 := by decide
      omega
    unfold sqB at hs
    rw [hwo, decide_eq_false (show ¬ (2 * e + 1) % 2 = 0 by omega)] at hs
    cases hs
