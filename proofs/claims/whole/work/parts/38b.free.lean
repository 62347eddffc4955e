/-! squares in numbers -/
theorem sq_dvd {V m D : Nat} (hV : ∀ e, 2 ≤ e → ¬ e * e ∣ V) (h : D * D ∣ V * (m * m)) (hD : 0 < D) : D ∣ m := by
  obtain ⟨D', m', hc, e1, e2⟩ := Nat.exists_coprime D m
  have hg : 0 < D.gcd m := Nat.gcd_pos_of_pos_left m hD
  have h1 : (D' * D') * (D.gcd m * D.gcd m) ∣ (V * (m' * m')) * (D.gcd m * D.gcd m) := by
    have a1 : (D' * D') * (D.gcd m * D.gcd m) = D * D := by
      conv => rhs; rw [e1]
      simp only [Nat.mul_assoc, Nat.mul_left_comm, Nat.mul_comm]
    have a2 : (V * (m' * m')) * (D.gcd m * D.gcd m) = V * (m * m) := by
      conv => rhs; rw [e2]
      simp only [Nat.mul_assoc, Nat.mul_left_comm, Nat.mul_comm]
    rw [a1, a2]
    exact h
  have h2 : D' * D' ∣ V * (m' * m') := Nat.dvd_of_mul_dvd_mul_right (Nat.mul_pos hg hg) h1
  have hc2 : (D' * D').Coprime (m' * m') := Nat.Coprime.mul_right (Nat.Coprime.mul_left hc hc) (Nat.Coprime.mul_left hc hc)
  have h3 : D' * D' ∣ V := hc2.dvd_of_dvd_mul_right h2
  have h4 : D' = 1 := by
    rcases Nat.lt_or_ge D' 2 with q | q
    · rcases Nat.eq_zero_or_pos D' with z | z
      · rw [z, Nat.zero_mul] at e1; omega
      · omega
    · exact absurd h3 (hV D' q)
  rw [h4, Nat.one_mul] at e1
  rw [e1]
  exact Nat.gcd_dvd_right D m
theorem mul_self_le {a b : Nat} (h : a ≤ b) : a * a ≤ b * b := Nat.mul_le_mul h h
theorem sq_le {m N : Nat} (h : m * m ≤ N * N) : m ≤ N := by
  rcases Nat.lt_or_ge N m with q | q
  · have := Nat.mul_le_mul (show N + 1 ≤ m from q) (show N + 1 ≤ m from q)
    have e : (N + 1) * (N + 1) = N * N + 2 * N + 1 := by simp [Nat.mul_add, Nat.add_mul]; omega
    omega
  · exact q
theorem dvd_abs {s : Nat} {x : Int} : (x.tmod s = 0) ↔ s ∣ x.natAbs := by
  constructor
  · intro h
    exact Int.ofNat_dvd_left.mp (Int.dvd_of_tmod_eq_zero h)
  · intro h
    exact Int.tmod_eq_zero_of_dvd (Int.ofNat_dvd_left.mpr h)
theorem irm_sq {v : Int32} {d : Nat} (hv : v.toInt.natAbs ≤ 1000000) (hd : d ≤ 1000) : irm v (nI d * nI d) = 0 ↔ d * d ∣ v.toInt.natAbs := by
  have hq := mul_self_le hd
  rw [pk_mul, i_eq, irm_i (by omega), c32 _ (by omega)]
  show v.toInt.tmod ((d * d : Nat) : Int) = 0 ↔ _
  exact dvd_abs
theorem sq_ne0 {d : Nat} (h0 : 2 ≤ d) (hd : d ≤ 1000) : ¬ nI d * nI d = 0 := by
  have hq := mul_self_le hd
  have hp : 0 < d * d := Nat.mul_pos (by omega) (by omega)
  rw [pk_mul]
  exact nI_ne0 hp (by omega)
theorem div_sq {v : Int32} {d : Nat} (hv : v.toInt.natAbs ≤ 1000000) (hd : d ≤ 1000) (h : d * d ∣ v.toInt.natAbs) : (v / (nI d * nI d)).toInt * ((d * d : Nat) : Int) = v.toInt := by
  have hq := mul_self_le hd
  rw [pk_mul, i_div (by omega), c32 _ (by omega)]
  have := Int.tdiv_mul_add_tmod v.toInt ((d * d : Nat) : Int)
  rw [dvd_abs.mpr h, Int.add_zero] at this
  exact this
theorem free_in {d : Nat} (h2 : 2 ≤ d) (hd : d ≤ 1000) (K : Int32 → Int32 → Option Int32) : ∀ (k fu : Nat) (v : Int32), v.toInt ≠ 0 → v.toInt.natAbs < 2 ^ k → v.toInt.natAbs ≤ 1000000 → k < fu → ∃ (w : Int32) (t : Nat), kX5_free_27 (nI d) K fu v = K w (nI d + 1) ∧ w.toInt ≠ 0 ∧ v.toInt = w.toInt * ((t * t : Nat) : Int) ∧ ¬ d * d ∣ w.toInt.natAbs := by
  intro k
  induction k with
  | zero => intro fu v h0 h1; omega
  | succ k ih =>
    intro fu v h0 h1 hv hf
    obtain ⟨fu, rfl⟩ : ∃ z, fu = z + 1 := ⟨fu - 1, by omega⟩
    rw [kX5_free_27, if_pos (sq_ne0 h2 hd)]
    by_cases h : d * d ∣ v.toInt.natAbs
    · rw [if_pos ((irm_sq hv hd).mpr h), if_pos (sq_ne0 h2 hd)]
      have e := div_sq hv hd h
      have ea : (v / (nI d * nI d)).toInt.natAbs * (d * d) = v.toInt.natAbs := by
        rw [← e, Int.natAbs_mul, Int.natAbs_natCast]
      have h4 : 2 * 2 ≤ d * d := Nat.mul_le_mul h2 h2
      have hle : (v / (nI d * nI d)).toInt.natAbs * 4 ≤ v.toInt.natAbs := by
        rw [← ea]; exact Nat.mul_le_mul_left _ h4
      have hne : (v / (nI d * nI d)).toInt ≠ 0 := by
        intro q
        rw [q, Int.zero_mul] at e
        exact h0 e.symm
      rw [Nat.pow_succ] at h1
      obtain ⟨w, t, g1, g2, g3, g4⟩ := ih fu (v / (nI d * nI d)) hne (by omega) (by omega) (by omega)
      refine ⟨w, t * d, g1, g2, ?_, g4⟩
      rw [← e, g3, Int.mul_assoc, ← Int.natCast_mul]
      congr 2
      simp only [Nat.mul_assoc, Nat.mul_left_comm, Nat.mul_comm]
    · rw [if_neg (fun q => h ((irm_sq hv hd).mp q))]
      exact ⟨v, 1, rfl, h0, by simp, h⟩
theorem dvd_of_eq {v w : Int} {t e : Nat} (h : v = w * ((t * t : Nat) : Int)) (hd : e * e ∣ w.natAbs) : e * e ∣ v.natAbs := by
  rw [h, Int.natAbs_mul]
  exact Nat.dvd_mul_right_of_dvd hd _
theorem abs_of_eq {v w : Int} {t : Nat} (h : v = w * ((t * t : Nat) : Int)) (hv : v ≠ 0) : w.natAbs ≤ v.natAbs := by
  rw [h, Int.natAbs_mul, Int.natAbs_natCast]
  have : 0 < t * t := by
    rcases Nat.eq_zero_or_pos (t * t) with z | z
    · rw [z] at h; simp at h; exact absurd h hv
    · exact z
  exact Nat.le_mul_of_pos_right _ this
theorem free_out : ∀ (c d fu : Nat) (v : Int32), d + c = 1001 → 2 ≤ d → c < fu → v.toInt ≠ 0 → v.toInt.natAbs ≤ 1000000 → (∀ e, 2 ≤ e → e < d → ¬ e * e ∣ v.toInt.natAbs) → ∃ (w : Int32) (t : Nat), kX5_free_20 fu v (nI d) = some w ∧ w.toInt ≠ 0 ∧ v.toInt = w.toInt * ((t * t : Nat) : Int) ∧ ∀ e, 2 ≤ e → e ≤ 1000 → ¬ e * e ∣ w.toInt.natAbs := by
  intro c
  induction c with
  | zero =>
    intro d fu v hd h2 hf h0 hv hs
    obtain ⟨fu, rfl⟩ : ∃ z, fu = z + 1 := ⟨fu - 1, by omega⟩
    obtain rfl : d = 1001 := by omega
    rw [kX5_free_20, if_pos (by decide)]
    exact ⟨v, 1, rfl, h0, by simp, fun e e1 e2 => hs e e1 (by omega)⟩
  | succ c ih =>
    intro d fu v hd h2 hf h0 hv hs
    obtain ⟨fu, rfl⟩ : ∃ z, fu = z + 1 := ⟨fu - 1, by omega⟩
    rw [kX5_free_20, if_neg (by rw [i_lt, c32 d (by omega)]; show ¬ (1000 : Int) < d; omega)]
    obtain ⟨w, t, g1, g2, g3, g4⟩ := free_in h2 (by omega) (kX5_free_20 fu) 20 1100 v h0 (by
      have : (2 : Nat) ^ 20 = 1048576 := by decide
      omega) hv (by decide)
    rw [g1, nI_1]
    have hw := abs_of_eq g3 h0
    obtain ⟨w2, t2, k1, k2, k3, k4⟩ := ih (d + 1) fu w (by omega) (by omega) (by omega) g2 (by omega) (fun e e1 e2 hx => by
      rcases Nat.lt_or_ge e d with q | q
      · exact hs e e1 q (dvd_of_eq g3 hx)
      · obtain rfl : e = d := by omega
        exact g4 hx)
    refine ⟨w2, t2 * t, k1, k2, ?_, k4⟩
    rw [g3, k3, Int.mul_assoc, ← Int.natCast_mul]
    congr 2
    simp only [Nat.mul_assoc, Nat.mul_left_comm, Nat.mul_comm]
theorem free_c {a : Int32} (ha : a.toInt.natAbs ≤ 1000000) : ∀ (d fu : Nat), d ≤ 1000 → d < fu → (∀ e, d < e → e ≤ 1000 → ¬ e * e ∣ a.toInt.natAbs) → ∃ (r : Int32) (D : Nat), kX4_free_15 a fu (nI d) = some r ∧ 1 ≤ D ∧ D ≤ 1000 ∧ r.toInt * ((D * D : Nat) : Int) = a.toInt ∧ ∀ e, D < e → e ≤ 1000 → ¬ e * e ∣ a.toInt.natAbs := by
  intro d
  induction d with
  | zero =>
    intro fu hd hf hs
    obtain ⟨fu, rfl⟩ : ∃ z, fu = z + 1 := ⟨fu - 1, by omega⟩
    rw [kX4_free_15, if_pos (by decide)]
    exact ⟨a, 1, rfl, by decide, by decide, by simp, fun e e1 e2 => hs e (by omega) e2⟩
  | succ d ih =>
    intro fu hd hf hs
    obtain ⟨fu, rfl⟩ : ∃ z, fu = z + 1 := ⟨fu - 1, by omega⟩
    by_cases h1 : d = 0
    · subst h1
      rw [kX4_free_15, if_pos (by decide)]
      exact ⟨a, 1, rfl, by decide, by decide, by simp, fun e e1 e2 => hs e (by omega) e2⟩
    · rw [kX4_free_15, if_neg (by rw [i_le, c32 _ (by omega)]; show ¬ ((d + 1 : Nat) : Int) ≤ 1; omega), if_pos (sq_ne0 (by omega) hd)]
      by_cases h : (d + 1) * (d + 1) ∣ a.toInt.natAbs
      · rw [if_pos ((irm_sq ha hd).mpr h), if_pos (sq_ne0 (by omega) hd)]
        exact ⟨_, d + 1, rfl, by omega, hd, div_sq ha hd h, hs⟩
      · rw [if_neg (fun q => h ((irm_sq ha hd).mp q)), show nI (d + 1) + (-1 : Int32) = nI d from pk_m1 d]
        refine ih fu (by omega) (by omega) (fun e e1 e2 => ?_)
        rcases Nat.lt_or_ge (d + 1) e with q | q
        · exact hs e q e2
        · obtain rfl : e = d + 1 := by omega
          exact h
theorem free_same {a : Int32} (h0 : a.toInt ≠ 0) (ha : a.toInt.natAbs ≤ 1000000) : ∃ r : Int32, kX4_free_15 a 1100 (1000 : Int32) = some r ∧ kX5_free_20 1100 a (2 : Int32) = some r := by
  obtain ⟨r, D, c1, c2, c3, c4, c5⟩ := free_c ha 1000 1100 (by decide) (by decide) (fun e e1 e2 => by omega)
  obtain ⟨w, t, g1, g2, g3, g4⟩ := free_out 999 2 1100 a (by decide) (by decide) (by decide) h0 ha (fun e e1 e2 => by omega)
  have hN : a.toInt.natAbs = w.toInt.natAbs * (t * t) := by rw [g3, Int.natAbs_mul, Int.natAbs_natCast]
  have hN2 : a.toInt.natAbs = r.toInt.natAbs * (D * D) := by rw [← c4, Int.natAbs_mul, Int.natAbs_natCast]
  have hpos : 0 < a.toInt.natAbs := by omega
  have hw : w.toInt.natAbs ≤ 1000000 := Nat.le_trans (abs_of_eq g3 h0) ha
  have hV : ∀ e, 2 ≤ e → ¬ e * e ∣ w.toInt.natAbs := by
    intro e e1 hx
    rcases Nat.lt_or_ge 1000 e with q | q
    · have h1 := Nat.le_of_dvd (by omega) hx
      have h2 := Nat.mul_le_mul (show 1001 ≤ e from q) (show 1001 ≤ e from q)
      omega
    · exact g4 e e1 q hx
  have ht0 : 0 < t := by
    rcases Nat.eq_zero_or_pos t with z | z
    · subst z
      simp at g3
      exact absurd g3 h0
    · exact z
  have hDt : D ∣ t := sq_dvd hV (by rw [← hN, hN2]; exact Nat.dvd_mul_left _ _) (by omega)
  have hDle := Nat.le_of_dvd ht0 hDt
  have htle : t ≤ 1000 := by
    apply sq_le
    have : t * t ≤ a.toInt.natAbs := by
      rw [hN]
      exact Nat.le_mul_of_pos_left _ (by omega)
    omega
  have hE : D = t := by
    rcases Nat.lt_or_ge D t with q | q
    · exact absurd (by rw [hN]; exact Nat.dvd_mul_left _ _) (c5 t q htle)
    · omega
  subst hE
  have he : w = r := by
    rw [i_eq]
    have h3 : w.toInt * ((D * D : Nat) : Int) = r.toInt * ((D * D : Nat) : Int) := by rw [← g3, c4]
    refine Int.eq_of_mul_eq_mul_right ?_ h3
    have := Nat.mul_pos ht0 ht0
    omega
  subst he
  exact ⟨w, c1, g1⟩
