/-! the forms: the class's coefficients f, the reference's rows from 6 j on -/
def Row (f rw : Nat → Int32) (j k : Nat) : Prop := j < 4 ∧ k ≤ 6 ∧ ∀ i, i < k → f i = rw (6 * j + i) ∧ f i ≠ 0 ∧ -400 ≤ (f i).toInt ∧ (f i).toInt ≤ 400
theorem six (j i : Nat) : (6 : Int32) * nI j + nI i = nI (6 * j + i) := by
  show nI 6 * nI j + nI i = _
  rw [pk_mul, nI_add]
theorem row_ok {f rw : Nat → Int32} {j k i : Nat} (h : Row f rw j k) (hi : i < k) : ¬ (((6 : Int32) * nI j + nI i) < 0 ∨ 24 ≤ ((6 : Int32) * nI j + nI i).toNatClampNeg) := by
  have h1 := h.1
  have h2 := h.2.1
  rw [six]
  exact g_ok (by omega) (by omega)
theorem row_at {f rw : Nat → Int32} {j k i : Nat} (h : Row f rw j k) (hi : i < k) : rw ((6 : Int32) * nI j + nI i).toNatClampNeg = f i := by
  have h1 := h.1
  have h2 := h.2.1
  rw [six, nI_cl (by omega)]
  exact ((h.2.2 i hi).1).symm
theorem lt_nI {i k : Nat} (hk : k < 1000) (h : i < k) : ¬ nI k ≤ nI i := nI_ge h (by omega)
def prodI (f : Nat → Int32) : Nat → Int64
  | 0 => 1
  | k + 1 => prodI f k * (f k).toInt64
theorem prod_c {f : Nat → Int32} {k : Nat} (hk : k ≤ 6) : ∀ (d i fu : Nat), i + d = k → d < fu → kX0_product_4 (nI k) f fu (prodI f i) (nI i) = some (prodI f k) := by
  intro d
  induction d with
  | zero =>
    intro i fu hi hf
    obtain ⟨fu, rfl⟩ : ∃ z, fu = z + 1 := ⟨fu - 1, by omega⟩
    obtain rfl : i = k := by omega
    rw [kX0_product_4, if_pos (nI_le (Nat.le_refl _) (by omega))]
  | succ d ih =>
    intro i fu hi hf
    obtain ⟨fu, rfl⟩ : ∃ z, fu = z + 1 := ⟨fu - 1, by omega⟩
    rw [kX0_product_4, if_neg (lt_nI (by omega) (by omega)), if_pos (g_ok (by omega) (by omega)), nI_cl (by omega), nI_1]
    exact ih (i + 1) fu (by omega) (by omega)
theorem prod_r {f rw : Nat → Int32} {j k : Nat} (h : Row f rw j k) : ∀ (d i fu : Nat), i + d = k → d < fu → kX5_productOf_5 rw (nI j) (nI k) fu (prodI f i) (nI i) = some (prodI f k) := by
  have hk := h.2.1
  intro d
  induction d with
  | zero =>
    intro i fu hi hf
    obtain ⟨fu, rfl⟩ : ∃ z, fu = z + 1 := ⟨fu - 1, by omega⟩
    obtain rfl : i = k := by omega
    rw [kX5_productOf_5, if_pos (nI_le (Nat.le_refl _) (by omega))]
  | succ d ih =>
    intro i fu hi hf
    obtain ⟨fu, rfl⟩ : ∃ z, fu = z + 1 := ⟨fu - 1, by omega⟩
    rw [kX5_productOf_5, if_neg (lt_nI (by omega) (by omega)), if_pos (row_ok h (by omega)), row_at h (by omega), nI_1]
    exact ih (i + 1) fu (by omega) (by omega)
theorem product_c {f : Nat → Int32} {k : Nat} (hk : k ≤ 6) : fX0_product (nI k) f = some (prodI f k) := prod_c hk k 0 1100 (by omega) (by omega)
theorem product_r {f rw sz : Nat → Int32} {j k : Nat} (h : Row f rw j k) : fX5_productOf sz rw (nI j) (nI k) = some (prodI f k) := by
  have hk := h.2.1
  exact prod_r h k 0 1100 (by omega) (by omega)
theorem prod_ok {f rw : Nat → Int32} {j k : Nat} (h : Row f rw j k) : ∀ i, i ≤ k → (prodI f i).toInt ≠ 0 ∧ (prodI f i).toInt.natAbs ≤ 400 ^ i := by
  intro i
  induction i with
  | zero => intro _; exact ⟨(by show (1 : Int64).toInt ≠ 0; decide), (by show (1 : Int64).toInt.natAbs ≤ 1; decide)⟩
  | succ i ih =>
    intro hi
    obtain ⟨h1, h2⟩ := ih (by omega)
    obtain ⟨-, c1, c2, c3⟩ := h.2.2 i (by omega)
    have hb : 400 ^ (i + 1) ≤ 400 ^ 6 := Nat.pow_le_pow_right (by decide) (by have := h.2.1; omega)
    have hc : (f i).toInt.natAbs ≤ 400 := by omega
    have hm : ((prodI f i).toInt * (f i).toInt).natAbs ≤ 400 ^ (i + 1) := by
      rw [Int.natAbs_mul, Nat.pow_succ]
      exact Nat.mul_le_mul h2 hc
    have e6 : (400 : Nat) ^ 6 = 4096000000000000 := by decide
    have e : (prodI f (i + 1)).toInt = (prodI f i).toInt * (f i).toInt := by
      show (prodI f i * (f i).toInt64).toInt = _
      rw [l_mul (by rw [i2l]; omega) (by rw [i2l]; omega), i2l]
    rw [e]
    refine ⟨Int.mul_ne_zero h1 (fun q => c1 ?_), hm⟩
    rw [i_eq]
    exact q
theorem prod_Ok {f rw : Nat → Int32} {j k : Nat} (h : Row f rw j k) : Ok (prodI f k) ∧ Ok (-prodI f k) ∧ (-prodI f k).toInt = -(prodI f k).toInt := by
  obtain ⟨h1, h2⟩ := prod_ok h k (Nat.le_refl k)
  have hb : 400 ^ k ≤ 400 ^ 6 := Nat.pow_le_pow_right (by decide) h.2.1
  have e6 : (400 : Nat) ^ 6 = 4096000000000000 := by decide
  have en : (-prodI f k).toInt = -(prodI f k).toInt := l_neg (by omega)
  refine ⟨⟨h1, by omega⟩, ⟨by rw [en]; omega, by rw [en]; omega⟩, en⟩
/-! how many are above 0 -/
def abv (f : Nat → Int32) : Nat → Nat
  | 0 => 0
  | k + 1 => abv f k + (if (f k) ≤ 0 then 0 else 1)
theorem abv_le (f : Nat → Int32) : ∀ k, abv f k ≤ k := by
  intro k
  induction k with
  | zero => exact Nat.le_refl 0
  | succ k ih => rw [abv]; split <;> omega
theorem abv_c {f : Nat → Int32} {k : Nat} (hk : k ≤ 6) : ∀ (d i fu : Nat), i + d = k → d < fu → kX0_countAbove_4 (nI k) f fu (nI (abv f i)) (nI i) = some (nI (abv f k)) := by
  intro d
  induction d with
  | zero =>
    intro i fu hi hf
    obtain ⟨fu, rfl⟩ : ∃ z, fu = z + 1 := ⟨fu - 1, by omega⟩
    obtain rfl : i = k := by omega
    rw [kX0_countAbove_4, if_pos (nI_le (Nat.le_refl _) (by omega))]
  | succ d ih =>
    intro i fu hi hf
    obtain ⟨fu, rfl⟩ : ∃ z, fu = z + 1 := ⟨fu - 1, by omega⟩
    have := ih (i + 1) fu (by omega) (by omega)
    rw [kX0_countAbove_4, if_neg (lt_nI (by omega) (by omega)), if_pos (g_ok (by omega) (by omega)), nI_cl (by omega), nI_1, nI_1]
    rw [abv] at this
    by_cases h : f i ≤ 0
    · rw [if_pos h] at this ⊢; exact this
    · rw [if_neg h] at this ⊢; exact this
theorem abv_r {f rw : Nat → Int32} {j k : Nat} (h : Row f rw j k) : ∀ (d i fu : Nat), i + d = k → d < fu → kX5_aboveOf_5 rw (nI j) (nI k) fu (nI (abv f i)) (nI i) = some (nI (abv f k)) := by
  have hk := h.2.1
  intro d
  induction d with
  | zero =>
    intro i fu hi hf
    obtain ⟨fu, rfl⟩ : ∃ z, fu = z + 1 := ⟨fu - 1, by omega⟩
    obtain rfl : i = k := by omega
    rw [kX5_aboveOf_5, if_pos (nI_le (Nat.le_refl _) (by omega))]
  | succ d ih =>
    intro i fu hi hf
    obtain ⟨fu, rfl⟩ : ∃ z, fu = z + 1 := ⟨fu - 1, by omega⟩
    have := ih (i + 1) fu (by omega) (by omega)
    rw [kX5_aboveOf_5, if_neg (lt_nI (by omega) (by omega)), if_pos (row_ok h (by omega)), row_at h (by omega)]
    unfold kX5_aboveOf_32
    rw [nI_1, nI_1, show nI (abv f i) + (0 : Int32) = nI (abv f i + 0) from nI_add _ 0]
    rw [abv] at this
    by_cases h2 : f i ≤ 0
    · rw [if_pos h2] at this ⊢; exact this
    · rw [if_neg h2] at this ⊢; exact this
theorem above_c {f : Nat → Int32} {k : Nat} (hk : k ≤ 6) : fX0_countAbove (nI k) f = some (nI (abv f k)) := abv_c hk k 0 1100 (by omega) (by omega)
theorem above_r {f rw sz : Nat → Int32} {j k : Nat} (h : Row f rw j k) : fX5_aboveOf sz rw (nI j) (nI k) = some (nI (abv f k)) := by
  have hk := h.2.1
  exact abv_r h k 0 1100 (by omega) (by omega)
/-! the product of the signs of all pairs -/
def xs2 (s : Nat → Bool) : Nat → Bool
  | 0 => false
  | n + 1 => xs2 s n ^^ s n
theorem xs2_0 (s : Nat → Bool) : xs2 s 0 = false := rfl
theorem xs2_congr {s t : Nat → Bool} : ∀ n, (∀ i, i < n → s i = t i) → xs2 s n = xs2 t n := by
  intro n
  induction n with
  | zero => intro _; rfl
  | succ n ih => intro h; rw [xs2, xs2, ih (fun i hi => h i (by omega)), h n (by omega)]
theorem xs2_xor (s t : Nat → Bool) : ∀ n, xs2 (fun i => s i ^^ t i) n = (xs2 s n ^^ xs2 t n) := by
  intro n
  induction n with
  | zero => rfl
  | succ n ih =>
    rw [xs2, xs2, xs2, ih]
    cases xs2 s n <;> cases xs2 t n <;> cases s n <;> cases t n <;> rfl
def mns (f : Nat → Int32) (p i k : Nat) : Bool := decide (sg (f i).toInt (f k).toInt p = -1)
theorem mns_pm (f : Nat → Int32) (p i k : Nat) : sg (f i).toInt (f k).toInt p = pm (mns f p i k) := by
  unfold mns
  rcases sg_pm (f i).toInt (f k).toInt p with h | h <;> rw [h] <;> rfl
theorem mns_symm (f : Nat → Int32) (p i k : Nat) : mns f p i k = mns f p k i := by unfold mns; rw [sg_symm]
/-- the reference's order of the pairs -/
def hldB (f : Nat → Int32) (p k : Nat) : Bool := xs2 (fun i => xs2 (fun d => mns f p i d) i) k
def hldC (f : Nat → Int32) (p k : Nat) : Bool := xs2 (fun i => xs2 (fun d => mns f p i (i + 1 + d)) (k - (i + 1))) k
theorem xs_tri (t : Nat → Nat → Bool) (ht : ∀ i k, t i k = t k i) : ∀ k, xs2 (fun i => xs2 (fun d => t i (i + 1 + d)) (k - (i + 1))) k = xs2 (fun i => xs2 (fun d => t i d) i) k := by
  intro k
  induction k with
  | zero => rfl
  | succ k ih =>
    have e : xs2 (fun i => xs2 (fun d => t i (i + 1 + d)) (k + 1 - (i + 1))) k = xs2 (fun i => xs2 (fun d => t i (i + 1 + d)) (k - (i + 1)) ^^ t i k) k := by
      apply xs2_congr
      intro i hi
      show xs2 (fun d => t i (i + 1 + d)) (k + 1 - (i + 1)) = _
      rw [show k + 1 - (i + 1) = (k - (i + 1)) + 1 by omega, xs2, show i + 1 + (k - (i + 1)) = k by omega]
    have e2 : xs2 (fun i => t i k) k = xs2 (fun d => t k d) k := xs2_congr k (fun i _ => ht i k)
    rw [xs2, xs2, ← ih, e, xs2_xor, e2, show k + 1 - (k + 1) = 0 by omega, xs2_0, Bool.xor_false]
theorem hld_same (f : Nat → Int32) (p k : Nat) : hldC f p k = hldB f p k := xs_tri (fun i k => mns f p i k) (fun i k => mns_symm f p i k) k
theorem coef_Ok {f rw : Nat → Int32} {j k i : Nat} (h : Row f rw j k) (hi : i < k) : Ok (f i).toInt64 := by
  obtain ⟨-, c1, c2, c3⟩ := h.2.2 i hi
  refine ⟨?_, ?_⟩
  · rw [i2l]
    intro q
    exact c1 (by rw [i_eq]; exact q)
  · rw [i2l]; omega
theorem xs2_cons (s : Nat → Bool) : ∀ n, xs2 s (n + 1) = (s 0 ^^ xs2 (fun i => s (i + 1)) n) := by
  intro n
  induction n with
  | zero => show (false ^^ s 0) = (s 0 ^^ false); cases s 0 <;> rfl
  | succ n ih =>
    rw [xs2, ih, xs2]
    cases s 0 <;> cases xs2 (fun i => s (i + 1)) n <;> cases s (n + 1) <;> rfl
theorem hin_c {f rw : Nat → Int32} {j k p : Nat} (h : Row f rw j k) (hP : isP p = true) {i : Nat} (hi : i < k) (K : Int32 → Int32 → Option Int32) : ∀ (d m fu : Nat) (x : Bool), m + d = k → d < fu → i < m → kX0_signsAt_17 (nI k) f (nI p) (nI i) K fu (pm x) (nI m) = K (pm (x ^^ xs2 (fun e => mns f p i (m + e)) d)) (nI i + 1) := by
  have hk := h.2.1
  intro d
  induction d with
  | zero =>
    intro m fu x hm hf _
    obtain ⟨fu, rfl⟩ : ∃ z, fu = z + 1 := ⟨fu - 1, by omega⟩
    obtain rfl : m = k := by omega
    rw [kX0_signsAt_17, if_pos (nI_le (Nat.le_refl _) (by omega))]
    show _ = K (pm (x ^^ false)) _
    rw [Bool.xor_false]
  | succ d ih =>
    intro m fu x hm hf him
    obtain ⟨fu, rfl⟩ : ∃ z, fu = z + 1 := ⟨fu - 1, by omega⟩
    rw [kX0_signsAt_17, if_neg (lt_nI (by omega) (by omega)), if_pos (g_ok (by omega) (by omega)), if_pos (g_ok (by omega) (by omega)), nI_cl (by omega), nI_cl (by omega), signAt_v hP (coef_Ok h (by omega)) (coef_Ok h (by omega)), Option.bind_some, i2l, i2l, mns_pm, pm_mul, nI_1, ih (m + 1) fu _ (by omega) (by omega) (by omega), xs2_cons]
    congr 2
    have e : xs2 (fun e => mns f p i (m + 1 + e)) d = xs2 (fun i_1 => mns f p i (m + (i_1 + 1))) d := xs2_congr d (fun q _ => by rw [show m + 1 + q = m + (q + 1) by omega])
    rw [e, Nat.add_zero]
    cases x <;> cases mns f p i m <;> cases xs2 (fun i_1 => mns f p i (m + (i_1 + 1))) d <;> rfl
theorem hout_c {f rw : Nat → Int32} {j k p : Nat} (h : Row f rw j k) (hP : isP p = true) : ∀ (d i fu : Nat), i + d = k → d < fu → kX0_signsAt_4 (nI k) f (nI p) fu (pm (xs2 (fun i => xs2 (fun d => mns f p i (i + 1 + d)) (k - (i + 1))) i)) (nI i) = some (pm (hldC f p k)) := by
  have hk := h.2.1
  intro d
  induction d with
  | zero =>
    intro i fu hi hf
    obtain ⟨fu, rfl⟩ : ∃ z, fu = z + 1 := ⟨fu - 1, by omega⟩
    obtain rfl : i = k := by omega
    rw [kX0_signsAt_4, if_pos (nI_le (Nat.le_refl _) (by omega))]
    rfl
  | succ d ih =>
    intro i fu hi hf
    obtain ⟨fu, rfl⟩ : ∃ z, fu = z + 1 := ⟨fu - 1, by omega⟩
    rw [kX0_signsAt_4, if_neg (lt_nI (by omega) (by omega)), nI_1, hin_c h hP (by omega) _ (k - (i + 1)) (i + 1) 1100 _ (by omega) (by omega) (by omega), nI_1]
    exact ih (i + 1) fu (by omega) (by omega)
theorem signs_c {f rw : Nat → Int32} {j k p : Nat} (h : Row f rw j k) (hP : isP p = true) : fX0_signsAt (nI k) f (nI p) = some (pm (hldB f p k)) := by
  have hk := h.2.1
  rw [← hld_same]
  exact hout_c h hP k 0 1100 (by omega) (by omega)
theorem hin_r {f rw sz : Nat → Int32} {j k p : Nat} (h : Row f rw j k) (hP : isP p = true) {i : Nat} (hi : i < k) (K : Int32 → Int32 → Option Int32) : ∀ (d m fu : Nat) (x : Bool), m + d = i → d < fu → kX5_holdOf_15 sz rw (nI j) (nI p) (nI i) K fu (pm (x ^^ xs2 (fun e => mns f p i e) m)) (nI m) = K (pm (x ^^ xs2 (fun e => mns f p i e) i)) (nI i + 1) := by
  have hk := h.2.1
  intro d
  induction d with
  | zero =>
    intro m fu x hm hf
    obtain ⟨fu, rfl⟩ : ∃ z, fu = z + 1 := ⟨fu - 1, by omega⟩
    obtain rfl : m = i := by omega
    rw [kX5_holdOf_15, if_pos (nI_le (Nat.le_refl _) (by omega))]
  | succ d ih =>
    intro m fu x hm hf
    obtain ⟨fu, rfl⟩ : ∃ z, fu = z + 1 := ⟨fu - 1, by omega⟩
    have := ih (m + 1) fu x (by omega) (by omega)
    rw [kX5_holdOf_15, if_neg (lt_nI (by omega) (by omega)), if_pos (row_ok h (by omega)), if_pos (row_ok h (by omega)), row_at h (by omega), row_at h (by omega), signOf_v hP (coef_Ok h (by omega)) (coef_Ok h (by omega)), Option.bind_some, i2l, i2l, mns_pm, pm_mul, nI_1, Bool.xor_assoc]
    rw [xs2] at this
    exact this
theorem hout_r {f rw sz : Nat → Int32} {j k p : Nat} (h : Row f rw j k) (hP : isP p = true) : ∀ (d i fu : Nat), i + d = k → d < fu → kX5_holdOf_6 sz rw (nI j) (nI k) (nI p) fu (pm (hldB f p i)) (nI i) = some (pm (hldB f p k)) := by
  have hk := h.2.1
  intro d
  induction d with
  | zero =>
    intro i fu hi hf
    obtain ⟨fu, rfl⟩ : ∃ z, fu = z + 1 := ⟨fu - 1, by omega⟩
    obtain rfl : i = k := by omega
    rw [kX5_holdOf_6, if_pos (nI_le (Nat.le_refl _) (by omega))]
  | succ d ih =>
    intro i fu hi hf
    obtain ⟨fu, rfl⟩ : ∃ z, fu = z + 1 := ⟨fu - 1, by omega⟩
    have h1 := hin_r h hP (show i < k by omega) (kX5_holdOf_6 sz rw (nI j) (nI k) (nI p) fu) (sz := sz) i 0 1100 (hldB f p i) (by omega) (by omega)
    rw [show (hldB f p i ^^ xs2 (fun e => mns f p i e) 0) = hldB f p i from Bool.xor_false _] at h1
    rw [kX5_holdOf_6, if_neg (lt_nI (by omega) (by omega))]
    refine Eq.trans h1 ?_
    rw [nI_1]
    exact ih (i + 1) fu (by omega) (by omega)
theorem hold_r {f rw sz : Nat → Int32} {j k p : Nat} (h : Row f rw j k) (hP : isP p = true) : fX5_holdOf sz rw (nI j) (nI k) (nI p) = some (pm (hldB f p k)) := by
  have hk := h.2.1
  exact hout_r h hP k 0 1100 (by omega) (by omega)
