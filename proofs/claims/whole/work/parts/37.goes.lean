/-! which primes divide a coefficient; whether a form goes at a place -/
def ofB (f : Nat → Int32) (p : Nat) : Nat → Bool
  | 0 => false
  | k + 1 => ofB f p k || decide ((f k).toInt.tmod p = 0)
theorem irm0 {c : Int32} {p : Nat} (hp : p < 398) (hc : -400 ≤ c.toInt) : irm c (nI p) = 0 ↔ c.toInt.tmod p = 0 := by
  rw [i_eq, irm_i (by omega), c32 p (by omega)]
  exact Iff.rfl
theorem of_r {f rw : Nat → Int32} {j k p : Nat} (h : Row f rw j k) (hp : p < 398) (h0 : 0 < p) : ∀ (d i fu : Nat), i + d = k → d < fu → kX5_isOf_6 rw (nI j) (nI k) (nI p) fu (b2i (ofB f p i)) (nI i) = some (b2i (ofB f p k)) := by
  have hk := h.2.1
  intro d
  induction d with
  | zero =>
    intro i fu hi hf
    obtain ⟨fu, rfl⟩ : ∃ z, fu = z + 1 := ⟨fu - 1, by omega⟩
    obtain rfl : i = k := by omega
    rw [kX5_isOf_6, if_pos (nI_le (Nat.le_refl _) (by omega)), if_pos (b2i_b _)]
  | succ d ih =>
    intro i fu hi hf
    obtain ⟨fu, rfl⟩ : ∃ z, fu = z + 1 := ⟨fu - 1, by omega⟩
    have := ih (i + 1) fu (by omega) (by omega)
    obtain ⟨-, c1, c2, c3⟩ := h.2.2 i (by omega)
    rw [kX5_isOf_6, if_neg (lt_nI (by omega) (by omega)), if_neg (by rw [i_le, c32 p (by omega)]; show ¬ (p : Int) ≤ 0; omega), if_pos (row_ok h (by omega)), if_pos (nI_ne0 h0 (by omega)), row_at h (by omega)]
    unfold kX5_isOf_40
    rw [nI_1]
    rw [ofB] at this
    by_cases hc : (f i).toInt.tmod p = 0
    · rw [if_pos ((irm0 hp c2).mpr hc)]
      rw [decide_eq_true hc] at this
      refine Eq.trans ?_ this
      cases ofB f p i <;> rfl
    · rw [if_neg (fun q => hc ((irm0 hp c2).mp q))]
      rw [decide_eq_false hc] at this
      refine Eq.trans ?_ this
      cases ofB f p i <;> rfl
theorem isOf_r {f rw sz : Nat → Int32} {j k p : Nat} (h : Row f rw j k) (hp : p < 398) (h0 : 0 < p) : fX5_isOf sz rw (nI j) (nI k) (nI p) = some (b2i (ofB f p k)) := by
  have hk := h.2.1
  exact of_r h hp h0 k 0 1100 (by omega) (by omega)
theorem ofB_mono {f : Nat → Int32} {p : Nat} : ∀ k i, i < k → (f i).toInt.tmod p = 0 → ofB f p k = true := by
  intro k
  induction k with
  | zero => intro i hi; omega
  | succ k ih =>
    intro i hi h
    rw [ofB]
    rcases Nat.lt_or_ge i k with q | q
    · rw [ih i q h]; rfl
    · obtain rfl : i = k := by omega
      rw [decide_eq_true h, Bool.or_true]
theorem ofB_ex {f : Nat → Int32} {p : Nat} : ∀ k, ofB f p k = true → ∃ i, i < k ∧ (f i).toInt.tmod p = 0 := by
  intro k
  induction k with
  | zero => intro h; cases h
  | succ k ih =>
    intro h
    rw [ofB, Bool.or_eq_true] at h
    rcases h with h | h
    · obtain ⟨i, h1, h2⟩ := ih h
      exact ⟨i, by omega, h2⟩
    · exact ⟨k, by omega, of_decide_eq_true h⟩
theorem may_loop {f rw : Nat → Int32} {j k p : Nat} (h : Row f rw j k) (hp : p < 398) (h0 : 0 < p) : ∀ (d i fu : Nat), i + d = k → d < fu → (∀ m, m < i → (f m).toInt.tmod p ≠ 0) → kX0_mayBar_13 (nI k) f (nI p) fu (nI i) = some (b2i (ofB f p k)) := by
  have hk := h.2.1
  intro d
  induction d with
  | zero =>
    intro i fu hi hf hm
    obtain ⟨fu, rfl⟩ : ∃ z, fu = z + 1 := ⟨fu - 1, by omega⟩
    obtain rfl : i = k := by omega
    rw [kX0_mayBar_13, if_pos (nI_le (Nat.le_refl _) (by omega))]
    cases hq : ofB f p i with
    | false => rfl
    | true =>
      obtain ⟨m, h1, h2⟩ := ofB_ex i hq
      exact absurd h2 (hm m h1)
  | succ d ih =>
    intro i fu hi hf hm
    obtain ⟨fu, rfl⟩ : ∃ z, fu = z + 1 := ⟨fu - 1, by omega⟩
    obtain ⟨-, c1, c2, c3⟩ := h.2.2 i (by omega)
    rw [kX0_mayBar_13, if_neg (lt_nI (by omega) (by omega)), if_pos (g_ok (by omega) (by omega)), if_pos (nI_ne0 h0 (by omega)), nI_cl (by omega), nI_1]
    by_cases hc : (f i).toInt.tmod p = 0
    · rw [if_pos ((irm0 hp c2).mpr hc), ofB_mono k i (by omega) hc]
      rfl
    · rw [if_neg (fun q => hc ((irm0 hp c2).mp q))]
      refine ih (i + 1) fu (by omega) (by omega) (fun m hm2 => ?_)
      rcases Nat.lt_or_ge m i with q | q
      · exact hm m q
      · obtain rfl : m = i := by omega
        exact hc
/-- whether a place is looked at -/
def mayB (f : Nat → Int32) (p k : Nat) : Bool := decide (p = 0) || decide (p = 2) || ofB f p k
theorem may_c {f rw : Nat → Int32} {j k p : Nat} (h : Row f rw j k) (hp : p < 398) : fX0_mayBar (nI k) f (nI p) = some (b2i (mayB f p k)) := by
  have hk := h.2.1
  unfold fX0_mayBar mayB
  by_cases h0 : p = 0
  · subst h0
    rw [if_pos (show nI 0 = (0 : Int32) from rfl)]; rfl
  · rw [if_neg (nI_ne0 (by omega) (by omega)), decide_eq_false h0]
    by_cases h2 : p = 2
    · subst h2
      rw [if_pos (show nI 2 = (2 : Int32) from rfl)]; rfl
    · rw [if_neg (by rw [show (2 : Int32) = nI 2 from rfl, nI_eq (by omega) (by omega)]; exact h2), decide_eq_false h2]
      exact may_loop h hp (by omega) k 0 1100 (by omega) (by omega) (fun m hm => by omega)
def goB (f : Nat → Int32) (p k : Nat) : Bool :=
  if p = 0 then decide (0 < abv f k ∧ abv f k < k)
  else if k = 1 then false
  else if k = 2 then sqB (-(prodI f k).toInt) p
  else if k = 3 then decide (pm (hldB f p k) = sg (-1) (-(prodI f k).toInt) p)
  else if k = 4 then (!sqB (prodI f k).toInt p || decide (pm (hldB f p k) = sg (-1) (-1) p))
  else true
theorem ok_m1 : Ok (-1 : Int64) := ⟨by decide, by decide⟩
theorem m1_v : (-1 : Int64).toInt = -1 := rfl
theorem kne {a b : Nat} (ha : a < 1000) (hb : b < 1000) (h : a ≠ b) : ¬ nI a = nI b := by rw [nI_eq (by omega) (by omega)]; exact h
theorem some_if {c : Prop} [Decidable c] : (if c then some (1 : Int32) else some 0) = some (b2i (decide c)) := by
  by_cases h : c
  · rw [if_pos h, decide_eq_true h]; rfl
  · rw [if_neg h, decide_eq_false h]; rfl
theorem p_ge2 {p : Nat} (hP : isP p = true) (h0 : p ≠ 0) : 2 ≤ p := by
  rcases Nat.lt_or_ge p 2 with q | q
  · obtain rfl : p = 1 := by omega
    rw [isP_1] at hP; cases hP
  · exact q
theorem goes_c {f rw : Nat → Int32} {j k p : Nat} (h : Row f rw j k) (hk1 : 1 ≤ k) (hP : isP p = true) : fX0_goesAt (nI k) f (nI p) = some (b2i (goB f p k)) := by
  have hk := h.2.1
  have hp := isP_ge p hP
  obtain ⟨o1, o2, en⟩ := prod_Ok h
  unfold fX0_goesAt goB
  by_cases h0 : p = 0
  · subst h0
    rw [if_pos (show nI 0 = (0 : Int32) from rfl), if_pos rfl, above_c hk, Option.bind_some]
    have ha := abv_le f k
    by_cases g1 : abv f k = 0
    · rw [if_pos (by rw [g1]; decide), decide_eq_false (by omega)]; rfl
    · rw [if_neg (by rw [i_le, c32 _ (by omega)]; show ¬ (abv f k : Int) ≤ 0; omega)]
      by_cases g2 : k ≤ abv f k
      · rw [if_pos (nI_le g2 (by omega)), decide_eq_false (by omega)]; rfl
      · rw [if_neg (lt_nI (by omega) (by omega)), decide_eq_true (by omega)]; rfl
  · have h2 := p_ge2 hP h0
    rw [if_neg (nI_ne0 (by omega) (by omega)), if_neg h0]
    rw [show (1 : Int32) = nI 1 from rfl, show (2 : Int32) = nI 2 from rfl, show (3 : Int32) = nI 3 from rfl, show (4 : Int32) = nI 4 from rfl]
    by_cases k1 : k = 1
    · rw [if_pos (by rw [k1]), if_pos k1]; rfl
    · rw [if_neg (kne (by omega) (by decide) k1), if_neg k1]
      by_cases k2 : k = 2
      · rw [if_pos (by rw [k2]), if_pos k2, product_c hk, Option.bind_some, sqAt_v h2 hp o2, Option.bind_some, en]
        exact if_pos (b2i_b _)
      · rw [if_neg (kne (by omega) (by decide) k2), if_neg k2]
        by_cases k3 : k = 3
        · rw [if_pos (by rw [k3]), if_pos k3, signs_c h hP, Option.bind_some, product_c hk, Option.bind_some, signAt_v hP ok_m1 o2, Option.bind_some, m1_v, en]
          exact some_if
        · rw [if_neg (kne (by omega) (by decide) k3), if_neg k3]
          by_cases k4 : k = 4
          · rw [if_pos (by rw [k4]), if_pos k4, product_c hk, Option.bind_some, sqAt_v h2 hp o1, Option.bind_some, signs_c h hP, Option.bind_some, signAt_v hP ok_m1 ok_m1, Option.bind_some, m1_v]
            cases sqB (prodI f k).toInt p with
            | false => rw [if_pos (show b2i false = 0 from rfl)]; rfl
            | true => rw [if_neg (show ¬ b2i true = 0 by decide)]; exact some_if
          · rw [if_neg (kne (by omega) (by decide) k4), if_neg k4]; rfl
theorem going_r {f rw sz : Nat → Int32} {j k p : Nat} (h : Row f rw j k) (hk1 : 1 ≤ k) (hP : isP p = true) : fX5_isGoing sz rw (nI j) (nI k) (nI p) = some (b2i (goB f p k)) := by
  have hk := h.2.1
  have hp := isP_ge p hP
  obtain ⟨o1, o2, en⟩ := prod_Ok h
  have ha := abv_le f k
  unfold fX5_isGoing goB
  rw [show (1 : Int32) = nI 1 from rfl, show (2 : Int32) = nI 2 from rfl, show (3 : Int32) = nI 3 from rfl, show (4 : Int32) = nI 4 from rfl]
  by_cases k1 : k = 1
  · rw [if_pos (by rw [k1])]
    by_cases h0 : p = 0
    · rw [if_pos h0, decide_eq_false (by omega)]; rfl
    · rw [if_neg h0, if_pos k1]; rfl
  · rw [if_neg (kne (by omega) (by decide) k1)]
    by_cases h0 : p = 0
    · subst h0
      rw [if_pos (show nI 0 = (0 : Int32) from rfl), if_pos rfl, above_r h, Option.bind_some, if_pos (nI_ne0 (by omega) (by omega)), irm_n (by omega) (by omega) (by omega)]
      rcases Nat.lt_or_ge (abv f k) k with g | g
      · rw [Nat.mod_eq_of_lt g]
        by_cases g1 : abv f k = 0
        · rw [if_pos (by rw [g1]; rfl), decide_eq_false (by omega)]; rfl
        · rw [if_neg (nI_ne0 (by omega) (by omega)), decide_eq_true (by omega)]; rfl
      · rw [show abv f k = k by omega, Nat.mod_self, if_pos (show nI 0 = 0 from rfl), decide_eq_false (by omega)]; rfl
    · have h2 := p_ge2 hP h0
      rw [if_neg (nI_ne0 (by omega) (by omega)), if_neg h0, if_neg k1]
      by_cases k4' : k ≤ 4
      · rw [if_pos (nI_le k4' (by omega)), product_r h, Option.bind_some]
        by_cases k2 : k = 2
        · rw [if_pos (by rw [k2]), if_pos k2, isSq_v h2 hp o2, Option.bind_some, en]
          exact if_pos (b2i_b _)
        · rw [if_neg (kne (by omega) (by decide) k2), if_neg k2, hold_r h hP, Option.bind_some]
          by_cases k3 : k = 3
          · rw [if_pos (by rw [k3]), if_pos k3, signOf_v hP ok_m1 o2, Option.bind_some, m1_v, en]
            exact some_if
          · rw [if_neg (kne (by omega) (by decide) k3), if_neg k3, if_pos (show k = 4 by omega), isSq_v h2 hp o1, Option.bind_some, signOf_v hP ok_m1 ok_m1, Option.bind_some, m1_v]
            cases sqB (prodI f k).toInt p with
            | false => rw [if_pos (show b2i false = 0 from rfl)]; rfl
            | true => rw [if_neg (show ¬ b2i true = 0 by decide)]; exact some_if
      · rw [if_neg (lt_nI (by omega) (by omega)), if_neg (by omega), if_neg (by omega), if_neg (by omega)]; rfl
