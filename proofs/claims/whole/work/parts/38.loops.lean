/-! loops over the places: the class goes from place to place, the reference from number to number -/
def baB (f : Nat → Int32) (k p : Nat) : Bool := mayB f p k && !goB f p k
def cbn (f : Nat → Int32) (k : Nat) : Nat → Nat
  | 0 => 0
  | p + 1 => cbn f k p + (if (isP p && baB f k p) = true then 1 else 0)
theorem cbn_le (f : Nat → Int32) (k : Nat) : ∀ p, cbn f k p ≤ p := by
  intro p
  induction p with
  | zero => exact Nat.le_refl 0
  | succ p ih => rw [cbn]; split <;> omega
theorem cbn_mono (f : Nat → Int32) (k p : Nat) : ∀ d, cbn f k p ≤ cbn f k (p + d) := by
  intro d
  induction d with
  | zero => exact Nat.le_refl _
  | succ d ih => rw [← Nat.add_assoc, cbn]; omega
theorem rank_le (p : Nat) : rank p ≤ 79 := by
  unfold rank
  exact Nat.le_trans (List.length_filter_le _ _) (by decide)
theorem i79 {p : Nat} (h : rank p < 79) : ¬ (79 : Int32) ≤ nI (rank p) := by
  rw [i_le, c32 _ (by omega)]
  show ¬ (79 : Int) ≤ (rank p : Int)
  omega
theorem i398 {p : Nat} (h : p < 398) : ¬ (398 : Int32) ≤ nI p := by
  rw [i_le, c32 _ (by omega)]
  show ¬ (398 : Int) ≤ (p : Int)
  omega
theorem bars_c {f rw : Nat → Int32} {j k : Nat} (h : Row f rw j k) (hk1 : 1 ≤ k) : ∀ (d p fu : Nat), p + d = 398 → 79 - rank p < fu → kX0_countBars_12 (nI k) f fu (nI (cbn f k p)) (nI (rank p)) = some (nI (cbn f k 398)) := by
  intro d
  induction d with
  | zero =>
    intro p fu hp hf
    obtain ⟨fu, rfl⟩ : ∃ z, fu = z + 1 := ⟨fu - 1, by omega⟩
    obtain rfl : p = 398 := by omega
    rw [kX0_countBars_12, rank_end, if_pos (by decide)]
  | succ d ih =>
    intro p fu hp hf
    cases hP : isP p with
    | false =>
      have := ih (p + 1) fu (by omega) (by rw [rank_f p (by omega) hP]; exact hf)
      rw [rank_f p (by omega) hP, cbn, hP] at this
      exact this
    | true =>
      obtain ⟨r1, r2, r3⟩ := rank_t p (by omega) hP
      obtain ⟨fu, rfl⟩ : ∃ z, fu = z + 1 := ⟨fu - 1, by omega⟩
      have := ih (p + 1) fu (by omega) (by omega)
      rw [r2, cbn, hP, Bool.true_and] at this
      rw [kX0_countBars_12, if_neg (i79 r3), if_pos (g_ok (by omega) (by omega)), nI_cl (by omega), r1, may_c h (by omega), Option.bind_some, goes_c h hk1 hP, Option.bind_some, nI_1, nI_1]
      unfold baB at this
      cases hm : mayB f p k with
      | false =>
        rw [hm] at this
        rw [if_pos (show b2i false = 0 from rfl)]
        exact this
      | true =>
        rw [hm] at this
        rw [if_neg (show ¬ b2i true = 0 by decide)]
        cases hg : goB f p k with
        | false => rw [hg] at this; rw [if_pos (show b2i false = 0 from rfl)]; exact this
        | true => rw [hg] at this; rw [if_neg (show ¬ b2i true = 0 by decide)]; exact this
theorem countBars_v {f rw : Nat → Int32} {j k : Nat} (h : Row f rw j k) (hk1 : 1 ≤ k) : fX0_countBars (nI k) f = some (nI (cbn f k 398)) := by
  have := bars_c h hk1 398 0 1100 (by omega) (by rw [rank_0]; decide)
  rw [rank_0] at this
  exact this
/-- the place of a bar by its number, among the last d numbers -/
def fbr (f : Nat → Int32) (k : Nat) (w : Int32) : Nat → Option Nat
  | 0 => none
  | d + 1 => if (isP (397 - d) && baB f k (397 - d)) = true ∧ nI (cbn f k (397 - d)) = w then some (397 - d) else fbr f k w d
def oI (x : Option Nat) (e : Int32) : Int32 := match x with
  | some q => nI q
  | none => e
theorem find_c {f rw : Nat → Int32} {j k : Nat} (h : Row f rw j k) (hk1 : 1 ≤ k) (w : Int32) : ∀ (d p fu : Nat), p + d = 398 → 79 - rank p < fu → kX0_findBar_13 (nI k) f w fu (nI (cbn f k p)) (nI (rank p)) = some (oI (fbr f k w d) (-1)) := by
  intro d
  induction d with
  | zero =>
    intro p fu hp hf
    obtain ⟨fu, rfl⟩ : ∃ z, fu = z + 1 := ⟨fu - 1, by omega⟩
    obtain rfl : p = 398 := by omega
    rw [kX0_findBar_13, rank_end, if_pos (by decide)]
    rfl
  | succ d ih =>
    intro p fu hp hf
    have ep : 397 - d = p := by omega
    rw [fbr, ep]
    cases hP : isP p with
    | false =>
      have := ih (p + 1) fu (by omega) (by rw [rank_f p (by omega) hP]; exact hf)
      rw [rank_f p (by omega) hP, cbn, hP] at this
      rw [if_neg (by intro q; cases q.1)]
      exact this
    | true =>
      obtain ⟨r1, r2, r3⟩ := rank_t p (by omega) hP
      obtain ⟨fu, rfl⟩ : ∃ z, fu = z + 1 := ⟨fu - 1, by omega⟩
      have := ih (p + 1) fu (by omega) (by omega)
      rw [r2, cbn, hP, Bool.true_and] at this
      rw [kX0_findBar_13, if_neg (i79 r3), if_pos (g_ok (by omega) (by omega)), nI_cl (by omega), r1, may_c h (by omega), Option.bind_some, goes_c h hk1 hP, Option.bind_some, nI_1, nI_1, Bool.true_and]
      unfold baB at this ⊢
      cases hm : mayB f p k with
      | false =>
        rw [hm] at this
        rw [if_pos (show b2i false = 0 from rfl), if_neg (by intro q; cases q.1)]
        exact this
      | true =>
        rw [hm] at this
        rw [if_neg (show ¬ b2i true = 0 by decide)]
        cases hg : goB f p k with
        | false =>
          rw [hg] at this
          rw [if_pos (show b2i false = 0 from rfl)]
          by_cases hw : nI (cbn f k p) = w
          · rw [if_pos hw, if_pos ⟨rfl, hw⟩]; rfl
          · rw [if_neg hw, if_neg (fun q => hw q.2)]; exact this
        | true =>
          rw [hg] at this
          rw [if_neg (show ¬ b2i true = 0 by decide), if_neg (by intro q; cases q.1)]
          exact this
theorem findBar_v {f rw : Nat → Int32} {j k : Nat} (h : Row f rw j k) (hk1 : 1 ≤ k) (w : Int32) : fX0_findBar (nI k) f w = some (oI (fbr f k w 398) (-1)) := by
  have := find_c h hk1 w 398 0 1100 (by omega) (by rw [rank_0]; decide)
  rw [rank_0] at this
  exact this
theorem prime_v {p : Nat} (hp : p < 398) (h0 : p ≠ 0) : fX5_isPrime (nI p) = some (b2i (isP p)) := by
  by_cases h1 : p = 1
  · subst h1; rw [pr5_1, isP_1]; rfl
  · rw [pr5 p hp (by omega)]; rfl
theorem isP_0 : isP 0 = true := by decide +kernel
theorem isP_2 : isP 2 = true := by decide +kernel
theorem mayB_0 (f : Nat → Int32) (k : Nat) : mayB f 0 k = true := rfl
theorem mayB_2 (f : Nat → Int32) (k : Nat) : mayB f 2 k = true := rfl
theorem mayB_n {f : Nat → Int32} {k p : Nat} (h0 : p ≠ 0) (h2 : p ≠ 2) : mayB f p k = ofB f p k := by
  unfold mayB
  rw [decide_eq_false h0, decide_eq_false h2]
  rfl
theorem bar_r {f rw sz : Nat → Int32} {j k : Nat} (h : Row f rw j k) (hk1 : 1 ≤ k) (hz : sz j = nI k) (w : Int32) : ∀ (d p fu : Nat), p + d = 398 → d < fu → kX5_barOf_5 sz rw (nI j) w fu (nI (cbn f k p)) (nI p) = some (oI (fbr f k w d) ((-10 : Int32) - nI (cbn f k 398))) := by
  have hj := h.1
  intro d
  induction d with
  | zero =>
    intro p fu hp hf
    obtain ⟨fu, rfl⟩ : ∃ z, fu = z + 1 := ⟨fu - 1, by omega⟩
    obtain rfl : p = 398 := by omega
    rw [kX5_barOf_5, if_pos (by decide)]
    rfl
  | succ d ih =>
    intro p fu hp hf
    have ep : 397 - d = p := by omega
    obtain ⟨fu, rfl⟩ : ∃ z, fu = z + 1 := ⟨fu - 1, by omega⟩
    have := ih (p + 1) fu (by omega) (by omega)
    have step : isP p = true → mayB f p k = true → kX5_barOf_48 sz rw (nI j) w (nI (cbn f k p)) (nI p) (kX5_barOf_5 sz rw (nI j) w fu) = some (oI (fbr f k w (d + 1)) ((-10 : Int32) - nI (cbn f k 398))) := by
      intro hP hm
      unfold kX5_barOf_48
      rw [fbr, ep]
      rw [cbn, hP, Bool.true_and] at this
      rw [if_pos (g_ok (by omega) (by omega)), nI_cl (by omega), hz, going_r h hk1 hP, Option.bind_some, nI_1, nI_1, hP, Bool.true_and]
      unfold baB at this ⊢
      rw [hm] at this ⊢
      cases hg : goB f p k with
      | false =>
        rw [hg] at this
        rw [if_pos (show b2i false = 0 from rfl)]
        by_cases hw : nI (cbn f k p) = w
        · rw [if_pos hw, if_pos ⟨rfl, hw⟩]; rfl
        · rw [if_neg hw, if_neg (fun q => hw q.2)]; exact this
      | true =>
        rw [hg] at this
        rw [if_neg (show ¬ b2i true = 0 by decide), if_neg (by intro q; cases q.1)]
        exact this
    have skip : (isP p && mayB f p k) = false → kX5_barOf_5 sz rw (nI j) w fu (nI (cbn f k p)) (nI p + 1) = some (oI (fbr f k w (d + 1)) ((-10 : Int32) - nI (cbn f k 398))) := by
      intro hs
      have e : (isP p && baB f k p) = false := by
        unfold baB
        cases h1 : isP p <;> cases h3 : mayB f p k <;> rw [h1, h3] at hs <;> first | rfl | cases hs
      rw [cbn, e] at this
      rw [fbr, ep, if_neg (by rw [e]; intro q; cases q.1), nI_1]
      exact this
    rw [kX5_barOf_5, if_neg (i398 (by omega))]
    by_cases h0 : p = 0
    · subst h0
      rw [if_pos (show nI 0 = (0 : Int32) from rfl)]
      exact step isP_0 (mayB_0 f k)
    · rw [if_neg (nI_ne0 (by omega) (by omega))]
      by_cases h2 : p = 2
      · subst h2
        rw [if_pos (show nI 2 = (2 : Int32) from rfl)]
        exact step isP_2 (mayB_2 f k)
      · rw [if_neg (by rw [show (2 : Int32) = nI 2 from rfl, nI_eq (by omega) (by omega)]; exact h2), if_pos (g_ok (by omega) (by omega)), nI_cl (by omega), hz, isOf_r h (by omega) (by omega), Option.bind_some, prime_v (by omega) h0, Option.bind_some, ← mayB_n h0 h2]
        cases hm : mayB f p k with
        | false => rw [if_pos (show b2i false = 0 from rfl)]; exact skip (by rw [hm, Bool.and_false])
        | true =>
          rw [if_neg (show ¬ b2i true = 0 by decide)]
          cases hP : isP p with
          | false => rw [if_pos (show b2i false = 0 from rfl)]; exact skip (by rw [hP]; rfl)
          | true => rw [if_neg (show ¬ b2i true = 0 by decide)]; exact step hP hm
theorem barOf_v {f rw sz : Nat → Int32} {j k : Nat} (h : Row f rw j k) (hk1 : 1 ≤ k) (hz : sz j = nI k) (w : Int32) : fX5_barOf sz rw (nI j) w = some (oI (fbr f k w 398) ((-10 : Int32) - nI (cbn f k 398))) := bar_r h hk1 hz w 398 0 1100 (by omega) (by omega)
theorem fbr_m1 (f : Nat → Int32) (k : Nat) : ∀ d, d ≤ 398 → fbr f k (-1) d = none := by
  intro d
  induction d with
  | zero => intro _; rfl
  | succ d ih =>
    intro hd
    have hc := cbn_le f k (397 - d)
    rw [fbr, if_neg ?_]
    · exact ih (by omega)
    · intro q
      have := q.2
      rw [i_eq, c32 _ (by omega)] at this
      have e : (-1 : Int32).toInt = -1 := rfl
      omega
theorem fbr_lt (f : Nat → Int32) (k : Nat) (w : Int32) : ∀ d q, fbr f k w d = some q → q < 398 := by
  intro d
  induction d with
  | zero => intro q h; cases h
  | succ d ih =>
    intro q h
    rw [fbr] at h
    split at h
    · cases h; omega
    · exact ih q h
/-! nought, but of two coefficients -/
theorem nought_r {f rw sz : Nat → Int32} {j k : Nat} (h : Row f rw j k) (hk1 : 1 ≤ k) : ∀ (d p fu : Nat), p + d = 398 → d + 1 < fu → cbn f k p = 0 → kX5_isNought_21 sz rw (nI j) (nI k) fu 1 (nI p) = some (b2i (decide (cbn f k 398 = 0))) := by
  have hj := h.1
  intro d
  induction d with
  | zero =>
    intro p fu hp hf hc
    obtain ⟨fu, rfl⟩ : ∃ z, fu = z + 1 := ⟨fu - 1, by omega⟩
    obtain rfl : p = 398 := by omega
    rw [kX5_isNought_21, if_pos (by decide), if_pos (by decide), decide_eq_true hc]
    rfl
  | succ d ih =>
    intro p fu hp hf hc
    obtain ⟨fu, rfl⟩ : ∃ z, fu = z + 1 := ⟨fu - 1, by omega⟩
    have := ih (p + 1) fu (by omega) (by omega)
    have step : isP p = true → mayB f p k = true → kX5_isNought_63 sz rw (nI j) (nI k) (nI p) (kX5_isNought_21 sz rw (nI j) (nI k) fu) = some (b2i (decide (cbn f k 398 = 0))) := by
      intro hP hm
      unfold kX5_isNought_63
      rw [going_r h hk1 hP, Option.bind_some, nI_1]
      cases hg : goB f p k with
      | true =>
        refine this ?_
        rw [cbn, hc]
        unfold baB
        rw [hm, hg, hP]
        rfl
      | false =>
        have h1 : cbn f k (p + 1) = 1 := by
          rw [cbn, hc]
          unfold baB
          rw [hm, hg, hP]
          rfl
        have h3 := cbn_mono f k (p + 1) d
        rw [show p + 1 + d = 398 by omega] at h3
        obtain ⟨fu, rfl⟩ : ∃ z, fu = z + 1 := ⟨fu - 1, by omega⟩
        rw [kX5_isNought_21, decide_eq_false (by omega)]
        split
        · rfl
        · rfl
    have skip : (isP p && mayB f p k) = false → kX5_isNought_21 sz rw (nI j) (nI k) fu 1 (nI p + 1) = some (b2i (decide (cbn f k 398 = 0))) := by
      intro hs
      have e : (isP p && baB f k p) = false := by
        unfold baB
        cases h1 : isP p <;> cases h3 : mayB f p k <;> rw [h1, h3] at hs <;> first | rfl | cases hs
      rw [nI_1]
      refine this ?_
      rw [cbn, hc, e]
      rfl
    rw [kX5_isNought_21, if_neg (i398 (by omega)), if_neg (by decide)]
    by_cases h0 : p = 0
    · subst h0
      rw [if_pos (show nI 0 = (0 : Int32) from rfl)]
      exact step isP_0 (mayB_0 f k)
    · rw [if_neg (nI_ne0 (by omega) (by omega))]
      by_cases h2 : p = 2
      · subst h2
        rw [if_pos (show nI 2 = (2 : Int32) from rfl)]
        exact step isP_2 (mayB_2 f k)
      · rw [if_neg (by rw [show (2 : Int32) = nI 2 from rfl, nI_eq (by omega) (by omega)]; exact h2), isOf_r h (by omega) (by omega), Option.bind_some, prime_v (by omega) h0, Option.bind_some, ← mayB_n h0 h2]
        cases hm : mayB f p k with
        | false => rw [if_pos (show b2i false = 0 from rfl)]; exact skip (by rw [hm, Bool.and_false])
        | true =>
          rw [if_neg (show ¬ b2i true = 0 by decide)]
          cases hP : isP p with
          | false => rw [if_pos (show b2i false = 0 from rfl)]; exact skip (by rw [hP]; rfl)
          | true => rw [if_neg (show ¬ b2i true = 0 by decide)]; exact step hP hm
/-! odds -/
def odn (a b : Int) : Nat → Nat
  | 0 => 0
  | p + 1 => odn a b p + (if isP p = true ∧ sg a b p = -1 then 1 else 0)
theorem sg_neg (a b : Int) (p : Nat) : (0 : Int32) ≤ sg a b p ↔ ¬ sg a b p = -1 := by
  rcases sg_pm a b p with h | h <;> rw [h] <;> decide
theorem odds_c {a b : Int32} (ha : Ok a.toInt64) (hb : Ok b.toInt64) : ∀ (d p fu : Nat), p + d = 398 → 79 - rank p < fu → kX4_odds_38 a b fu (nI (odn a.toInt b.toInt p)) (nI (rank p)) = some (nI (odn a.toInt b.toInt 398)) := by
  intro d
  induction d with
  | zero =>
    intro p fu hp hf
    obtain ⟨fu, rfl⟩ : ∃ z, fu = z + 1 := ⟨fu - 1, by omega⟩
    obtain rfl : p = 398 := by omega
    rw [kX4_odds_38, rank_end, if_pos (by decide)]
  | succ d ih =>
    intro p fu hp hf
    cases hP : isP p with
    | false =>
      have := ih (p + 1) fu (by omega) (by rw [rank_f p (by omega) hP]; exact hf)
      rw [rank_f p (by omega) hP, odn, if_neg (by rw [hP]; intro q; cases q.1)] at this
      exact this
    | true =>
      obtain ⟨r1, r2, r3⟩ := rank_t p (by omega) hP
      obtain ⟨fu, rfl⟩ : ∃ z, fu = z + 1 := ⟨fu - 1, by omega⟩
      have := ih (p + 1) fu (by omega) (by omega)
      rw [r2, odn] at this
      rw [kX4_odds_38, if_neg (i79 r3), if_pos (g_ok (by omega) (by omega)), nI_cl (by omega), r1, signAt_v hP ha hb, Option.bind_some, i2l, i2l, nI_1, nI_1]
      by_cases hs : sg a.toInt b.toInt p = -1
      · rw [if_pos ⟨hP, hs⟩] at this
        rw [if_neg (fun q => (sg_neg _ _ _).mp q hs)]
        exact this
      · rw [if_neg (fun q => hs q.2)] at this
        rw [if_pos ((sg_neg _ _ _).mpr hs)]
        exact this
theorem odds_r {a b : Int32} (ha : Ok a.toInt64) (hb : Ok b.toInt64) {sz rw : Nat → Int32} : ∀ (d p fu : Nat), p + d = 398 → d < fu → kX5_odds_33 sz rw a b fu (nI (odn a.toInt b.toInt p)) (nI p) = some (nI (odn a.toInt b.toInt 398)) := by
  intro d
  induction d with
  | zero =>
    intro p fu hp hf
    obtain ⟨fu, rfl⟩ : ∃ z, fu = z + 1 := ⟨fu - 1, by omega⟩
    obtain rfl : p = 398 := by omega
    rw [kX5_odds_33, if_pos (by decide)]
  | succ d ih =>
    intro p fu hp hf
    obtain ⟨fu, rfl⟩ : ∃ z, fu = z + 1 := ⟨fu - 1, by omega⟩
    have := ih (p + 1) fu (by omega) (by omega)
    rw [odn] at this
    rw [kX5_odds_33, if_neg (i398 (by omega)), pl5 p (by omega), Option.bind_some]
    unfold kX5_odds_68
    rw [nI_1, nI_1, show nI (odn a.toInt b.toInt p) + (0 : Int32) = nI (odn a.toInt b.toInt p + 0) from nI_add _ 0]
    cases hP : isP p with
    | false =>
      rw [if_neg (by rw [hP]; intro q; cases q.1)] at this
      exact this
    | true =>
      rw [if_neg (show ¬ (if true = true then (1 : Int32) else 0) = 0 by decide), signOf_v hP ha hb, Option.bind_some, i2l, i2l]
      by_cases hs : sg a.toInt b.toInt p = -1
      · rw [if_pos ⟨hP, hs⟩] at this
        rw [if_neg (fun q => (sg_neg _ _ _).mp q hs)]
        exact this
      · rw [if_neg (fun q => hs q.2)] at this
        rw [if_pos ((sg_neg _ _ _).mpr hs)]
        exact this
/-! alike -/
def alb (f g : Nat → Int32) (k : Nat) : Nat → Bool
  | 0 => true
  | p + 1 => alb f g k p && (!(isP p && !decide (p = 0) && (mayB f p k || mayB g p k)) || (hldB f p k == hldB g p k))
theorem alb_false (f g : Nat → Int32) (k p : Nat) (h : alb f g k p = false) : ∀ d, alb f g k (p + d) = false := by
  intro d
  induction d with
  | zero => exact h
  | succ d ih => rw [← Nat.add_assoc, alb, ih]; rfl
theorem pm_eq (a b : Bool) : pm a = pm b ↔ (a == b) = true := by cases a <;> cases b <;> decide
theorem alike_c {f g rf rg : Nat → Int32} {i j k : Nat} (h : Row f rf i k) (h' : Row g rg j k) : ∀ (d p fu : Nat), p + d = 398 → 79 - rank p < fu → alb f g k p = true → kX0_isAlike_46 (nI k) f (nI k) g fu (nI (rank p)) = some (b2i (alb f g k 398)) := by
  intro d
  induction d with
  | zero =>
    intro p fu hp hf ha
    obtain ⟨fu, rfl⟩ : ∃ z, fu = z + 1 := ⟨fu - 1, by omega⟩
    obtain rfl : p = 398 := by omega
    rw [kX0_isAlike_46, rank_end, if_pos (by decide), ha]
    rfl
  | succ d ih =>
    intro p fu hp hf ha
    cases hP : isP p with
    | false =>
      have := ih (p + 1) fu (by omega) (by rw [rank_f p (by omega) hP]; exact hf) (by rw [alb, ha, hP]; rfl)
      rw [rank_f p (by omega) hP] at this
      exact this
    | true =>
      obtain ⟨r1, r2, r3⟩ := rank_t p (by omega) hP
      obtain ⟨fu, rfl⟩ : ∃ z, fu = z + 1 := ⟨fu - 1, by omega⟩
      have := ih (p + 1) fu (by omega) (by omega)
      rw [r2] at this
      rw [kX0_isAlike_46, if_neg (i79 r3), if_pos (g_ok (by omega) (by omega)), nI_cl (by omega), r1, nI_1]
      by_cases h0 : p = 0
      · rw [if_pos (by rw [h0]; rfl)]
        refine this ?_
        rw [alb, ha, hP, decide_eq_true h0]
        rfl
      · have step : (mayB f p k || mayB g p k) = true → kX0_isAlike_81 (nI k) f (nI k) g (nI (rank p)) (kX0_isAlike_46 (nI k) f (nI k) g fu) = some (b2i (alb f g k 398)) := by
          intro hm
          unfold kX0_isAlike_81
          rw [nI_cl (by omega), r1, signs_c h hP, Option.bind_some, signs_c h' hP, Option.bind_some, nI_1]
          have ea : alb f g k (p + 1) = (hldB f p k == hldB g p k) := by
            rw [alb, ha, hP, decide_eq_false h0, hm]
            cases (hldB f p k == hldB g p k) <;> rfl
          by_cases hq : (hldB f p k == hldB g p k) = true
          · rw [if_pos ((pm_eq _ _).mpr hq)]
            exact this (by rw [ea]; exact hq)
          · rw [if_neg (fun q => hq ((pm_eq _ _).mp q))]
            have e2 := alb_false f g k (p + 1) (by rw [ea]; exact Bool.eq_false_iff.mpr hq) d
            rw [show p + 1 + d = 398 by omega] at e2
            rw [e2]
            rfl
        rw [if_neg (nI_ne0 (by omega) (by omega)), may_c h (by omega), Option.bind_some, may_c h' (by omega), Option.bind_some]
        cases hm : mayB f p k with
        | true =>
          rw [if_neg (show ¬ b2i true = 0 by decide)]
          exact step (by rw [hm]; rfl)
        | false =>
          rw [if_pos (show b2i false = 0 from rfl)]
          cases hm2 : mayB g p k with
          | true =>
            rw [if_neg (show ¬ b2i true = 0 by decide)]
            exact step (by rw [hm2, Bool.or_true])
          | false =>
            rw [if_pos (show b2i false = 0 from rfl)]
            refine this ?_
            rw [alb, ha, hm, hm2, Bool.or_false, Bool.and_false]
            rfl
theorem alike_r {f g rw sz : Nat → Int32} {i j k : Nat} (h : Row f rw i k) (h' : Row g rw j k) (hz : sz i = nI k) : ∀ (d p fu : Nat), p + d = 398 → 2 ≤ p → d < fu → kX5_alike_76 sz rw (nI i) (nI j) fu (b2i (alb f g k p)) (nI p) = some (b2i (alb f g k 398)) := by
  have hi := h.1
  intro d
  induction d with
  | zero =>
    intro p fu hp _ hf
    obtain ⟨fu, rfl⟩ : ∃ z, fu = z + 1 := ⟨fu - 1, by omega⟩
    obtain rfl : p = 398 := by omega
    rw [kX5_alike_76, if_pos (by decide)]
    cases alb f g k 398 <;> rfl
  | succ d ih =>
    intro p fu hp h2 hf
    obtain ⟨fu, rfl⟩ : ∃ z, fu = z + 1 := ⟨fu - 1, by omega⟩
    have := ih (p + 1) fu (by omega) (by omega) (by omega)
    rw [alb, decide_eq_false (show ¬ p = 0 by omega)] at this
    have step : isP p = true → (mayB f p k || mayB g p k) = true → kX5_alike_120 sz rw (nI i) (nI j) (b2i (alb f g k p)) (nI p) (kX5_alike_76 sz rw (nI i) (nI j) fu) = some (b2i (alb f g k 398)) := by
      intro hP hm
      unfold kX5_alike_120
      rw [nI_cl (by omega), hz, hold_r h hP, Option.bind_some, hold_r h' hP, Option.bind_some, nI_1]
      rw [hP, hm] at this
      by_cases hq : (hldB f p k == hldB g p k) = true
      · rw [if_pos ((pm_eq _ _).mpr hq)]
        rw [hq] at this
        refine Eq.trans ?_ this
        cases alb f g k p <;> rfl
      · rw [if_neg (fun q => hq ((pm_eq _ _).mp q))]
        rw [Bool.eq_false_iff.mpr hq] at this
        refine Eq.trans ?_ this
        cases alb f g k p <;> rfl
    have skip : (isP p && (mayB f p k || mayB g p k)) = false → kX5_alike_76 sz rw (nI i) (nI j) fu (b2i (alb f g k p)) (nI p + 1) = some (b2i (alb f g k 398)) := by
      intro hs
      rw [nI_1]
      rw [show (isP p && !false && (mayB f p k || mayB g p k)) = false by rw [Bool.not_false, Bool.and_true]; exact hs] at this
      refine Eq.trans ?_ this
      cases alb f g k p <;> rfl
    have k112 : (mayB f p k || mayB g p k) = true → kX5_alike_112 sz rw (nI i) (nI j) (b2i (alb f g k p)) (nI p) (kX5_alike_76 sz rw (nI i) (nI j) fu) = some (b2i (alb f g k 398)) := by
      intro hm
      unfold kX5_alike_112
      rw [prime_v (by omega) (by omega), Option.bind_some]
      cases hP : isP p with
      | false => rw [if_pos (show b2i false = 0 from rfl)]; exact skip (by rw [hP]; rfl)
      | true => rw [if_neg (show ¬ b2i true = 0 by decide)]; exact step hP hm
    rw [kX5_alike_76, if_neg (i398 (by omega))]
    by_cases hp2 : p = 2
    · subst hp2
      rw [if_pos (show nI 2 = (2 : Int32) from rfl)]
      exact step isP_2 rfl
    · rw [if_neg (by rw [show (2 : Int32) = nI 2 from rfl, nI_eq (by omega) (by omega)]; exact hp2), nI_cl (by omega), hz, isOf_r h (by omega) (by omega), Option.bind_some, isOf_r h' (by omega) (by omega), Option.bind_some, ← mayB_n (f := f) (k := k) (show p ≠ 0 by omega) hp2, ← mayB_n (f := g) (k := k) (show p ≠ 0 by omega) hp2]
      cases hm : mayB f p k with
      | true => rw [if_neg (show ¬ b2i true = 0 by decide)]; exact k112 (by rw [hm]; rfl)
      | false =>
        rw [if_pos (show b2i false = 0 from rfl)]
        cases hm2 : mayB g p k with
        | true => rw [if_neg (show ¬ b2i true = 0 by decide)]; exact k112 (by rw [hm2, Bool.or_true])
        | false => rw [if_pos (show b2i false = 0 from rfl)]; exact skip (by rw [hm, hm2, Bool.or_false, Bool.and_false])
