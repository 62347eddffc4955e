/-! the reference's signs -/
def pm (b : Bool) : Int32 := if b then -1 else 1
theorem pm_mul (a b : Bool) : pm a * pm b = pm (a ^^ b) := by cases a <;> cases b <;> rfl
theorem rest_v {U : Int64} (hU : U.toInt ≠ -9223372036854775808) : fX5_rest U = some (nI (U.toInt % 8).toNat) := by
  have hr : (lrm U (8 : Int64)).toInt = U.toInt.tmod 8 := by rw [lrm_i hU]; rfl
  have h1 := Int.lt_tmod_of_pos U.toInt (show (0 : Int) < 8 by decide)
  have h3 := Int.tmod_lt_of_pos U.toInt (show (0 : Int) < 8 by decide)
  have hi : (lrm U (8 : Int64)).toInt32.toInt = U.toInt.tmod 8 := by rw [l2i (by rw [hr]; omega) (by rw [hr]; omega), hr]
  have e1 := Int.tdiv_mul_add_tmod U.toInt 8
  have e2 : U.toInt % 8 = U.toInt.tmod 8 % 8 := by
    conv => lhs; rw [← e1]
    rw [Int.add_comm, Int.add_mul_emod_self_right]
  have e8 : (8 : Int32).toInt = 8 := rfl
  unfold fX5_rest
  by_cases h : 0 ≤ U.toInt.tmod 8
  · rw [if_pos (by rw [i_le, hi]; exact h)]
    congr 1
    rw [i_eq, hi, c32 _ (by omega)]
    omega
  · rw [if_neg (by rw [i_le, hi]; exact h)]
    congr 1
    rw [i_eq, i_add (by rw [hi, e8]; omega) (by rw [hi, e8]; omega), hi, e8, c32 _ (by omega)]
    omega
theorem two_v {x y e1 e2 : Nat} (hx : x = 1 ∨ x = 3 ∨ x = 5 ∨ x = 7) (hy : y = 1 ∨ y = 3 ∨ y = 5 ∨ y = 7) (h1 : e1 ≤ 63) (h2 : e2 ≤ 63) :
    (if (irm (((((nI x - (1 : Int32)) / (2 : Int32)) * ((nI y - (1 : Int32)) / (2 : Int32))) + (nI e1 * (((nI y * nI y) - (1 : Int32)) / (8 : Int32)))) + (nI e2 * (((nI x * nI x) - (1 : Int32)) / (8 : Int32)))) (2 : Int32)) = 0 then some (1 : Int32) else some (-1 : Int32)) = some (pm (((decide (x % 4 = 3) && decide (y % 4 = 3)) ^^ (decide (e1 % 2 = 1) && decide (y = 3 ∨ y = 5))) ^^ (decide (e2 % 2 = 1) && decide (x = 3 ∨ x = 5)))) := by
  have a1 : (nI x - (1 : Int32)) / (2 : Int32) = nI ((x - 1) / 2) := by
    show (nI x - nI 1) / nI 2 = _
    rw [pk_sub (by omega), pk_div (by omega) (by decide) (by decide)]
  have a2 : (nI y - (1 : Int32)) / (2 : Int32) = nI ((y - 1) / 2) := by
    show (nI y - nI 1) / nI 2 = _
    rw [pk_sub (by omega), pk_div (by omega) (by decide) (by decide)]
  have q1 : 1 ≤ x * x ∧ x * x ≤ 49 := by rcases hx with rfl | rfl | rfl | rfl <;> decide
  have q2 : 1 ≤ y * y ∧ y * y ≤ 49 := by rcases hy with rfl | rfl | rfl | rfl <;> decide
  have a3 : (nI x * nI x - (1 : Int32)) / (8 : Int32) = nI ((x * x - 1) / 8) := by
    rw [pk_mul]
    show (nI (x * x) - nI 1) / nI 8 = _
    rw [pk_sub (by omega), pk_div (by omega) (by decide) (by decide)]
  have a4 : (nI y * nI y - (1 : Int32)) / (8 : Int32) = nI ((y * y - 1) / 8) := by
    rw [pk_mul]
    show (nI (y * y) - nI 1) / nI 8 = _
    rw [pk_sub (by omega), pk_div (by omega) (by decide) (by decide)]
  rw [a1, a2, a3, a4, pk_mul, pk_mul, pk_mul, nI_add, nI_add, show (2 : Int32) = nI 2 from rfl]
  rw [irm_n (by rcases hx with rfl | rfl | rfl | rfl <;> rcases hy with rfl | rfl | rfl | rfl <;> simp <;> omega) (by decide) (by decide)]
  have key : ∀ s : Nat, (if nI (s % 2) = 0 then some (1 : Int32) else some (-1 : Int32)) = some (pm (decide (s % 2 = 1))) := by
    intro s
    rcases Nat.mod_two_eq_zero_or_one s with h | h <;> rw [h] <;> rfl
  rw [key]
  congr 2
  rcases Nat.mod_two_eq_zero_or_one e1 with p1 | p1 <;> rcases Nat.mod_two_eq_zero_or_one e2 with p2 | p2 <;> rcases hx with rfl | rfl | rfl | rfl <;> rcases hy with rfl | rfl | rfl | rfl <;> simp [p1, p2] <;> omega
theorem odd_8 {u : Int} (h : u.tmod 2 ≠ 0) : (u % 8).toNat = 1 ∨ (u % 8).toNat = 3 ∨ (u % 8).toNat = 5 ∨ (u % 8).toNat = 7 := by
  have h1 : ¬ u % 2 = 0 := fun q => h (Int.tmod_eq_zero_of_dvd (Int.dvd_of_emod_eq_zero q))
  omega
theorem k185_v {p : Nat} (h2 : 3 ≤ p) (hp : p < 398) {V : Int64} (hV : V.toInt ≠ -9223372036854775808) (e1 : Nat) (he : e1 ≤ 63) (x y : Bool) : kX5_signOf_185 (nI p) (nI e1) V (pm x) (pm y) = some (pm ((x ^^ y) ^^ (decide (e1 % 2 = 1) && !rsd V.toInt p))) := by
  unfold kX5_signOf_185
  rw [show (2 : Int32) = nI 2 from rfl, irm_n (by omega) (by decide) (by decide), root_v h2 hp hV, pm_mul]
  rcases Nat.mod_two_eq_zero_or_one e1 with h | h
  · rw [h, if_neg (by decide)]
    cases x <;> cases y <;> rfl
  · rw [h, if_pos (by decide)]
    show some (pm (x ^^ y) * (if rsd V.toInt p = true then 1 else -1)) = _
    cases rsd V.toInt p <;> cases x <;> cases y <;> rfl
theorem k162_v {p : Nat} (h2 : 3 ≤ p) (hp : p < 398) {U V : Int64} (hU : U.toInt ≠ -9223372036854775808) (hV : V.toInt ≠ -9223372036854775808) (e1 e2 : Nat) (he : e1 ≤ 63) (he2 : e2 ≤ 63) (x : Bool) : kX5_signOf_162 (nI p) U (nI e1) V (nI e2) (pm x) = some (pm ((x ^^ (decide (e2 % 2 = 1) && !rsd U.toInt p)) ^^ (decide (e1 % 2 = 1) && !rsd V.toInt p))) := by
  unfold kX5_signOf_162
  have hk := fun y => k185_v h2 hp hV e1 he x y
  rw [show (2 : Int32) = nI 2 from rfl, irm_n (by omega) (by decide) (by decide), root_v h2 hp hU]
  rcases Nat.mod_two_eq_zero_or_one e2 with h | h
  · rw [h, if_neg (by decide)]
    exact hk false
  · rw [h, if_pos (by decide)]
    show kX5_signOf_185 (nI p) (nI e1) V (pm x) (if rsd U.toInt p = true then 1 else -1) = _
    cases hq : rsd U.toInt p with
    | false => exact hk true
    | true => exact hk false
theorem signOf_v {p : Nat} (hP : isP p = true) {X Y : Int64} (hX : Ok X) (hY : Ok Y) {sz rw : Nat → Int32} : fX5_signOf sz rw X Y (nI p) = some (sg X.toInt Y.toInt p) := by
  have hp := isP_ge p hP
  unfold fX5_signOf sg
  by_cases h0 : p = 0
  · subst h0
    rw [if_pos (show nI 0 = (0 : Int32) from rfl), if_pos rfl]
    have hc : ∀ Z : Int64, (0 : Int32) ≤ lg_cmp Z (0 : Int64) ↔ 0 ≤ Z.toInt := fun Z => by rw [lg_cmp_ge, l_le]; exact Iff.rfl
    by_cases h1 : 0 ≤ X.toInt
    · rw [if_pos ((hc X).mpr h1), if_neg (by omega)]
    · rw [if_neg (fun q => h1 ((hc X).mp q))]
      by_cases h3 : 0 ≤ Y.toInt
      · rw [if_pos ((hc Y).mpr h3), if_neg (by omega)]
      · rw [if_neg (fun q => h3 ((hc Y).mp q)), if_pos (by omega)]
  · have h2 : 2 ≤ p := by
      rcases Nat.lt_or_ge p 2 with q | q
      · obtain rfl : p = 1 := by omega
        rw [isP_1] at hP; cases hP
      · exact q
    rw [if_neg (nI_ne0 (by omega) (by omega)), if_neg h0]
    obtain ⟨U, hU, -, -, e1⟩ := parts_v h2 hp hX (sz := sz) (rw := rw)
    obtain ⟨V, hV, -, -, e3⟩ := parts_v h2 hp hY (sz := sz) (rw := rw)
    rw [e1, e3, ← hU, ← hV]
    obtain ⟨u1, u2, u3⟩ := U_ok h2 hX hU
    obtain ⟨v1, v2, v3⟩ := U_ok h2 hY hV
    have l1 := wo_le p 63 X.toInt
    have l2 := wo_le p 63 Y.toInt
    generalize (wo p 63 X.toInt).2 = f1 at l1 ⊢
    generalize (wo p 63 Y.toInt).2 = f2 at l2 ⊢
    show (if nI p = (2 : Int32) then _ else _) = _
    unfold sgB
    by_cases hp2 : p = 2
    · subst hp2
      rw [if_pos (show nI 2 = (2 : Int32) from rfl), if_pos rfl, rest_v u1]
      show (fX5_rest V).bind _ = _
      rw [rest_v v1]
      have ox := odd_8 u3
      have oy := odd_8 v3
      refine Eq.trans (two_v ox oy l1 l2) ?_
      have t1 : decide ((U.toInt % 8).toNat % 4 = 3) = t34 U.toInt := by unfold t34; rw [decide_eq_decide]; omega
      have t2 : decide ((V.toInt % 8).toNat % 4 = 3) = t34 V.toInt := by unfold t34; rw [decide_eq_decide]; omega
      have t3 : decide ((V.toInt % 8).toNat = 3 ∨ (V.toInt % 8).toNat = 5) = tu 2 V.toInt := by unfold tu trn; rw [if_pos rfl, decide_eq_decide]; omega
      have t4 : decide ((U.toInt % 8).toNat = 3 ∨ (U.toInt % 8).toNat = 5) = tu 2 U.toInt := by unfold tu trn; rw [if_pos rfl, decide_eq_decide]; omega
      rw [t1, t2, t3, t4]
      rfl
    · rw [if_neg (by rw [show (2 : Int32) = nI 2 from rfl, nI_eq (by omega) (by omega)]; exact hp2), if_neg hp2]
      have hk := fun x => k162_v (p := p) (by omega) hp u1 v1 f1 f2 l1 l2 x
      rw [half_v (by omega) hp, show (2 : Int32) = nI 2 from rfl, irm_n (by omega) (by decide) (by decide), irm_n (by omega) (by decide) (by decide), irm_n (by omega) (by decide) (by decide)]
      have tU : tu p U.toInt = !rsd U.toInt p := by unfold tu; rw [if_neg hp2]
      have tV : tu p V.toInt = !rsd V.toInt p := by unfold tu; rw [if_neg hp2]
      rw [tU, tV]
      have pd : p % 2 = 1 := by
        have : ∀ q, q < 398 → isP q = true → q ≠ 0 → q ≠ 2 → q % 2 = 1 := by decide +kernel
        exact this p hp hP h0 hp2
      have p4 : decide (p % 4 = 3) = decide ((p - 1) / 2 % 2 = 1) := by rw [decide_eq_decide]; omega
      rw [p4]
      have hT := hk true
      have hFa := hk false
      have eT : pm true = (-1 : Int32) := rfl
      have eF : pm false = (1 : Int32) := rfl
      rw [eT] at hT
      rw [eF] at hFa
      rw [hT, hFa]
      rcases Nat.mod_two_eq_zero_or_one f1 with g1 | g1 <;> rcases Nat.mod_two_eq_zero_or_one f2 with g2 | g2 <;> rcases Nat.mod_two_eq_zero_or_one ((p - 1) / 2) with g3 | g3 <;> rw [g1, g2, g3] <;> cases rsd U.toInt p <;> cases rsd V.toInt p <;> rfl
/-! squares at a prime -/
def sqB (x : Int) (p : Nat) : Bool := decide ((wo p 63 x).2 % 2 = 0) && (if p = 2 then decide ((wo p 63 x).1 % 8 = 1) else rsd (wo p 63 x).1 p)
theorem sqAt_v {p : Nat} (h2 : 2 ≤ p) (hp : p < 398) {X : Int64} (hX : Ok X) : fX2_isSquareAtPrime X (nI p) = some (b2i (sqB X.toInt p)) := by
  obtain ⟨U, hU, e1, e2, -⟩ := parts_v h2 hp hX (sz := fun _ => 0) (rw := fun _ => 0)
  obtain ⟨u1, u2, u3⟩ := U_ok h2 hX hU
  unfold fX2_isSquareAtPrime sqB
  rw [e2, e1, ← hU, par_o]
  generalize (wo p 63 X.toInt).2 = f1
  show (if b2i (decide (f1 % 2 = 1)) = 0 then _ else _) = _
  rcases Nat.mod_two_eq_zero_or_one f1 with g | g
  · rw [g, if_pos (by decide)]
    show (if nI p = (2 : Int32) then _ else _) = _
    by_cases hp2 : p = 2
    · subst hp2
      rw [if_pos (show nI 2 = (2 : Int32) from rfl), if_pos rfl]
      have h : lg_cmp (U &&& (7 : Int64)) (1 : Int64) = 0 ↔ U.toInt % 8 = 1 := by rw [lg_cmp_eq, l_eq, and7]; exact Iff.rfl
      by_cases hc : U.toInt % 8 = 1
      · rw [if_pos (h.mpr hc), decide_eq_true hc]; rfl
      · rw [if_neg (fun q => hc (h.mp q)), decide_eq_false hc]; rfl
    · rw [if_neg (by rw [show (2 : Int32) = nI 2 from rfl, nI_eq (by omega) (by omega)]; exact hp2), if_neg hp2, residue_v (by omega) hp u1]
      cases rsd U.toInt p <;> rfl
  · rw [g, if_neg (by decide)]
    rfl
theorem isSq_v {p : Nat} (h2 : 2 ≤ p) (hp : p < 398) {X : Int64} (hX : Ok X) {sz rw : Nat → Int32} : fX5_isSquare sz rw X (nI p) = some (b2i (sqB X.toInt p)) := by
  obtain ⟨U, hU, -, -, e1⟩ := parts_v h2 hp hX (sz := sz) (rw := rw)
  obtain ⟨u1, u2, u3⟩ := U_ok h2 hX hU
  have l1 := wo_le p 63 X.toInt
  unfold fX5_isSquare sqB
  rw [if_neg (nI_ne0 (by omega) (by omega)), e1, ← hU]
  generalize (wo p 63 X.toInt).2 = f1 at l1 ⊢
  show (if irm (nI f1) (nI 2) = 0 then _ else _) = _
  rw [irm_n (by omega) (by decide) (by decide)]
  rcases Nat.mod_two_eq_zero_or_one f1 with g | g
  · rw [g, if_pos (by decide)]
    by_cases hp2 : p = 2
    · subst hp2
      rw [if_pos (show nI 2 = (2 : Int32) from rfl), if_pos rfl, rest_v u1]
      show (if nI (U.toInt % 8).toNat = (1 : Int32) then some (1 : Int32) else some 0) = _
      have h : nI (U.toInt % 8).toNat = (1 : Int32) ↔ U.toInt % 8 = 1 := by
        rw [show (1 : Int32) = nI 1 from rfl, nI_eq (by omega) (by omega)]
        omega
      by_cases hc : U.toInt % 8 = 1
      · rw [if_pos (h.mpr hc), decide_eq_true hc]; rfl
      · rw [if_neg (fun q => hc (h.mp q)), decide_eq_false hc]; rfl
    · rw [if_neg (by rw [show (2 : Int32) = nI 2 from rfl, nI_eq (by omega) (by omega)]; exact hp2), if_neg hp2, root_v (by omega) hp u1]
      cases rsd U.toInt p <;> rfl
  · rw [g, if_neg (by decide)]
    rfl
