/-! residues -/
def rsd (u : Int) (p : Nat) : Bool := decide ((u % (p : Int)).toNat ^ ((p - 1) / 2) % p = 1)
theorem irm_n {a d : Nat} (ha : a < 2 ^ 31) (h0 : 0 < d) (hd : d < 2 ^ 31) : irm (nI a) (nI d) = nI (a % d) := pk_rem ha h0 hd
theorem lrm_n {a d : Nat} (ha : a < 2 ^ 63) (h0 : 0 < d) (hd : d < 2 ^ 63) : lrm (lN a) (lN d) = lN (a % d) := pk_lRem ha h0 hd
theorem pw_step (w b q p : Nat) : ((w % p) * ((b * b % p) ^ q)) % p = (w * (b * b) ^ q) % p := by
  rw [Nat.mul_mod, Nat.pow_mod, Nat.mod_mod, Nat.mod_mod, ← Nat.pow_mod, ← Nat.mul_mod]
theorem res_loop {p : Nat} (h2 : 3 ≤ p) (hp : p < 398) : ∀ (k fu b w x : Nat), x < 2 ^ k → k < fu → x < 400 → b < p → w < p → kX2_isResidue_36 (nI p) fu (nI b) (nI w) (nI x) = some (if (w * b ^ x) % p = 1 then 1 else 0) := by
  intro k
  induction k with
  | zero =>
    intro fu b w x hx hf _ hb hw
    obtain ⟨fu, rfl⟩ : ∃ z, fu = z + 1 := ⟨fu - 1, by omega⟩
    obtain rfl : x = 0 := by omega
    rw [kX2_isResidue_36, if_pos (by decide), Nat.pow_zero, Nat.mul_one, Nat.mod_eq_of_lt hw]
    by_cases h : w = 1
    · rw [if_pos (by rw [h]; rfl), if_pos h]
    · rw [if_neg (by rw [show (1 : Int32) = nI 1 from rfl, nI_eq (by omega) (by omega)]; exact h), if_neg h]
  | succ k ih =>
    intro fu b w x hx hf h4 hb hw
    obtain ⟨fu, rfl⟩ : ∃ z, fu = z + 1 := ⟨fu - 1, by omega⟩
    rw [kX2_isResidue_36]
    by_cases h0 : x = 0
    · subst h0
      rw [if_pos (by decide), Nat.pow_zero, Nat.mul_one, Nat.mod_eq_of_lt hw]
      by_cases h : w = 1
      · rw [if_pos (by rw [h]; rfl), if_pos h]
      · rw [if_neg (by rw [show (1 : Int32) = nI 1 from rfl, nI_eq (by omega) (by omega)]; exact h), if_neg h]
    · have hpn : ¬ nI p = 0 := nI_ne0 (by omega) (by omega)
      have hm1 : w * b < 397 * 397 + 1 := by have := Nat.mul_le_mul (show w ≤ 397 by omega) (show b ≤ 397 by omega); omega
      have hm2 : b * b < 397 * 397 + 1 := by have := Nat.mul_le_mul (show b ≤ 397 by omega) (show b ≤ 397 by omega); omega
      have hsh : nI x >>> ((1 : Int32) &&& 31) = nI (x / 2) := pk_shrN (by omega) _ 1 (by decide)
      have hand : nI x &&& (1 : Int32) = nI (x % 2) := pk_andN (by omega) 1 (by decide)
      have hbb : irm (nI b * nI b) (nI p) = nI (b * b % p) := by rw [pk_mul, irm_n (by omega) (by omega) (by omega)]
      have hwb : irm (nI w * nI b) (nI p) = nI (w * b % p) := by rw [pk_mul, irm_n (by omega) (by omega) (by omega)]
      have lb : b * b % p < p := Nat.mod_lt _ (by omega)
      have lw : w * b % p < p := Nat.mod_lt _ (by omega)
      have hx2 : x / 2 < 2 ^ k := by rw [Nat.pow_succ] at hx; omega
      rw [if_neg (by rw [i_le, c32 x (by omega)]; show ¬ (x : Int) ≤ 0; omega), hand]
      unfold kX2_isResidue_58
      rw [hbb, hsh]
      rcases Nat.mod_two_eq_zero_or_one x with h | h
      · rw [h, if_neg (by decide), if_pos hpn, ih fu _ w _ hx2 (by omega) (by omega) lb hw]
        have e : (w * (b * b % p) ^ (x / 2)) % p = (w * b ^ x) % p := by
          have h3 := pw_step w b (x / 2) p
          rw [Nat.mod_eq_of_lt hw] at h3
          rw [h3, ← Nat.pow_two, ← Nat.pow_mul, show 2 * (x / 2) = x by omega]
        rw [e]
      · rw [h, if_pos (by decide), if_pos hpn, if_pos hpn, hwb, ih fu _ _ _ hx2 (by omega) (by omega) lb lw]
        have e : (w * b % p * (b * b % p) ^ (x / 2)) % p = (w * b ^ x) % p := by
          rw [pw_step (w * b) b (x / 2) p, ← Nat.pow_two, ← Nat.pow_mul, Nat.mul_assoc, ← Nat.pow_succ', show Nat.succ (2 * (x / 2)) = x by omega]
        rw [e]
theorem base_v {p : Nat} (h2 : 2 ≤ p) (hp : p < 398) {X : Int64} (hX : X.toInt ≠ -9223372036854775808) (K : Int32 → Option Int32) : (if (0 : Int32) ≤ (lrm X (nI p).toInt64).toInt32 then K (lrm X (nI p).toInt64).toInt32 else K ((lrm X (nI p).toInt64).toInt32 + nI p)) = K (nI (X.toInt % (p : Int)).toNat) := by
  have hp0 : (0 : Int) < p := by omega
  have hr : (lrm X (nI p).toInt64).toInt = X.toInt.tmod p := by rw [lrm_i hX, p64 hp]
  have hE := Int.emod_nonneg X.toInt (show (p : Int) ≠ 0 by omega)
  have hL := Int.emod_lt_of_pos X.toInt hp0
  have hlo := Int.lt_tmod_of_pos X.toInt hp0
  have hhi : X.toInt.tmod p < p := Int.tmod_lt_of_pos X.toInt hp0
  have hR : (lrm X (nI p).toInt64).toInt32.toInt = X.toInt.tmod p := by rw [l2i (by omega) (by omega), hr]
  have hP : (nI p).toInt = (p : Int) := c32 p (by omega)
  have e1 := Int.tdiv_mul_add_tmod X.toInt (p : Int)
  have key : ∀ Y : Int32, Y.toInt = X.toInt % (p : Int) → Y = nI (X.toInt % (p : Int)).toNat := by
    intro Y hY
    rw [i_eq, c32 _ (by omega), hY]
    omega
  by_cases h : 0 ≤ X.toInt.tmod p
  · rw [if_pos (by rw [i_le, hR]; exact h), key _ (hR.trans _)]
    have e2 : X.toInt % (p : Int) = X.toInt.tmod p % (p : Int) := by
      conv => lhs; rw [← e1]
      rw [Int.add_comm, Int.add_mul_emod_self_right]
    rw [e2, Int.emod_eq_of_lt h hhi]
  · rw [if_neg (by rw [i_le, hR]; exact h), key _ ((i_add (by rw [hR, hP]; omega) (by rw [hR, hP]; omega)).trans _)]
    have e2 : X.toInt % (p : Int) = (X.toInt.tmod p + p) % (p : Int) := by
      conv => lhs; rw [← e1]
      rw [Int.add_emod_right, Int.add_comm, Int.add_mul_emod_self_right]
    rw [hR, hP, e2, Int.emod_eq_of_lt (by omega) (by omega)]
theorem residue_v {p : Nat} (h2 : 3 ≤ p) (hp : p < 398) {X : Int64} (hX : X.toInt ≠ -9223372036854775808) : fX2_isResidue X (nI p) = some (if rsd X.toInt p then 1 else 0) := by
  have hE := Int.emod_nonneg X.toInt (show (p : Int) ≠ 0 by omega)
  have hL := Int.emod_lt_of_pos X.toInt (show (0 : Int) < p by omega)
  unfold fX2_isResidue
  rw [if_pos (by rw [i_le, c32 p (by omega)]; show (3 : Int) ≤ p; omega), if_pos (p64_ne (by omega) hp), base_v (by omega) hp hX (kX2_isResidue_24 (nI p))]
  show kX2_isResidue_36 (nI p) 1100 (nI (X.toInt % (p : Int)).toNat) (nI 1) ((nI p - nI 1) / nI 2) = _
  rw [pk_sub (by omega), pk_div (by omega) (by decide) (by decide), res_loop h2 hp 9 1100 _ 1 _ (by omega) (by decide) (by omega) (by omega) (by omega), Nat.one_mul]
  unfold rsd
  by_cases h : (X.toInt % (p : Int)).toNat ^ ((p - 1) / 2) % p = 1
  · rw [if_pos h, if_pos (decide_eq_true h)]
  · rw [if_neg h, if_neg (by simpa using h)]
theorem half_v {p : Nat} (h2 : 3 ≤ p) (hp : p < 398) : (nI p - (1 : Int32)) / (2 : Int32) = nI ((p - 1) / 2) := by
  show (nI p - nI 1) / nI 2 = _
  rw [pk_sub (by omega), pk_div (by omega) (by decide) (by decide)]
theorem root_loop {p t : Nat} (h2 : 3 ≤ p) (hp : p < 398) (ht : t < p) : ∀ (k i fu : Nat), i + k = (p - 1) / 2 → k < fu → kX5_root_26 (nI p) (lN t) fu (lN (t ^ i % p)) (nI i) = some (if t ^ ((p - 1) / 2) % p = 1 then 1 else -1) := by
  intro k
  induction k with
  | zero =>
    intro i fu hi hf
    obtain ⟨fu, rfl⟩ : ∃ z, fu = z + 1 := ⟨fu - 1, by omega⟩
    have hi : i = (p - 1) / 2 := by omega
    have lt : t ^ i % p < p := Nat.mod_lt _ (by omega)
    rw [kX5_root_26]
    rw [half_v h2 hp, if_pos (by rw [hi]; exact nI_le (Nat.le_refl _) (by omega)), ← hi]
    by_cases h : t ^ i % p = 1
    · rw [if_pos (by rw [h]; decide), if_pos h]
    · rw [if_neg (by rw [lg_cmp_eq, show (1 : Int64) = lN 1 from rfl, lN_eq (by omega) (by decide)]; exact h), if_neg h]
  | succ k ih =>
    intro i fu hi hf
    obtain ⟨fu, rfl⟩ : ∃ z, fu = z + 1 := ⟨fu - 1, by omega⟩
    have lt : t ^ i % p < p := Nat.mod_lt _ (by omega)
    have hm : t ^ i % p * t < 397 * 397 + 1 := by have := Nat.mul_le_mul (show t ^ i % p ≤ 397 by omega) (show t ≤ 397 by omega); omega
    have e1 : (nI p).toInt64 = lN p := nI_l (by omega)
    have e2 : lrm (lN (t ^ i % p) * lN t) (nI p).toInt64 = lN (t ^ (i + 1) % p) := by
      rw [e1, lN_mul, lrm_n (by omega) (by omega) (by omega), Nat.pow_succ, Nat.mod_mul_mod]
    rw [kX5_root_26]
    rw [half_v h2 hp, if_neg (nI_ge (by omega) (by omega)), if_pos (p64_ne (by omega) hp), e2, nI_1]
    exact ih (i + 1) fu (by omega) (by omega)
theorem root_v {p : Nat} (h2 : 3 ≤ p) (hp : p < 398) {X : Int64} (hX : X.toInt ≠ -9223372036854775808) : fX5_root X (nI p) = some (if rsd X.toInt p then 1 else -1) := by
  have hp0 : (0 : Int) < p := by omega
  have hr : (lrm X (nI p).toInt64).toInt = X.toInt.tmod p := by rw [lrm_i hX, p64 hp]
  have hE := Int.emod_nonneg X.toInt (show (p : Int) ≠ 0 by omega)
  have hL := Int.emod_lt_of_pos X.toInt hp0
  have key : ∀ Y : Int64, Y.toInt = X.toInt % (p : Int) → Y = lN (X.toInt % (p : Int)).toNat := by
    intro Y hY
    rw [l_eq, hY, lN_toInt (by omega)]
    omega
  have fin : kX5_root_19 (nI p) (lN (X.toInt % (p : Int)).toNat) = some (if rsd X.toInt p then 1 else -1) := by
    unfold kX5_root_19
    have := root_loop h2 hp (t := (X.toInt % (p : Int)).toNat) (by omega) ((p - 1) / 2) 0 1100 (by omega) (by omega)
    rw [Nat.pow_zero, Nat.mod_eq_of_lt (by omega)] at this
    refine Eq.trans this ?_
    unfold rsd
    by_cases h : (X.toInt % (p : Int)).toNat ^ ((p - 1) / 2) % p = 1
    · rw [if_pos h, if_pos (decide_eq_true h)]
    · rw [if_neg h, if_neg (by simpa using h)]
  unfold fX5_root
  rw [if_pos (p64_ne (by omega) hp)]
  have hlt : -(p : Int) < X.toInt.tmod p := Int.lt_tmod_of_pos X.toInt hp0
  by_cases h : 0 ≤ X.toInt.tmod p
  · rw [if_pos (by rw [lg_cmp_ge, l_le, hr]; exact h), key (lrm X (nI p).toInt64) ?_]
    · exact fin
    · rw [hr]
      have e1 := Int.tdiv_mul_add_tmod X.toInt (p : Int)
      have h3 := Int.tmod_lt_of_pos X.toInt hp0
      have : X.toInt % (p : Int) = X.toInt.tmod p % (p : Int) := by
        conv => lhs; rw [← e1]
        rw [Int.add_comm, Int.add_mul_emod_self_right]
      rw [this, Int.emod_eq_of_lt h h3]
  · rw [if_neg (by rw [lg_cmp_ge, l_le, hr]; exact h), key (lrm X (nI p).toInt64 + (nI p).toInt64) ?_]
    · exact fin
    · rw [l_add (by rw [hr, p64 hp]; omega) (by rw [hr, p64 hp]; omega), hr, p64 hp]
      have e1 := Int.tdiv_mul_add_tmod X.toInt (p : Int)
      have : X.toInt % (p : Int) = (X.toInt.tmod p + p) % (p : Int) := by
        conv => lhs; rw [← e1]
        rw [Int.add_emod_right, Int.add_comm, Int.add_mul_emod_self_right]
      rw [this, Int.emod_eq_of_lt (by omega) (by omega)]
/-! signs -/
theorem and_l (x : Int64) {m : Int64} {k : Nat} (hm : m.toBitVec = BitVec.ofNat 64 (2 ^ k - 1)) (hk : k ≤ 3) : (x &&& m).toInt = x.toInt % (2 ^ k : Nat) := by
  have h1 : (x &&& m).toBitVec.toNat = x.toBitVec.toNat % 2 ^ k := by
    rw [show (x &&& m).toBitVec = x.toBitVec &&& m.toBitVec from rfl, hm, BitVec.toNat_and, BitVec.toNat_ofNat, Nat.mod_eq_of_lt (a := 2 ^ k - 1) (by
      have := Nat.pow_le_pow_right (show 0 < 2 by decide) hk
      omega), Nat.and_two_pow_sub_one_eq_mod]
  have hb : 2 ^ k ≤ 8 := Nat.pow_le_pow_right (show 0 < 2 by decide) hk
  have h0 : 0 < 2 ^ k := Nat.two_pow_pos k
  have h2 : x.toBitVec.toNat % 2 ^ k < 2 ^ k := Nat.mod_lt _ h0
  have h3 : (x &&& m).toInt = ((x.toBitVec.toNat % 2 ^ k : Nat) : Int) := by
    rw [show (x &&& m).toInt = (x &&& m).toBitVec.toInt from rfl, BitVec.toInt_eq_toNat_of_lt (by omega), h1]
  rw [h3, show x.toInt = x.toBitVec.toInt from rfl, BitVec.toInt_eq_toNat_cond]
  have hd : ∃ c : Nat, 2 ^ 64 = 2 ^ k * c := ⟨2 ^ (64 - k), by rw [← Nat.pow_add, show k + (64 - k) = 64 by omega]⟩
  split
  · rw [Int.natCast_emod]
  · obtain ⟨c, hc⟩ := hd
    rw [hc, Int.natCast_emod, Int.natCast_mul, Int.sub_mul_emod_self_left]
theorem and7 (x : Int64) : (x &&& (7 : Int64)).toInt = x.toInt % 8 := and_l x (k := 3) (by decide) (by decide)
theorem and3 (x : Int64) : (x &&& (3 : Int64)).toInt = x.toInt % 4 := and_l x (k := 2) (by decide) (by decide)
def b2i (b : Bool) : Int32 := if b then 1 else 0
theorem b2i_b (b : Bool) : b2i b &&& 1 = b2i b := by cases b <;> rfl
theorem b2i_0 (b : Bool) : b2i b = 0 ↔ b = false := by cases b <;> decide
theorem b2i_if (b : Bool) : (if b = true then (1 : Int32) else 0) = b2i b := rfl
theorem par_o (e : Nat) : par e = b2i (decide (e % 2 = 1)) := by
  unfold par b2i
  by_cases h : e % 2 = 1
  · rw [if_pos h, if_pos (decide_eq_true h)]
  · rw [if_neg h, if_neg (by simpa using h)]
def t34 (u : Int) : Bool := decide (u % 4 = 3)
def trn (u : Int) : Bool := decide (u % 8 = 3 ∨ u % 8 = 5)
theorem three_v (U : Int64) : fX2_isThreeOfFour U = some (b2i (t34 U.toInt)) := by
  unfold fX2_isThreeOfFour t34
  have h : lg_cmp (U &&& (3 : Int64)) (3 : Int64) = 0 ↔ U.toInt % 4 = 3 := by
    rw [lg_cmp_eq, l_eq, and3]
    exact Iff.rfl
  by_cases hc : U.toInt % 4 = 3
  · rw [if_pos (h.mpr hc), decide_eq_true hc]; rfl
  · rw [if_neg (fun q => hc (h.mp q)), decide_eq_false hc]; rfl
/-- whether a unit turns the sign -/
def tu (p : Nat) (u : Int) : Bool := if p = 2 then trn u else !rsd u p
theorem turn_v {p : Nat} (h2 : 2 ≤ p) (hp : p < 398) {U : Int64} (hU : U.toInt ≠ -9223372036854775808) : fX2_isTurning U (nI p) = some (b2i (tu p U.toInt)) := by
  unfold fX2_isTurning tu
  by_cases h : p = 2
  · subst h
    rw [if_pos (show nI 2 = (2 : Int32) from rfl), if_pos rfl]
    unfold trn
    have h3 : lg_cmp (U &&& (7 : Int64)) (3 : Int64) = 0 ↔ U.toInt % 8 = 3 := by rw [lg_cmp_eq, l_eq, and7]; exact Iff.rfl
    have h5 : lg_cmp (U &&& (7 : Int64)) (5 : Int64) = 0 ↔ U.toInt % 8 = 5 := by rw [lg_cmp_eq, l_eq, and7]; exact Iff.rfl
    by_cases c3 : U.toInt % 8 = 3
    · rw [if_pos (h3.mpr c3), decide_eq_true (Or.inl c3)]; rfl
    · rw [if_neg (fun q => c3 (h3.mp q))]
      by_cases c5 : U.toInt % 8 = 5
      · rw [if_pos (h5.mpr c5), decide_eq_true (Or.inr c5)]; rfl
      · rw [if_neg (fun q => c5 (h5.mp q)), decide_eq_false (by omega)]; rfl
  · rw [if_neg (by rw [show (2 : Int32) = nI 2 from rfl, nI_eq (by omega) (by omega)]; exact h), if_neg h, residue_v (by omega) hp hU]
    show (if (if rsd U.toInt p = true then (1 : Int32) else 0) = 0 then some 1 else some 0) = _
    cases rsd U.toInt p <;> rfl
/-- whether the sign at a prime is minus -/
def sgB (p : Nat) (u w : Int) (oa ob : Bool) : Bool :=
  ((if p = 2 then t34 u && t34 w else oa && ob && decide (p % 4 = 3)) ^^ (oa && tu p w)) ^^ (ob && tu p u)
def sg (a b : Int) (p : Nat) : Int32 :=
  if p = 0 then (if a < 0 ∧ b < 0 then -1 else 1) else if sgB p (wo p 63 a).1 (wo p 63 b).1 (decide ((wo p 63 a).2 % 2 = 1)) (decide ((wo p 63 b).2 % 2 = 1)) then -1 else 1
theorem sgB_symm (p : Nat) (u w : Int) (oa ob : Bool) : sgB p u w oa ob = sgB p w u ob oa := by
  unfold sgB
  generalize t34 u = x1
  generalize t34 w = x2
  generalize tu p u = x3
  generalize tu p w = x4
  generalize decide (p % 4 = 3) = x5
  split <;> revert x1 x2 x3 x4 x5 oa ob <;> decide
theorem sg_symm (a b : Int) (p : Nat) : sg a b p = sg b a p := by
  unfold sg
  by_cases h0 : p = 0
  · rw [if_pos h0, if_pos h0]
    by_cases h : a < 0 ∧ b < 0
    · rw [if_pos h, if_pos ⟨h.2, h.1⟩]
    · rw [if_neg h, if_neg (fun q => h ⟨q.2, q.1⟩)]
  · rw [if_neg h0, if_neg h0, sgB_symm]
theorem sg_pm (a b : Int) (p : Nat) : sg a b p = 1 ∨ sg a b p = -1 := by
  unfold sg
  split
  · split
    · exact Or.inr rfl
    · exact Or.inl rfl
  · split
    · exact Or.inr rfl
    · exact Or.inl rfl
theorem k165_v (b : Bool) : kX2_signAt_165 (b2i b) = some (if b then -1 else 1) := by cases b <;> rfl
theorem k138_v {p : Nat} (h2 : 2 ≤ p) (hp : p < 398) {U : Int64} (hU : U.toInt ≠ -9223372036854775808) (ob x : Bool) : kX2_signAt_138 (nI p) (b2i ob) U (b2i x) = some (if (x ^^ (ob && tu p U.toInt)) then -1 else 1) := by
  unfold kX2_signAt_138
  rw [turn_v h2 hp hU]
  generalize tu p U.toInt = y
  revert ob x y
  decide
theorem k109_v {p : Nat} (h2 : 2 ≤ p) (hp : p < 398) {U V : Int64} (hU : U.toInt ≠ -9223372036854775808) (hV : V.toInt ≠ -9223372036854775808) (oa ob x : Bool) : kX2_signAt_109 (nI p) (b2i oa) (b2i ob) U V (b2i x) = some (if ((x ^^ (oa && tu p V.toInt)) ^^ (ob && tu p U.toInt)) then -1 else 1) := by
  unfold kX2_signAt_109
  rw [turn_v h2 hp hV]
  have h1 := k138_v h2 hp hU ob x
  have h0 := k138_v h2 hp hU ob (!x)
  generalize tu p V.toInt = y
  cases oa
  · rw [if_pos (show b2i false = 0 from rfl), h1]
    cases y <;> cases x <;> rfl
  · rw [if_neg (by decide)]
    cases y
    · rw [Option.bind_some, if_pos (show b2i false = 0 from rfl), h1]
      cases x <;> rfl
    · rw [Option.bind_some, if_neg (show ¬ b2i true = 0 by decide)]
      cases x
      · rw [if_pos (show b2i false = 0 from rfl)]
        exact h0
      · rw [if_neg (by decide)]
        exact h0
theorem p4_v {p : Nat} (hp : p < 398) : t34 ((nI p).toInt64.toInt) = decide (p % 4 = 3) := by
  unfold t34
  rw [p64 hp]
  by_cases h : p % 4 = 3
  · rw [decide_eq_true h, decide_eq_true (by omega)]
  · rw [decide_eq_false h, decide_eq_false (by omega)]
theorem U_ok {p : Nat} (h2 : 2 ≤ p) {X U : Int64} (h : Ok X) (hU : U.toInt = (wo p 63 X.toInt).1) : U.toInt ≠ -9223372036854775808 ∧ U.toInt ≠ 0 ∧ U.toInt.tmod p ≠ 0 := by
  have h1 := wo_abs p 63 X.toInt
  have h3 := h.2
  refine ⟨?_, ?_, ?_⟩
  · rw [hU]; omega
  · rw [hU]; exact wo_ne p (by omega) 63 _ h.1
  · rw [hU]; exact wo_nd p (by omega) 63 _ h.1 h.2
theorem signAt_v {p : Nat} (hP : isP p = true) {X Y : Int64} (hX : Ok X) (hY : Ok Y) : fX2_signAt X Y (nI p) = some (sg X.toInt Y.toInt p) := by
  have hp := isP_ge p hP
  unfold fX2_signAt sg
  by_cases h0 : p = 0
  · subst h0
    rw [if_pos (show nI 0 = (0 : Int32) from rfl), if_pos rfl]
    have hc : ∀ Z : Int64, (0 : Int32) ≤ lg_cmp Z (0 : Int64) ↔ 0 ≤ Z.toInt := fun Z => by rw [lg_cmp_ge, l_le]; exact Iff.rfl
    by_cases h1 : 0 ≤ X.toInt
    · rw [if_pos ((hc X).mpr h1), if_neg (by omega)]
    · rw [if_neg (fun q => h1 ((hc X).mp q))]
      by_cases h3 : 0 ≤ Y.toInt
      · rw [if_pos ((hc Y).mpr h3), if_neg (by omega)]
      · rw [if_neg (fun q => h3 ((hc Y).mp q)), if_pos (by omega)]
  · have h2 : 2 ≤ p := by
      rcases Nat.lt_or_ge p 2 with q | q
      · obtain rfl : p = 1 := by omega
        rw [isP_1] at hP; cases hP
      · exact q
    rw [if_neg (nI_ne0 (by omega) (by omega)), if_neg h0]
    obtain ⟨U, hU, e1, e2, -⟩ := parts_v h2 hp hX (sz := fun _ => 0) (rw := fun _ => 0)
    obtain ⟨V, hV, e3, e4, -⟩ := parts_v h2 hp hY (sz := fun _ => 0) (rw := fun _ => 0)
    rw [e2, e4, e1, e3, par_o, par_o, ← hU, ← hV]
    have u1 := (U_ok h2 hX hU).1
    have v1 := (U_ok h2 hY hV).1
    generalize decide ((wo p 63 X.toInt).2 % 2 = 1) = oa
    generalize decide ((wo p 63 Y.toInt).2 % 2 = 1) = ob
    have hk := fun x => k109_v h2 hp u1 v1 oa ob x
    show (if nI p = (2 : Int32) then _ else _) = _
    unfold sgB
    by_cases hp2 : p = 2
    · subst hp2
      rw [if_pos (show nI 2 = (2 : Int32) from rfl), if_pos rfl, three_v]
      show (if b2i (t34 U.toInt) = 0 then kX2_signAt_109 (nI 2) (b2i oa) (b2i ob) U V (b2i false) else (fX2_isThreeOfFour V).bind _) = _
      rw [three_v]
      cases ht : t34 U.toInt with
      | false => rw [if_pos (show b2i false = 0 from rfl), hk]; rfl
      | true =>
        rw [if_neg (by decide)]
        show (if b2i (t34 V.toInt) = 0 then kX2_signAt_109 (nI 2) (b2i oa) (b2i ob) U V (b2i false) else kX2_signAt_109 (nI 2) (b2i oa) (b2i ob) U V (b2i true)) = _
        cases ht2 : t34 V.toInt with
        | false => rw [if_pos (show b2i false = 0 from rfl), hk]; rfl
        | true => rw [if_neg (by decide), hk]; rfl
    · rw [if_neg (by rw [show (2 : Int32) = nI 2 from rfl, nI_eq (by omega) (by omega)]; exact hp2), if_neg hp2, three_v, p4_v hp]
      show (if b2i oa = 0 then kX2_signAt_109 (nI p) (b2i oa) (b2i ob) U V (b2i false) else if b2i ob = 0 then kX2_signAt_109 (nI p) (b2i oa) (b2i ob) U V (b2i false) else if b2i (decide (p % 4 = 3)) = 0 then kX2_signAt_109 (nI p) (b2i oa) (b2i ob) U V (b2i false) else kX2_signAt_109 (nI p) (b2i oa) (b2i ob) U V (b2i true)) = _
      rw [hk, hk]
      cases oa <;> cases ob <;> cases decide (p % 4 = 3) <;> rfl
