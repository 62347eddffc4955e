/-! the members that write: form and takes -/
theorem take_loop {N k : Nat} (hk : k ≤ N) (hN : N ≤ 6) (g : Nat → Int32) : ∀ (d i fu : Nat) (m : Int32) (f0 : Nat → Int32), i + d = k → d < fu → (∀ x, x < i → f0 x = g x) → ∃ f' : Nat → Int32, kX0_take_5 N g (nI k) fu (nI i) (nI i) m f0 = some (nI k, f') ∧ ∀ x, x < k → f' x = g x := by
  intro d
  induction d with
  | zero =>
    intro i fu m f0 hi hf h0
    obtain ⟨fu, rfl⟩ : ∃ z, fu = z + 1 := ⟨fu - 1, by omega⟩
    obtain rfl : i = k := by omega
    rw [kX0_take_5, if_pos (nI_le (Nat.le_refl _) (by omega))]
    exact ⟨f0, rfl, h0⟩
  | succ d ih =>
    intro i fu m f0 hi hf h0
    obtain ⟨fu, rfl⟩ : ∃ z, fu = z + 1 := ⟨fu - 1, by omega⟩
    have c1 : ¬ nI k ≤ nI i := lt_nI (by omega) (by omega)
    have c2 : ¬ Int32.ofNat N ≤ nI i := lt_nI (k := N) (by omega) (by omega)
    have c3 : ¬ (6 : Int32) ≤ nI i := lt_nI (k := 6) (by omega) (by omega)
    rw [kX0_take_5, if_neg c1, if_neg c2, if_neg c3, if_pos (g_ok (by omega) (by omega)), if_pos (g_ok (by omega) (by omega)), nI_cl (by omega), nI_1]
    refine ih (i + 1) fu m (upd f0 i (g i)) (by omega) (by omega) ?_
    intro x hx
    unfold upd
    by_cases q : x = i
    · rw [if_pos q, q]
    · rw [if_neg q]
      exact h0 x (by omega)
theorem take_v {N k : Nat} (hk : k ≤ N) (hN : N ≤ 6) (g : Nat → Int32) (m : Int32) (f0 : Nat → Int32) : ∃ f' : Nat → Int32, fX0_take N g m f0 (nI k) = some (nI k, f') ∧ ∀ x, x < k → f' x = g x :=
  take_loop hk hN g k 0 1100 m f0 (by omega) (by omega) (fun x hx => absurd hx (by omega))
section PURE4
variable {n : Nat → Int32} {f : Nat → Nat → Int32} {tr tm : Int64} {sz rw : Nat → Int32}
theorem P_takes (hR : Rel n f tr sz rw tm) {xn : Int32} {xf : Nat → Int32} : ∀ (a0 a1 : Int32), ∃ r xn2 xf2 rw2, fX4_takes n f xn xf a0 a1 = some (r, xn2, xf2) ∧ fX5_takes sz rw a0 a1 = some (r, rw2) ∧ Rel n f tr sz rw2 tm := by
  intro a0 a1
  unfold fX4_takes fX5_takes
  rcases shelf_cases a0 with ⟨h1, h2⟩ | ⟨j, hj, rfl, h1, h2⟩
  · rw [h1, h2, bn0, bn0]
    exact ⟨_, _, _, _, rfl, rfl, hR⟩
  rw [h1, h2, bn1, bn1]
  rcases num_cases a1 (400 : Int32) (by decide) with ⟨g1, g2, -⟩ | ⟨g1, g2, g3, g4, g5⟩
  · rw [g1, g2, bn0, bn0]
    exact ⟨_, _, _, _, rfl, rfl, hR⟩
  obtain ⟨k, k1, k5, e1, e2, h⟩ := rel_row hR hj
  obtain ⟨f', t1, t2⟩ := take_v (N := 6) (k := k) (by omega) (by decide) (f j) xn xf
  have e4 : (400 : Int32).toInt = 400 := rfl
  have hneg : (-a1).toInt = -a1.toInt := i_neg (by omega)
  have ap : fX0_append (nI k) f' (-a1) = some (nI (k + 1), upd f' k (-a1)) := by
    unfold fX0_append
    rw [if_neg (show ¬ (6 : Int32) ≤ nI k from lt_nI (k := 6) (by decide) (by omega)), if_pos (g_ok (by omega) (by omega)), nI_cl (by omega), nI_1]
  have hrow : Row (upd f' k (-a1)) (upd rw (6 * j + k) (-a1)) j (k + 1) := by
    refine ⟨hj, by omega, ?_⟩
    intro i hi
    unfold upd
    by_cases q : i = k
    · rw [if_pos q, if_pos (by omega)]
      refine ⟨rfl, ?_, by omega, by omega⟩
      intro w
      rw [i_eq, hneg] at w
      have z : (0 : Int32).toInt = 0 := rfl
      have := ne_int g3
      omega
    · rw [if_neg q, if_neg (by omega), t2 i (by omega)]
      exact h.2.2 i (by omega)
  have hback : upd (upd rw (6 * j + k) (-a1)) (6 * j + k) (rw (6 * j + k)) = rw := by
    funext x
    unfold upd
    by_cases q : x = 6 * j + k
    · rw [if_pos q, q]
    · rw [if_neg q, if_neg q]
  have g := g_ok hj (by omega)
  have g6 : ¬ (nI (6 * j + k) < 0 ∨ 24 ≤ (nI (6 * j + k)).toNatClampNeg) := g_ok (by omega) (by omega)
  have g7 : ¬ (nI (6 * j + k) < 0 ∨ 24 ≤ 6 * j + k) := by rw [nI_cl (by omega)] at g6; exact g6
  rw [g1, g2, bn1, bn1, if_pos g, if_pos g, nI_cl (j := j) (by omega), e1, e2, six, if_pos g6, if_pos g6, nI_cl (j := 6 * j + k) (by omega), t1, Option.bind_some]
  show ∃ r xn2 xf2 rw2, ((fX0_append (nI k) f' (-a1)).bind _) = _ ∧ _ ∧ _
  rw [ap, Option.bind_some, nI_1, isNought_v hrow (by omega), Option.bind_some, if_pos g7]
  show ∃ r xn2 xf2 rw2, ((fX0_countBars (nI (k + 1)) (upd f' k (-a1))).bind _) = _ ∧ _ ∧ _
  rw [countBars_v hrow (by omega), Option.bind_some, hback]
  by_cases hc : cbn (upd f' k (-a1)) (k + 1) 398 = 0
  · rw [if_pos ((cb_0 _ _).mpr hc), if_neg (by rw [b2i_0]; simp [hc])]
    exact ⟨_, _, _, _, rfl, rfl, hR⟩
  · rw [if_neg (fun q => hc ((cb_0 _ _).mp q)), if_pos (by rw [b2i_0]; simp [hc])]
    exact ⟨_, _, _, _, rfl, rfl, hR⟩
theorem form_c {j k : Nat} (hj : j < 4) (hk : k ≤ 5) (G : Nat → Int32) (n : Nat → Int32) (f : Nat → Nat → Int32) : ∀ (d i fu : Nat), i + d = k → d < fu → ((∀ x, i ≤ x → x < k → Num (G x) 400) → ∃ f' : Nat → Int32, kX4_form_62 (nI j) (nI k) fu (nI i) G n f = some (nI k, G, up1 n j (nI k), up1 f j f') ∧ ∀ x, x < k → f' x = G x) ∧ ((∃ x, i ≤ x ∧ x < k ∧ ¬ Num (G x) 400) → kX4_form_62 (nI j) (nI k) fu (nI i) G n f = some (-3, G, n, f)) := by
  intro d
  induction d with
  | zero =>
    intro i fu hi hf
    obtain ⟨fu, rfl⟩ : ∃ z, fu = z + 1 := ⟨fu - 1, by omega⟩
    obtain rfl : i = k := by omega
    refine ⟨fun _ => ?_, fun ⟨x, x1, x2, _⟩ => absurd x2 (by omega)⟩
    obtain ⟨f', t1, t2⟩ := take_v (N := 5) (k := i) (by omega) (by decide) G (n j) (f j)
    refine ⟨f', ?_, t2⟩
    rw [kX4_form_62, if_pos (nI_le (Nat.le_refl _) (by omega)), if_pos (g_ok hj (by omega)), nI_cl (by omega), t1, Option.bind_some]
  | succ d ih =>
    intro i fu hi hf
    obtain ⟨fu, rfl⟩ : ∃ z, fu = z + 1 := ⟨fu - 1, by omega⟩
    obtain ⟨p1, p2⟩ := ih (i + 1) fu (by omega) (by omega)
    rw [kX4_form_62, if_neg (lt_nI (by omega) (by omega)), if_pos (g_ok (by omega) (by omega)), nI_cl (by omega), nI_1]
    rcases num_cases (G i) (400 : Int32) (by decide) with ⟨g1, -, g3⟩ | ⟨g1, -, g3⟩
    · rw [g1, bn0]
      exact ⟨fun q => absurd (q i (Nat.le_refl _) (by omega)) g3, fun _ => rfl⟩
    · rw [g1, bn1]
      refine ⟨fun q => p1 (fun x x1 x2 => q x (by omega) x2), fun ⟨x, x1, x2, x3⟩ => p2 ⟨x, ?_, x2, x3⟩⟩
      rcases Nat.eq_or_lt_of_le x1 with e | e
      · subst e
        exact absurd g3 x3
      · omega
theorem stp {α : Type} {k c : Nat} (hk : k < 1000) (hc : c < 1000) {C : Int32} (hC : C = nI c) (a : Int32) (K NO : Option α) : (k ≤ c ∨ Num a 400 → (if nI k ≤ C then K else (fX5_isTold a (400 : Int32)).bind fun (r : Int32) => if r = 0 then NO else K) = K) ∧ (¬ (k ≤ c ∨ Num a 400) → (if nI k ≤ C then K else (fX5_isTold a (400 : Int32)).bind fun (r : Int32) => if r = 0 then NO else K) = NO) := by
  subst hC
  by_cases h : k ≤ c
  · rw [if_pos (nI_le h (by omega))]
    exact ⟨fun _ => rfl, fun q => absurd (Or.inl h) q⟩
  · rw [if_neg (lt_nI (by omega) (by omega))]
    rcases num_cases a (400 : Int32) (by decide) with ⟨-, g2, g3⟩ | ⟨-, g2, g3⟩
    · rw [g2, bn0]
      exact ⟨fun q => (q.elim (fun w => absurd w h) (fun w => absurd w g3)), fun _ => rfl⟩
    · rw [g2, bn1]
      exact ⟨fun _ => rfl, fun q => absurd (Or.inr g3) q⟩
theorem stpN {α : Type} {k c : Nat} (hk : k < 1000) (hc : c < 1000) {C : Int32} (hC : C = nI c) (a : Int32) (NO : Option α) : (if nI k ≤ C then NO else (fX5_isTold a (400 : Int32)).bind fun (r : Int32) => if r = 0 then NO else NO) = NO := by
  have s := stp hk hc hC a NO NO
  by_cases h : k ≤ c ∨ Num a 400
  · exact s.1 h
  · exact s.2 h
theorem tldN {α : Type} (a : Int32) (NO : Option α) : ((fX5_isTold a (400 : Int32)).bind fun (r : Int32) => if r = 0 then NO else NO) = NO := by
  rcases num_cases a (400 : Int32) (by decide) with ⟨-, g2, g3⟩ | ⟨-, g2, g3⟩
  · rw [g2, bn0]
  · rw [g2, bn1]
def fAll (k : Nat) (a2 a3 a4 a5 a6 : Int32) : Prop := Num a2 400 ∧ (k ≤ 1 ∨ Num a3 400) ∧ (k ≤ 2 ∨ Num a4 400) ∧ (k ≤ 3 ∨ Num a5 400) ∧ (k ≤ 4 ∨ Num a6 400)
def rw5 (rw : Nat → Int32) (j : Nat) (a2 a3 a4 a5 a6 : Int32) : Nat → Int32 := upd (upd (upd (upd (upd rw (6 * j) a2) (6 * j + 1) a3) (6 * j + 2) a4) (6 * j + 3) a5) (6 * j + 4) a6
theorem form_101 {j : Nat} (hj : j < 4) (b a2 a3 a4 a5 a6 : Int32) (sz rw : Nat → Int32) : kX5_form_101 (nI j) b a2 a3 a4 a5 a6 sz rw = some (b, upd sz j b, rw5 rw j a2 a3 a4 a5 a6) := by
  have m : ∀ i : Nat, i < 6 → ¬ (nI (6 * j + i) < 0 ∨ 24 ≤ (nI (6 * j + i)).toNatClampNeg) := fun i hi => g_ok (by omega) (by omega)
  have e0 : (6 : Int32) * nI j = nI (6 * j + 0) := by
    show nI 6 * nI j = _
    rw [pk_mul]
    rfl
  have e1 : (6 : Int32) * nI j + (1 : Int32) = nI (6 * j + 1) := six j 1
  have e2 : (6 : Int32) * nI j + (2 : Int32) = nI (6 * j + 2) := six j 2
  have e3 : (6 : Int32) * nI j + (3 : Int32) = nI (6 * j + 3) := six j 3
  have e4 : (6 : Int32) * nI j + (4 : Int32) = nI (6 * j + 4) := six j 4
  unfold kX5_form_101 rw5
  rw [e1, e2, e3, e4, e0, if_pos (g_ok hj (by omega)), if_pos (m 0 (by decide)), if_pos (m 1 (by decide)), if_pos (m 2 (by decide)), if_pos (m 3 (by decide)), if_pos (m 4 (by decide)), nI_cl (j := j) (by omega), nI_cl (j := 6 * j + 0) (by omega), nI_cl (j := 6 * j + 1) (by omega), nI_cl (j := 6 * j + 2) (by omega), nI_cl (j := 6 * j + 3) (by omega), nI_cl (j := 6 * j + 4) (by omega), Nat.add_zero]
theorem form_r {j k : Nat} (hj : j < 4) (k1 : 1 ≤ k) (k5 : k ≤ 5) (a2 a3 a4 a5 a6 : Int32) (sz rw : Nat → Int32) : (fAll k a2 a3 a4 a5 a6 → fX5_form sz rw (nI j) (nI k) a2 a3 a4 a5 a6 = some (nI k, upd sz j (nI k), rw5 rw j a2 a3 a4 a5 a6)) ∧ (¬ fAll k a2 a3 a4 a5 a6 → fX5_form sz rw (nI j) (nI k) a2 a3 a4 a5 a6 = some (-3, sz, rw)) := by
  obtain ⟨q, hq⟩ : ∃ q, q = kX5_form_101 (nI j) (nI k) a2 a3 a4 a5 a6 sz rw := ⟨_, rfl⟩
  rw [← form_101 hj, ← hq]
  have hs : fX5_isShelf (nI j) = some 1 := by
    rcases shelf_cases (nI j) with ⟨-, w⟩ | ⟨i, -, w, -, w2⟩
    · rcases (by omega : j = 0 ∨ j = 1 ∨ j = 2 ∨ j = 3) with rfl | rfl | rfl | rfl <;> exact absurd w (by decide)
    · rw [w]; exact w2
  have o : (1 : Int64).toInt = 1 := rfl
  have o5 : (5 : Int64).toInt = 5 := rfl
  unfold fX5_form
  rw [hs, bn1, in_1 (by rw [i2l, c32 k (by omega), o]; omega) (by rw [i2l, c32 k (by omega), o5]; omega), bn1]
  unfold kX5_form_50 kX5_form_66 kX5_form_82
  rw [← hq]
  unfold fAll
  have s4 := stp (k := k) (c := 4) (by omega) (by decide) (C := 4) rfl a6 q (some (-3, sz, rw))
  by_cases c4 : k ≤ 4 ∨ Num a6 400
  · rw [s4.1 c4]
    have s3 := stp (k := k) (c := 3) (by omega) (by decide) (C := 3) rfl a5 q (some (-3, sz, rw))
    by_cases c3 : k ≤ 3 ∨ Num a5 400
    · rw [s3.1 c3]
      have s2 := stp (k := k) (c := 2) (by omega) (by decide) (C := 2) rfl a4 q (some (-3, sz, rw))
      by_cases c2 : k ≤ 2 ∨ Num a4 400
      · rw [s2.1 c2]
        have s1 := stp (k := k) (c := 1) (by omega) (by decide) (C := 1) rfl a3 q (some (-3, sz, rw))
        by_cases c1 : k ≤ 1 ∨ Num a3 400
        · rw [s1.1 c1]
          rcases num_cases a2 (400 : Int32) (by decide) with ⟨-, g2, g3⟩ | ⟨-, g2, g3⟩
          · rw [g2, bn0]
            exact ⟨fun w => absurd w.1 g3, fun _ => rfl⟩
          · rw [g2, bn1]
            exact ⟨fun _ => rfl, fun w => absurd ⟨g3, c1, c2, c3, c4⟩ w⟩
        · rw [s1.2 c1, tldN]
          exact ⟨fun w => absurd w.2.1 c1, fun _ => rfl⟩
      · rw [s2.2 c2, stpN (k := k) (by omega) (c := 1) (by decide) (C := (1 : Int32)) rfl, tldN]
        exact ⟨fun w => absurd w.2.2.1 c2, fun _ => rfl⟩
    · rw [s3.2 c3, stpN (k := k) (by omega) (c := 2) (by decide) (C := (2 : Int32)) rfl, stpN (k := k) (by omega) (c := 1) (by decide) (C := (1 : Int32)) rfl, tldN]
      exact ⟨fun w => absurd w.2.2.2.1 c3, fun _ => rfl⟩
  · rw [s4.2 c4, stpN (k := k) (by omega) (c := 3) (by decide) (C := (3 : Int32)) rfl, stpN (k := k) (by omega) (c := 2) (by decide) (C := (2 : Int32)) rfl, stpN (k := k) (by omega) (c := 1) (by decide) (C := (1 : Int32)) rfl, tldN]
    exact ⟨fun w => absurd w.2.2.2.2 c4, fun _ => rfl⟩
theorem rw5_at (rw : Nat → Int32) (j : Nat) (a2 a3 a4 a5 a6 : Int32) : rw5 rw j a2 a3 a4 a5 a6 (6 * j + 0) = a2 ∧ rw5 rw j a2 a3 a4 a5 a6 (6 * j + 1) = a3 ∧ rw5 rw j a2 a3 a4 a5 a6 (6 * j + 2) = a4 ∧ rw5 rw j a2 a3 a4 a5 a6 (6 * j + 3) = a5 ∧ rw5 rw j a2 a3 a4 a5 a6 (6 * j + 4) = a6 := by
  unfold rw5 upd
  refine ⟨?_, ?_, ?_, ?_, ?_⟩
  · rw [if_neg (by omega), if_neg (by omega), if_neg (by omega), if_neg (by omega), if_pos (by omega)]
  · rw [if_neg (by omega), if_neg (by omega), if_neg (by omega), if_pos (by omega)]
  · rw [if_neg (by omega), if_neg (by omega), if_pos (by omega)]
  · rw [if_neg (by omega), if_pos (by omega)]
  · rw [if_pos (by omega)]
theorem rw5_off (rw : Nat → Int32) {i j x : Nat} (hx : x ≤ 5) (hij : ¬ i = j) (a2 a3 a4 a5 a6 : Int32) : rw5 rw j a2 a3 a4 a5 a6 (6 * i + x) = rw (6 * i + x) := by
  unfold rw5 upd
  rw [if_neg (by omega), if_neg (by omega), if_neg (by omega), if_neg (by omega), if_neg (by omega)]
theorem P_form (hR : Rel n f tr sz rw tm) {gf : Nat → Int32} : ∀ (a0 a1 a2 a3 a4 a5 a6 : Int32), ∃ r gf2 n2 f2 sz2 rw2, fX4_form n f gf a0 a1 a2 a3 a4 a5 a6 = some (r, gf2, n2, f2) ∧ fX5_form sz rw a0 a1 a2 a3 a4 a5 a6 = some (r, sz2, rw2) ∧ Rel n2 f2 tr sz2 rw2 tm := by
  intro a0 a1 a2 a3 a4 a5 a6
  have t1 : (1 : Int32).toInt = 1 := rfl
  have t5 : (5 : Int32).toInt = 5 := rfl
  have l1 : (1 : Int64).toInt = 1 := rfl
  have l5 : (5 : Int64).toInt = 5 := rfl
  rcases shelf_cases a0 with ⟨h1, h2⟩ | ⟨j, hj, rfl, h1, h2⟩
  · unfold fX4_form fX5_form
    rw [h1, h2, bn0, bn0]
    exact ⟨_, _, _, _, _, _, rfl, rfl, hR⟩
  by_cases hk : 1 ≤ a1.toInt ∧ a1.toInt ≤ 5
  · obtain ⟨k, hk', rfl⟩ := of_rng (x := a1) (k := 6) (by omega) (by omega) (by decide)
    rw [c32 k (by omega)] at hk
    obtain ⟨r1, r2⟩ := form_r hj (k := k) (by omega) (by omega) a2 a3 a4 a5 a6 sz rw
    unfold fX4_form
    rw [h1, bn1, if_neg (by rw [i_lt, c32 k (by omega), t1]; omega), if_pos (by rw [i_le, c32 k (by omega), t5]; omega)]
    obtain ⟨G, hG⟩ : ∃ G, G = upd (upd (upd (upd (upd gf (0 : Int32).toNatClampNeg a2) (1 : Int32).toNatClampNeg a3) (2 : Int32).toNatClampNeg a4) (3 : Int32).toNatClampNeg a5) (4 : Int32).toNatClampNeg a6 := ⟨_, rfl⟩
    have g0 : G 0 = a2 := by rw [hG]; rfl
    have g1 : G 1 = a3 := by rw [hG]; rfl
    have g2 : G 2 = a4 := by rw [hG]; rfl
    have g3 : G 3 = a5 := by rw [hG]; rfl
    have g4 : G 4 = a6 := by rw [hG]; rfl
    rw [← hG]
    obtain ⟨c1, c2⟩ := form_c hj (k := k) (by omega) G n f k 0 1100 (by omega) (by omega)
    by_cases hA : fAll k a2 a3 a4 a5 a6
    · have hB : ∀ x, 0 ≤ x → x < k → Num (G x) 400 := by
        intro x _ hx
        obtain ⟨q0, q1, q2, q3, q4⟩ := hA
        rcases (by omega : x = 0 ∨ x = 1 ∨ x = 2 ∨ x = 3 ∨ x = 4) with rfl | rfl | rfl | rfl | rfl
        · rw [g0]; exact q0
        · rw [g1]; exact q1.resolve_left (by omega)
        · rw [g2]; exact q2.resolve_left (by omega)
        · rw [g3]; exact q3.resolve_left (by omega)
        · rw [g4]; exact q4.resolve_left (by omega)
      obtain ⟨f', d1, d2⟩ := c1 hB
      refine ⟨_, _, _, _, _, _, d1, r1 hA, hR.1, ?_⟩
      intro i hi
      unfold up1
      by_cases hij : i = j
      · subst hij
        refine ⟨k, by omega, by omega, if_pos rfl, (by unfold upd; exact if_pos rfl), ?_⟩
        intro x hx
        rw [if_pos rfl, d2 x hx]
        obtain ⟨w0, w1, w2⟩ := hB x (by omega) hx
        refine ⟨?_, w0, w1, w2⟩
        obtain ⟨v0, v1, v2, v3, v4⟩ := rw5_at rw i a2 a3 a4 a5 a6
        rcases (by omega : x = 0 ∨ x = 1 ∨ x = 2 ∨ x = 3 ∨ x = 4) with rfl | rfl | rfl | rfl | rfl
        · rw [g0]; exact v0.symm
        · rw [g1]; exact v1.symm
        · rw [g2]; exact v2.symm
        · rw [g3]; exact v3.symm
        · rw [g4]; exact v4.symm
      · obtain ⟨m, m1, m5, d1, d2, d3⟩ := hR.2 i hi
        refine ⟨m, m1, m5, ?_, ?_, ?_⟩
        · rw [if_neg hij]; exact d1
        · unfold upd; rw [if_neg hij]; exact d2
        · intro x hx
          rw [if_neg hij, rw5_off rw (by omega) hij]
          exact d3 x hx
    · have hB : ∃ x, 0 ≤ x ∧ x < k ∧ ¬ Num (G x) 400 := by
        by_cases q0 : Num a2 400
        · by_cases q1 : k ≤ 1 ∨ Num a3 400
          · by_cases q2 : k ≤ 2 ∨ Num a4 400
            · by_cases q3 : k ≤ 3 ∨ Num a5 400
              · by_cases q4 : k ≤ 4 ∨ Num a6 400
                · exact absurd ⟨q0, q1, q2, q3, q4⟩ hA
                · exact ⟨4, by omega, by have := fun w => q4 (Or.inl w); omega, by rw [g4]; exact fun w => q4 (Or.inr w)⟩
              · exact ⟨3, by omega, by have := fun w => q3 (Or.inl w); omega, by rw [g3]; exact fun w => q3 (Or.inr w)⟩
            · exact ⟨2, by omega, by have := fun w => q2 (Or.inl w); omega, by rw [g2]; exact fun w => q2 (Or.inr w)⟩
          · exact ⟨1, by omega, by have := fun w => q1 (Or.inl w); omega, by rw [g1]; exact fun w => q1 (Or.inr w)⟩
        · exact ⟨0, by omega, by omega, by rw [g0]; exact q0⟩
      exact ⟨_, _, _, _, _, _, c2 hB, r2 hA, hR⟩
  · unfold fX4_form fX5_form
    rw [h1, h2, bn1, bn1, in_0 (by rw [i2l, l1, l5]; exact hk), bn0]
    refine ⟨-3, gf, n, f, _, _, ?_, rfl, hR⟩
    by_cases q : a1 < (1 : Int32)
    · rw [if_pos q]
    · rw [if_neg q, if_neg (by rw [i_lt, t1] at q; rw [i_le, t5]; omega)]
end PURE4
