/-! both searches go in step -/
def zI (i : Nat) : Int32 := Int32.ofInt ((i : Int) - 30)
theorem zI_v {i : Nat} (h : i ≤ 61) : (zI i).toInt = (i : Int) - 30 := by
  unfold zI
  rw [Int32.toInt_ofInt, i_bm (by omega) (by omega)]
theorem zI_1 {i : Nat} (h : i ≤ 60) : zI i + (1 : Int32) = zI (i + 1) := by
  have o : (1 : Int32).toInt = 1 := rfl
  rw [i_eq, i_add (by rw [zI_v (by omega), o]; omega) (by rw [zI_v (by omega), o]; omega), zI_v (by omega), zI_v (by omega), o]
  omega
theorem zI_0 : zI 0 = (-30 : Int32) := by decide
theorem zI_near {i : Nat} (h : i ≤ 60) : Near (zI i) := by
  unfold Near
  rw [zI_v (by omega)]
  omega
theorem zI_end {i : Nat} (h : i ≤ 60) : ¬ (30 : Int32) < zI i := by
  rw [i_lt, zI_v (by omega)]
  show ¬ (30 : Int) < _
  omega
theorem zI_pos {w : Nat} (h : w ≤ 30) : zI (30 + w) = nI w := by
  rw [i_eq, zI_v (by omega), c32 w (by omega)]
  omega
theorem zI_neg {w : Nat} (h : w ≤ 30) : zI (30 - w) = -nI w := by
  rw [i_eq, zI_v (by omega), i_neg (by rw [c32 w (by omega)]; omega), c32 w (by omega)]
  omega
/-- the class's and the reference's books agree -/
def SR (s0 s1 s2 s3 s4 bx by_ bz bm so : Int32) : Prop := s0 = so ∧ (so ≠ 0 → s1 = bm ∧ s2 = bx ∧ s3 = by_ ∧ s4 = bz)
abbrev KT : Type := Int32 → Int32 → Int32 → Int32 → Int32 → Int32 → Option (Int32 × Int32 × Int32 × Int32 × Int32)
section SEEK
variable {f rw sz : Nat → Int32} {j k : Nat} {x y : Int32}
theorem sk_no (h : Row f rw j 3) (hx : Near x) (hy : Near y) {K : KT} {i : Nat} (hi : i ≤ 60) (hs : ¬ Sol f x y (zI i)) {fu : Nat} {bx by_ bz bm so : Int32} : kX5_seeks_28 sz rw (nI j) (nI k) x y K (fu + 1) (zI i) bx by_ bz bm so = kX5_seeks_28 sz rw (nI j) (nI k) x y K fu (zI (i + 1)) bx by_ bz bm so := by
  rw [kX5_seeks_28, if_neg (zI_end hi)]
  rcases isSol_v (sz := sz) h hx hy (zI_near hi) with ⟨h1, h2⟩ | ⟨h1, h2⟩
  · exact absurd h2 hs
  · rw [h1, Option.bind_some, if_pos rfl, zI_1 hi]
theorem sk_skip (h : Row f rw j 3) (hx : Near x) (hy : Near y) {K : KT} : ∀ (c i : Nat), i + c ≤ 61 → (∀ i', i ≤ i' → i' < i + c → ¬ Sol f x y (zI i')) → ∀ {bx by_ bz bm so : Int32}, kX5_seeks_28 sz rw (nI j) (nI k) x y K (1100 - i) (zI i) bx by_ bz bm so = kX5_seeks_28 sz rw (nI j) (nI k) x y K (1100 - (i + c)) (zI (i + c)) bx by_ bz bm so := by
  intro c
  induction c with
  | zero => intro i hi hs bx by_ bz bm so; rfl
  | succ c ih =>
    intro i hi hs bx by_ bz bm so
    rw [show 1100 - i = (1100 - (i + 1)) + 1 by omega, sk_no h hx hy (by omega) (hs i (Nat.le_refl i) (by omega)), ih (i + 1) (by omega) (fun i' h1 h2 => hs i' (by omega) (by omega)), show i + 1 + c = i + (c + 1) by omega]
/-- at a number z where the form is 0: both do the same -/
theorem sk_at (h : Row f rw j 3) (hk : k < 3) (hx : Near x) (hy : Near y) {K : KT} {i : Nat} (hi : i ≤ 60) (hW : Wz f x.toInt y.toInt (zI i).toInt = 0) {fu : Nat} {s0 s1 s2 s3 s4 bx by_ bz bm so : Int32} (hR : SR s0 s1 s2 s3 s4 bx by_ bz bm so) : ∃ t0 t1 t2 t3 t4 cx cy cz cm co, fX3_meet s0 s1 s2 s3 s4 (nI k) x y (zI i) = some (t0, t1, t2, t3, t4) ∧ kX5_seeks_28 sz rw (nI j) (nI k) x y K (fu + 1) (zI i) bx by_ bz bm so = kX5_seeks_28 sz rw (nI j) (nI k) x y K fu (zI (i + 1)) cx cy cz cm co ∧ SR t0 t1 t2 t3 t4 cx cy cz cm co := by
  rcases isReduced_v x y (zI i) with ⟨r1, r2⟩ | ⟨r1, r2⟩
  · obtain ⟨m, m1, m2⟩ := mea_ok hk x y (zI i)
    have hsol : fX5_isSolution sz rw (nI j) x y (zI i) = some 1 := by
      rcases isSol_v (sz := sz) h hx hy (zI_near hi) with ⟨h1, h2⟩ | ⟨h1, h2⟩
      · exact h1
      · exact absurd ⟨r2, hW⟩ h2
    obtain ⟨e0, e1⟩ := hR
    subst e0
    unfold fX3_meet kX3_meet_37 kX3_meet_59
    rw [r1, Option.bind_some, if_neg (show ¬ (1 : Int32) = 0 by decide), m1, Option.bind_some, kX5_seeks_28, if_neg (zI_end hi), hsol, Option.bind_some, if_neg (show ¬ (1 : Int32) = 0 by decide), m2, Option.bind_some]
    unfold kX5_seeks_75 kX5_seeks_98
    rw [zI_1 hi]
    by_cases hs : s0 = 0
    · rw [if_pos hs, if_pos hs]
      exact ⟨_, _, _, _, _, _, _, _, _, _, rfl, rfl, rfl, fun _ => ⟨rfl, rfl, rfl, rfl⟩⟩
    · obtain ⟨q1, q2, q3, q4⟩ := e1 hs
      subst q1; subst q2; subst q3; subst q4
      rw [if_neg hs, if_neg hs]
      by_cases hm : s1 ≤ m
      · rw [if_pos hm, if_pos hm]
        exact ⟨_, _, _, _, _, _, _, _, _, _, rfl, rfl, rfl, fun _ => ⟨rfl, rfl, rfl, rfl⟩⟩
      · rw [if_neg hm, if_neg hm]
        exact ⟨_, _, _, _, _, _, _, _, _, _, rfl, rfl, rfl, fun _ => ⟨rfl, rfl, rfl, rfl⟩⟩
  · unfold fX3_meet
    rw [r1, Option.bind_some, if_pos rfl, sk_no h hx hy hi (fun q => r2 q.1)]
    exact ⟨_, _, _, _, _, _, _, _, _, _, rfl, rfl, hR⟩
theorem sq_pm {w z : Int} (h : w * w = z * z) : w = z ∨ w = -z := by
  have e : (w - z) * (w + z) = 0 := by
    rw [Int.sub_mul, Int.mul_add, Int.mul_add, h, Int.mul_comm w z]
    omega
  rcases Int.mul_eq_zero.mp e with q | q
  · left; omega
  · right; omega
theorem W_pm (h : Row f rw j 3) {x y : Int} {w : Nat} {z : Int} (h1 : Wz f x y (w : Int) = 0) : Wz f x y z = 0 ↔ z = (w : Int) ∨ z = -(w : Int) := by
  obtain ⟨-, c1, c2, c3⟩ := h.2.2 2 (by decide)
  have hc2 := ne_int c1
  unfold Wz at *
  constructor
  · intro q
    have e : (f 2).toInt * (z * z) = (f 2).toInt * ((w : Int) * w) := by
      rw [← Int.mul_assoc, ← Int.mul_assoc]; omega
    exact sq_pm (Int.eq_of_mul_eq_mul_left hc2 e)
  · intro q
    rcases q with rfl | rfl
    · exact h1
    · have e : (f 2).toInt * -(w : Int) * -(w : Int) = (f 2).toInt * (w : Int) * w := by
        rw [Int.mul_neg, Int.mul_neg, Int.neg_mul, Int.neg_neg]
      omega
theorem W_abs (f : Nat → Int32) (x y z : Int) : Wz f x y z = Wz f x y (z.natAbs : Int) := by
  unfold Wz
  rcases Int.natAbs_eq z with q | q
  · rw [← q]
  · have e : (f 2).toInt * z * z = (f 2).toInt * (z.natAbs : Int) * (z.natAbs : Int) := by
      conv => lhs; rw [q]
      rw [Int.mul_neg, Int.mul_neg, Int.neg_mul, Int.neg_neg]
    omega
/-- one turn for x and y -/
theorem xy_step (h : Row f rw j 3) (hk : k < 3) (hx : Near x) (hy : Near y) {Kc Kr : KT} {s0 s1 s2 s3 s4 bx by_ bz bm so : Int32} (hR : SR s0 s1 s2 s3 s4 bx by_ bz bm so) : ∃ t0 t1 t2 t3 t4 cx cy cz cm co, SR t0 t1 t2 t3 t4 cx cy cz cm co ∧ ((fX0_thirdFor (nI 3) f x y).bind fun (r1 : Int32) => (if r1 ≤ 0 then kX3_run_49 (nI k) x y Kc r1 s0 s1 s2 s3 s4 else (fX3_meet s0 s1 s2 s3 s4 (nI k) x y (-r1)).bind fun (s0v10, s1v11, s2v12, s3v13, s4v14) => kX3_run_49 (nI k) x y Kc r1 s0v10 s1v11 s2v12 s3v13 s4v14)) = Kc (y + (1 : Int32)) t0 t1 t2 t3 t4 ∧ kX5_seeks_28 sz rw (nI j) (nI k) x y Kr 1100 (-30 : Int32) bx by_ bz bm so = Kr (y + (1 : Int32)) cx cy cz cm co := by
  have fin : ∀ {bx by_ bz bm so : Int32}, kX5_seeks_28 sz rw (nI j) (nI k) x y Kr (1100 - 61) (zI 61) bx by_ bz bm so = Kr (y + (1 : Int32)) bx by_ bz bm so := by
    intro bx by_ bz bm so
    rw [show 1100 - 61 = 1038 + 1 from rfl, kX5_seeks_28, if_pos (by decide)]
  have st : (1100 : Nat) = 1100 - 0 := rfl
  rcases third_v h hx hy with ⟨w, w1, w2, w3⟩ | ⟨w2, w3⟩
  · have hsol : ∀ i, i ≤ 60 → i ≠ 30 - w → i ≠ 30 + w → ¬ Sol f x y (zI i) := by
      intro i hi n1 n2 q
      have := (W_pm h w3).mp q.2
      rw [zI_v (by omega)] at this
      omega
    rw [w2, Option.bind_some]
    by_cases w0 : w = 0
    · subst w0
      rw [if_pos (by decide)]
      unfold kX3_run_49
      rw [if_neg (by decide)]
      have hat : Wz f x.toInt y.toInt (zI 30).toInt = 0 := by rw [zI_v (by decide)]; exact w3
      obtain ⟨t0, t1, t2, t3, t4, cx, cy, cz, cm, co, m1, m2, m3⟩ := sk_at (sz := sz) h hk hx hy (K := Kr) (i := 30) (by decide) hat (fu := 1100 - 31) hR
      refine ⟨t0, t1, t2, t3, t4, cx, cy, cz, cm, co, m3, ?_, ?_⟩
      · rw [show nI 0 = zI 30 from (zI_pos (w := 0) (by decide)).symm, m1]
        rfl
      · rw [← zI_0, st, sk_skip h hx hy 30 0 (by decide) (fun i' _ h2 => hsol i' (by omega) (by omega) (by omega))]
        refine Eq.trans m2 ?_
        rw [sk_skip h hx hy 30 31 (by decide) (fun i' h1 h2 => hsol i' (by omega) (by omega) (by omega))]
        exact fin
    · rw [if_neg (by rw [i_le, c32 w (by omega)]; show ¬ (w : Int) ≤ 0; omega)]
      have ha1 : Wz f x.toInt y.toInt (zI (30 - w)).toInt = 0 := by
        rw [zI_v (by omega)]
        exact (W_pm h w3).mpr (by omega)
      have ha2 : Wz f x.toInt y.toInt (zI (30 + w)).toInt = 0 := by
        rw [zI_v (by omega)]
        exact (W_pm h w3).mpr (by omega)
      obtain ⟨t0, t1, t2, t3, t4, cx, cy, cz, cm, co, m1, m2, m3⟩ := sk_at (sz := sz) h hk hx hy (K := Kr) (i := 30 - w) (by omega) ha1 (fu := 1100 - (30 - w + 1)) hR
      obtain ⟨v0, v1, v2, v3, v4, dx, dy, dz, dm, dO, n1, n2, n3⟩ := sk_at (sz := sz) h hk hx hy (K := Kr) (i := 30 + w) (by omega) ha2 (fu := 1100 - (30 + w + 1)) m3
      refine ⟨v0, v1, v2, v3, v4, dx, dy, dz, dm, dO, n3, ?_, ?_⟩
      · rw [← zI_neg w1, m1]
        show kX3_run_49 (nI k) x y Kc (nI w) t0 t1 t2 t3 t4 = _
        unfold kX3_run_49
        rw [if_neg (by rw [i_lt, c32 w (by omega)]; show ¬ (w : Int) < 0; omega), ← zI_pos w1, n1]
        rfl
      · rw [← zI_0, st, sk_skip h hx hy (30 - w) 0 (by omega) (fun i' _ h2 => hsol i' (by omega) (by omega) (by omega)), Nat.zero_add]
        rw [show 1100 - (30 - w) = (1100 - (30 - w + 1)) + 1 by omega]
        refine Eq.trans m2 ?_
        rw [sk_skip h hx hy (2 * w - 1) (30 - w + 1) (by omega) (fun i' h1 h2 => hsol i' (by omega) (by omega) (by omega)), show 30 - w + 1 + (2 * w - 1) = 30 + w by omega, show 1100 - (30 + w) = (1100 - (30 + w + 1)) + 1 by omega]
        refine Eq.trans n2 ?_
        rw [sk_skip h hx hy (30 - w) (30 + w + 1) (by omega) (fun i' h1 h2 => hsol i' (by omega) (by omega) (by omega)), show 30 + w + 1 + (30 - w) = 61 by omega]
        exact fin
  · have hsol : ∀ i, i ≤ 60 → ¬ Sol f x y (zI i) := by
      intro i hi q
      have h1 := q.2
      rw [W_abs] at h1
      have hn := zI_near hi
      exact w3 (zI i).toInt.natAbs (by have := hn.1; have := hn.2; omega) h1
    refine ⟨s0, s1, s2, s3, s4, bx, by_, bz, bm, so, hR, ?_, ?_⟩
    · rw [w2, Option.bind_some, if_pos (by decide)]
      unfold kX3_run_49
      rw [if_pos (by decide)]
    · rw [← zI_0, st, sk_skip h hx hy 61 0 (by decide) (fun i' _ h2 => hsol i' (by omega))]
      exact fin
theorem y_loop (h : Row f rw j 3) (hk : k < 3) (hx : Near x) {Kc Kr : KT} : ∀ (c i fc fr : Nat) (s0 s1 s2 s3 s4 bx by_ bz bm so : Int32), i + c = 61 → c < fc → c < fr → SR s0 s1 s2 s3 s4 bx by_ bz bm so → ∃ t0 t1 t2 t3 t4 cx cy cz cm co, SR t0 t1 t2 t3 t4 cx cy cz cm co ∧ kX3_run_17 (nI 3) f (nI k) x Kc fc (zI i) s0 s1 s2 s3 s4 = Kc (x + (1 : Int32)) t0 t1 t2 t3 t4 ∧ kX5_seeks_17 sz rw (nI j) (nI k) x Kr fr (zI i) bx by_ bz bm so = Kr (x + (1 : Int32)) cx cy cz cm co := by
  intro c
  induction c with
  | zero =>
    intro i fc fr s0 s1 s2 s3 s4 bx by_ bz bm so hi hc hr hR
    obtain ⟨fc, rfl⟩ : ∃ z, fc = z + 1 := ⟨fc - 1, by omega⟩
    obtain ⟨fr, rfl⟩ : ∃ z, fr = z + 1 := ⟨fr - 1, by omega⟩
    obtain rfl : i = 61 := by omega
    refine ⟨s0, s1, s2, s3, s4, bx, by_, bz, bm, so, hR, ?_, ?_⟩
    · rw [kX3_run_17, if_pos (by decide)]
    · rw [kX5_seeks_17, if_pos (by decide)]
  | succ c ih =>
    intro i fc fr s0 s1 s2 s3 s4 bx by_ bz bm so hi hc hr hR
    obtain ⟨fc, rfl⟩ : ∃ z, fc = z + 1 := ⟨fc - 1, by omega⟩
    obtain ⟨fr, rfl⟩ : ∃ z, fr = z + 1 := ⟨fr - 1, by omega⟩
    obtain ⟨t0, t1, t2, t3, t4, cx, cy, cz, cm, co, m1, m2, m3⟩ := xy_step (sz := sz) h hk hx (zI_near (i := i) (by omega)) (Kc := kX3_run_17 (nI 3) f (nI k) x Kc fc) (Kr := kX5_seeks_17 sz rw (nI j) (nI k) x Kr fr) hR
    obtain ⟨v0, v1, v2, v3, v4, dx, dy, dz, dm, dO, n1, n2, n3⟩ := ih (i + 1) fc fr t0 t1 t2 t3 t4 cx cy cz cm co (by omega) (by omega) (by omega) m1
    refine ⟨v0, v1, v2, v3, v4, dx, dy, dz, dm, dO, n1, ?_, ?_⟩
    · rw [kX3_run_17, if_neg (zI_end (by omega))]
      rw [zI_1 (by omega)] at m2
      exact Eq.trans m2 n2
    · rw [kX5_seeks_17, if_neg (zI_end (by omega))]
      rw [zI_1 (by omega)] at m3
      exact Eq.trans m3 n3
theorem x_loop (h : Row f rw j 3) (hk : k < 3) : ∀ (c i fc fr : Nat) (s0 s1 s2 s3 s4 bx by_ bz bm so : Int32), i + c = 31 → c < fc → c < fr → SR s0 s1 s2 s3 s4 bx by_ bz bm so → ∃ t0 t1 t2 t3 t4 cx cy cz cm co, SR t0 t1 t2 t3 t4 cx cy cz cm co ∧ kX3_run_7 (nI 3) f (nI k) fc (nI i) s0 s1 s2 s3 s4 = some (t0, t1, t2, t3, t4) ∧ kX5_seeks_7 sz rw (nI j) (nI k) fr (nI i) bx by_ bz bm so = some (cx, cy, cz, cm, co) := by
  intro c
  induction c with
  | zero =>
    intro i fc fr s0 s1 s2 s3 s4 bx by_ bz bm so hi hc hr hR
    obtain ⟨fc, rfl⟩ : ∃ z, fc = z + 1 := ⟨fc - 1, by omega⟩
    obtain ⟨fr, rfl⟩ : ∃ z, fr = z + 1 := ⟨fr - 1, by omega⟩
    obtain rfl : i = 31 := by omega
    refine ⟨s0, s1, s2, s3, s4, bx, by_, bz, bm, so, hR, ?_, ?_⟩
    · rw [kX3_run_7, if_pos (by decide)]
    · rw [kX5_seeks_7, if_pos (by decide)]
  | succ c ih =>
    intro i fc fr s0 s1 s2 s3 s4 bx by_ bz bm so hi hc hr hR
    obtain ⟨fc, rfl⟩ : ∃ z, fc = z + 1 := ⟨fc - 1, by omega⟩
    obtain ⟨fr, rfl⟩ : ∃ z, fr = z + 1 := ⟨fr - 1, by omega⟩
    have hn : ¬ (30 : Int32) < nI i := by
      rw [i_lt, c32 i (by omega)]
      show ¬ (30 : Int) < i
      omega
    have hx : Near (nI i) := by
      unfold Near
      rw [c32 i (by omega)]
      omega
    obtain ⟨t0, t1, t2, t3, t4, cx, cy, cz, cm, co, m1, m2, m3⟩ := y_loop (sz := sz) h hk hx (Kc := kX3_run_7 (nI 3) f (nI k) fc) (Kr := kX5_seeks_7 sz rw (nI j) (nI k) fr) 61 0 1100 1100 s0 s1 s2 s3 s4 bx by_ bz bm so (by decide) (by decide) (by decide) hR
    rw [nI_1] at m2 m3
    obtain ⟨v0, v1, v2, v3, v4, dx, dy, dz, dm, dO, n1, n2, n3⟩ := ih (i + 1) fc fr t0 t1 t2 t3 t4 cx cy cz cm co (by omega) (by omega) (by omega) m1
    refine ⟨v0, v1, v2, v3, v4, dx, dy, dz, dm, dO, n1, ?_, ?_⟩
    · rw [kX3_run_7, if_neg hn, ← zI_0]
      exact Eq.trans m2 n2
    · rw [kX5_seeks_7, if_neg hn, ← zI_0]
      exact Eq.trans m3 n3
theorem seek_same (h : Row f rw j 3) (hk : k < 3) (s0 s1 s2 s3 s4 bx by_ bz bm so : Int32) : ∃ t0 t1 t2 t3 t4 cx cy cz cm co, SR t0 t1 t2 t3 t4 cx cy cz cm co ∧ fX3_run (nI 3) f s0 s1 s2 s3 s4 (nI k) = some (t0, t1, t2, t3, t4) ∧ fX5_seeks sz rw bx by_ bz bm so (nI j) (nI k) = some (cx, cy, cz, cm, co) := by
  unfold fX3_run fX5_seeks
  exact x_loop h hk 31 0 1100 1100 0 s1 s2 s3 s4 bx by_ bz bm 0 (by decide) (by decide) (by decide) ⟨rfl, fun q => absurd rfl q⟩
end SEEK
