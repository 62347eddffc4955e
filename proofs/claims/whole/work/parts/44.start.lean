/-! the start of the law -/
theorem k_arrays {s : State} {args : Array Value} (hi : (Cond.arrayClass .int).before args s = true) (hf : (Cond.arrayOver (.object "RingForms$Form")).before args s = true) : ∃ cI cF : ClassId, ∀ (k : Nat) (q : ClassId × FieldType), ([(cI, .int), (cF, .object "RingForms$Form")] : List (ClassId × FieldType))[k]? = some q → ArrOfT s q.1 q.2 ∧ va_RA s q.1 q.2 := by
  obtain ⟨cI, kI, compI, h1, h2, h3⟩ := Cond.arrayClass_spec hi
  obtain ⟨comp, cF, kF, g1, g2, g3, g4, g5⟩ := Cond.arrayOver_spec hf
  refine ⟨cI, cF, fun k q hq => ?_⟩
  match k, hq with
  | 0, hq => cases hq; exact ⟨fun n z => ⟨fun k h => (by cases h), kI, h2, compI, h3⟩, h1⟩
  | 1, hq => cases hq; exact ⟨fun n z => ⟨fun k h => (by cases h), kF, g3, comp, g4⟩, kF, comp, g3, g4, g1, g5⟩
  | k + 2, hq => simp at hq
theorem k_classes {s : State} {args : Array Value} (hts : ∀ w ∈ lw_tbl, w.before args s = true) : ∃ G : va_G, ∀ (k : Nat) (q : vw_C), vwCl[k]? = some q → u_Kn s q.1 q.2.1 q.2.2 (G.1 k) (G.2 k) := by
  obtain ⟨c0, i0, h0⟩ := u_known (C := RX0) (T := TX0) (N := 2) (n := 2) hts (fun w h => tb_in w (inX0 w h)) (hts _ (tb_in _ w_18))
  obtain ⟨c1, i1, h1⟩ := u_known (C := RX3) (T := TX3) (N := 5) (n := 5) hts (fun w h => tb_in w (inX3 w h)) (hts _ (tb_in _ w_34))
  obtain ⟨c2, i2, h2⟩ := u_known (C := RX4) (T := TX4) (N := 5) (n := 5) hts (fun w h => tb_in w (inX4 w h)) (hts _ (tb_in _ w_9))
  obtain ⟨c3, i3, h3⟩ := u_known (C := RX5) (T := TX5) (N := 10) (n := 10) hts (fun w h => tb_in w (inX5 w h)) (hts _ (tb_in _ w_314))
  refine ⟨(fun k => match k with | 0 => c0 | 1 => c1 | 2 => c2 | _ => c3, fun k => match k with | 0 => i0 | 1 => i1 | 2 => i2 | _ => i3), fun k q hq => ?_⟩
  match k, hq with
  | 0, hq => cases hq; exact h0
  | 1, hq => cases hq; exact h1
  | 2, hq => cases hq; exact h2
  | 3, hq => cases hq; exact h3
  | k + 4, hq => simp [vwCl] at hq
