abbrev lA (s : State) : Nat → Prop := fun q => s.heap.size ≤ q
/-- what stays: the cells of both sides are apart, and younger than the call -/
def Fix (s : State) (o sh xx xc gv se : Nat) (fa ca : Nat → Nat) (h0 hs hr : Nat) : Prop := (cAd o sh xx xc gv se fa ca).Nodup ∧ mAp h0 hs hr ∧ (∀ q, q ∈ cAd o sh xx xc gv se fa ca → ¬ mA h0 hs hr q) ∧ (∀ q, q ∈ cAd o sh xx xc gv se fa ca → lA s q) ∧ (∀ q, mA h0 hs hr q → lA s q) ∧ nwL s
def Idx (x3 : Int32) (L : Nat) : Prop := vp_in (x3 + (1 : Int32)) L ∧ vp_in (x3 + (2 : Int32)) L ∧ vp_in (x3 + (3 : Int32)) L ∧ vp_in (x3 + (4 : Int32)) L ∧ vp_in (x3 + (5 : Int32)) L ∧ vp_in (x3 + (6 : Int32)) L ∧ vp_in (x3 + (7 : Int32)) L ∧ vp_in (x3 + (8 : Int32)) L
theorem lg_self (r : Int64) : lg_cmp r r = 0 := by simp [lg_cmp]
theorem cB_keep {A : Nat → Prop} {G : va_G} {cI cF : ClassId} {tA tT o sh xx xc gv se : Nat} {fa ca : Nat → Nat} {n : Nat → Int32} {f : Nat → Nat → Int32} {xn : Int32} {xf gf : Nat → Int32} {s0 s1 s2 s3 s4 : Int32} {tr : Int64} {U : State} {H H1 : Heap} {M : Nat → Prop} (h : cB A G cI cF tA tT o sh xx xc gv se fa ca n f xn xf gf s0 s1 s2 s3 s4 tr U H) (hk : ∀ q : Nat, q < H.size → ¬ M q → H1[q]? = H[q]?) (hd : ∀ q, q ∈ cAd o sh xx xc gv se fa ca → ¬ M q) (hA : ∀ q, M q → A q) : cB A G cI cF tA tT o sh xx xc gv se fa ca n f xn xf gf s0 s1 s2 s3 s4 tr U H1 :=
  ⟨eB_kept h.1 (fun a h1 h2 => hk a h1 (fun q => h2 (hA a q))), h.2.kept (fun k q hq => hk q.1 (h.2 k q hq).lt (hd q.1 (List.mem_map.mpr ⟨q, List.mem_of_getElem? hq, rfl⟩)))⟩
theorem mB_keep {G : va_G} {h0 hs hr : Nat} {cI cF : ClassId} {tr : Int64} {sz rw : Nat → Int32} {bx by_ bz bm so : Int32} {U : State} {H H1 : Heap} {M : Nat → Prop} (h : mB G h0 hs hr cI cF tr sz rw bx by_ bz bm so U H) (hk : ∀ q : Nat, q < H.size → ¬ M q → H1[q]? = H[q]?) (hd : ∀ q, M q → ¬ mA h0 hs hr q) : mB G h0 hs hr cI cF tr sz rw bx by_ bz bm so U H1 := by
  obtain ⟨⟨th, ex, hP⟩, hK⟩ := h
  refine ⟨⟨th, ex, hP.kept (fun k q hq => hk q.1 (hP k q hq).lt (fun hm => hd q.1 hm ?_))⟩, hK⟩
  match k, hq with
  | 0, hq => cases hq; exact Or.inl rfl
  | 1, hq => cases hq; exact Or.inr (Or.inl rfl)
  | 2, hq => cases hq; exact Or.inr (Or.inr rfl)
  | k + 3, hq => simp [mW] at hq
theorem tb_in : ∀ w ∈ tb, w ∈ lw_tbl := fun w h => (tb_good w h).1
/-- behind a case: the next turn -/
def LCont (p : Program) (l : Launch) (e : Env) (s : State) (m : MethodId) (below : List Frame) (meth : Method) (c : Code) (b : Nat) (G : va_G) (cI cF : ClassId) (tA tT o sh xx xc gv se : Nat) (fa ca : Nat → Nat) (h0 hs hr : Nat) (x3 : Int32) : Prop :=
  ∀ (n : Nat → Int32) (f : Nat → Nat → Int32) (xn : Int32) (xf gf : Nat → Int32) (s0 s1 s2 s3 s4 : Int32) (tr tm : Int64) (sz rw : Nat → Int32) (bx by_ bz bm so : Int32) (H : Heap) (locs : List Loc) (ls : Array Slot), Rel n f tr sz rw tm → cB (lA s) G cI cF tA tT o sh xx xc gv se fa ca n f xn xf gf s0 s1 s2 s3 s4 tr s H → mB G h0 hs hr cI cF tm sz rw bx by_ bz bm so s H → va_S (lA s) s.heap H locs → lv_has ls 4 [(0, .ref b), (1, .ref o), (2, .ref h0), (3, .int x3)] → W p l e room_1 s m #[Value.ref b] below meth c H locs 17 97 (lw_Z below #[Value.ref b] s) (F0 m 913 ls [])
section LAW
variable {p : Program} {l : Launch} {e : Env} {s : State} {m : MethodId} {below : List Frame} {meth : Method} {c : Code} {b L : Nat} {xs : Nat → Int32} {G : va_G} {cI cF : ClassId} {tA tT o sh xx xc gv se : Nat} {fa ca : Nat → Nat} {h0 hs hr : Nat} {x3 : Int32}
variable {n : Nat → Int32} {f : Nat → Nat → Int32} {xn : Int32} {xf gf : Nat → Int32} {s0 s1 s2 s3 s4 : Int32} {tr tm : Int64} {sz rw : Nat → Int32} {bx by_ bz bm so : Int32} {H : Heap} {locs : List Loc} {ls : Array Slot}
set_option maxHeartbeats 4000000 in
set_option maxRecDepth 100000 in
theorem law_free (C0 : lw_At p s m meth c b L xs) (X : Fix s o sh xx xc gv se fa ca h0 hs hr) (hi : Idx x3 L) (K : LCont p l e s m below meth c b G cI cF tA tT o sh xx xc gv se fa ca h0 hs hr x3) (hR : Rel n f tr sz rw tm) (hC : cB (lA s) G cI cF tA tT o sh xx xc gv se fa ca n f xn xf gf s0 s1 s2 s3 s4 tr s H) (hM : mB G h0 hs hr cI cF tm sz rw bx by_ bz bm so s H) (hS : va_S (lA s) s.heap H locs) (hl : lv_has ls 4 [(0, .ref b), (1, .ref o), (2, .ref h0), (3, .int x3)]) : W p l e room_1 s m #[Value.ref b] below meth c H locs 17 97 (lw_Z below #[Value.ref b] s) (F0 m 128 ls []) := by
  obtain ⟨hx, hb, hret, hml, hown, hts, hX, hbl, hlocks, hgv⟩ := C0
  have hF : CallFix p m c code 4 s #[Value.ref b] lw_tbl RL := ⟨hx, hb, hml, hown, hts⟩
  have hbA : ¬ lA s b := Nat.not_le.mpr hbl
  obtain ⟨hnd, hap, hdis, hAc, hAm, hN⟩ := X
  obtain ⟨i1, i2, i3, i4, i5, i6, i7, i8⟩ := hi
  obtain ⟨r, ec, em⟩ := P_free hR  (xs (x3 + (1 : Int32)).toNatClampNeg)
  refine lv_aload_n hx hb dL_law_128 rfl (lv_at hl 1 rfl) ?_
  refine lv_aload_n hx hb dL_law_129 rfl (lv_at hl 0 rfl) ?_
  refine lv_iload_n hx hb dL_law_130 rfl (lv_at hl 3 rfl) ?_
  refine lv_iconst (v := (1 : Int32)) hx hb dL_law_131 (by decide) ?_
  refine lv_iadd hx hb dL_law_132 ?_
  refine va_sld hx hb hX hbl hbA hS i1 dL_law_133 ?_
  refine ro_V (As := [.int (xs (x3 + (1 : Int32)).toNatClampNeg)]) (rest := []) hF tb_in (cnX4_free l (lA s) G cI cF tA tT o sh xx xc gv se fa ca n f xn xf gf s0 s1 s2 s3 s4 tr ec) syX4_free w_76 ⟨Nat.le_of_ble_eq_true rfl, Nat.le_of_ble_eq_true rfl⟩ cB_mv hC (va_recv hC.1.1 hC.2 (ci := 2) (q0 := 0) rfl rfl) rfl hl.1 rfl (Nat.le_of_ble_eq_true rfl) dL_law_134 ⟨Nat.le_of_ble_eq_true rfl, Nat.le_of_ble_eq_true rfl⟩ ?_
  refine lv_aload_n hx hb dL_law_137 rfl (lv_at hl 2 rfl) ?_
  refine lv_aload_n hx hb dL_law_138 rfl (lv_at hl 0 rfl) ?_
  refine lv_iload_n hx hb dL_law_139 rfl (lv_at hl 3 rfl) ?_
  refine lv_iconst (v := (1 : Int32)) hx hb dL_law_140 (by decide) ?_
  refine lv_iadd hx hb dL_law_141 ?_
  refine va_sld hx hb hX hbl hbA hS i1 dL_law_142 ?_
  obtain ⟨⟨th, ex, hP⟩, hK⟩ := id hM
  refine mu_V (As := [.int (xs (x3 + (1 : Int32)).toNatClampNeg)]) (rest := [.int r]) hF tb_in (cnX5_free l G h0 hs hr cI cF tm sz rw bx by_ bz bm so hap em) syX5_free w_344 ⟨Nat.le_of_ble_eq_true rfl, Nat.le_of_ble_eq_true rfl⟩ mB_mv mB_mv hM (va_recv hK hP (ci := 3) (q0 := 0) rfl rfl) hS hAm rfl hl.1 rfl (Nat.le_of_ble_eq_true rfl) dL_law_143 ⟨Nat.le_of_ble_eq_true rfl, Nat.le_of_ble_eq_true rfl⟩ (fun H locs hM _ hk hS => ?_)
  have hC := cB_keep hC hk hdis hAm
  refine W.eq (g2 := F0 m 146 ls [.int r, .int r]) rfl ?_
  refine lv_icmp_eq (tgt := 913) hx hb dL_law_146 (by decide) (fun _ => ?_) (fun c9 => absurd rfl c9)
  exact K _ _ _ _ _ _ _ _ _ _ _ _ _ _ _ _ _ _ _ _ _ _ hR hC hM hS hl
set_option maxHeartbeats 4000000 in
set_option maxRecDepth 100000 in
theorem law_sign (C0 : lw_At p s m meth c b L xs) (X : Fix s o sh xx xc gv se fa ca h0 hs hr) (hi : Idx x3 L) (K : LCont p l e s m below meth c b G cI cF tA tT o sh xx xc gv se fa ca h0 hs hr x3) (hR : Rel n f tr sz rw tm) (hC : cB (lA s) G cI cF tA tT o sh xx xc gv se fa ca n f xn xf gf s0 s1 s2 s3 s4 tr s H) (hM : mB G h0 hs hr cI cF tm sz rw bx by_ bz bm so s H) (hS : va_S (lA s) s.heap H locs) (hl : lv_has ls 4 [(0, .ref b), (1, .ref o), (2, .ref h0), (3, .int x3)]) : W p l e room_1 s m #[Value.ref b] below meth c H locs 17 97 (lw_Z below #[Value.ref b] s) (F0 m 151 ls []) := by
  obtain ⟨hx, hb, hret, hml, hown, hts, hX, hbl, hlocks, hgv⟩ := C0
  have hF : CallFix p m c code 4 s #[Value.ref b] lw_tbl RL := ⟨hx, hb, hml, hown, hts⟩
  have hbA : ¬ lA s b := Nat.not_le.mpr hbl
  obtain ⟨hnd, hap, hdis, hAc, hAm, hN⟩ := X
  obtain ⟨i1, i2, i3, i4, i5, i6, i7, i8⟩ := hi
  obtain ⟨r, ec, em⟩ := P_sign hR  (xs (x3 + (1 : Int32)).toNatClampNeg) (xs (x3 + (2 : Int32)).toNatClampNeg) (xs (x3 + (3 : Int32)).toNatClampNeg)
  refine lv_aload_n hx hb dL_law_151 rfl (lv_at hl 1 rfl) ?_
  refine lv_aload_n hx hb dL_law_152 rfl (lv_at hl 0 rfl) ?_
  refine lv_iload_n hx hb dL_law_153 rfl (lv_at hl 3 rfl) ?_
  refine lv_iconst (v := (1 : Int32)) hx hb dL_law_154 (by decide) ?_
  refine lv_iadd hx hb dL_law_155 ?_
  refine va_sld hx hb hX hbl hbA hS i1 dL_law_156 ?_
  refine lv_aload_n hx hb dL_law_157 rfl (lv_at hl 0 rfl) ?_
  refine lv_iload_n hx hb dL_law_158 rfl (lv_at hl 3 rfl) ?_
  refine lv_iconst (v := (2 : Int32)) hx hb dL_law_159 (by decide) ?_
  refine lv_iadd hx hb dL_law_160 ?_
  refine va_sld hx hb hX hbl hbA hS i2 dL_law_161 ?_
  refine lv_aload_n hx hb dL_law_162 rfl (lv_at hl 0 rfl) ?_
  refine lv_iload_n hx hb dL_law_163 rfl (lv_at hl 3 rfl) ?_
  refine lv_iconst (v := (3 : Int32)) hx hb dL_law_164 (by decide) ?_
  refine lv_iadd hx hb dL_law_165 ?_
  refine va_sld hx hb hX hbl hbA hS i3 dL_law_166 ?_
  refine ro_V (As := [.int (xs (x3 + (1 : Int32)).toNatClampNeg), .int (xs (x3 + (2 : Int32)).toNatClampNeg), .int (xs (x3 + (3 : Int32)).toNatClampNeg)]) (rest := []) hF tb_in (cnX4_sign l (lA s) G cI cF tA tT o sh xx xc gv se fa ca n f xn xf gf s0 s1 s2 s3 s4 tr ec) syX4_sign w_87 ⟨Nat.le_of_ble_eq_true rfl, Nat.le_of_ble_eq_true rfl⟩ cB_mv hC (va_recv hC.1.1 hC.2 (ci := 2) (q0 := 0) rfl rfl) rfl hl.1 rfl (Nat.le_of_ble_eq_true rfl) dL_law_167 ⟨Nat.le_of_ble_eq_true rfl, Nat.le_of_ble_eq_true rfl⟩ ?_
  refine lv_aload_n hx hb dL_law_170 rfl (lv_at hl 2 rfl) ?_
  refine lv_aload_n hx hb dL_law_171 rfl (lv_at hl 0 rfl) ?_
  refine lv_iload_n hx hb dL_law_172 rfl (lv_at hl 3 rfl) ?_
  refine lv_iconst (v := (1 : Int32)) hx hb dL_law_173 (by decide) ?_
  refine lv_iadd hx hb dL_law_174 ?_
  refine va_sld hx hb hX hbl hbA hS i1 dL_law_175 ?_
  refine lv_aload_n hx hb dL_law_176 rfl (lv_at hl 0 rfl) ?_
  refine lv_iload_n hx hb dL_law_177 rfl (lv_at hl 3 rfl) ?_
  refine lv_iconst (v := (2 : Int32)) hx hb dL_law_178 (by decide) ?_
  refine lv_iadd hx hb dL_law_179 ?_
  refine va_sld hx hb hX hbl hbA hS i2 dL_law_180 ?_
  refine lv_aload_n hx hb dL_law_181 rfl (lv_at hl 0 rfl) ?_
  refine lv_iload_n hx hb dL_law_182 rfl (lv_at hl 3 rfl) ?_
  refine lv_iconst (v := (3 : Int32)) hx hb dL_law_183 (by decide) ?_
  refine lv_iadd hx hb dL_law_184 ?_
  refine va_sld hx hb hX hbl hbA hS i3 dL_law_185 ?_
  obtain ⟨⟨th, ex, hP⟩, hK⟩ := id hM
  refine mu_V (As := [.int (xs (x3 + (1 : Int32)).toNatClampNeg), .int (xs (x3 + (2 : Int32)).toNatClampNeg), .int (xs (x3 + (3 : Int32)).toNatClampNeg)]) (rest := [.int r]) hF tb_in (cnX5_sign l G h0 hs hr cI cF tm sz rw bx by_ bz bm so hap em) syX5_sign w_355 ⟨Nat.le_of_ble_eq_true rfl, Nat.le_of_ble_eq_true rfl⟩ mB_mv mB_mv hM (va_recv hK hP (ci := 3) (q0 := 0) rfl rfl) hS hAm rfl hl.1 rfl (Nat.le_of_ble_eq_true rfl) dL_law_186 ⟨Nat.le_of_ble_eq_true rfl, Nat.le_of_ble_eq_true rfl⟩ (fun H locs hM _ hk hS => ?_)
  have hC := cB_keep hC hk hdis hAm
  refine W.eq (g2 := F0 m 189 ls [.int r, .int r]) rfl ?_
  refine lv_icmp_eq (tgt := 913) hx hb dL_law_189 (by decide) (fun _ => ?_) (fun c9 => absurd rfl c9)
  exact K _ _ _ _ _ _ _ _ _ _ _ _ _ _ _ _ _ _ _ _ _ _ hR hC hM hS hl
set_option maxHeartbeats 4000000 in
set_option maxRecDepth 100000 in
theorem law_odds (C0 : lw_At p s m meth c b L xs) (X : Fix s o sh xx xc gv se fa ca h0 hs hr) (hi : Idx x3 L) (K : LCont p l e s m below meth c b G cI cF tA tT o sh xx xc gv se fa ca h0 hs hr x3) (hR : Rel n f tr sz rw tm) (hC : cB (lA s) G cI cF tA tT o sh xx xc gv se fa ca n f xn xf gf s0 s1 s2 s3 s4 tr s H) (hM : mB G h0 hs hr cI cF tm sz rw bx by_ bz bm so s H) (hS : va_S (lA s) s.heap H locs) (hl : lv_has ls 4 [(0, .ref b), (1, .ref o), (2, .ref h0), (3, .int x3)]) : W p l e room_1 s m #[Value.ref b] below meth c H locs 17 97 (lw_Z below #[Value.ref b] s) (F0 m 194 ls []) := by
  obtain ⟨hx, hb, hret, hml, hown, hts, hX, hbl, hlocks, hgv⟩ := C0
  have hF : CallFix p m c code 4 s #[Value.ref b] lw_tbl RL := ⟨hx, hb, hml, hown, hts⟩
  have hbA : ¬ lA s b := Nat.not_le.mpr hbl
  obtain ⟨hnd, hap, hdis, hAc, hAm, hN⟩ := X
  obtain ⟨i1, i2, i3, i4, i5, i6, i7, i8⟩ := hi
  obtain ⟨r, ec, em⟩ := P_odds hR  (xs (x3 + (1 : Int32)).toNatClampNeg) (xs (x3 + (2 : Int32)).toNatClampNeg)
  refine lv_aload_n hx hb dL_law_194 rfl (lv_at hl 1 rfl) ?_
  refine lv_aload_n hx hb dL_law_195 rfl (lv_at hl 0 rfl) ?_
  refine lv_iload_n hx hb dL_law_196 rfl (lv_at hl 3 rfl) ?_
  refine lv_iconst (v := (1 : Int32)) hx hb dL_law_197 (by decide) ?_
  refine lv_iadd hx hb dL_law_198 ?_
  refine va_sld hx hb hX hbl hbA hS i1 dL_law_199 ?_
  refine lv_aload_n hx hb dL_law_200 rfl (lv_at hl 0 rfl) ?_
  refine lv_iload_n hx hb dL_law_201 rfl (lv_at hl 3 rfl) ?_
  refine lv_iconst (v := (2 : Int32)) hx hb dL_law_202 (by decide) ?_
  refine lv_iadd hx hb dL_law_203 ?_
  refine va_sld hx hb hX hbl hbA hS i2 dL_law_204 ?_
  refine ro_V (As := [.int (xs (x3 + (1 : Int32)).toNatClampNeg), .int (xs (x3 + (2 : Int32)).toNatClampNeg)]) (rest := []) hF tb_in (cnX4_odds l (lA s) G cI cF tA tT o sh xx xc gv se fa ca n f xn xf gf s0 s1 s2 s3 s4 tr ec) syX4_odds w_117 ⟨Nat.le_of_ble_eq_true rfl, Nat.le_of_ble_eq_true rfl⟩ cB_mv hC (va_recv hC.1.1 hC.2 (ci := 2) (q0 := 0) rfl rfl) rfl hl.1 rfl (Nat.le_of_ble_eq_true rfl) dL_law_205 ⟨Nat.le_of_ble_eq_true rfl, Nat.le_of_ble_eq_true rfl⟩ ?_
  refine lv_aload_n hx hb dL_law_208 rfl (lv_at hl 2 rfl) ?_
  refine lv_aload_n hx hb dL_law_209 rfl (lv_at hl 0 rfl) ?_
  refine lv_iload_n hx hb dL_law_210 rfl (lv_at hl 3 rfl) ?_
  refine lv_iconst (v := (1 : Int32)) hx hb dL_law_211 (by decide) ?_
  refine lv_iadd hx hb dL_law_212 ?_
  refine va_sld hx hb hX hbl hbA hS i1 dL_law_213 ?_
  refine lv_aload_n hx hb dL_law_214 rfl (lv_at hl 0 rfl) ?_
  refine lv_iload_n hx hb dL_law_215 rfl (lv_at hl 3 rfl) ?_
  refine lv_iconst (v := (2 : Int32)) hx hb dL_law_216 (by decide) ?_
  refine lv_iadd hx hb dL_law_217 ?_
  refine va_sld hx hb hX hbl hbA hS i2 dL_law_218 ?_
  obtain ⟨⟨th, ex, hP⟩, hK⟩ := id hM
  refine mu_V (As := [.int (xs (x3 + (1 : Int32)).toNatClampNeg), .int (xs (x3 + (2 : Int32)).toNatClampNeg)]) (rest := [.int r]) hF tb_in (cnX5_odds l G h0 hs hr cI cF tm sz rw bx by_ bz bm so hap em) syX5_odds w_382 ⟨Nat.le_of_ble_eq_true rfl, Nat.le_of_ble_eq_true rfl⟩ mB_mv mB_mv hM (va_recv hK hP (ci := 3) (q0 := 0) rfl rfl) hS hAm rfl hl.1 rfl (Nat.le_of_ble_eq_true rfl) dL_law_219 ⟨Nat.le_of_ble_eq_true rfl, Nat.le_of_ble_eq_true rfl⟩ (fun H locs hM _ hk hS => ?_)
  have hC := cB_keep hC hk hdis hAm
  refine W.eq (g2 := F0 m 222 ls [.int r, .int r]) rfl ?_
  refine lv_icmp_eq (tgt := 913) hx hb dL_law_222 (by decide) (fun _ => ?_) (fun c9 => absurd rfl c9)
  exact K _ _ _ _ _ _ _ _ _ _ _ _ _ _ _ _ _ _ _ _ _ _ hR hC hM hS hl
set_option maxHeartbeats 4000000 in
set_option maxRecDepth 100000 in
theorem law_form (C0 : lw_At p s m meth c b L xs) (X : Fix s o sh xx xc gv se fa ca h0 hs hr) (hi : Idx x3 L) (K : LCont p l e s m below meth c b G cI cF tA tT o sh xx xc gv se fa ca h0 hs hr x3) (hR : Rel n f tr sz rw tm) (hC : cB (lA s) G cI cF tA tT o sh xx xc gv se fa ca n f xn xf gf s0 s1 s2 s3 s4 tr s H) (hM : mB G h0 hs hr cI cF tm sz rw bx by_ bz bm so s H) (hS : va_S (lA s) s.heap H locs) (hl : lv_has ls 4 [(0, .ref b), (1, .ref o), (2, .ref h0), (3, .int x3)]) : W p l e room_1 s m #[Value.ref b] below meth c H locs 17 97 (lw_Z below #[Value.ref b] s) (F0 m 227 ls []) := by
  obtain ⟨hx, hb, hret, hml, hown, hts, hX, hbl, hlocks, hgv⟩ := C0
  have hF : CallFix p m c code 4 s #[Value.ref b] lw_tbl RL := ⟨hx, hb, hml, hown, hts⟩
  have hbA : ¬ lA s b := Nat.not_le.mpr hbl
  obtain ⟨hnd, hap, hdis, hAc, hAm, hN⟩ := X
  obtain ⟨i1, i2, i3, i4, i5, i6, i7, i8⟩ := hi
  obtain ⟨r, gf2, n2, f2, sz2, rw2, ec, em, hR2⟩ := P_form hR (gf := gf) (xs (x3 + (1 : Int32)).toNatClampNeg) (xs (x3 + (2 : Int32)).toNatClampNeg) (xs (x3 + (3 : Int32)).toNatClampNeg) (xs (x3 + (4 : Int32)).toNatClampNeg) (xs (x3 + (5 : Int32)).toNatClampNeg) (xs (x3 + (6 : Int32)).toNatClampNeg) (xs (x3 + (7 : Int32)).toNatClampNeg)
  refine lv_aload_n hx hb dL_law_227 rfl (lv_at hl 1 rfl) ?_
  refine lv_aload_n hx hb dL_law_228 rfl (lv_at hl 0 rfl) ?_
  refine lv_iload_n hx hb dL_law_229 rfl (lv_at hl 3 rfl) ?_
  refine lv_iconst (v := (1 : Int32)) hx hb dL_law_230 (by decide) ?_
  refine lv_iadd hx hb dL_law_231 ?_
  refine va_sld hx hb hX hbl hbA hS i1 dL_law_232 ?_
  refine lv_aload_n hx hb dL_law_233 rfl (lv_at hl 0 rfl) ?_
  refine lv_iload_n hx hb dL_law_234 rfl (lv_at hl 3 rfl) ?_
  refine lv_iconst (v := (2 : Int32)) hx hb dL_law_235 (by decide) ?_
  refine lv_iadd hx hb dL_law_236 ?_
  refine va_sld hx hb hX hbl hbA hS i2 dL_law_237 ?_
  refine lv_aload_n hx hb dL_law_238 rfl (lv_at hl 0 rfl) ?_
  refine lv_iload_n hx hb dL_law_239 rfl (lv_at hl 3 rfl) ?_
  refine lv_iconst (v := (3 : Int32)) hx hb dL_law_240 (by decide) ?_
  refine lv_iadd hx hb dL_law_241 ?_
  refine va_sld hx hb hX hbl hbA hS i3 dL_law_242 ?_
  refine lv_aload_n hx hb dL_law_243 rfl (lv_at hl 0 rfl) ?_
  refine lv_iload_n hx hb dL_law_244 rfl (lv_at hl 3 rfl) ?_
  refine lv_iconst (v := (4 : Int32)) hx hb dL_law_245 (by decide) ?_
  refine lv_iadd hx hb dL_law_246 ?_
  refine va_sld hx hb hX hbl hbA hS i4 dL_law_247 ?_
  refine lv_aload_n hx hb dL_law_248 rfl (lv_at hl 0 rfl) ?_
  refine lv_iload_n hx hb dL_law_249 rfl (lv_at hl 3 rfl) ?_
  refine lv_iconst (v := (5 : Int32)) hx hb dL_law_250 (by decide) ?_
  refine lv_iadd hx hb dL_law_251 ?_
  refine va_sld hx hb hX hbl hbA hS i5 dL_law_252 ?_
  refine lv_aload_n hx hb dL_law_253 rfl (lv_at hl 0 rfl) ?_
  refine lv_iload_n hx hb dL_law_254 rfl (lv_at hl 3 rfl) ?_
  refine lv_bipush (v := (6 : Int32)) hx hb dL_law_255 (by decide) ?_
  refine lv_iadd hx hb dL_law_257 ?_
  refine va_sld hx hb hX hbl hbA hS i6 dL_law_258 ?_
  refine lv_aload_n hx hb dL_law_259 rfl (lv_at hl 0 rfl) ?_
  refine lv_iload_n hx hb dL_law_260 rfl (lv_at hl 3 rfl) ?_
  refine lv_bipush (v := (7 : Int32)) hx hb dL_law_261 (by decide) ?_
  refine lv_iadd hx hb dL_law_263 ?_
  refine va_sld hx hb hX hbl hbA hS i7 dL_law_264 ?_
  refine mu_Vp (As := [.int (xs (x3 + (1 : Int32)).toNatClampNeg), .int (xs (x3 + (2 : Int32)).toNatClampNeg), .int (xs (x3 + (3 : Int32)).toNatClampNeg), .int (xs (x3 + (4 : Int32)).toNatClampNeg), .int (xs (x3 + (5 : Int32)).toNatClampNeg), .int (xs (x3 + (6 : Int32)).toNatClampNeg), .int (xs (x3 + (7 : Int32)).toNatClampNeg)]) (rest := []) hF tb_in (cnX4_form l (lA s) G cI cF tA tT o sh xx xc gv se fa ca n f xn xf gf s0 s1 s2 s3 s4 tr hnd hAc ec) syX4_form w_122 ⟨Nat.le_of_ble_eq_true rfl, Nat.le_of_ble_eq_true rfl⟩ cB_mv.p cB_mv hC (va_recv hC.1.1 hC.2 (ci := 2) (q0 := 0) rfl rfl) hS hAc rfl hl.1 rfl (Nat.le_of_ble_eq_true rfl) dL_law_265 ⟨Nat.le_of_ble_eq_true rfl, Nat.le_of_ble_eq_true rfl⟩ (fun H locs hC _ hk hS => ?_)
  have hM := mB_keep hM hk hdis
  refine W.eq (g2 := F0 m 268 ls [.int r]) rfl ?_
  refine lv_aload_n hx hb dL_law_268 rfl (lv_at hl 2 rfl) ?_
  refine lv_aload_n hx hb dL_law_269 rfl (lv_at hl 0 rfl) ?_
  refine lv_iload_n hx hb dL_law_270 rfl (lv_at hl 3 rfl) ?_
  refine lv_iconst (v := (1 : Int32)) hx hb dL_law_271 (by decide) ?_
  refine lv_iadd hx hb dL_law_272 ?_
  refine va_sld hx hb hX hbl hbA hS i1 dL_law_273 ?_
  refine lv_aload_n hx hb dL_law_274 rfl (lv_at hl 0 rfl) ?_
  refine lv_iload_n hx hb dL_law_275 rfl (lv_at hl 3 rfl) ?_
  refine lv_iconst (v := (2 : Int32)) hx hb dL_law_276 (by decide) ?_
  refine lv_iadd hx hb dL_law_277 ?_
  refine va_sld hx hb hX hbl hbA hS i2 dL_law_278 ?_
  refine lv_aload_n hx hb dL_law_279 rfl (lv_at hl 0 rfl) ?_
  refine lv_iload_n hx hb dL_law_280 rfl (lv_at hl 3 rfl) ?_
  refine lv_iconst (v := (3 : Int32)) hx hb dL_law_281 (by decide) ?_
  refine lv_iadd hx hb dL_law_282 ?_
  refine va_sld hx hb hX hbl hbA hS i3 dL_law_283 ?_
  refine lv_aload_n hx hb dL_law_284 rfl (lv_at hl 0 rfl) ?_
  refine lv_iload_n hx hb dL_law_285 rfl (lv_at hl 3 rfl) ?_
  refine lv_iconst (v := (4 : Int32)) hx hb dL_law_286 (by decide) ?_
  refine lv_iadd hx hb dL_law_287 ?_
  refine va_sld hx hb hX hbl hbA hS i4 dL_law_288 ?_
  refine lv_aload_n hx hb dL_law_289 rfl (lv_at hl 0 rfl) ?_
  refine lv_iload_n hx hb dL_law_290 rfl (lv_at hl 3 rfl) ?_
  refine lv_iconst (v := (5 : Int32)) hx hb dL_law_291 (by decide) ?_
  refine lv_iadd hx hb dL_law_292 ?_
  refine va_sld hx hb hX hbl hbA hS i5 dL_law_293 ?_
  refine lv_aload_n hx hb dL_law_294 rfl (lv_at hl 0 rfl) ?_
  refine lv_iload_n hx hb dL_law_295 rfl (lv_at hl 3 rfl) ?_
  refine lv_bipush (v := (6 : Int32)) hx hb dL_law_296 (by decide) ?_
  refine lv_iadd hx hb dL_law_298 ?_
  refine va_sld hx hb hX hbl hbA hS i6 dL_law_299 ?_
  refine lv_aload_n hx hb dL_law_300 rfl (lv_at hl 0 rfl) ?_
  refine lv_iload_n hx hb dL_law_301 rfl (lv_at hl 3 rfl) ?_
  refine lv_bipush (v := (7 : Int32)) hx hb dL_law_302 (by decide) ?_
  refine lv_iadd hx hb dL_law_304 ?_
  refine va_sld hx hb hX hbl hbA hS i7 dL_law_305 ?_
  obtain ⟨⟨th, ex, hP⟩, hK⟩ := id hM
  refine mu_V (As := [.int (xs (x3 + (1 : Int32)).toNatClampNeg), .int (xs (x3 + (2 : Int32)).toNatClampNeg), .int (xs (x3 + (3 : Int32)).toNatClampNeg), .int (xs (x3 + (4 : Int32)).toNatClampNeg), .int (xs (x3 + (5 : Int32)).toNatClampNeg), .int (xs (x3 + (6 : Int32)).toNatClampNeg), .int (xs (x3 + (7 : Int32)).toNatClampNeg)]) (rest := [.int r]) hF tb_in (cnX5_form l G h0 hs hr cI cF tm sz rw bx by_ bz bm so hap em) syX5_form w_386 ⟨Nat.le_of_ble_eq_true rfl, Nat.le_of_ble_eq_true rfl⟩ mB_mv mB_mv hM (va_recv hK hP (ci := 3) (q0 := 0) rfl rfl) hS hAm rfl hl.1 rfl (Nat.le_of_ble_eq_true rfl) dL_law_306 ⟨Nat.le_of_ble_eq_true rfl, Nat.le_of_ble_eq_true rfl⟩ (fun H locs hM _ hk hS => ?_)
  have hC := cB_keep hC hk hdis hAm
  refine W.eq (g2 := F0 m 309 ls [.int r, .int r]) rfl ?_
  refine lv_icmp_eq (tgt := 913) hx hb dL_law_309 (by decide) (fun _ => ?_) (fun c9 => absurd rfl c9)
  exact K _ _ _ _ _ _ _ _ _ _ _ _ _ _ _ _ _ _ _ _ _ _ hR2 hC hM hS hl
set_option maxHeartbeats 4000000 in
set_option maxRecDepth 100000 in
theorem law_at (C0 : lw_At p s m meth c b L xs) (X : Fix s o sh xx xc gv se fa ca h0 hs hr) (hi : Idx x3 L) (K : LCont p l e s m below meth c b G cI cF tA tT o sh xx xc gv se fa ca h0 hs hr x3) (hR : Rel n f tr sz rw tm) (hC : cB (lA s) G cI cF tA tT o sh xx xc gv se fa ca n f xn xf gf s0 s1 s2 s3 s4 tr s H) (hM : mB G h0 hs hr cI cF tm sz rw bx by_ bz bm so s H) (hS : va_S (lA s) s.heap H locs) (hl : lv_has ls 4 [(0, .ref b), (1, .ref o), (2, .ref h0), (3, .int x3)]) : W p l e room_1 s m #[Value.ref b] below meth c H locs 17 97 (lw_Z below #[Value.ref b] s) (F0 m 314 ls []) := by
  obtain ⟨hx, hb, hret, hml, hown, hts, hX, hbl, hlocks, hgv⟩ := C0
  have hF : CallFix p m c code 4 s #[Value.ref b] lw_tbl RL := ⟨hx, hb, hml, hown, hts⟩
  have hbA : ¬ lA s b := Nat.not_le.mpr hbl
  obtain ⟨hnd, hap, hdis, hAc, hAm, hN⟩ := X
  obtain ⟨i1, i2, i3, i4, i5, i6, i7, i8⟩ := hi
  obtain ⟨r, ec, em⟩ := P_at hR  (xs (x3 + (1 : Int32)).toNatClampNeg) (xs (x3 + (2 : Int32)).toNatClampNeg)
  refine lv_aload_n hx hb dL_law_314 rfl (lv_at hl 1 rfl) ?_
  refine lv_aload_n hx hb dL_law_315 rfl (lv_at hl 0 rfl) ?_
  refine lv_iload_n hx hb dL_law_316 rfl (lv_at hl 3 rfl) ?_
  refine lv_iconst (v := (1 : Int32)) hx hb dL_law_317 (by decide) ?_
  refine lv_iadd hx hb dL_law_318 ?_
  refine va_sld hx hb hX hbl hbA hS i1 dL_law_319 ?_
  refine lv_aload_n hx hb dL_law_320 rfl (lv_at hl 0 rfl) ?_
  refine lv_iload_n hx hb dL_law_321 rfl (lv_at hl 3 rfl) ?_
  refine lv_iconst (v := (2 : Int32)) hx hb dL_law_322 (by decide) ?_
  refine lv_iadd hx hb dL_law_323 ?_
  refine va_sld hx hb hX hbl hbA hS i2 dL_law_324 ?_
  refine ro_V (As := [.int (xs (x3 + (1 : Int32)).toNatClampNeg), .int (xs (x3 + (2 : Int32)).toNatClampNeg)]) (rest := []) hF tb_in (cnX4_at l (lA s) G cI cF tA tT o sh xx xc gv se fa ca n f xn xf gf s0 s1 s2 s3 s4 tr ec) syX4_at w_133 ⟨Nat.le_of_ble_eq_true rfl, Nat.le_of_ble_eq_true rfl⟩ cB_mv hC (va_recv hC.1.1 hC.2 (ci := 2) (q0 := 0) rfl rfl) rfl hl.1 rfl (Nat.le_of_ble_eq_true rfl) dL_law_325 ⟨Nat.le_of_ble_eq_true rfl, Nat.le_of_ble_eq_true rfl⟩ ?_
  refine lv_aload_n hx hb dL_law_328 rfl (lv_at hl 2 rfl) ?_
  refine lv_aload_n hx hb dL_law_329 rfl (lv_at hl 0 rfl) ?_
  refine lv_iload_n hx hb dL_law_330 rfl (lv_at hl 3 rfl) ?_
  refine lv_iconst (v := (1 : Int32)) hx hb dL_law_331 (by decide) ?_
  refine lv_iadd hx hb dL_law_332 ?_
  refine va_sld hx hb hX hbl hbA hS i1 dL_law_333 ?_
  refine lv_aload_n hx hb dL_law_334 rfl (lv_at hl 0 rfl) ?_
  refine lv_iload_n hx hb dL_law_335 rfl (lv_at hl 3 rfl) ?_
  refine lv_iconst (v := (2 : Int32)) hx hb dL_law_336 (by decide) ?_
  refine lv_iadd hx hb dL_law_337 ?_
  refine va_sld hx hb hX hbl hbA hS i2 dL_law_338 ?_
  obtain ⟨⟨th, ex, hP⟩, hK⟩ := id hM
  refine mu_V (As := [.int (xs (x3 + (1 : Int32)).toNatClampNeg), .int (xs (x3 + (2 : Int32)).toNatClampNeg)]) (rest := [.int r]) hF tb_in (cnX5_at l G h0 hs hr cI cF tm sz rw bx by_ bz bm so hap em) syX5_at w_395 ⟨Nat.le_of_ble_eq_true rfl, Nat.le_of_ble_eq_true rfl⟩ mB_mv mB_mv hM (va_recv hK hP (ci := 3) (q0 := 0) rfl rfl) hS hAm rfl hl.1 rfl (Nat.le_of_ble_eq_true rfl) dL_law_339 ⟨Nat.le_of_ble_eq_true rfl, Nat.le_of_ble_eq_true rfl⟩ (fun H locs hM _ hk hS => ?_)
  have hC := cB_keep hC hk hdis hAm
  refine W.eq (g2 := F0 m 342 ls [.int r, .int r]) rfl ?_
  refine lv_icmp_eq (tgt := 913) hx hb dL_law_342 (by decide) (fun _ => ?_) (fun c9 => absurd rfl c9)
  exact K _ _ _ _ _ _ _ _ _ _ _ _ _ _ _ _ _ _ _ _ _ _ hR hC hM hS hl
set_option maxHeartbeats 4000000 in
set_option maxRecDepth 100000 in
theorem law_whole (C0 : lw_At p s m meth c b L xs) (X : Fix s o sh xx xc gv se fa ca h0 hs hr) (hi : Idx x3 L) (K : LCont p l e s m below meth c b G cI cF tA tT o sh xx xc gv se fa ca h0 hs hr x3) (hR : Rel n f tr sz rw tm) (hC : cB (lA s) G cI cF tA tT o sh xx xc gv se fa ca n f xn xf gf s0 s1 s2 s3 s4 tr s H) (hM : mB G h0 hs hr cI cF tm sz rw bx by_ bz bm so s H) (hS : va_S (lA s) s.heap H locs) (hl : lv_has ls 4 [(0, .ref b), (1, .ref o), (2, .ref h0), (3, .int x3)]) : W p l e room_1 s m #[Value.ref b] below meth c H locs 17 97 (lw_Z below #[Value.ref b] s) (F0 m 347 ls []) := by
  obtain ⟨hx, hb, hret, hml, hown, hts, hX, hbl, hlocks, hgv⟩ := C0
  have hF : CallFix p m c code 4 s #[Value.ref b] lw_tbl RL := ⟨hx, hb, hml, hown, hts⟩
  have hbA : ¬ lA s b := Nat.not_le.mpr hbl
  obtain ⟨hnd, hap, hdis, hAc, hAm, hN⟩ := X
  obtain ⟨i1, i2, i3, i4, i5, i6, i7, i8⟩ := hi
  obtain ⟨r, ec, em⟩ := P_whole hR  (xs (x3 + (1 : Int32)).toNatClampNeg) (xs (x3 + (2 : Int32)).toNatClampNeg)
  refine lv_aload_n hx hb dL_law_347 rfl (lv_at hl 1 rfl) ?_
  refine lv_aload_n hx hb dL_law_348 rfl (lv_at hl 0 rfl) ?_
  refine lv_iload_n hx hb dL_law_349 rfl (lv_at hl 3 rfl) ?_
  refine lv_iconst (v := (1 : Int32)) hx hb dL_law_350 (by decide) ?_
  refine lv_iadd hx hb dL_law_351 ?_
  refine va_sld hx hb hX hbl hbA hS i1 dL_law_352 ?_
  refine lv_aload_n hx hb dL_law_353 rfl (lv_at hl 0 rfl) ?_
  refine lv_iload_n hx hb dL_law_354 rfl (lv_at hl 3 rfl) ?_
  refine lv_iconst (v := (2 : Int32)) hx hb dL_law_355 (by decide) ?_
  refine lv_iadd hx hb dL_law_356 ?_
  refine va_sld hx hb hX hbl hbA hS i2 dL_law_357 ?_
  refine ro_V (As := [.int (xs (x3 + (1 : Int32)).toNatClampNeg), .int (xs (x3 + (2 : Int32)).toNatClampNeg)]) (rest := []) hF tb_in (cnX4_whole l (lA s) G cI cF tA tT o sh xx xc gv se fa ca n f xn xf gf s0 s1 s2 s3 s4 tr ec) syX4_whole w_137 ⟨Nat.le_of_ble_eq_true rfl, Nat.le_of_ble_eq_true rfl⟩ cB_mv hC (va_recv hC.1.1 hC.2 (ci := 2) (q0 := 0) rfl rfl) rfl hl.1 rfl (Nat.le_of_ble_eq_true rfl) dL_law_358 ⟨Nat.le_of_ble_eq_true rfl, Nat.le_of_ble_eq_true rfl⟩ ?_
  refine lv_aload_n hx hb dL_law_361 rfl (lv_at hl 2 rfl) ?_
  refine lv_aload_n hx hb dL_law_362 rfl (lv_at hl 0 rfl) ?_
  refine lv_iload_n hx hb dL_law_363 rfl (lv_at hl 3 rfl) ?_
  refine lv_iconst (v := (1 : Int32)) hx hb dL_law_364 (by decide) ?_
  refine lv_iadd hx hb dL_law_365 ?_
  refine va_sld hx hb hX hbl hbA hS i1 dL_law_366 ?_
  refine lv_aload_n hx hb dL_law_367 rfl (lv_at hl 0 rfl) ?_
  refine lv_iload_n hx hb dL_law_368 rfl (lv_at hl 3 rfl) ?_
  refine lv_iconst (v := (2 : Int32)) hx hb dL_law_369 (by decide) ?_
  refine lv_iadd hx hb dL_law_370 ?_
  refine va_sld hx hb hX hbl hbA hS i2 dL_law_371 ?_
  obtain ⟨⟨th, ex, hP⟩, hK⟩ := id hM
  refine mu_V (As := [.int (xs (x3 + (1 : Int32)).toNatClampNeg), .int (xs (x3 + (2 : Int32)).toNatClampNeg)]) (rest := [.long r]) hF tb_in (cnX5_whole l G h0 hs hr cI cF tm sz rw bx by_ bz bm so hap em) syX5_whole w_399 ⟨Nat.le_of_ble_eq_true rfl, Nat.le_of_ble_eq_true rfl⟩ mB_mv mB_mv hM (va_recv hK hP (ci := 3) (q0 := 0) rfl rfl) hS hAm rfl hl.1 rfl (Nat.le_of_ble_eq_true rfl) dL_law_372 ⟨Nat.le_of_ble_eq_true rfl, Nat.le_of_ble_eq_true rfl⟩ (fun H locs hM _ hk hS => ?_)
  have hC := cB_keep hC hk hdis hAm
  refine W.eq (g2 := F0 m 375 ls [.long r, .long r]) rfl ?_
  refine W.lcmp hx hb dL_law_375 ?_
  refine lv_if_eq (tgt := 913) hx hb dL_law_376 (by decide) (fun _ => ?_) (fun c9 => absurd (lg_self r) c9)
  exact K _ _ _ _ _ _ _ _ _ _ _ _ _ _ _ _ _ _ _ _ _ _ hR hC hM hS hl
set_option maxHeartbeats 4000000 in
set_option maxRecDepth 100000 in
theorem law_hold (C0 : lw_At p s m meth c b L xs) (X : Fix s o sh xx xc gv se fa ca h0 hs hr) (hi : Idx x3 L) (K : LCont p l e s m below meth c b G cI cF tA tT o sh xx xc gv se fa ca h0 hs hr x3) (hR : Rel n f tr sz rw tm) (hC : cB (lA s) G cI cF tA tT o sh xx xc gv se fa ca n f xn xf gf s0 s1 s2 s3 s4 tr s H) (hM : mB G h0 hs hr cI cF tm sz rw bx by_ bz bm so s H) (hS : va_S (lA s) s.heap H locs) (hl : lv_has ls 4 [(0, .ref b), (1, .ref o), (2, .ref h0), (3, .int x3)]) : W p l e room_1 s m #[Value.ref b] below meth c H locs 17 97 (lw_Z below #[Value.ref b] s) (F0 m 381 ls []) := by
  obtain ⟨hx, hb, hret, hml, hown, hts, hX, hbl, hlocks, hgv⟩ := C0
  have hF : CallFix p m c code 4 s #[Value.ref b] lw_tbl RL := ⟨hx, hb, hml, hown, hts⟩
  have hbA : ¬ lA s b := Nat.not_le.mpr hbl
  obtain ⟨hnd, hap, hdis, hAc, hAm, hN⟩ := X
  obtain ⟨i1, i2, i3, i4, i5, i6, i7, i8⟩ := hi
  obtain ⟨r, ec, em⟩ := P_hold hR  (xs (x3 + (1 : Int32)).toNatClampNeg) (xs (x3 + (2 : Int32)).toNatClampNeg)
  refine lv_aload_n hx hb dL_law_381 rfl (lv_at hl 1 rfl) ?_
  refine lv_aload_n hx hb dL_law_382 rfl (lv_at hl 0 rfl) ?_
  refine lv_iload_n hx hb dL_law_383 rfl (lv_at hl 3 rfl) ?_
  refine lv_iconst (v := (1 : Int32)) hx hb dL_law_384 (by decide) ?_
  refine lv_iadd hx hb dL_law_385 ?_
  refine va_sld hx hb hX hbl hbA hS i1 dL_law_386 ?_
  refine lv_aload_n hx hb dL_law_387 rfl (lv_at hl 0 rfl) ?_
  refine lv_iload_n hx hb dL_law_388 rfl (lv_at hl 3 rfl) ?_
  refine lv_iconst (v := (2 : Int32)) hx hb dL_law_389 (by decide) ?_
  refine lv_iadd hx hb dL_law_390 ?_
  refine va_sld hx hb hX hbl hbA hS i2 dL_law_391 ?_
  refine ro_V (As := [.int (xs (x3 + (1 : Int32)).toNatClampNeg), .int (xs (x3 + (2 : Int32)).toNatClampNeg)]) (rest := []) hF tb_in (cnX4_hold l (lA s) G cI cF tA tT o sh xx xc gv se fa ca n f xn xf gf s0 s1 s2 s3 s4 tr ec) syX4_hold w_151 ⟨Nat.le_of_ble_eq_true rfl, Nat.le_of_ble_eq_true rfl⟩ cB_mv hC (va_recv hC.1.1 hC.2 (ci := 2) (q0 := 0) rfl rfl) rfl hl.1 rfl (Nat.le_of_ble_eq_true rfl) dL_law_392 ⟨Nat.le_of_ble_eq_true rfl, Nat.le_of_ble_eq_true rfl⟩ ?_
  refine lv_aload_n hx hb dL_law_395 rfl (lv_at hl 2 rfl) ?_
  refine lv_aload_n hx hb dL_law_396 rfl (lv_at hl 0 rfl) ?_
  refine lv_iload_n hx hb dL_law_397 rfl (lv_at hl 3 rfl) ?_
  refine lv_iconst (v := (1 : Int32)) hx hb dL_law_398 (by decide) ?_
  refine lv_iadd hx hb dL_law_399 ?_
  refine va_sld hx hb hX hbl hbA hS i1 dL_law_400 ?_
  refine lv_aload_n hx hb dL_law_401 rfl (lv_at hl 0 rfl) ?_
  refine lv_iload_n hx hb dL_law_402 rfl (lv_at hl 3 rfl) ?_
  refine lv_iconst (v := (2 : Int32)) hx hb dL_law_403 (by decide) ?_
  refine lv_iadd hx hb dL_law_404 ?_
  refine va_sld hx hb hX hbl hbA hS i2 dL_law_405 ?_
  obtain ⟨⟨th, ex, hP⟩, hK⟩ := id hM
  refine mu_V (As := [.int (xs (x3 + (1 : Int32)).toNatClampNeg), .int (xs (x3 + (2 : Int32)).toNatClampNeg)]) (rest := [.int r]) hF tb_in (cnX5_hold l G h0 hs hr cI cF tm sz rw bx by_ bz bm so hap em) syX5_hold w_411 ⟨Nat.le_of_ble_eq_true rfl, Nat.le_of_ble_eq_true rfl⟩ mB_mv mB_mv hM (va_recv hK hP (ci := 3) (q0 := 0) rfl rfl) hS hAm rfl hl.1 rfl (Nat.le_of_ble_eq_true rfl) dL_law_406 ⟨Nat.le_of_ble_eq_true rfl, Nat.le_of_ble_eq_true rfl⟩ (fun H locs hM _ hk hS => ?_)
  have hC := cB_keep hC hk hdis hAm
  refine W.eq (g2 := F0 m 409 ls [.int r, .int r]) rfl ?_
  refine lv_icmp_eq (tgt := 913) hx hb dL_law_409 (by decide) (fun _ => ?_) (fun c9 => absurd rfl c9)
  exact K _ _ _ _ _ _ _ _ _ _ _ _ _ _ _ _ _ _ _ _ _ _ hR hC hM hS hl
set_option maxHeartbeats 4000000 in
set_option maxRecDepth 100000 in
theorem law_goes (C0 : lw_At p s m meth c b L xs) (X : Fix s o sh xx xc gv se fa ca h0 hs hr) (hi : Idx x3 L) (K : LCont p l e s m below meth c b G cI cF tA tT o sh xx xc gv se fa ca h0 hs hr x3) (hR : Rel n f tr sz rw tm) (hC : cB (lA s) G cI cF tA tT o sh xx xc gv se fa ca n f xn xf gf s0 s1 s2 s3 s4 tr s H) (hM : mB G h0 hs hr cI cF tm sz rw bx by_ bz bm so s H) (hS : va_S (lA s) s.heap H locs) (hl : lv_has ls 4 [(0, .ref b), (1, .ref o), (2, .ref h0), (3, .int x3)]) : W p l e room_1 s m #[Value.ref b] below meth c H locs 17 97 (lw_Z below #[Value.ref b] s) (F0 m 414 ls []) := by
  obtain ⟨hx, hb, hret, hml, hown, hts, hX, hbl, hlocks, hgv⟩ := C0
  have hF : CallFix p m c code 4 s #[Value.ref b] lw_tbl RL := ⟨hx, hb, hml, hown, hts⟩
  have hbA : ¬ lA s b := Nat.not_le.mpr hbl
  obtain ⟨hnd, hap, hdis, hAc, hAm, hN⟩ := X
  obtain ⟨i1, i2, i3, i4, i5, i6, i7, i8⟩ := hi
  obtain ⟨r, ec, em⟩ := P_goes hR  (xs (x3 + (1 : Int32)).toNatClampNeg) (xs (x3 + (2 : Int32)).toNatClampNeg)
  refine lv_aload_n hx hb dL_law_414 rfl (lv_at hl 1 rfl) ?_
  refine lv_aload_n hx hb dL_law_415 rfl (lv_at hl 0 rfl) ?_
  refine lv_iload_n hx hb dL_law_416 rfl (lv_at hl 3 rfl) ?_
  refine lv_iconst (v := (1 : Int32)) hx hb dL_law_417 (by decide) ?_
  refine lv_iadd hx hb dL_law_418 ?_
  refine va_sld hx hb hX hbl hbA hS i1 dL_law_419 ?_
  refine lv_aload_n hx hb dL_law_420 rfl (lv_at hl 0 rfl) ?_
  refine lv_iload_n hx hb dL_law_421 rfl (lv_at hl 3 rfl) ?_
  refine lv_iconst (v := (2 : Int32)) hx hb dL_law_422 (by decide) ?_
  refine lv_iadd hx hb dL_law_423 ?_
  refine va_sld hx hb hX hbl hbA hS i2 dL_law_424 ?_
  refine ro_V (As := [.int (xs (x3 + (1 : Int32)).toNatClampNeg), .int (xs (x3 + (2 : Int32)).toNatClampNeg)]) (rest := []) hF tb_in (cnX4_goes l (lA s) G cI cF tA tT o sh xx xc gv se fa ca n f xn xf gf s0 s1 s2 s3 s4 tr ec) syX4_goes w_160 ⟨Nat.le_of_ble_eq_true rfl, Nat.le_of_ble_eq_true rfl⟩ cB_mv hC (va_recv hC.1.1 hC.2 (ci := 2) (q0 := 0) rfl rfl) rfl hl.1 rfl (Nat.le_of_ble_eq_true rfl) dL_law_425 ⟨Nat.le_of_ble_eq_true rfl, Nat.le_of_ble_eq_true rfl⟩ ?_
  refine lv_aload_n hx hb dL_law_428 rfl (lv_at hl 2 rfl) ?_
  refine lv_aload_n hx hb dL_law_429 rfl (lv_at hl 0 rfl) ?_
  refine lv_iload_n hx hb dL_law_430 rfl (lv_at hl 3 rfl) ?_
  refine lv_iconst (v := (1 : Int32)) hx hb dL_law_431 (by decide) ?_
  refine lv_iadd hx hb dL_law_432 ?_
  refine va_sld hx hb hX hbl hbA hS i1 dL_law_433 ?_
  refine lv_aload_n hx hb dL_law_434 rfl (lv_at hl 0 rfl) ?_
  refine lv_iload_n hx hb dL_law_435 rfl (lv_at hl 3 rfl) ?_
  refine lv_iconst (v := (2 : Int32)) hx hb dL_law_436 (by decide) ?_
  refine lv_iadd hx hb dL_law_437 ?_
  refine va_sld hx hb hX hbl hbA hS i2 dL_law_438 ?_
  obtain ⟨⟨th, ex, hP⟩, hK⟩ := id hM
  refine mu_V (As := [.int (xs (x3 + (1 : Int32)).toNatClampNeg), .int (xs (x3 + (2 : Int32)).toNatClampNeg)]) (rest := [.int r]) hF tb_in (cnX5_goes l G h0 hs hr cI cF tm sz rw bx by_ bz bm so hap em) syX5_goes w_419 ⟨Nat.le_of_ble_eq_true rfl, Nat.le_of_ble_eq_true rfl⟩ mB_mv mB_mv hM (va_recv hK hP (ci := 3) (q0 := 0) rfl rfl) hS hAm rfl hl.1 rfl (Nat.le_of_ble_eq_true rfl) dL_law_439 ⟨Nat.le_of_ble_eq_true rfl, Nat.le_of_ble_eq_true rfl⟩ (fun H locs hM _ hk hS => ?_)
  have hC := cB_keep hC hk hdis hAm
  refine W.eq (g2 := F0 m 442 ls [.int r, .int r]) rfl ?_
  refine lv_icmp_eq (tgt := 913) hx hb dL_law_442 (by decide) (fun _ => ?_) (fun c9 => absurd rfl c9)
  exact K _ _ _ _ _ _ _ _ _ _ _ _ _ _ _ _ _ _ _ _ _ _ hR hC hM hS hl
set_option maxHeartbeats 4000000 in
set_option maxRecDepth 100000 in
theorem law_nought (C0 : lw_At p s m meth c b L xs) (X : Fix s o sh xx xc gv se fa ca h0 hs hr) (hi : Idx x3 L) (K : LCont p l e s m below meth c b G cI cF tA tT o sh xx xc gv se fa ca h0 hs hr x3) (hR : Rel n f tr sz rw tm) (hC : cB (lA s) G cI cF tA tT o sh xx xc gv se fa ca n f xn xf gf s0 s1 s2 s3 s4 tr s H) (hM : mB G h0 hs hr cI cF tm sz rw bx by_ bz bm so s H) (hS : va_S (lA s) s.heap H locs) (hl : lv_has ls 4 [(0, .ref b), (1, .ref o), (2, .ref h0), (3, .int x3)]) : W p l e room_1 s m #[Value.ref b] below meth c H locs 17 97 (lw_Z below #[Value.ref b] s) (F0 m 447 ls []) := by
  obtain ⟨hx, hb, hret, hml, hown, hts, hX, hbl, hlocks, hgv⟩ := C0
  have hF : CallFix p m c code 4 s #[Value.ref b] lw_tbl RL := ⟨hx, hb, hml, hown, hts⟩
  have hbA : ¬ lA s b := Nat.not_le.mpr hbl
  obtain ⟨hnd, hap, hdis, hAc, hAm, hN⟩ := X
  obtain ⟨i1, i2, i3, i4, i5, i6, i7, i8⟩ := hi
  obtain ⟨r, ec, em⟩ := P_nought hR  (xs (x3 + (1 : Int32)).toNatClampNeg)
  refine lv_aload_n hx hb dL_law_447 rfl (lv_at hl 1 rfl) ?_
  refine lv_aload_n hx hb dL_law_448 rfl (lv_at hl 0 rfl) ?_
  refine lv_iload_n hx hb dL_law_449 rfl (lv_at hl 3 rfl) ?_
  refine lv_iconst (v := (1 : Int32)) hx hb dL_law_450 (by decide) ?_
  refine lv_iadd hx hb dL_law_451 ?_
  refine va_sld hx hb hX hbl hbA hS i1 dL_law_452 ?_
  refine ro_V (As := [.int (xs (x3 + (1 : Int32)).toNatClampNeg)]) (rest := []) hF tb_in (cnX4_nought l (lA s) G cI cF tA tT o sh xx xc gv se fa ca n f xn xf gf s0 s1 s2 s3 s4 tr ec) syX4_nought w_177 ⟨Nat.le_of_ble_eq_true rfl, Nat.le_of_ble_eq_true rfl⟩ cB_mv hC (va_recv hC.1.1 hC.2 (ci := 2) (q0 := 0) rfl rfl) rfl hl.1 rfl (Nat.le_of_ble_eq_true rfl) dL_law_453 ⟨Nat.le_of_ble_eq_true rfl, Nat.le_of_ble_eq_true rfl⟩ ?_
  refine lv_aload_n hx hb dL_law_456 rfl (lv_at hl 2 rfl) ?_
  refine lv_aload_n hx hb dL_law_457 rfl (lv_at hl 0 rfl) ?_
  refine lv_iload_n hx hb dL_law_458 rfl (lv_at hl 3 rfl) ?_
  refine lv_iconst (v := (1 : Int32)) hx hb dL_law_459 (by decide) ?_
  refine lv_iadd hx hb dL_law_460 ?_
  refine va_sld hx hb hX hbl hbA hS i1 dL_law_461 ?_
  obtain ⟨⟨th, ex, hP⟩, hK⟩ := id hM
  refine mu_V (As := [.int (xs (x3 + (1 : Int32)).toNatClampNeg)]) (rest := [.int r]) hF tb_in (cnX5_nought l G h0 hs hr cI cF tm sz rw bx by_ bz bm so hap em) syX5_nought w_436 ⟨Nat.le_of_ble_eq_true rfl, Nat.le_of_ble_eq_true rfl⟩ mB_mv mB_mv hM (va_recv hK hP (ci := 3) (q0 := 0) rfl rfl) hS hAm rfl hl.1 rfl (Nat.le_of_ble_eq_true rfl) dL_law_462 ⟨Nat.le_of_ble_eq_true rfl, Nat.le_of_ble_eq_true rfl⟩ (fun H locs hM _ hk hS => ?_)
  have hC := cB_keep hC hk hdis hAm
  refine W.eq (g2 := F0 m 465 ls [.int r, .int r]) rfl ?_
  refine lv_icmp_eq (tgt := 913) hx hb dL_law_465 (by decide) (fun _ => ?_) (fun c9 => absurd rfl c9)
  exact K _ _ _ _ _ _ _ _ _ _ _ _ _ _ _ _ _ _ _ _ _ _ hR hC hM hS hl
set_option maxHeartbeats 4000000 in
set_option maxRecDepth 100000 in
theorem law_bars (C0 : lw_At p s m meth c b L xs) (X : Fix s o sh xx xc gv se fa ca h0 hs hr) (hi : Idx x3 L) (K : LCont p l e s m below meth c b G cI cF tA tT o sh xx xc gv se fa ca h0 hs hr x3) (hR : Rel n f tr sz rw tm) (hC : cB (lA s) G cI cF tA tT o sh xx xc gv se fa ca n f xn xf gf s0 s1 s2 s3 s4 tr s H) (hM : mB G h0 hs hr cI cF tm sz rw bx by_ bz bm so s H) (hS : va_S (lA s) s.heap H locs) (hl : lv_has ls 4 [(0, .ref b), (1, .ref o), (2, .ref h0), (3, .int x3)]) : W p l e room_1 s m #[Value.ref b] below meth c H locs 17 97 (lw_Z below #[Value.ref b] s) (F0 m 470 ls []) := by
  obtain ⟨hx, hb, hret, hml, hown, hts, hX, hbl, hlocks, hgv⟩ := C0
  have hF : CallFix p m c code 4 s #[Value.ref b] lw_tbl RL := ⟨hx, hb, hml, hown, hts⟩
  have hbA : ¬ lA s b := Nat.not_le.mpr hbl
  obtain ⟨hnd, hap, hdis, hAc, hAm, hN⟩ := X
  obtain ⟨i1, i2, i3, i4, i5, i6, i7, i8⟩ := hi
  obtain ⟨r, ec, em⟩ := P_bars hR  (xs (x3 + (1 : Int32)).toNatClampNeg)
  refine lv_aload_n hx hb dL_law_470 rfl (lv_at hl 1 rfl) ?_
  refine lv_aload_n hx hb dL_law_471 rfl (lv_at hl 0 rfl) ?_
  refine lv_iload_n hx hb dL_law_472 rfl (lv_at hl 3 rfl) ?_
  refine lv_iconst (v := (1 : Int32)) hx hb dL_law_473 (by decide) ?_
  refine lv_iadd hx hb dL_law_474 ?_
  refine va_sld hx hb hX hbl hbA hS i1 dL_law_475 ?_
  refine ro_V (As := [.int (xs (x3 + (1 : Int32)).toNatClampNeg)]) (rest := []) hF tb_in (cnX4_bars l (lA s) G cI cF tA tT o sh xx xc gv se fa ca n f xn xf gf s0 s1 s2 s3 s4 tr ec) syX4_bars w_190 ⟨Nat.le_of_ble_eq_true rfl, Nat.le_of_ble_eq_true rfl⟩ cB_mv hC (va_recv hC.1.1 hC.2 (ci := 2) (q0 := 0) rfl rfl) rfl hl.1 rfl (Nat.le_of_ble_eq_true rfl) dL_law_476 ⟨Nat.le_of_ble_eq_true rfl, Nat.le_of_ble_eq_true rfl⟩ ?_
  refine lv_aload_n hx hb dL_law_479 rfl (lv_at hl 2 rfl) ?_
  refine lv_aload_n hx hb dL_law_480 rfl (lv_at hl 0 rfl) ?_
  refine lv_iload_n hx hb dL_law_481 rfl (lv_at hl 3 rfl) ?_
  refine lv_iconst (v := (1 : Int32)) hx hb dL_law_482 (by decide) ?_
  refine lv_iadd hx hb dL_law_483 ?_
  refine va_sld hx hb hX hbl hbA hS i1 dL_law_484 ?_
  obtain ⟨⟨th, ex, hP⟩, hK⟩ := id hM
  refine mu_V (As := [.int (xs (x3 + (1 : Int32)).toNatClampNeg)]) (rest := [.int r]) hF tb_in (cnX5_bars l G h0 hs hr cI cF tm sz rw bx by_ bz bm so hap em) syX5_bars w_451 ⟨Nat.le_of_ble_eq_true rfl, Nat.le_of_ble_eq_true rfl⟩ mB_mv mB_mv hM (va_recv hK hP (ci := 3) (q0 := 0) rfl rfl) hS hAm rfl hl.1 rfl (Nat.le_of_ble_eq_true rfl) dL_law_485 ⟨Nat.le_of_ble_eq_true rfl, Nat.le_of_ble_eq_true rfl⟩ (fun H locs hM _ hk hS => ?_)
  have hC := cB_keep hC hk hdis hAm
  refine W.eq (g2 := F0 m 488 ls [.int r, .int r]) rfl ?_
  refine lv_icmp_eq (tgt := 913) hx hb dL_law_488 (by decide) (fun _ => ?_) (fun c9 => absurd rfl c9)
  exact K _ _ _ _ _ _ _ _ _ _ _ _ _ _ _ _ _ _ _ _ _ _ hR hC hM hS hl
end LAW
