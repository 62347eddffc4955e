section
-- ===== PART A: goes FIRST, ahead of the names: the tables' words, and 'selects' of the private methods out of them =====
/-- a private method of a class that the tables say can be made, by its rows of tables_1 -/
def lw_okq (q : MethodName × Nat) : Prop := (q.1.cls ≠ "java/lang/invoke/MethodHandle" ∧ q.1.cls ≠ "java/lang/invoke/VarHandle") ∧ Cond.instantiable q.1.cls q.2 ∈ tables_1 ∧ Cond.privateMethod q.1 ∈ tables_1 ∧ Cond.instanceMethod q.1 ∈ tables_1
theorem lw_p0 : lw_okq (⟨"RingForms$Form", "mayBar", "(I)Z"⟩, 2) := ⟨⟨by decide +kernel, by decide +kernel⟩, List.mem_of_getElem? (i := 18) (by decide +kernel), List.mem_of_getElem? (i := 192) (by decide +kernel), List.mem_of_getElem? (i := 193) (by decide +kernel)⟩
theorem lw_p1 : lw_okq (⟨"RingForms$Search", "meet", "(IIII)V"⟩, 5) := ⟨⟨by decide +kernel, by decide +kernel⟩, List.mem_of_getElem? (i := 34) (by decide +kernel), List.mem_of_getElem? (i := 274) (by decide +kernel), List.mem_of_getElem? (i := 275) (by decide +kernel)⟩
theorem lw_p2 : lw_okq (⟨"RingFormsModel", "signOf", "(JJI)I"⟩, 10) := ⟨⟨by decide +kernel, by decide +kernel⟩, List.mem_of_getElem? (i := 314) (by decide +kernel), List.mem_of_getElem? (i := 374) (by decide +kernel), List.mem_of_getElem? (i := 375) (by decide +kernel)⟩
theorem lw_p3 : lw_okq (⟨"RingFormsModel", "without", "(JI)J"⟩, 10) := ⟨⟨by decide +kernel, by decide +kernel⟩, List.mem_of_getElem? (i := 314) (by decide +kernel), List.mem_of_getElem? (i := 378) (by decide +kernel), List.mem_of_getElem? (i := 379) (by decide +kernel)⟩
theorem lw_p4 : lw_okq (⟨"RingFormsModel", "productOf", "(II)J"⟩, 10) := ⟨⟨by decide +kernel, by decide +kernel⟩, List.mem_of_getElem? (i := 314) (by decide +kernel), List.mem_of_getElem? (i := 410) (by decide +kernel), List.mem_of_getElem? (i := 411) (by decide +kernel)⟩
theorem lw_p5 : lw_okq (⟨"RingFormsModel", "freeOf", "(I)J"⟩, 10) := ⟨⟨by decide +kernel, by decide +kernel⟩, List.mem_of_getElem? (i := 314) (by decide +kernel), List.mem_of_getElem? (i := 414) (by decide +kernel), List.mem_of_getElem? (i := 415) (by decide +kernel)⟩
theorem lw_p6 : lw_okq (⟨"RingFormsModel", "holdOf", "(III)I"⟩, 10) := ⟨⟨by decide +kernel, by decide +kernel⟩, List.mem_of_getElem? (i := 314) (by decide +kernel), List.mem_of_getElem? (i := 422) (by decide +kernel), List.mem_of_getElem? (i := 423) (by decide +kernel)⟩
theorem lw_p7 : lw_okq (⟨"RingFormsModel", "isGoing", "(III)Z"⟩, 10) := ⟨⟨by decide +kernel, by decide +kernel⟩, List.mem_of_getElem? (i := 314) (by decide +kernel), List.mem_of_getElem? (i := 430) (by decide +kernel), List.mem_of_getElem? (i := 431) (by decide +kernel)⟩
theorem lw_p8 : lw_okq (⟨"RingFormsModel", "aboveOf", "(II)I"⟩, 10) := ⟨⟨by decide +kernel, by decide +kernel⟩, List.mem_of_getElem? (i := 314) (by decide +kernel), List.mem_of_getElem? (i := 434) (by decide +kernel), List.mem_of_getElem? (i := 435) (by decide +kernel)⟩
theorem lw_p9 : lw_okq (⟨"RingFormsModel", "isSquare", "(JI)Z"⟩, 10) := ⟨⟨by decide +kernel, by decide +kernel⟩, List.mem_of_getElem? (i := 314) (by decide +kernel), List.mem_of_getElem? (i := 438) (by decide +kernel), List.mem_of_getElem? (i := 439) (by decide +kernel)⟩
theorem lw_p10 : lw_okq (⟨"RingFormsModel", "isNought", "(II)Z"⟩, 10) := ⟨⟨by decide +kernel, by decide +kernel⟩, List.mem_of_getElem? (i := 314) (by decide +kernel), List.mem_of_getElem? (i := 447) (by decide +kernel), List.mem_of_getElem? (i := 448) (by decide +kernel)⟩
theorem lw_p11 : lw_okq (⟨"RingFormsModel", "isOf", "(III)Z"⟩, 10) := ⟨⟨by decide +kernel, by decide +kernel⟩, List.mem_of_getElem? (i := 314) (by decide +kernel), List.mem_of_getElem? (i := 454) (by decide +kernel), List.mem_of_getElem? (i := 455) (by decide +kernel)⟩
theorem lw_p12 : lw_okq (⟨"RingFormsModel", "barOf", "(II)I"⟩, 10) := ⟨⟨by decide +kernel, by decide +kernel⟩, List.mem_of_getElem? (i := 314) (by decide +kernel), List.mem_of_getElem? (i := 462) (by decide +kernel), List.mem_of_getElem? (i := 463) (by decide +kernel)⟩
theorem lw_p13 : lw_okq (⟨"RingFormsModel", "isThree", "(I)Z"⟩, 10) := ⟨⟨by decide +kernel, by decide +kernel⟩, List.mem_of_getElem? (i := 314) (by decide +kernel), List.mem_of_getElem? (i := 482) (by decide +kernel), List.mem_of_getElem? (i := 483) (by decide +kernel)⟩
theorem lw_p14 : lw_okq (⟨"RingFormsModel", "worthOf", "(IJJJ)J"⟩, 10) := ⟨⟨by decide +kernel, by decide +kernel⟩, List.mem_of_getElem? (i := 314) (by decide +kernel), List.mem_of_getElem? (i := 488) (by decide +kernel), List.mem_of_getElem? (i := 489) (by decide +kernel)⟩
theorem lw_p15 : lw_okq (⟨"RingFormsModel", "seeks", "(II)V"⟩, 10) := ⟨⟨by decide +kernel, by decide +kernel⟩, List.mem_of_getElem? (i := 314) (by decide +kernel), List.mem_of_getElem? (i := 514) (by decide +kernel), List.mem_of_getElem? (i := 515) (by decide +kernel)⟩
def lw_privs_1 : List (MethodName × Nat) := [(⟨"RingForms$Form", "mayBar", "(I)Z"⟩, 2), (⟨"RingForms$Search", "meet", "(IIII)V"⟩, 5), (⟨"RingFormsModel", "signOf", "(JJI)I"⟩, 10), (⟨"RingFormsModel", "without", "(JI)J"⟩, 10), (⟨"RingFormsModel", "productOf", "(II)J"⟩, 10), (⟨"RingFormsModel", "freeOf", "(I)J"⟩, 10), (⟨"RingFormsModel", "holdOf", "(III)I"⟩, 10), (⟨"RingFormsModel", "isGoing", "(III)Z"⟩, 10), (⟨"RingFormsModel", "aboveOf", "(II)I"⟩, 10), (⟨"RingFormsModel", "isSquare", "(JI)Z"⟩, 10), (⟨"RingFormsModel", "isNought", "(II)Z"⟩, 10), (⟨"RingFormsModel", "isOf", "(III)Z"⟩, 10), (⟨"RingFormsModel", "barOf", "(II)I"⟩, 10), (⟨"RingFormsModel", "isThree", "(I)Z"⟩, 10), (⟨"RingFormsModel", "worthOf", "(IJJJ)J"⟩, 10), (⟨"RingFormsModel", "seeks", "(II)V"⟩, 10)]
theorem lw_r1 : ∀ q ∈ lw_privs_1, lw_okq q := List.forall_mem_cons.mpr ⟨lw_p0, List.forall_mem_cons.mpr ⟨lw_p1, List.forall_mem_cons.mpr ⟨lw_p2, List.forall_mem_cons.mpr ⟨lw_p3, List.forall_mem_cons.mpr ⟨lw_p4, List.forall_mem_cons.mpr ⟨lw_p5, List.forall_mem_cons.mpr ⟨lw_p6, List.forall_mem_cons.mpr ⟨lw_p7, List.forall_mem_cons.mpr ⟨lw_p8, List.forall_mem_cons.mpr ⟨lw_p9, List.forall_mem_cons.mpr ⟨lw_p10, List.forall_mem_cons.mpr ⟨lw_p11, List.forall_mem_cons.mpr ⟨lw_p12, List.forall_mem_cons.mpr ⟨lw_p13, List.forall_mem_cons.mpr ⟨lw_p14, List.forall_mem_cons.mpr ⟨lw_p15, fun _ h => absurd h List.not_mem_nil⟩⟩⟩⟩⟩⟩⟩⟩⟩⟩⟩⟩⟩⟩⟩⟩
theorem lw_p16 : lw_okq (⟨"RingFormsModel", "isSolution", "(IIII)Z"⟩, 10) := ⟨⟨by decide +kernel, by decide +kernel⟩, List.mem_of_getElem? (i := 314) (by decide +kernel), List.mem_of_getElem? (i := 518) (by decide +kernel), List.mem_of_getElem? (i := 519) (by decide +kernel)⟩
def lw_privs_2 : List (MethodName × Nat) := [(⟨"RingFormsModel", "isSolution", "(IIII)Z"⟩, 10)]
theorem lw_r2 : ∀ q ∈ lw_privs_2, lw_okq q := List.forall_mem_cons.mpr ⟨lw_p16, fun _ h => absurd h List.not_mem_nil⟩
def lw_privs : List (MethodName × Nat) := lw_privs_1 ++ (lw_privs_2)
def lw_tbl : List Cond := k2_sels lw_privs ++ tables_1
theorem lw_privs_ok : ∀ q ∈ lw_privs, lw_okq q := by
  show ∀ q ∈ lw_privs_1 ++ (lw_privs_2), lw_okq q
  exact List.forall_mem_append.mpr ⟨lw_r1, lw_r2⟩
/-! ===== BEGIN words of one list among another's, by their places ===== -/
theorem goodIn_r {big : List Cond} (ws : List Cond) (ps : List Nat) (hp : ws = ps.filterMap (fun i => big[i]?)) (h : ws.all goodWord = true) : GoodIn big ws := by
  intro w hw
  have h1 := List.all_eq_true.mp h w hw
  rw [hp] at hw
  obtain ⟨i, -, hi⟩ := List.mem_filterMap.mp hw
  have hm : w ∈ big := by first | exact List.mem_of_getElem? hi | exact List.getElem?_mem hi
  exact ⟨hm, good_of_word h1⟩
theorem goodIn_app {big a b : List Cond} (ha : GoodIn big a) (hb : GoodIn big b) : GoodIn big (a ++ b) := fun w h => (List.mem_append.mp h).elim (ha w) (hb w)
theorem goodIn_ca {big a b : List Cond} {c : Cond} (ha : GoodIn big (c :: a)) (hb : GoodIn big b) : GoodIn big (c :: (a ++ b)) := fun w h => (List.mem_cons.mp h).elim (fun e => ha w (List.mem_cons.mpr (Or.inl e))) (fun h => (List.mem_append.mp h).elim (fun h => ha w (List.mem_cons.mpr (Or.inr h))) (hb w))
theorem goodIn_sub {big ws : List Cond} (hm : ∀ w ∈ ws, w ∈ big) (h : ws.all goodWord = true) : GoodIn big ws := fun w hw => ⟨hm w hw, good_of_word (List.all_eq_true.mp h w hw)⟩
/-! ===== END ===== -/

/-! ===== BEGIN printed: names, fields, word lists, decode rows ===== -/
def RX0 : String := "RingForms$Form"
def TX0 : u_T := fun k => match k with
  | 0 => ("RingForms$Form", "size", "I", false)
  | _ => ("RingForms$Form", "coefficients", "[I", true)
def tyX0 : Nat → FieldType := fun k => match k with
  | 0 => .int
  | _ => .array .int
abbrev wsX00 : List Cond := u_ws RX0 TX0 2
theorem nmX0 : ∀ a, a < 2 → ∀ b, b < 2 → a ≠ b → (TX0 a).2.1 ≠ (TX0 b).2.1 := by decide +kernel
theorem tyX0_ok : ∀ k, k < 2 → parseFieldDescriptor (TX0 k).2.2.1 = some (tyX0 k) := by decide +kernel
abbrev cX0_init : ByteArray := prog_2_method_1_code
def yX0_init : MethodName := ⟨RX0, "<init>", "()V"⟩
abbrev cX0_take : ByteArray := prog_2_method_2_code
def yX0_take : MethodName := ⟨RX0, "take", "([II)V"⟩
abbrev cX0_append : ByteArray := prog_2_method_3_code
def yX0_append : MethodName := ⟨RX0, "append", "(I)V"⟩
abbrev cX0_product : ByteArray := prog_2_method_4_code
def yX0_product : MethodName := ⟨RX0, "product", "()J"⟩
abbrev cX0_freeProduct : ByteArray := prog_2_method_5_code
def yX0_freeProduct : MethodName := ⟨RX0, "freeProduct", "()J"⟩
abbrev cX0_countAbove : ByteArray := prog_2_method_6_code
def yX0_countAbove : MethodName := ⟨RX0, "countAbove", "()I"⟩
abbrev cX0_signsAt : ByteArray := prog_2_method_7_code
def yX0_signsAt : MethodName := ⟨RX0, "signsAt", "(I)I"⟩
abbrev cX0_goesAt : ByteArray := prog_2_method_8_code
def yX0_goesAt : MethodName := ⟨RX0, "goesAt", "(I)Z"⟩
abbrev cX0_countBars : ByteArray := prog_2_method_9_code
def yX0_countBars : MethodName := ⟨RX0, "countBars", "()I"⟩
abbrev cX0_findBar : ByteArray := prog_2_method_10_code
def yX0_findBar : MethodName := ⟨RX0, "findBar", "(I)I"⟩
abbrev cX0_mayBar : ByteArray := prog_2_method_11_code
def yX0_mayBar : MethodName := ⟨RX0, "mayBar", "(I)Z"⟩
abbrev cX0_isAlike : ByteArray := prog_2_method_12_code
def yX0_isAlike : MethodName := ⟨RX0, "isAlike", "(LRingForms$Form;)Z"⟩
abbrev cX0_pairing : ByteArray := prog_2_method_13_code
def yX0_pairing : MethodName := ⟨RX0, "pairing", "(IIIIII)J"⟩
abbrev cX0_thirdFor : ByteArray := prog_2_method_14_code
def yX0_thirdFor : MethodName := ⟨RX0, "thirdFor", "(II)I"⟩
def RX1 : String := "RingForms$Measures"
def TX1 : u_T := fun k => match k with
  | _ => ("", "", "", false)
def tyX1 : Nat → FieldType := fun k => match k with
  | _ => .int
abbrev wsX10 : List Cond := u_ws RX1 TX1 0
theorem nmX1 : ∀ a, a < 0 → ∀ b, b < 0 → a ≠ b → (TX1 a).2.1 ≠ (TX1 b).2.1 := by decide +kernel
theorem tyX1_ok : ∀ k, k < 0 → parseFieldDescriptor (TX1 k).2.2.1 = some (tyX1 k) := by decide +kernel
abbrev cX1_byKind : ByteArray := prog_3_method_2_code
def yX1_byKind : MethodName := ⟨RX1, "byKind", "(IIII)I"⟩
abbrev cX1_great : ByteArray := prog_3_method_3_code
def yX1_great : MethodName := ⟨RX1, "great", "(III)I"⟩
abbrev cX1_wide : ByteArray := prog_3_method_4_code
def yX1_wide : MethodName := ⟨RX1, "wide", "(III)I"⟩
abbrev cX1_odd : ByteArray := prog_3_method_5_code
def yX1_odd : MethodName := ⟨RX1, "odd", "(III)I"⟩
def RX2 : String := "RingForms$Places"
def TX2 : u_T := fun k => match k with
  | _ => ("", "", "", false)
def tyX2 : Nat → FieldType := fun k => match k with
  | _ => .int
abbrev wsX20 : List Cond := u_ws RX2 TX2 0
theorem nmX2 : ∀ a, a < 0 → ∀ b, b < 0 → a ≠ b → (TX2 a).2.1 ≠ (TX2 b).2.1 := by decide +kernel
theorem tyX2_ok : ∀ k, k < 0 → parseFieldDescriptor (TX2 k).2.2.1 = some (tyX2 k) := by decide +kernel
abbrev cX2_isPlace : ByteArray := prog_4_method_2_code
def yX2_isPlace : MethodName := ⟨RX2, "isPlace", "(I)Z"⟩
abbrev cX2_signAt : ByteArray := prog_4_method_3_code
def yX2_signAt : MethodName := ⟨RX2, "signAt", "(JJI)I"⟩
abbrev cX2_isSquareAtPrime : ByteArray := prog_4_method_4_code
def yX2_isSquareAtPrime : MethodName := ⟨RX2, "isSquareAtPrime", "(JI)Z"⟩
abbrev cX2_isThreeOfFour : ByteArray := prog_4_method_5_code
def yX2_isThreeOfFour : MethodName := ⟨RX2, "isThreeOfFour", "(J)Z"⟩
abbrev cX2_isTurning : ByteArray := prog_4_method_6_code
def yX2_isTurning : MethodName := ⟨RX2, "isTurning", "(JI)Z"⟩
abbrev cX2_hasOddPower : ByteArray := prog_4_method_7_code
def yX2_hasOddPower : MethodName := ⟨RX2, "hasOddPower", "(JI)Z"⟩
abbrev cX2_unit : ByteArray := prog_4_method_8_code
def yX2_unit : MethodName := ⟨RX2, "unit", "(JI)J"⟩
abbrev cX2_isResidue : ByteArray := prog_4_method_9_code
def yX2_isResidue : MethodName := ⟨RX2, "isResidue", "(JI)Z"⟩
def RX3 : String := "RingForms$Search"
def TX3 : u_T := fun k => match k with
  | 0 => ("RingForms$Search", "found", "I", false)
  | 1 => ("RingForms$Search", "leastMeasure", "I", false)
  | 2 => ("RingForms$Search", "leastX", "I", false)
  | 3 => ("RingForms$Search", "leastY", "I", false)
  | _ => ("RingForms$Search", "leastZ", "I", false)
def tyX3 : Nat → FieldType := fun k => match k with
  | 0 => .int
  | 1 => .int
  | 2 => .int
  | 3 => .int
  | _ => .int
abbrev wsX30 : List Cond := u_ws RX3 TX3 5
theorem nmX3 : ∀ a, a < 5 → ∀ b, b < 5 → a ≠ b → (TX3 a).2.1 ≠ (TX3 b).2.1 := by decide +kernel
theorem tyX3_ok : ∀ k, k < 5 → parseFieldDescriptor (TX3 k).2.2.1 = some (tyX3 k) := by decide +kernel
abbrev cX3_init : ByteArray := prog_5_method_1_code
def yX3_init : MethodName := ⟨RX3, "<init>", "()V"⟩
abbrev cX3_run : ByteArray := prog_5_method_2_code
def yX3_run : MethodName := ⟨RX3, "run", "(LRingForms$Form;I)V"⟩
abbrev cX3_meet : ByteArray := prog_5_method_3_code
def yX3_meet : MethodName := ⟨RX3, "meet", "(IIII)V"⟩
def RX4 : String := "RingForms"
def TX4 : u_T := fun k => match k with
  | 0 => ("RingForms", "shelves", "[LRingForms$Form;", true)
  | 1 => ("RingForms", "extended", "LRingForms$Form;", true)
  | 2 => ("RingForms", "given", "[I", true)
  | 3 => ("RingForms", "search", "LRingForms$Search;", true)
  | _ => ("RingForms", "traced", "J", false)
def tyX4 : Nat → FieldType := fun k => match k with
  | 0 => .array (.object "RingForms$Form")
  | 1 => .object "RingForms$Form"
  | 2 => .array .int
  | 3 => .object "RingForms$Search"
  | _ => .long
abbrev wsX40 : List Cond := u_ws RX4 TX4 5
theorem nmX4 : ∀ a, a < 5 → ∀ b, b < 5 → a ≠ b → (TX4 a).2.1 ≠ (TX4 b).2.1 := by decide +kernel
theorem tyX4_ok : ∀ k, k < 5 → parseFieldDescriptor (TX4 k).2.2.1 = some (tyX4 k) := by decide +kernel
abbrev cX4_init : ByteArray := prog_1_method_1_code
def yX4_init : MethodName := ⟨RX4, "<init>", "()V"⟩
abbrev cX4_free : ByteArray := prog_1_method_2_code
def yX4_free : MethodName := ⟨RX4, "free", "(I)I"⟩
abbrev cX4_sign : ByteArray := prog_1_method_3_code
def yX4_sign : MethodName := ⟨RX4, "sign", "(III)I"⟩
abbrev cX4_odds : ByteArray := prog_1_method_4_code
def yX4_odds : MethodName := ⟨RX4, "odds", "(II)I"⟩
abbrev cX4_form : ByteArray := prog_1_method_5_code
def yX4_form : MethodName := ⟨RX4, "form", "(IIIIIII)I"⟩
abbrev cX4_at : ByteArray := prog_1_method_6_code
def yX4_at : MethodName := ⟨RX4, "at", "(II)I"⟩
abbrev cX4_whole : ByteArray := prog_1_method_7_code
def yX4_whole : MethodName := ⟨RX4, "whole", "(II)J"⟩
abbrev cX4_hold : ByteArray := prog_1_method_8_code
def yX4_hold : MethodName := ⟨RX4, "hold", "(II)I"⟩
abbrev cX4_goes : ByteArray := prog_1_method_9_code
def yX4_goes : MethodName := ⟨RX4, "goes", "(II)I"⟩
abbrev cX4_nought : ByteArray := prog_1_method_10_code
def yX4_nought : MethodName := ⟨RX4, "nought", "(I)I"⟩
abbrev cX4_bars : ByteArray := prog_1_method_11_code
def yX4_bars : MethodName := ⟨RX4, "bars", "(I)I"⟩
abbrev cX4_bar : ByteArray := prog_1_method_12_code
def yX4_bar : MethodName := ⟨RX4, "bar", "(II)I"⟩
abbrev cX4_takes : ByteArray := prog_1_method_13_code
def yX4_takes : MethodName := ⟨RX4, "takes", "(II)I"⟩
abbrev cX4_alike : ByteArray := prog_1_method_14_code
def yX4_alike : MethodName := ⟨RX4, "alike", "(II)I"⟩
abbrev cX4_worth : ByteArray := prog_1_method_15_code
def yX4_worth : MethodName := ⟨RX4, "worth", "(IIII)J"⟩
abbrev cX4_measure : ByteArray := prog_1_method_16_code
def yX4_measure : MethodName := ⟨RX4, "measure", "(IIII)I"⟩
abbrev cX4_least : ByteArray := prog_1_method_17_code
def yX4_least : MethodName := ⟨RX4, "least", "(III)J"⟩
abbrev cX4_many : ByteArray := prog_1_method_18_code
def yX4_many : MethodName := ⟨RX4, "many", "(I)I"⟩
abbrev cX4_line : ByteArray := prog_1_method_19_code
def yX4_line : MethodName := ⟨RX4, "line", "(IIIIIIII)J"⟩
abbrev cX4_count : ByteArray := prog_1_method_20_code
def yX4_count : MethodName := ⟨RX4, "count", "(II)I"⟩
abbrev cX4_trace : ByteArray := prog_1_method_21_code
def yX4_trace : MethodName := ⟨RX4, "trace", "()J"⟩
abbrev cX4_isShelf : ByteArray := prog_1_method_22_code
def yX4_isShelf : MethodName := ⟨RX4, "isShelf", "(I)Z"⟩
abbrev cX4_isNumber : ByteArray := prog_1_method_23_code
def yX4_isNumber : MethodName := ⟨RX4, "isNumber", "(II)Z"⟩
abbrev cX4_isWithin : ByteArray := prog_1_method_24_code
def yX4_isWithin : MethodName := ⟨RX4, "isWithin", "(II)Z"⟩
abbrev cX4_areWithin : ByteArray := prog_1_method_25_code
def yX4_areWithin : MethodName := ⟨RX4, "areWithin", "(IIII)Z"⟩
abbrev cX4_pick : ByteArray := prog_1_method_26_code
def yX4_pick : MethodName := ⟨RX4, "pick", "(IJJJ)J"⟩
abbrev cX4_isReduced : ByteArray := prog_1_method_27_code
def yX4_isReduced : MethodName := ⟨RX4, "isReduced", "(III)Z"⟩
abbrev cX4_reducer : ByteArray := prog_1_method_28_code
def yX4_reducer : MethodName := ⟨RX4, "reducer", "(JJJ)J"⟩
abbrev cX4_commonDivisor : ByteArray := prog_1_method_29_code
def yX4_commonDivisor : MethodName := ⟨RX4, "commonDivisor", "(JJ)J"⟩
def RX5 : String := "RingFormsModel"
def TX5 : u_T := fun k => match k with
  | 0 => ("RingFormsModel", "thrown", "I", false)
  | 1 => ("RingFormsModel", "trace", "J", false)
  | 2 => ("RingFormsModel", "sizes", "[I", true)
  | 3 => ("RingFormsModel", "rows", "[I", true)
  | 4 => ("RingFormsModel", "bestX", "I", false)
  | 5 => ("RingFormsModel", "bestY", "I", false)
  | 6 => ("RingFormsModel", "bestZ", "I", false)
  | 7 => ("RingFormsModel", "bestMeasure", "I", false)
  | 8 => ("RingFormsModel", "solutions", "I", false)
  | _ => ("RingFormsModel", "exponent", "I", false)
def tyX5 : Nat → FieldType := fun k => match k with
  | 0 => .int
  | 1 => .long
  | 2 => .array .int
  | 3 => .array .int
  | 4 => .int
  | 5 => .int
  | 6 => .int
  | 7 => .int
  | 8 => .int
  | _ => .int
abbrev wsX50 : List Cond := u_ws RX5 TX5 10
theorem nmX5 : ∀ a, a < 10 → ∀ b, b < 10 → a ≠ b → (TX5 a).2.1 ≠ (TX5 b).2.1 := by decide +kernel
theorem tyX5_ok : ∀ k, k < 10 → parseFieldDescriptor (TX5 k).2.2.1 = some (tyX5 k) := by decide +kernel
abbrev cX5_init : ByteArray := prog_7_method_1_code
def yX5_init : MethodName := ⟨RX5, "<init>", "()V"⟩
abbrev cX5_in : ByteArray := prog_7_method_3_code
def yX5_in : MethodName := ⟨RX5, "in", "(JJJ)Z"⟩
abbrev cX5_isPrime : ByteArray := prog_7_method_4_code
def yX5_isPrime : MethodName := ⟨RX5, "isPrime", "(I)Z"⟩
abbrev cX5_isPlace : ByteArray := prog_7_method_5_code
def yX5_isPlace : MethodName := ⟨RX5, "isPlace", "(I)Z"⟩
abbrev cX5_isTold : ByteArray := prog_7_method_6_code
def yX5_isTold : MethodName := ⟨RX5, "isTold", "(II)Z"⟩
abbrev cX5_without : ByteArray := prog_7_method_7_code
def yX5_without : MethodName := ⟨RX5, "without", "(JI)J"⟩
abbrev cX5_root : ByteArray := prog_7_method_8_code
def yX5_root : MethodName := ⟨RX5, "root", "(JI)I"⟩
abbrev cX5_rest : ByteArray := prog_7_method_9_code
def yX5_rest : MethodName := ⟨RX5, "rest", "(J)I"⟩
abbrev cX5_signOf : ByteArray := prog_7_method_10_code
def yX5_signOf : MethodName := ⟨RX5, "signOf", "(JJI)I"⟩
abbrev cX5_free : ByteArray := prog_7_method_11_code
def yX5_free : MethodName := ⟨RX5, "free", "(I)I"⟩
abbrev cX5_sign : ByteArray := prog_7_method_12_code
def yX5_sign : MethodName := ⟨RX5, "sign", "(III)I"⟩
abbrev cX5_odds : ByteArray := prog_7_method_13_code
def yX5_odds : MethodName := ⟨RX5, "odds", "(II)I"⟩
abbrev cX5_isShelf : ByteArray := prog_7_method_14_code
def yX5_isShelf : MethodName := ⟨RX5, "isShelf", "(I)Z"⟩
abbrev cX5_form : ByteArray := prog_7_method_15_code
def yX5_form : MethodName := ⟨RX5, "form", "(IIIIIII)I"⟩
abbrev cX5_at : ByteArray := prog_7_method_16_code
def yX5_at : MethodName := ⟨RX5, "at", "(II)I"⟩
abbrev cX5_productOf : ByteArray := prog_7_method_17_code
def yX5_productOf : MethodName := ⟨RX5, "productOf", "(II)J"⟩
abbrev cX5_isOf : ByteArray := prog_7_method_18_code
def yX5_isOf : MethodName := ⟨RX5, "isOf", "(III)Z"⟩
abbrev cX5_freeOf : ByteArray := prog_7_method_19_code
def yX5_freeOf : MethodName := ⟨RX5, "freeOf", "(I)J"⟩
abbrev cX5_whole : ByteArray := prog_7_method_20_code
def yX5_whole : MethodName := ⟨RX5, "whole", "(II)J"⟩
abbrev cX5_holdOf : ByteArray := prog_7_method_21_code
def yX5_holdOf : MethodName := ⟨RX5, "holdOf", "(III)I"⟩
abbrev cX5_hold : ByteArray := prog_7_method_22_code
def yX5_hold : MethodName := ⟨RX5, "hold", "(II)I"⟩
abbrev cX5_isSquare : ByteArray := prog_7_method_23_code
def yX5_isSquare : MethodName := ⟨RX5, "isSquare", "(JI)Z"⟩
abbrev cX5_aboveOf : ByteArray := prog_7_method_24_code
def yX5_aboveOf : MethodName := ⟨RX5, "aboveOf", "(II)I"⟩
abbrev cX5_isGoing : ByteArray := prog_7_method_25_code
def yX5_isGoing : MethodName := ⟨RX5, "isGoing", "(III)Z"⟩
abbrev cX5_goes : ByteArray := prog_7_method_26_code
def yX5_goes : MethodName := ⟨RX5, "goes", "(II)I"⟩
abbrev cX5_isWholeSquare : ByteArray := prog_7_method_27_code
def yX5_isWholeSquare : MethodName := ⟨RX5, "isWholeSquare", "(J)Z"⟩
abbrev cX5_isNought : ByteArray := prog_7_method_28_code
def yX5_isNought : MethodName := ⟨RX5, "isNought", "(II)Z"⟩
abbrev cX5_nought : ByteArray := prog_7_method_29_code
def yX5_nought : MethodName := ⟨RX5, "nought", "(I)I"⟩
abbrev cX5_barOf : ByteArray := prog_7_method_30_code
def yX5_barOf : MethodName := ⟨RX5, "barOf", "(II)I"⟩
abbrev cX5_bars : ByteArray := prog_7_method_31_code
def yX5_bars : MethodName := ⟨RX5, "bars", "(I)I"⟩
abbrev cX5_bar : ByteArray := prog_7_method_32_code
def yX5_bar : MethodName := ⟨RX5, "bar", "(II)I"⟩
abbrev cX5_takes : ByteArray := prog_7_method_33_code
def yX5_takes : MethodName := ⟨RX5, "takes", "(II)I"⟩
abbrev cX5_alike : ByteArray := prog_7_method_34_code
def yX5_alike : MethodName := ⟨RX5, "alike", "(II)I"⟩
abbrev cX5_worthOf : ByteArray := prog_7_method_35_code
def yX5_worthOf : MethodName := ⟨RX5, "worthOf", "(IJJJ)J"⟩
abbrev cX5_isThree : ByteArray := prog_7_method_36_code
def yX5_isThree : MethodName := ⟨RX5, "isThree", "(I)Z"⟩
abbrev cX5_worth : ByteArray := prog_7_method_37_code
def yX5_worth : MethodName := ⟨RX5, "worth", "(IIII)J"⟩
abbrev cX5_size : ByteArray := prog_7_method_38_code
def yX5_size : MethodName := ⟨RX5, "size", "(I)I"⟩
abbrev cX5_isNear : ByteArray := prog_7_method_39_code
def yX5_isNear : MethodName := ⟨RX5, "isNear", "(III)Z"⟩
abbrev cX5_measureOf : ByteArray := prog_7_method_40_code
def yX5_measureOf : MethodName := ⟨RX5, "measureOf", "(IIII)I"⟩
abbrev cX5_measure : ByteArray := prog_7_method_41_code
def yX5_measure : MethodName := ⟨RX5, "measure", "(IIII)I"⟩
abbrev cX5_common : ByteArray := prog_7_method_42_code
def yX5_common : MethodName := ⟨RX5, "common", "(JJ)J"⟩
abbrev cX5_isFirstAbove : ByteArray := prog_7_method_43_code
def yX5_isFirstAbove : MethodName := ⟨RX5, "isFirstAbove", "(JJJ)Z"⟩
abbrev cX5_isSolution : ByteArray := prog_7_method_44_code
def yX5_isSolution : MethodName := ⟨RX5, "isSolution", "(IIII)Z"⟩
abbrev cX5_seeks : ByteArray := prog_7_method_45_code
def yX5_seeks : MethodName := ⟨RX5, "seeks", "(II)V"⟩
abbrev cX5_least : ByteArray := prog_7_method_46_code
def yX5_least : MethodName := ⟨RX5, "least", "(III)J"⟩
abbrev cX5_many : ByteArray := prog_7_method_47_code
def yX5_many : MethodName := ⟨RX5, "many", "(I)I"⟩
abbrev cX5_line : ByteArray := prog_7_method_48_code
def yX5_line : MethodName := ⟨RX5, "line", "(IIIIIIII)J"⟩
abbrev cX5_count : ByteArray := prog_7_method_49_code
def yX5_count : MethodName := ⟨RX5, "count", "(II)I"⟩
abbrev cX5_trace : ByteArray := prog_7_method_50_code
def yX5_trace : MethodName := ⟨RX5, "trace", "()J"⟩
def RJ9 : String := "java/lang/Math"
def TJ9 : u_T := fun k => match k with
  | _ => ("", "", "", false)
def tyJ9 : Nat → FieldType := fun k => match k with
  | _ => .int
abbrev wsJ90 : List Cond := u_ws RJ9 TJ9 0
theorem nmJ9 : ∀ a, a < 0 → ∀ b, b < 0 → a ≠ b → (TJ9 a).2.1 ≠ (TJ9 b).2.1 := by decide +kernel
theorem tyJ9_ok : ∀ k, k < 0 → parseFieldDescriptor (TJ9 k).2.2.1 = some (tyJ9 k) := by decide +kernel
abbrev cJ9_floorMod_1978a : ByteArray := prog_8_method_51_code
def yJ9_floorMod_1978a : MethodName := ⟨RJ9, "floorMod", "(JI)I"⟩
abbrev cJ9_floorMod_f86c9 : ByteArray := prog_8_method_52_code
def yJ9_floorMod_f86c9 : MethodName := ⟨RJ9, "floorMod", "(JJ)J"⟩
abbrev cJ9_abs_0f7a4 : ByteArray := prog_8_method_59_code
def yJ9_abs_0f7a4 : MethodName := ⟨RJ9, "abs", "(I)I"⟩
abbrev cJ9_abs_067f4 : ByteArray := prog_8_method_61_code
def yJ9_abs_067f4 : MethodName := ⟨RJ9, "abs", "(J)J"⟩
abbrev cJ9_max_7cf53 : ByteArray := prog_8_method_65_code
def yJ9_max_7cf53 : MethodName := ⟨RJ9, "max", "(II)I"⟩
def RL : String := "RingFormsLaw"
abbrev cL_law : ByteArray := code
def yL_law : MethodName := ⟨RL, "law", "([I)Z"⟩
abbrev vwCl : List vw_C := [(RX0, TX0, 2), (RX3, TX3, 5), (RX4, TX4, 5), (RX5, TX5, 10)]
end
section
def tb : List Cond := lw_tbl.filter goodWord
theorem tbm {k : Nat} {w : Cond} (h : tables_1[k]? = some w) (hg : goodWord w = true) : w ∈ tb := List.mem_filter.mpr ⟨List.mem_append_right _ (List.mem_of_getElem? h), hg⟩
theorem tbs {k : Nat} {w : Cond} (h : (k2_sels lw_privs)[k]? = some w) (hg : goodWord w = true) : w ∈ tb := List.mem_filter.mpr ⟨List.mem_append_left _ (List.mem_of_getElem? h), hg⟩
theorem tbl {ws : List Cond} (ps : List Nat) (hp : ws = ps.filterMap (fun i => tables_1[i]?)) (h : ws.all goodWord = true) : ∀ w ∈ ws, w ∈ tb := by
  intro w hw
  have h1 := List.all_eq_true.mp h w hw
  rw [hp] at hw
  obtain ⟨i, -, hi⟩ := List.mem_filterMap.mp hw
  exact tbm hi h1
theorem tb_good : GoodIn lw_tbl tb := fun w h => ⟨(List.mem_filter.mp h).1, good_of_word (List.mem_filter.mp h).2⟩
/-- one list of words for all methods: its own code first, then the table -/
def wl (y : MethodName) (c : ByteArray) (n : Nat) (r : Option FieldType) : List Cond := .code y c n r :: tb
theorem wl_in {y : MethodName} {c : ByteArray} {n : Nat} {r : Option FieldType} {w : Cond} (h : w ∈ tb) : w ∈ wl y c n r := List.mem_cons_of_mem _ h
theorem wl_good {big : List Cond} (hb : ∀ w ∈ tb, w ∈ big) {y : MethodName} {c : ByteArray} {n : Nat} {r : Option FieldType} (h : (Cond.code y c n r) ∈ tb) : GoodIn big (wl y c n r) := by
  intro w hw
  have h1 : w ∈ tb := by
    rcases List.mem_cons.mp hw with e | e
    · rw [e]; exact h
    · exact e
  exact ⟨hb w h1, (tb_good w h1).2⟩
theorem w_0 : (Cond.initialized RL) ∈ tb := tbm (k := 0) (by decide +kernel) (by decide +kernel)
theorem w_1 : (Cond.initialized RX4) ∈ tb := tbm (k := 1) (by decide +kernel) (by decide +kernel)
theorem w_2 : (Cond.initialized RX0) ∈ tb := tbm (k := 2) (by decide +kernel) (by decide +kernel)
theorem w_3 : (Cond.initialized RX3) ∈ tb := tbm (k := 3) (by decide +kernel) (by decide +kernel)
theorem w_4 : (Cond.initialized RX5) ∈ tb := tbm (k := 4) (by decide +kernel) (by decide +kernel)
theorem w_5 : (Cond.initialized RX2) ∈ tb := tbm (k := 5) (by decide +kernel) (by decide +kernel)
theorem w_6 : (Cond.initialized "java/lang/Math") ∈ tb := tbm (k := 6) (by decide +kernel) (by decide +kernel)
theorem w_7 : (Cond.initialized RX1) ∈ tb := tbm (k := 7) (by decide +kernel) (by decide +kernel)
theorem w_8 : (Cond.classLink RL 7 RX4) ∈ tb := tbm (k := 8) (by decide +kernel) (by decide +kernel)
theorem w_9 : (Cond.instantiable RX4 5) ∈ tb := tbm (k := 9) (by decide +kernel) (by decide +kernel)
theorem w_10 : (Cond.methodLink RL 9 yX4_init) ∈ tb := tbm (k := 10) (by decide +kernel) (by decide +kernel)
theorem w_11 : (Cond.instanceMethod yX4_init) ∈ tb := tbm (k := 11) (by decide +kernel) (by decide +kernel)
theorem w_12 : (Cond.code yX4_init cX4_init 2 none) ∈ tb := tbm (k := 12) (by decide +kernel) (by decide +kernel)
theorem w_13 : (Cond.methodLink RX4 1 objectInit) ∈ tb := tbm (k := 13) (by decide +kernel) (by decide +kernel)
theorem w_14 : (Cond.instanceMethod objectInit) ∈ tb := tbm (k := 14) (by decide +kernel) (by decide +kernel)
theorem w_15 : (Cond.code objectInit ⟨#[0xb1]⟩ 1 none) ∈ tb := tbm (k := 15) (by decide +kernel) (by decide +kernel)
theorem w_16 : (Cond.classLink RX4 9 RX0) ∈ tb := tbm (k := 16) (by decide +kernel) (by decide +kernel)
theorem w_18 : (Cond.instantiable RX0 2) ∈ tb := tbm (k := 18) (by decide +kernel) (by decide +kernel)
theorem w_19 : (Cond.methodLink RX4 15 yX0_init) ∈ tb := tbm (k := 19) (by decide +kernel) (by decide +kernel)
theorem w_20 : (Cond.instanceMethod yX0_init) ∈ tb := tbm (k := 20) (by decide +kernel) (by decide +kernel)
theorem w_21 : (Cond.code yX0_init cX0_init 1 none) ∈ tb := tbm (k := 21) (by decide +kernel) (by decide +kernel)
theorem w_22 : (Cond.methodLink RX0 3 objectInit) ∈ tb := tbm (k := 22) (by decide +kernel) (by decide +kernel)
theorem w_23 : (Cond.fieldLink RX0 15 "RingForms$Form" "size" "I") ∈ tb := tbm (k := 23) (by decide +kernel) (by decide +kernel)
theorem w_24 : (Cond.fieldLink RX4 60 "RingForms$Form" "size" "I") ∈ tb := tbm (k := 24) (by decide +kernel) (by decide +kernel)
theorem w_25 : (Cond.fieldLink RX0 9 "RingForms$Form" "coefficients" "[I") ∈ tb := tbm (k := 25) (by decide +kernel) (by decide +kernel)
theorem w_26 : (Cond.fieldLink RX4 64 "RingForms$Form" "coefficients" "[I") ∈ tb := tbm (k := 26) (by decide +kernel) (by decide +kernel)
theorem w_32 : (Cond.arrayClass .int) ∈ tb := tbm (k := 32) (by decide +kernel) (by decide +kernel)
theorem w_33 : (Cond.classLink RX4 24 RX3) ∈ tb := tbm (k := 33) (by decide +kernel) (by decide +kernel)
theorem w_34 : (Cond.instantiable RX3 5) ∈ tb := tbm (k := 34) (by decide +kernel) (by decide +kernel)
theorem w_36 : (Cond.instanceMethod yX3_init) ∈ tb := tbm (k := 36) (by decide +kernel) (by decide +kernel)
theorem w_37 : (Cond.code yX3_init cX3_init 1 none) ∈ tb := tbm (k := 37) (by decide +kernel) (by decide +kernel)
theorem w_38 : (Cond.methodLink RX3 3 objectInit) ∈ tb := tbm (k := 38) (by decide +kernel) (by decide +kernel)
theorem w_39 : (Cond.fieldLink RX3 9 "RingForms$Search" "found" "I") ∈ tb := tbm (k := 39) (by decide +kernel) (by decide +kernel)
theorem w_40 : (Cond.fieldLink RX4 119 "RingForms$Search" "found" "I") ∈ tb := tbm (k := 40) (by decide +kernel) (by decide +kernel)
theorem w_41 : (Cond.fieldLink RX3 35 "RingForms$Search" "leastMeasure" "I") ∈ tb := tbm (k := 41) (by decide +kernel) (by decide +kernel)
theorem w_42 : (Cond.fieldLink RX4 124 "RingForms$Search" "leastMeasure" "I") ∈ tb := tbm (k := 42) (by decide +kernel) (by decide +kernel)
theorem w_43 : (Cond.fieldLink RX3 38 "RingForms$Search" "leastX" "I") ∈ tb := tbm (k := 43) (by decide +kernel) (by decide +kernel)
theorem w_44 : (Cond.fieldLink RX4 127 "RingForms$Search" "leastX" "I") ∈ tb := tbm (k := 44) (by decide +kernel) (by decide +kernel)
theorem w_45 : (Cond.fieldLink RX3 41 "RingForms$Search" "leastY" "I") ∈ tb := tbm (k := 45) (by decide +kernel) (by decide +kernel)
theorem w_46 : (Cond.fieldLink RX4 130 "RingForms$Search" "leastY" "I") ∈ tb := tbm (k := 46) (by decide +kernel) (by decide +kernel)
theorem w_47 : (Cond.fieldLink RX3 44 "RingForms$Search" "leastZ" "I") ∈ tb := tbm (k := 47) (by decide +kernel) (by decide +kernel)
theorem w_48 : (Cond.fieldLink RX4 133 "RingForms$Search" "leastZ" "I") ∈ tb := tbm (k := 48) (by decide +kernel) (by decide +kernel)
theorem w_60 : (Cond.fieldLink RX4 11 "RingForms" "shelves" "[LRingForms$Form;") ∈ tb := tbm (k := 60) (by decide +kernel) (by decide +kernel)
theorem w_61 : (Cond.fieldLink RX4 16 "RingForms" "extended" "LRingForms$Form;") ∈ tb := tbm (k := 61) (by decide +kernel) (by decide +kernel)
theorem w_62 : (Cond.fieldLink RX4 20 "RingForms" "given" "[I") ∈ tb := tbm (k := 62) (by decide +kernel) (by decide +kernel)
theorem w_63 : (Cond.fieldLink RX4 27 "RingForms" "search" "LRingForms$Search;") ∈ tb := tbm (k := 63) (by decide +kernel) (by decide +kernel)
theorem w_64 : (Cond.fieldLink RX4 31 "RingForms" "traced" "J") ∈ tb := tbm (k := 64) (by decide +kernel) (by decide +kernel)
theorem w_76 : (Cond.methodLink RL 13 yX4_free) ∈ tb := tbm (k := 76) (by decide +kernel) (by decide +kernel)
theorem w_77 : (Cond.instanceMethod yX4_free) ∈ tb := tbm (k := 77) (by decide +kernel) (by decide +kernel)
theorem w_78 : (Cond.selects RX4 yX4_free yX4_free) ∈ tb := tbm (k := 78) (by decide +kernel) (by decide +kernel)
theorem w_79 : (Cond.code yX4_free cX4_free 3 (some .int)) ∈ tb := tbm (k := 79) (by decide +kernel) (by decide +kernel)
theorem w_80 : (Cond.constant RX4 35 (1000000)) ∈ tb := tbm (k := 80) (by decide +kernel) (by decide +kernel)
theorem w_81 : (Cond.methodLink RX4 36 yX4_isNumber) ∈ tb := tbm (k := 81) (by decide +kernel) (by decide +kernel)
theorem w_82 : (Cond.static yX4_isNumber) ∈ tb := tbm (k := 82) (by decide +kernel) (by decide +kernel)
theorem w_83 : (Cond.code yX4_isNumber cX4_isNumber 2 (some .boolean)) ∈ tb := tbm (k := 83) (by decide +kernel) (by decide +kernel)
theorem w_84 : (Cond.methodLink RX4 153 yX4_isWithin) ∈ tb := tbm (k := 84) (by decide +kernel) (by decide +kernel)
theorem w_85 : (Cond.static yX4_isWithin) ∈ tb := tbm (k := 85) (by decide +kernel) (by decide +kernel)
theorem w_86 : (Cond.code yX4_isWithin cX4_isWithin 2 (some .boolean)) ∈ tb := tbm (k := 86) (by decide +kernel) (by decide +kernel)
theorem w_87 : (Cond.methodLink RL 18 yX4_sign) ∈ tb := tbm (k := 87) (by decide +kernel) (by decide +kernel)
theorem w_88 : (Cond.instanceMethod yX4_sign) ∈ tb := tbm (k := 88) (by decide +kernel) (by decide +kernel)
theorem w_89 : (Cond.selects RX4 yX4_sign yX4_sign) ∈ tb := tbm (k := 89) (by decide +kernel) (by decide +kernel)
theorem w_90 : (Cond.code yX4_sign cX4_sign 4 (some .int)) ∈ tb := tbm (k := 90) (by decide +kernel) (by decide +kernel)
theorem w_91 : (Cond.methodLink RX4 40 yX2_isPlace) ∈ tb := tbm (k := 91) (by decide +kernel) (by decide +kernel)
theorem w_92 : (Cond.static yX2_isPlace) ∈ tb := tbm (k := 92) (by decide +kernel) (by decide +kernel)
theorem w_93 : (Cond.code yX2_isPlace cX2_isPlace 5 (some .boolean)) ∈ tb := tbm (k := 93) (by decide +kernel) (by decide +kernel)
theorem w_94 : (Cond.fieldLink RX2 7 "RingForms$Places" "ALL" "[I") ∈ tb := tbm (k := 94) (by decide +kernel) (by decide +kernel)
theorem w_96 : (Cond.methodLink RX4 46 yX2_signAt) ∈ tb := tbm (k := 96) (by decide +kernel) (by decide +kernel)
theorem w_97 : (Cond.static yX2_signAt) ∈ tb := tbm (k := 97) (by decide +kernel) (by decide +kernel)
theorem w_98 : (Cond.code yX2_signAt cX2_signAt 12 (some .int)) ∈ tb := tbm (k := 98) (by decide +kernel) (by decide +kernel)
theorem w_99 : (Cond.methodLink RX2 13 yX2_hasOddPower) ∈ tb := tbm (k := 99) (by decide +kernel) (by decide +kernel)
theorem w_100 : (Cond.static yX2_hasOddPower) ∈ tb := tbm (k := 100) (by decide +kernel) (by decide +kernel)
theorem w_101 : (Cond.code yX2_hasOddPower cX2_hasOddPower 7 (some .boolean)) ∈ tb := tbm (k := 101) (by decide +kernel) (by decide +kernel)
theorem w_102 : (Cond.methodLink RX2 17 yX2_unit) ∈ tb := tbm (k := 102) (by decide +kernel) (by decide +kernel)
theorem w_103 : (Cond.static yX2_unit) ∈ tb := tbm (k := 103) (by decide +kernel) (by decide +kernel)
theorem w_104 : (Cond.code yX2_unit cX2_unit 6 (some .long)) ∈ tb := tbm (k := 104) (by decide +kernel) (by decide +kernel)
theorem w_105 : (Cond.methodLink RX2 21 yX2_isThreeOfFour) ∈ tb := tbm (k := 105) (by decide +kernel) (by decide +kernel)
theorem w_106 : (Cond.static yX2_isThreeOfFour) ∈ tb := tbm (k := 106) (by decide +kernel) (by decide +kernel)
theorem w_107 : (Cond.code yX2_isThreeOfFour cX2_isThreeOfFour 2 (some .boolean)) ∈ tb := tbm (k := 107) (by decide +kernel) (by decide +kernel)
theorem w_108 : (Cond.constantLong RX2 33 (3)) ∈ tb := tbm (k := 108) (by decide +kernel) (by decide +kernel)
theorem w_109 : (Cond.methodLink RX2 25 yX2_isTurning) ∈ tb := tbm (k := 109) (by decide +kernel) (by decide +kernel)
theorem w_110 : (Cond.static yX2_isTurning) ∈ tb := tbm (k := 110) (by decide +kernel) (by decide +kernel)
theorem w_111 : (Cond.code yX2_isTurning cX2_isTurning 3 (some .boolean)) ∈ tb := tbm (k := 111) (by decide +kernel) (by decide +kernel)
theorem w_112 : (Cond.constantLong RX2 28 (7)) ∈ tb := tbm (k := 112) (by decide +kernel) (by decide +kernel)
theorem w_113 : (Cond.constantLong RX2 35 (5)) ∈ tb := tbm (k := 113) (by decide +kernel) (by decide +kernel)
theorem w_114 : (Cond.methodLink RX2 30 yX2_isResidue) ∈ tb := tbm (k := 114) (by decide +kernel) (by decide +kernel)
theorem w_115 : (Cond.static yX2_isResidue) ∈ tb := tbm (k := 115) (by decide +kernel) (by decide +kernel)
theorem w_116 : (Cond.code yX2_isResidue cX2_isResidue 6 (some .boolean)) ∈ tb := tbm (k := 116) (by decide +kernel) (by decide +kernel)
theorem w_117 : (Cond.methodLink RX2 37 yJ9_floorMod_1978a) ∈ tb := tbm (k := 117) (by decide +kernel) (by decide +kernel)
theorem w_118 : (Cond.static yJ9_floorMod_1978a) ∈ tb := tbm (k := 118) (by decide +kernel) (by decide +kernel)
theorem w_119 : (Cond.code yJ9_floorMod_1978a cJ9_floorMod_1978a 3 (some .int)) ∈ tb := tbm (k := 119) (by decide +kernel) (by decide +kernel)
theorem w_120 : (Cond.methodLink RJ9 146 yJ9_floorMod_f86c9) ∈ tb := tbm (k := 120) (by decide +kernel) (by decide +kernel)
theorem w_121 : (Cond.static yJ9_floorMod_f86c9) ∈ tb := tbm (k := 121) (by decide +kernel) (by decide +kernel)
theorem w_122 : (Cond.code yJ9_floorMod_f86c9 cJ9_floorMod_f86c9 6 (some .long)) ∈ tb := tbm (k := 122) (by decide +kernel) (by decide +kernel)
theorem w_123 : (Cond.methodLink RL 23 yX4_odds) ∈ tb := tbm (k := 123) (by decide +kernel) (by decide +kernel)
theorem w_124 : (Cond.instanceMethod yX4_odds) ∈ tb := tbm (k := 124) (by decide +kernel) (by decide +kernel)
theorem w_125 : (Cond.selects RX4 yX4_odds yX4_odds) ∈ tb := tbm (k := 125) (by decide +kernel) (by decide +kernel)
theorem w_126 : (Cond.code yX4_odds cX4_odds 8 (some .int)) ∈ tb := tbm (k := 126) (by decide +kernel) (by decide +kernel)
theorem w_127 : (Cond.fieldLink RX4 50 "RingForms$Places" "ALL" "[I") ∈ tb := tbm (k := 127) (by decide +kernel) (by decide +kernel)
theorem w_128 : (Cond.methodLink RL 28 yX4_form) ∈ tb := tbm (k := 128) (by decide +kernel) (by decide +kernel)
theorem w_129 : (Cond.instanceMethod yX4_form) ∈ tb := tbm (k := 129) (by decide +kernel) (by decide +kernel)
theorem w_130 : (Cond.selects RX4 yX4_form yX4_form) ∈ tb := tbm (k := 130) (by decide +kernel) (by decide +kernel)
theorem w_131 : (Cond.code yX4_form cX4_form 9 (some .int)) ∈ tb := tbm (k := 131) (by decide +kernel) (by decide +kernel)
theorem w_132 : (Cond.methodLink RX4 53 yX4_isShelf) ∈ tb := tbm (k := 132) (by decide +kernel) (by decide +kernel)
theorem w_133 : (Cond.static yX4_isShelf) ∈ tb := tbm (k := 133) (by decide +kernel) (by decide +kernel)
theorem w_134 : (Cond.code yX4_isShelf cX4_isShelf 1 (some .boolean)) ∈ tb := tbm (k := 134) (by decide +kernel) (by decide +kernel)
theorem w_135 : (Cond.methodLink RX4 56 yX0_take) ∈ tb := tbm (k := 135) (by decide +kernel) (by decide +kernel)
theorem w_136 : (Cond.instanceMethod yX0_take) ∈ tb := tbm (k := 136) (by decide +kernel) (by decide +kernel)
theorem w_137 : (Cond.selects RX0 yX0_take yX0_take) ∈ tb := tbm (k := 137) (by decide +kernel) (by decide +kernel)
theorem w_138 : (Cond.code yX0_take cX0_take 5 none) ∈ tb := tbm (k := 138) (by decide +kernel) (by decide +kernel)
theorem w_139 : (Cond.methodLink RL 33 yX4_at) ∈ tb := tbm (k := 139) (by decide +kernel) (by decide +kernel)
theorem w_140 : (Cond.instanceMethod yX4_at) ∈ tb := tbm (k := 140) (by decide +kernel) (by decide +kernel)
theorem w_141 : (Cond.selects RX4 yX4_at yX4_at) ∈ tb := tbm (k := 141) (by decide +kernel) (by decide +kernel)
theorem w_142 : (Cond.code yX4_at cX4_at 3 (some .int)) ∈ tb := tbm (k := 142) (by decide +kernel) (by decide +kernel)
theorem w_143 : (Cond.methodLink RL 37 yX4_whole) ∈ tb := tbm (k := 143) (by decide +kernel) (by decide +kernel)
theorem w_144 : (Cond.instanceMethod yX4_whole) ∈ tb := tbm (k := 144) (by decide +kernel) (by decide +kernel)
theorem w_145 : (Cond.selects RX4 yX4_whole yX4_whole) ∈ tb := tbm (k := 145) (by decide +kernel) (by decide +kernel)
theorem w_146 : (Cond.code yX4_whole cX4_whole 3 (some .long)) ∈ tb := tbm (k := 146) (by decide +kernel) (by decide +kernel)
theorem w_147 : (Cond.methodLink RX4 67 yX0_product) ∈ tb := tbm (k := 147) (by decide +kernel) (by decide +kernel)
theorem w_148 : (Cond.instanceMethod yX0_product) ∈ tb := tbm (k := 148) (by decide +kernel) (by decide +kernel)
theorem w_149 : (Cond.selects RX0 yX0_product yX0_product) ∈ tb := tbm (k := 149) (by decide +kernel) (by decide +kernel)
theorem w_150 : (Cond.code yX0_product cX0_product 4 (some .long)) ∈ tb := tbm (k := 150) (by decide +kernel) (by decide +kernel)
theorem w_151 : (Cond.methodLink RX4 71 yX0_freeProduct) ∈ tb := tbm (k := 151) (by decide +kernel) (by decide +kernel)
theorem w_152 : (Cond.instanceMethod yX0_freeProduct) ∈ tb := tbm (k := 152) (by decide +kernel) (by decide +kernel)
theorem w_153 : (Cond.selects RX0 yX0_freeProduct yX0_freeProduct) ∈ tb := tbm (k := 153) (by decide +kernel) (by decide +kernel)
theorem w_154 : (Cond.code yX0_freeProduct cX0_freeProduct 9 (some .long)) ∈ tb := tbm (k := 154) (by decide +kernel) (by decide +kernel)
theorem w_155 : (Cond.methodLink RX0 19 yX0_product) ∈ tb := tbm (k := 155) (by decide +kernel) (by decide +kernel)
theorem w_156 : (Cond.fieldLink RX0 23 "RingForms$Places" "ALL" "[I") ∈ tb := tbm (k := 156) (by decide +kernel) (by decide +kernel)
theorem w_157 : (Cond.methodLink RL 42 yX4_hold) ∈ tb := tbm (k := 157) (by decide +kernel) (by decide +kernel)
theorem w_158 : (Cond.instanceMethod yX4_hold) ∈ tb := tbm (k := 158) (by decide +kernel) (by decide +kernel)
theorem w_159 : (Cond.selects RX4 yX4_hold yX4_hold) ∈ tb := tbm (k := 159) (by decide +kernel) (by decide +kernel)
theorem w_160 : (Cond.code yX4_hold cX4_hold 3 (some .int)) ∈ tb := tbm (k := 160) (by decide +kernel) (by decide +kernel)
theorem w_161 : (Cond.methodLink RX4 74 yX0_signsAt) ∈ tb := tbm (k := 161) (by decide +kernel) (by decide +kernel)
theorem w_162 : (Cond.instanceMethod yX0_signsAt) ∈ tb := tbm (k := 162) (by decide +kernel) (by decide +kernel)
theorem w_163 : (Cond.selects RX0 yX0_signsAt yX0_signsAt) ∈ tb := tbm (k := 163) (by decide +kernel) (by decide +kernel)
theorem w_164 : (Cond.code yX0_signsAt cX0_signsAt 5 (some .int)) ∈ tb := tbm (k := 164) (by decide +kernel) (by decide +kernel)
theorem w_165 : (Cond.methodLink RX0 28 yX2_signAt) ∈ tb := tbm (k := 165) (by decide +kernel) (by decide +kernel)
theorem w_166 : (Cond.methodLink RL 46 yX4_goes) ∈ tb := tbm (k := 166) (by decide +kernel) (by decide +kernel)
theorem w_167 : (Cond.instanceMethod yX4_goes) ∈ tb := tbm (k := 167) (by decide +kernel) (by decide +kernel)
theorem w_168 : (Cond.selects RX4 yX4_goes yX4_goes) ∈ tb := tbm (k := 168) (by decide +kernel) (by decide +kernel)
theorem w_169 : (Cond.code yX4_goes cX4_goes 3 (some .int)) ∈ tb := tbm (k := 169) (by decide +kernel) (by decide +kernel)
theorem w_170 : (Cond.methodLink RX4 78 yX0_goesAt) ∈ tb := tbm (k := 170) (by decide +kernel) (by decide +kernel)
theorem w_171 : (Cond.instanceMethod yX0_goesAt) ∈ tb := tbm (k := 171) (by decide +kernel) (by decide +kernel)
theorem w_172 : (Cond.selects RX0 yX0_goesAt yX0_goesAt) ∈ tb := tbm (k := 172) (by decide +kernel) (by decide +kernel)
theorem w_173 : (Cond.code yX0_goesAt cX0_goesAt 3 (some .boolean)) ∈ tb := tbm (k := 173) (by decide +kernel) (by decide +kernel)
theorem w_174 : (Cond.methodLink RX0 32 yX0_countAbove) ∈ tb := tbm (k := 174) (by decide +kernel) (by decide +kernel)
theorem w_175 : (Cond.instanceMethod yX0_countAbove) ∈ tb := tbm (k := 175) (by decide +kernel) (by decide +kernel)
theorem w_176 : (Cond.selects RX0 yX0_countAbove yX0_countAbove) ∈ tb := tbm (k := 176) (by decide +kernel) (by decide +kernel)
theorem w_177 : (Cond.code yX0_countAbove cX0_countAbove 3 (some .int)) ∈ tb := tbm (k := 177) (by decide +kernel) (by decide +kernel)
theorem w_178 : (Cond.methodLink RX0 36 yX2_isSquareAtPrime) ∈ tb := tbm (k := 178) (by decide +kernel) (by decide +kernel)
theorem w_179 : (Cond.static yX2_isSquareAtPrime) ∈ tb := tbm (k := 179) (by decide +kernel) (by decide +kernel)
theorem w_180 : (Cond.code yX2_isSquareAtPrime cX2_isSquareAtPrime 5 (some .boolean)) ∈ tb := tbm (k := 180) (by decide +kernel) (by decide +kernel)
theorem w_181 : (Cond.methodLink RX0 40 yX0_signsAt) ∈ tb := tbm (k := 181) (by decide +kernel) (by decide +kernel)
theorem w_182 : (Cond.constantLong RX0 44 (-1)) ∈ tb := tbm (k := 182) (by decide +kernel) (by decide +kernel)
theorem w_183 : (Cond.methodLink RL 50 yX4_nought) ∈ tb := tbm (k := 183) (by decide +kernel) (by decide +kernel)
theorem w_184 : (Cond.instanceMethod yX4_nought) ∈ tb := tbm (k := 184) (by decide +kernel) (by decide +kernel)
theorem w_185 : (Cond.selects RX4 yX4_nought yX4_nought) ∈ tb := tbm (k := 185) (by decide +kernel) (by decide +kernel)
theorem w_186 : (Cond.code yX4_nought cX4_nought 2 (some .int)) ∈ tb := tbm (k := 186) (by decide +kernel) (by decide +kernel)
theorem w_187 : (Cond.methodLink RX4 81 yX0_countBars) ∈ tb := tbm (k := 187) (by decide +kernel) (by decide +kernel)
theorem w_188 : (Cond.instanceMethod yX0_countBars) ∈ tb := tbm (k := 188) (by decide +kernel) (by decide +kernel)
theorem w_189 : (Cond.selects RX0 yX0_countBars yX0_countBars) ∈ tb := tbm (k := 189) (by decide +kernel) (by decide +kernel)
theorem w_190 : (Cond.code yX0_countBars cX0_countBars 6 (some .int)) ∈ tb := tbm (k := 190) (by decide +kernel) (by decide +kernel)
theorem w_191 : (Cond.methodLink RX0 46 yX0_mayBar) ∈ tb := tbm (k := 191) (by decide +kernel) (by decide +kernel)
theorem w_193 : (Cond.instanceMethod yX0_mayBar) ∈ tb := tbm (k := 193) (by decide +kernel) (by decide +kernel)
theorem w_194 : (Cond.code yX0_mayBar cX0_mayBar 3 (some .boolean)) ∈ tb := tbm (k := 194) (by decide +kernel) (by decide +kernel)
theorem w_195 : (Cond.methodLink RX0 50 yX0_goesAt) ∈ tb := tbm (k := 195) (by decide +kernel) (by decide +kernel)
theorem w_196 : (Cond.methodLink RL 54 yX4_bars) ∈ tb := tbm (k := 196) (by decide +kernel) (by decide +kernel)
theorem w_197 : (Cond.instanceMethod yX4_bars) ∈ tb := tbm (k := 197) (by decide +kernel) (by decide +kernel)
theorem w_198 : (Cond.selects RX4 yX4_bars yX4_bars) ∈ tb := tbm (k := 198) (by decide +kernel) (by decide +kernel)
theorem w_199 : (Cond.code yX4_bars cX4_bars 2 (some .int)) ∈ tb := tbm (k := 199) (by decide +kernel) (by decide +kernel)
theorem w_200 : (Cond.methodLink RL 58 yX4_bar) ∈ tb := tbm (k := 200) (by decide +kernel) (by decide +kernel)
theorem w_201 : (Cond.instanceMethod yX4_bar) ∈ tb := tbm (k := 201) (by decide +kernel) (by decide +kernel)
theorem w_202 : (Cond.selects RX4 yX4_bar yX4_bar) ∈ tb := tbm (k := 202) (by decide +kernel) (by decide +kernel)
theorem w_203 : (Cond.code yX4_bar cX4_bar 4 (some .int)) ∈ tb := tbm (k := 203) (by decide +kernel) (by decide +kernel)
theorem w_204 : (Cond.methodLink RX4 85 yX0_findBar) ∈ tb := tbm (k := 204) (by decide +kernel) (by decide +kernel)
theorem w_205 : (Cond.instanceMethod yX0_findBar) ∈ tb := tbm (k := 205) (by decide +kernel) (by decide +kernel)
theorem w_206 : (Cond.selects RX0 yX0_findBar yX0_findBar) ∈ tb := tbm (k := 206) (by decide +kernel) (by decide +kernel)
theorem w_207 : (Cond.code yX0_findBar cX0_findBar 7 (some .int)) ∈ tb := tbm (k := 207) (by decide +kernel) (by decide +kernel)
theorem w_208 : (Cond.methodLink RL 62 yX4_takes) ∈ tb := tbm (k := 208) (by decide +kernel) (by decide +kernel)
theorem w_209 : (Cond.instanceMethod yX4_takes) ∈ tb := tbm (k := 209) (by decide +kernel) (by decide +kernel)
theorem w_210 : (Cond.selects RX4 yX4_takes yX4_takes) ∈ tb := tbm (k := 210) (by decide +kernel) (by decide +kernel)
theorem w_211 : (Cond.code yX4_takes cX4_takes 4 (some .int)) ∈ tb := tbm (k := 211) (by decide +kernel) (by decide +kernel)
theorem w_212 : (Cond.methodLink RX4 88 yX0_append) ∈ tb := tbm (k := 212) (by decide +kernel) (by decide +kernel)
theorem w_213 : (Cond.instanceMethod yX0_append) ∈ tb := tbm (k := 213) (by decide +kernel) (by decide +kernel)
theorem w_214 : (Cond.selects RX0 yX0_append yX0_append) ∈ tb := tbm (k := 214) (by decide +kernel) (by decide +kernel)
theorem w_215 : (Cond.code yX0_append cX0_append 2 none) ∈ tb := tbm (k := 215) (by decide +kernel) (by decide +kernel)
theorem w_216 : (Cond.methodLink RL 66 yX4_alike) ∈ tb := tbm (k := 216) (by decide +kernel) (by decide +kernel)
theorem w_217 : (Cond.instanceMethod yX4_alike) ∈ tb := tbm (k := 217) (by decide +kernel) (by decide +kernel)
theorem w_218 : (Cond.selects RX4 yX4_alike yX4_alike) ∈ tb := tbm (k := 218) (by decide +kernel) (by decide +kernel)
theorem w_219 : (Cond.code yX4_alike cX4_alike 3 (some .int)) ∈ tb := tbm (k := 219) (by decide +kernel) (by decide +kernel)
theorem w_220 : (Cond.methodLink RX4 92 yX0_isAlike) ∈ tb := tbm (k := 220) (by decide +kernel) (by decide +kernel)
theorem w_221 : (Cond.instanceMethod yX0_isAlike) ∈ tb := tbm (k := 221) (by decide +kernel) (by decide +kernel)
theorem w_222 : (Cond.selects RX0 yX0_isAlike yX0_isAlike) ∈ tb := tbm (k := 222) (by decide +kernel) (by decide +kernel)
theorem w_223 : (Cond.code yX0_isAlike cX0_isAlike 6 (some .boolean)) ∈ tb := tbm (k := 223) (by decide +kernel) (by decide +kernel)
theorem w_224 : (Cond.methodLink RX0 53 yX0_freeProduct) ∈ tb := tbm (k := 224) (by decide +kernel) (by decide +kernel)
theorem w_225 : (Cond.methodLink RL 70 yX4_worth) ∈ tb := tbm (k := 225) (by decide +kernel) (by decide +kernel)
theorem w_226 : (Cond.instanceMethod yX4_worth) ∈ tb := tbm (k := 226) (by decide +kernel) (by decide +kernel)
theorem w_227 : (Cond.selects RX4 yX4_worth yX4_worth) ∈ tb := tbm (k := 227) (by decide +kernel) (by decide +kernel)
theorem w_228 : (Cond.code yX4_worth cX4_worth 5 (some .long)) ∈ tb := tbm (k := 228) (by decide +kernel) (by decide +kernel)
theorem w_229 : (Cond.methodLink RX4 96 yX4_areWithin) ∈ tb := tbm (k := 229) (by decide +kernel) (by decide +kernel)
theorem w_230 : (Cond.static yX4_areWithin) ∈ tb := tbm (k := 230) (by decide +kernel) (by decide +kernel)
theorem w_231 : (Cond.code yX4_areWithin cX4_areWithin 4 (some .boolean)) ∈ tb := tbm (k := 231) (by decide +kernel) (by decide +kernel)
theorem w_232 : (Cond.constantLong RX4 100 (-1000000000000000)) ∈ tb := tbm (k := 232) (by decide +kernel) (by decide +kernel)
theorem w_233 : (Cond.methodLink RX4 102 yX0_pairing) ∈ tb := tbm (k := 233) (by decide +kernel) (by decide +kernel)
theorem w_234 : (Cond.instanceMethod yX0_pairing) ∈ tb := tbm (k := 234) (by decide +kernel) (by decide +kernel)
theorem w_235 : (Cond.selects RX0 yX0_pairing yX0_pairing) ∈ tb := tbm (k := 235) (by decide +kernel) (by decide +kernel)
theorem w_236 : (Cond.code yX0_pairing cX0_pairing 7 (some .long)) ∈ tb := tbm (k := 236) (by decide +kernel) (by decide +kernel)
theorem w_237 : (Cond.methodLink RL 75 yX4_measure) ∈ tb := tbm (k := 237) (by decide +kernel) (by decide +kernel)
theorem w_238 : (Cond.instanceMethod yX4_measure) ∈ tb := tbm (k := 238) (by decide +kernel) (by decide +kernel)
theorem w_239 : (Cond.selects RX4 yX4_measure yX4_measure) ∈ tb := tbm (k := 239) (by decide +kernel) (by decide +kernel)
theorem w_240 : (Cond.code yX4_measure cX4_measure 5 (some .int)) ∈ tb := tbm (k := 240) (by decide +kernel) (by decide +kernel)
theorem w_241 : (Cond.fieldLink RX4 106 "RingForms" "TRACES" "[I") ∈ tb := tbm (k := 241) (by decide +kernel) (by decide +kernel)
theorem w_243 : (Cond.methodLink RX4 109 yX1_byKind) ∈ tb := tbm (k := 243) (by decide +kernel) (by decide +kernel)
theorem w_244 : (Cond.static yX1_byKind) ∈ tb := tbm (k := 244) (by decide +kernel) (by decide +kernel)
theorem w_245 : (Cond.code yX1_byKind cX1_byKind 4 (some .int)) ∈ tb := tbm (k := 245) (by decide +kernel) (by decide +kernel)
theorem w_246 : (Cond.methodLink RX1 7 yX1_great) ∈ tb := tbm (k := 246) (by decide +kernel) (by decide +kernel)
theorem w_247 : (Cond.static yX1_great) ∈ tb := tbm (k := 247) (by decide +kernel) (by decide +kernel)
theorem w_248 : (Cond.code yX1_great cX1_great 3 (some .int)) ∈ tb := tbm (k := 248) (by decide +kernel) (by decide +kernel)
theorem w_249 : (Cond.methodLink RX1 19 Lib.Math.abs.name) ∈ tb := tbm (k := 249) (by decide +kernel) (by decide +kernel)
theorem w_250 : (Cond.static Lib.Math.abs.name) ∈ tb := tbm (k := 250) (by decide +kernel) (by decide +kernel)
theorem w_251 : (Cond.code Lib.Math.abs.name Lib.Math.abs.code 1 (some .int)) ∈ tb := tbm (k := 251) (by decide +kernel) (by decide +kernel)
theorem w_252 : (Cond.methodLink RX1 25 Lib.Math.max.name) ∈ tb := tbm (k := 252) (by decide +kernel) (by decide +kernel)
theorem w_253 : (Cond.static Lib.Math.max.name) ∈ tb := tbm (k := 253) (by decide +kernel) (by decide +kernel)
theorem w_254 : (Cond.code Lib.Math.max.name Lib.Math.max.code 2 (some .int)) ∈ tb := tbm (k := 254) (by decide +kernel) (by decide +kernel)
theorem w_255 : (Cond.methodLink RX1 13 yX1_wide) ∈ tb := tbm (k := 255) (by decide +kernel) (by decide +kernel)
theorem w_256 : (Cond.static yX1_wide) ∈ tb := tbm (k := 256) (by decide +kernel) (by decide +kernel)
theorem w_257 : (Cond.code yX1_wide cX1_wide 3 (some .int)) ∈ tb := tbm (k := 257) (by decide +kernel) (by decide +kernel)
theorem w_258 : (Cond.methodLink RX1 16 yX1_odd) ∈ tb := tbm (k := 258) (by decide +kernel) (by decide +kernel)
theorem w_259 : (Cond.static yX1_odd) ∈ tb := tbm (k := 259) (by decide +kernel) (by decide +kernel)
theorem w_260 : (Cond.code yX1_odd cX1_odd 3 (some .int)) ∈ tb := tbm (k := 260) (by decide +kernel) (by decide +kernel)
theorem w_261 : (Cond.methodLink RL 80 yX4_least) ∈ tb := tbm (k := 261) (by decide +kernel) (by decide +kernel)
theorem w_262 : (Cond.instanceMethod yX4_least) ∈ tb := tbm (k := 262) (by decide +kernel) (by decide +kernel)
theorem w_263 : (Cond.selects RX4 yX4_least yX4_least) ∈ tb := tbm (k := 263) (by decide +kernel) (by decide +kernel)
theorem w_264 : (Cond.code yX4_least cX4_least 4 (some .long)) ∈ tb := tbm (k := 264) (by decide +kernel) (by decide +kernel)
theorem w_265 : (Cond.methodLink RX4 115 yX3_run) ∈ tb := tbm (k := 265) (by decide +kernel) (by decide +kernel)
theorem w_266 : (Cond.instanceMethod yX3_run) ∈ tb := tbm (k := 266) (by decide +kernel) (by decide +kernel)
theorem w_267 : (Cond.selects RX3 yX3_run yX3_run) ∈ tb := tbm (k := 267) (by decide +kernel) (by decide +kernel)
theorem w_268 : (Cond.code yX3_run cX3_run 6 none) ∈ tb := tbm (k := 268) (by decide +kernel) (by decide +kernel)
theorem w_269 : (Cond.methodLink RX3 15 yX0_thirdFor) ∈ tb := tbm (k := 269) (by decide +kernel) (by decide +kernel)
theorem w_270 : (Cond.instanceMethod yX0_thirdFor) ∈ tb := tbm (k := 270) (by decide +kernel) (by decide +kernel)
theorem w_271 : (Cond.selects RX0 yX0_thirdFor yX0_thirdFor) ∈ tb := tbm (k := 271) (by decide +kernel) (by decide +kernel)
theorem w_272 : (Cond.code yX0_thirdFor cX0_thirdFor 7 (some .int)) ∈ tb := tbm (k := 272) (by decide +kernel) (by decide +kernel)
theorem w_273 : (Cond.methodLink RX3 21 yX3_meet) ∈ tb := tbm (k := 273) (by decide +kernel) (by decide +kernel)
theorem w_275 : (Cond.instanceMethod yX3_meet) ∈ tb := tbm (k := 275) (by decide +kernel) (by decide +kernel)
theorem w_276 : (Cond.code yX3_meet cX3_meet 6 none) ∈ tb := tbm (k := 276) (by decide +kernel) (by decide +kernel)
theorem w_278 : (Cond.static yX4_isReduced) ∈ tb := tbm (k := 278) (by decide +kernel) (by decide +kernel)
theorem w_279 : (Cond.code yX4_isReduced cX4_isReduced 3 (some .boolean)) ∈ tb := tbm (k := 279) (by decide +kernel) (by decide +kernel)
theorem w_280 : (Cond.methodLink RX4 146 yX4_reducer) ∈ tb := tbm (k := 280) (by decide +kernel) (by decide +kernel)
theorem w_281 : (Cond.static yX4_reducer) ∈ tb := tbm (k := 281) (by decide +kernel) (by decide +kernel)
theorem w_282 : (Cond.code yX4_reducer cX4_reducer 10 (some .long)) ∈ tb := tbm (k := 282) (by decide +kernel) (by decide +kernel)
theorem w_283 : (Cond.methodLink RX4 156 yX4_commonDivisor) ∈ tb := tbm (k := 283) (by decide +kernel) (by decide +kernel)
theorem w_284 : (Cond.static yX4_commonDivisor) ∈ tb := tbm (k := 284) (by decide +kernel) (by decide +kernel)
theorem w_285 : (Cond.code yX4_commonDivisor cX4_commonDivisor 11 (some .long)) ∈ tb := tbm (k := 285) (by decide +kernel) (by decide +kernel)
theorem w_286 : (Cond.methodLink RX4 160 Lib.MathLoose.abs_long.x) ∈ tb := tbm (k := 286) (by decide +kernel) (by decide +kernel)
theorem w_287 : (Cond.static Lib.MathLoose.abs_long.x) ∈ tb := tbm (k := 287) (by decide +kernel) (by decide +kernel)
theorem w_288 : (Cond.code Lib.MathLoose.abs_long.x Lib.MathLoose.abs_long.code 2 (some .long)) ∈ tb := tbm (k := 288) (by decide +kernel) (by decide +kernel)
theorem w_289 : (Cond.methodLink RX3 29 yX1_byKind) ∈ tb := tbm (k := 289) (by decide +kernel) (by decide +kernel)
theorem w_290 : (Cond.constantLong RX4 122 (-999999999999999)) ∈ tb := tbm (k := 290) (by decide +kernel) (by decide +kernel)
theorem w_291 : (Cond.methodLink RX4 136 yX4_pick) ∈ tb := tbm (k := 291) (by decide +kernel) (by decide +kernel)
theorem w_292 : (Cond.static yX4_pick) ∈ tb := tbm (k := 292) (by decide +kernel) (by decide +kernel)
theorem w_293 : (Cond.code yX4_pick cX4_pick 7 (some .long)) ∈ tb := tbm (k := 293) (by decide +kernel) (by decide +kernel)
theorem w_294 : (Cond.methodLink RL 85 yX4_many) ∈ tb := tbm (k := 294) (by decide +kernel) (by decide +kernel)
theorem w_295 : (Cond.instanceMethod yX4_many) ∈ tb := tbm (k := 295) (by decide +kernel) (by decide +kernel)
theorem w_296 : (Cond.selects RX4 yX4_many yX4_many) ∈ tb := tbm (k := 296) (by decide +kernel) (by decide +kernel)
theorem w_297 : (Cond.code yX4_many cX4_many 2 (some .int)) ∈ tb := tbm (k := 297) (by decide +kernel) (by decide +kernel)
theorem w_298 : (Cond.methodLink RL 89 yX4_line) ∈ tb := tbm (k := 298) (by decide +kernel) (by decide +kernel)
theorem w_299 : (Cond.instanceMethod yX4_line) ∈ tb := tbm (k := 299) (by decide +kernel) (by decide +kernel)
theorem w_300 : (Cond.selects RX4 yX4_line yX4_line) ∈ tb := tbm (k := 300) (by decide +kernel) (by decide +kernel)
theorem w_301 : (Cond.code yX4_line cX4_line 22 (some .long)) ∈ tb := tbm (k := 301) (by decide +kernel) (by decide +kernel)
theorem w_302 : (Cond.methodLink RX4 140 yX4_isReduced) ∈ tb := tbm (k := 302) (by decide +kernel) (by decide +kernel)
theorem w_303 : (Cond.constantLong RX4 144 (2)) ∈ tb := tbm (k := 303) (by decide +kernel) (by decide +kernel)
theorem w_304 : (Cond.methodLink RL 94 yX4_count) ∈ tb := tbm (k := 304) (by decide +kernel) (by decide +kernel)
theorem w_305 : (Cond.instanceMethod yX4_count) ∈ tb := tbm (k := 305) (by decide +kernel) (by decide +kernel)
theorem w_306 : (Cond.selects RX4 yX4_count yX4_count) ∈ tb := tbm (k := 306) (by decide +kernel) (by decide +kernel)
theorem w_307 : (Cond.code yX4_count cX4_count 3 (some .int)) ∈ tb := tbm (k := 307) (by decide +kernel) (by decide +kernel)
theorem w_308 : (Cond.methodLink RX4 150 yX0_countAbove) ∈ tb := tbm (k := 308) (by decide +kernel) (by decide +kernel)
theorem w_309 : (Cond.methodLink RL 98 yX4_trace) ∈ tb := tbm (k := 309) (by decide +kernel) (by decide +kernel)
theorem w_310 : (Cond.instanceMethod yX4_trace) ∈ tb := tbm (k := 310) (by decide +kernel) (by decide +kernel)
theorem w_311 : (Cond.selects RX4 yX4_trace yX4_trace) ∈ tb := tbm (k := 311) (by decide +kernel) (by decide +kernel)
theorem w_312 : (Cond.code yX4_trace cX4_trace 1 (some .long)) ∈ tb := tbm (k := 312) (by decide +kernel) (by decide +kernel)
theorem w_313 : (Cond.classLink RL 10 RX5) ∈ tb := tbm (k := 313) (by decide +kernel) (by decide +kernel)
theorem w_314 : (Cond.instantiable RX5 10) ∈ tb := tbm (k := 314) (by decide +kernel) (by decide +kernel)
theorem w_315 : (Cond.methodLink RL 12 yX5_init) ∈ tb := tbm (k := 315) (by decide +kernel) (by decide +kernel)
theorem w_316 : (Cond.instanceMethod yX5_init) ∈ tb := tbm (k := 316) (by decide +kernel) (by decide +kernel)
theorem w_317 : (Cond.code yX5_init cX5_init 2 none) ∈ tb := tbm (k := 317) (by decide +kernel) (by decide +kernel)
theorem w_318 : (Cond.methodLink RX5 1 objectInit) ∈ tb := tbm (k := 318) (by decide +kernel) (by decide +kernel)
theorem w_319 : (Cond.fieldLink RX5 16 "RingFormsModel" "thrown" "I") ∈ tb := tbm (k := 319) (by decide +kernel) (by decide +kernel)
theorem w_320 : (Cond.fieldLink RX5 131 "RingFormsModel" "trace" "J") ∈ tb := tbm (k := 320) (by decide +kernel) (by decide +kernel)
theorem w_321 : (Cond.fieldLink RX5 7 "RingFormsModel" "sizes" "[I") ∈ tb := tbm (k := 321) (by decide +kernel) (by decide +kernel)
theorem w_322 : (Cond.fieldLink RX5 13 "RingFormsModel" "rows" "[I") ∈ tb := tbm (k := 322) (by decide +kernel) (by decide +kernel)
theorem w_323 : (Cond.fieldLink RX5 160 "RingFormsModel" "bestX" "I") ∈ tb := tbm (k := 323) (by decide +kernel) (by decide +kernel)
theorem w_324 : (Cond.fieldLink RX5 163 "RingFormsModel" "bestY" "I") ∈ tb := tbm (k := 324) (by decide +kernel) (by decide +kernel)
theorem w_325 : (Cond.fieldLink RX5 166 "RingFormsModel" "bestZ" "I") ∈ tb := tbm (k := 325) (by decide +kernel) (by decide +kernel)
theorem w_326 : (Cond.fieldLink RX5 157 "RingFormsModel" "bestMeasure" "I") ∈ tb := tbm (k := 326) (by decide +kernel) (by decide +kernel)
theorem w_327 : (Cond.fieldLink RX5 150 "RingFormsModel" "solutions" "I") ∈ tb := tbm (k := 327) (by decide +kernel) (by decide +kernel)
theorem w_328 : (Cond.fieldLink RX5 32 "RingFormsModel" "exponent" "I") ∈ tb := tbm (k := 328) (by decide +kernel) (by decide +kernel)
theorem w_350 : (Cond.methodLink RL 17 yX5_free) ∈ tb := tbm (k := 350) (by decide +kernel) (by decide +kernel)
theorem w_351 : (Cond.instanceMethod yX5_free) ∈ tb := tbm (k := 351) (by decide +kernel) (by decide +kernel)
theorem w_352 : (Cond.selects RX5 yX5_free yX5_free) ∈ tb := tbm (k := 352) (by decide +kernel) (by decide +kernel)
theorem w_353 : (Cond.code yX5_free cX5_free 4 (some .int)) ∈ tb := tbm (k := 353) (by decide +kernel) (by decide +kernel)
theorem w_354 : (Cond.constant RX5 49 (1000000)) ∈ tb := tbm (k := 354) (by decide +kernel) (by decide +kernel)
theorem w_355 : (Cond.methodLink RX5 50 yX5_isTold) ∈ tb := tbm (k := 355) (by decide +kernel) (by decide +kernel)
theorem w_356 : (Cond.static yX5_isTold) ∈ tb := tbm (k := 356) (by decide +kernel) (by decide +kernel)
theorem w_357 : (Cond.code yX5_isTold cX5_isTold 2 (some .boolean)) ∈ tb := tbm (k := 357) (by decide +kernel) (by decide +kernel)
theorem w_358 : (Cond.methodLink RX5 24 yX5_in) ∈ tb := tbm (k := 358) (by decide +kernel) (by decide +kernel)
theorem w_359 : (Cond.static yX5_in) ∈ tb := tbm (k := 359) (by decide +kernel) (by decide +kernel)
theorem w_360 : (Cond.code yX5_in cX5_in 6 (some .boolean)) ∈ tb := tbm (k := 360) (by decide +kernel) (by decide +kernel)
theorem w_361 : (Cond.methodLink RL 22 yX5_sign) ∈ tb := tbm (k := 361) (by decide +kernel) (by decide +kernel)
theorem w_362 : (Cond.instanceMethod yX5_sign) ∈ tb := tbm (k := 362) (by decide +kernel) (by decide +kernel)
theorem w_363 : (Cond.selects RX5 yX5_sign yX5_sign) ∈ tb := tbm (k := 363) (by decide +kernel) (by decide +kernel)
theorem w_364 : (Cond.code yX5_sign cX5_sign 4 (some .int)) ∈ tb := tbm (k := 364) (by decide +kernel) (by decide +kernel)
theorem w_365 : (Cond.methodLink RX5 54 yX5_isPlace) ∈ tb := tbm (k := 365) (by decide +kernel) (by decide +kernel)
theorem w_366 : (Cond.static yX5_isPlace) ∈ tb := tbm (k := 366) (by decide +kernel) (by decide +kernel)
theorem w_367 : (Cond.code yX5_isPlace cX5_isPlace 1 (some .boolean)) ∈ tb := tbm (k := 367) (by decide +kernel) (by decide +kernel)
theorem w_368 : (Cond.constantLong RX5 20 (2)) ∈ tb := tbm (k := 368) (by decide +kernel) (by decide +kernel)
theorem w_369 : (Cond.constantLong RX5 22 (397)) ∈ tb := tbm (k := 369) (by decide +kernel) (by decide +kernel)
theorem w_370 : (Cond.methodLink RX5 28 yX5_isPrime) ∈ tb := tbm (k := 370) (by decide +kernel) (by decide +kernel)
theorem w_371 : (Cond.static yX5_isPrime) ∈ tb := tbm (k := 371) (by decide +kernel) (by decide +kernel)
theorem w_372 : (Cond.code yX5_isPrime cX5_isPrime 3 (some .boolean)) ∈ tb := tbm (k := 372) (by decide +kernel) (by decide +kernel)
theorem w_373 : (Cond.methodLink RX5 57 yX5_signOf) ∈ tb := tbm (k := 373) (by decide +kernel) (by decide +kernel)
theorem w_375 : (Cond.instanceMethod yX5_signOf) ∈ tb := tbm (k := 375) (by decide +kernel) (by decide +kernel)
theorem w_376 : (Cond.code yX5_signOf cX5_signOf 15 (some .int)) ∈ tb := tbm (k := 376) (by decide +kernel) (by decide +kernel)
theorem w_377 : (Cond.methodLink RX5 37 yX5_without) ∈ tb := tbm (k := 377) (by decide +kernel) (by decide +kernel)
theorem w_379 : (Cond.instanceMethod yX5_without) ∈ tb := tbm (k := 379) (by decide +kernel) (by decide +kernel)
theorem w_380 : (Cond.code yX5_without cX5_without 6 (some .long)) ∈ tb := tbm (k := 380) (by decide +kernel) (by decide +kernel)
theorem w_381 : (Cond.methodLink RX5 41 yX5_rest) ∈ tb := tbm (k := 381) (by decide +kernel) (by decide +kernel)
theorem w_382 : (Cond.static yX5_rest) ∈ tb := tbm (k := 382) (by decide +kernel) (by decide +kernel)
theorem w_383 : (Cond.code yX5_rest cX5_rest 3 (some .int)) ∈ tb := tbm (k := 383) (by decide +kernel) (by decide +kernel)
theorem w_384 : (Cond.constantLong RX5 35 (8)) ∈ tb := tbm (k := 384) (by decide +kernel) (by decide +kernel)
theorem w_385 : (Cond.methodLink RX5 45 yX5_root) ∈ tb := tbm (k := 385) (by decide +kernel) (by decide +kernel)
theorem w_386 : (Cond.static yX5_root) ∈ tb := tbm (k := 386) (by decide +kernel) (by decide +kernel)
theorem w_387 : (Cond.code yX5_root cX5_root 8 (some .int)) ∈ tb := tbm (k := 387) (by decide +kernel) (by decide +kernel)
theorem w_388 : (Cond.methodLink RL 27 yX5_odds) ∈ tb := tbm (k := 388) (by decide +kernel) (by decide +kernel)
theorem w_389 : (Cond.instanceMethod yX5_odds) ∈ tb := tbm (k := 389) (by decide +kernel) (by decide +kernel)
theorem w_390 : (Cond.selects RX5 yX5_odds yX5_odds) ∈ tb := tbm (k := 390) (by decide +kernel) (by decide +kernel)
theorem w_391 : (Cond.code yX5_odds cX5_odds 5 (some .int)) ∈ tb := tbm (k := 391) (by decide +kernel) (by decide +kernel)
theorem w_392 : (Cond.methodLink RL 32 yX5_form) ∈ tb := tbm (k := 392) (by decide +kernel) (by decide +kernel)
theorem w_393 : (Cond.instanceMethod yX5_form) ∈ tb := tbm (k := 393) (by decide +kernel) (by decide +kernel)
theorem w_394 : (Cond.selects RX5 yX5_form yX5_form) ∈ tb := tbm (k := 394) (by decide +kernel) (by decide +kernel)
theorem w_395 : (Cond.code yX5_form cX5_form 9 (some .int)) ∈ tb := tbm (k := 395) (by decide +kernel) (by decide +kernel)
theorem w_396 : (Cond.methodLink RX5 63 yX5_isShelf) ∈ tb := tbm (k := 396) (by decide +kernel) (by decide +kernel)
theorem w_397 : (Cond.static yX5_isShelf) ∈ tb := tbm (k := 397) (by decide +kernel) (by decide +kernel)
theorem w_398 : (Cond.code yX5_isShelf cX5_isShelf 1 (some .boolean)) ∈ tb := tbm (k := 398) (by decide +kernel) (by decide +kernel)
theorem w_399 : (Cond.constantLong RX5 61 (3)) ∈ tb := tbm (k := 399) (by decide +kernel) (by decide +kernel)
theorem w_400 : (Cond.constantLong RX5 66 (5)) ∈ tb := tbm (k := 400) (by decide +kernel) (by decide +kernel)
theorem w_401 : (Cond.methodLink RL 36 yX5_at) ∈ tb := tbm (k := 401) (by decide +kernel) (by decide +kernel)
theorem w_402 : (Cond.instanceMethod yX5_at) ∈ tb := tbm (k := 402) (by decide +kernel) (by decide +kernel)
theorem w_403 : (Cond.selects RX5 yX5_at yX5_at) ∈ tb := tbm (k := 403) (by decide +kernel) (by decide +kernel)
theorem w_404 : (Cond.code yX5_at cX5_at 3 (some .int)) ∈ tb := tbm (k := 404) (by decide +kernel) (by decide +kernel)
theorem w_405 : (Cond.methodLink RL 41 yX5_whole) ∈ tb := tbm (k := 405) (by decide +kernel) (by decide +kernel)
theorem w_406 : (Cond.instanceMethod yX5_whole) ∈ tb := tbm (k := 406) (by decide +kernel) (by decide +kernel)
theorem w_407 : (Cond.selects RX5 yX5_whole yX5_whole) ∈ tb := tbm (k := 407) (by decide +kernel) (by decide +kernel)
theorem w_408 : (Cond.code yX5_whole cX5_whole 3 (some .long)) ∈ tb := tbm (k := 408) (by decide +kernel) (by decide +kernel)
theorem w_409 : (Cond.methodLink RX5 68 yX5_productOf) ∈ tb := tbm (k := 409) (by decide +kernel) (by decide +kernel)
theorem w_411 : (Cond.instanceMethod yX5_productOf) ∈ tb := tbm (k := 411) (by decide +kernel) (by decide +kernel)
theorem w_412 : (Cond.code yX5_productOf cX5_productOf 6 (some .long)) ∈ tb := tbm (k := 412) (by decide +kernel) (by decide +kernel)
theorem w_413 : (Cond.methodLink RX5 72 yX5_freeOf) ∈ tb := tbm (k := 413) (by decide +kernel) (by decide +kernel)
theorem w_415 : (Cond.instanceMethod yX5_freeOf) ∈ tb := tbm (k := 415) (by decide +kernel) (by decide +kernel)
theorem w_416 : (Cond.code yX5_freeOf cX5_freeOf 5 (some .long)) ∈ tb := tbm (k := 416) (by decide +kernel) (by decide +kernel)
theorem w_417 : (Cond.methodLink RL 45 yX5_hold) ∈ tb := tbm (k := 417) (by decide +kernel) (by decide +kernel)
theorem w_418 : (Cond.instanceMethod yX5_hold) ∈ tb := tbm (k := 418) (by decide +kernel) (by decide +kernel)
theorem w_419 : (Cond.selects RX5 yX5_hold yX5_hold) ∈ tb := tbm (k := 419) (by decide +kernel) (by decide +kernel)
theorem w_420 : (Cond.code yX5_hold cX5_hold 3 (some .int)) ∈ tb := tbm (k := 420) (by decide +kernel) (by decide +kernel)
theorem w_421 : (Cond.methodLink RX5 76 yX5_holdOf) ∈ tb := tbm (k := 421) (by decide +kernel) (by decide +kernel)
theorem w_423 : (Cond.instanceMethod yX5_holdOf) ∈ tb := tbm (k := 423) (by decide +kernel) (by decide +kernel)
theorem w_424 : (Cond.code yX5_holdOf cX5_holdOf 7 (some .int)) ∈ tb := tbm (k := 424) (by decide +kernel) (by decide +kernel)
theorem w_425 : (Cond.methodLink RL 49 yX5_goes) ∈ tb := tbm (k := 425) (by decide +kernel) (by decide +kernel)
theorem w_426 : (Cond.instanceMethod yX5_goes) ∈ tb := tbm (k := 426) (by decide +kernel) (by decide +kernel)
theorem w_427 : (Cond.selects RX5 yX5_goes yX5_goes) ∈ tb := tbm (k := 427) (by decide +kernel) (by decide +kernel)
theorem w_428 : (Cond.code yX5_goes cX5_goes 3 (some .int)) ∈ tb := tbm (k := 428) (by decide +kernel) (by decide +kernel)
theorem w_429 : (Cond.methodLink RX5 90 yX5_isGoing) ∈ tb := tbm (k := 429) (by decide +kernel) (by decide +kernel)
theorem w_431 : (Cond.instanceMethod yX5_isGoing) ∈ tb := tbm (k := 431) (by decide +kernel) (by decide +kernel)
theorem w_432 : (Cond.code yX5_isGoing cX5_isGoing 7 (some .boolean)) ∈ tb := tbm (k := 432) (by decide +kernel) (by decide +kernel)
theorem w_433 : (Cond.methodLink RX5 80 yX5_aboveOf) ∈ tb := tbm (k := 433) (by decide +kernel) (by decide +kernel)
theorem w_435 : (Cond.instanceMethod yX5_aboveOf) ∈ tb := tbm (k := 435) (by decide +kernel) (by decide +kernel)
theorem w_436 : (Cond.code yX5_aboveOf cX5_aboveOf 5 (some .int)) ∈ tb := tbm (k := 436) (by decide +kernel) (by decide +kernel)
theorem w_437 : (Cond.methodLink RX5 84 yX5_isSquare) ∈ tb := tbm (k := 437) (by decide +kernel) (by decide +kernel)
theorem w_439 : (Cond.instanceMethod yX5_isSquare) ∈ tb := tbm (k := 439) (by decide +kernel) (by decide +kernel)
theorem w_440 : (Cond.code yX5_isSquare cX5_isSquare 6 (some .boolean)) ∈ tb := tbm (k := 440) (by decide +kernel) (by decide +kernel)
theorem w_441 : (Cond.constantLong RX5 88 (-1)) ∈ tb := tbm (k := 441) (by decide +kernel) (by decide +kernel)
theorem w_442 : (Cond.methodLink RL 53 yX5_nought) ∈ tb := tbm (k := 442) (by decide +kernel) (by decide +kernel)
theorem w_443 : (Cond.instanceMethod yX5_nought) ∈ tb := tbm (k := 443) (by decide +kernel) (by decide +kernel)
theorem w_444 : (Cond.selects RX5 yX5_nought yX5_nought) ∈ tb := tbm (k := 444) (by decide +kernel) (by decide +kernel)
theorem w_445 : (Cond.code yX5_nought cX5_nought 2 (some .int)) ∈ tb := tbm (k := 445) (by decide +kernel) (by decide +kernel)
theorem w_446 : (Cond.methodLink RX5 101 yX5_isNought) ∈ tb := tbm (k := 446) (by decide +kernel) (by decide +kernel)
theorem w_448 : (Cond.instanceMethod yX5_isNought) ∈ tb := tbm (k := 448) (by decide +kernel) (by decide +kernel)
theorem w_449 : (Cond.code yX5_isNought cX5_isNought 5 (some .boolean)) ∈ tb := tbm (k := 449) (by decide +kernel) (by decide +kernel)
theorem w_450 : (Cond.methodLink RX5 94 yX5_isWholeSquare) ∈ tb := tbm (k := 450) (by decide +kernel) (by decide +kernel)
theorem w_451 : (Cond.static yX5_isWholeSquare) ∈ tb := tbm (k := 451) (by decide +kernel) (by decide +kernel)
theorem w_452 : (Cond.code yX5_isWholeSquare cX5_isWholeSquare 4 (some .boolean)) ∈ tb := tbm (k := 452) (by decide +kernel) (by decide +kernel)
theorem w_453 : (Cond.methodLink RX5 98 yX5_isOf) ∈ tb := tbm (k := 453) (by decide +kernel) (by decide +kernel)
theorem w_455 : (Cond.instanceMethod yX5_isOf) ∈ tb := tbm (k := 455) (by decide +kernel) (by decide +kernel)
theorem w_456 : (Cond.code yX5_isOf cX5_isOf 6 (some .boolean)) ∈ tb := tbm (k := 456) (by decide +kernel) (by decide +kernel)
theorem w_457 : (Cond.methodLink RL 57 yX5_bars) ∈ tb := tbm (k := 457) (by decide +kernel) (by decide +kernel)
theorem w_458 : (Cond.instanceMethod yX5_bars) ∈ tb := tbm (k := 458) (by decide +kernel) (by decide +kernel)
theorem w_459 : (Cond.selects RX5 yX5_bars yX5_bars) ∈ tb := tbm (k := 459) (by decide +kernel) (by decide +kernel)
theorem w_460 : (Cond.code yX5_bars cX5_bars 2 (some .int)) ∈ tb := tbm (k := 460) (by decide +kernel) (by decide +kernel)
theorem w_461 : (Cond.methodLink RX5 104 yX5_barOf) ∈ tb := tbm (k := 461) (by decide +kernel) (by decide +kernel)
theorem w_463 : (Cond.instanceMethod yX5_barOf) ∈ tb := tbm (k := 463) (by decide +kernel) (by decide +kernel)
theorem w_464 : (Cond.code yX5_barOf cX5_barOf 5 (some .int)) ∈ tb := tbm (k := 464) (by decide +kernel) (by decide +kernel)
theorem w_465 : (Cond.methodLink RL 61 yX5_bar) ∈ tb := tbm (k := 465) (by decide +kernel) (by decide +kernel)
theorem w_466 : (Cond.instanceMethod yX5_bar) ∈ tb := tbm (k := 466) (by decide +kernel) (by decide +kernel)
theorem w_467 : (Cond.selects RX5 yX5_bar yX5_bar) ∈ tb := tbm (k := 467) (by decide +kernel) (by decide +kernel)
theorem w_468 : (Cond.code yX5_bar cX5_bar 4 (some .int)) ∈ tb := tbm (k := 468) (by decide +kernel) (by decide +kernel)
theorem w_469 : (Cond.methodLink RL 65 yX5_takes) ∈ tb := tbm (k := 469) (by decide +kernel) (by decide +kernel)
theorem w_470 : (Cond.instanceMethod yX5_takes) ∈ tb := tbm (k := 470) (by decide +kernel) (by decide +kernel)
theorem w_471 : (Cond.selects RX5 yX5_takes yX5_takes) ∈ tb := tbm (k := 471) (by decide +kernel) (by decide +kernel)
theorem w_472 : (Cond.code yX5_takes cX5_takes 6 (some .int)) ∈ tb := tbm (k := 472) (by decide +kernel) (by decide +kernel)
theorem w_473 : (Cond.methodLink RL 69 yX5_alike) ∈ tb := tbm (k := 473) (by decide +kernel) (by decide +kernel)
theorem w_474 : (Cond.instanceMethod yX5_alike) ∈ tb := tbm (k := 474) (by decide +kernel) (by decide +kernel)
theorem w_475 : (Cond.selects RX5 yX5_alike yX5_alike) ∈ tb := tbm (k := 475) (by decide +kernel) (by decide +kernel)
theorem w_476 : (Cond.code yX5_alike cX5_alike 6 (some .int)) ∈ tb := tbm (k := 476) (by decide +kernel) (by decide +kernel)
theorem w_477 : (Cond.methodLink RL 74 yX5_worth) ∈ tb := tbm (k := 477) (by decide +kernel) (by decide +kernel)
theorem w_478 : (Cond.instanceMethod yX5_worth) ∈ tb := tbm (k := 478) (by decide +kernel) (by decide +kernel)
theorem w_479 : (Cond.selects RX5 yX5_worth yX5_worth) ∈ tb := tbm (k := 479) (by decide +kernel) (by decide +kernel)
theorem w_480 : (Cond.code yX5_worth cX5_worth 5 (some .long)) ∈ tb := tbm (k := 480) (by decide +kernel) (by decide +kernel)
theorem w_481 : (Cond.methodLink RX5 107 yX5_isThree) ∈ tb := tbm (k := 481) (by decide +kernel) (by decide +kernel)
theorem w_483 : (Cond.instanceMethod yX5_isThree) ∈ tb := tbm (k := 483) (by decide +kernel) (by decide +kernel)
theorem w_484 : (Cond.code yX5_isThree cX5_isThree 2 (some .boolean)) ∈ tb := tbm (k := 484) (by decide +kernel) (by decide +kernel)
theorem w_485 : (Cond.constantLong RX5 110 (-1000)) ∈ tb := tbm (k := 485) (by decide +kernel) (by decide +kernel)
theorem w_486 : (Cond.constantLong RX5 112 (1000)) ∈ tb := tbm (k := 486) (by decide +kernel) (by decide +kernel)
theorem w_487 : (Cond.methodLink RX5 114 yX5_worthOf) ∈ tb := tbm (k := 487) (by decide +kernel) (by decide +kernel)
theorem w_489 : (Cond.instanceMethod yX5_worthOf) ∈ tb := tbm (k := 489) (by decide +kernel) (by decide +kernel)
theorem w_490 : (Cond.code yX5_worthOf cX5_worthOf 8 (some .long)) ∈ tb := tbm (k := 490) (by decide +kernel) (by decide +kernel)
theorem w_491 : (Cond.constantLong RX5 118 (-1000000000000000)) ∈ tb := tbm (k := 491) (by decide +kernel) (by decide +kernel)
theorem w_492 : (Cond.methodLink RL 79 yX5_measure) ∈ tb := tbm (k := 492) (by decide +kernel) (by decide +kernel)
theorem w_493 : (Cond.instanceMethod yX5_measure) ∈ tb := tbm (k := 493) (by decide +kernel) (by decide +kernel)
theorem w_494 : (Cond.selects RX5 yX5_measure yX5_measure) ∈ tb := tbm (k := 494) (by decide +kernel) (by decide +kernel)
theorem w_495 : (Cond.code yX5_measure cX5_measure 5 (some .int)) ∈ tb := tbm (k := 495) (by decide +kernel) (by decide +kernel)
theorem w_496 : (Cond.methodLink RX5 128 yX5_isNear) ∈ tb := tbm (k := 496) (by decide +kernel) (by decide +kernel)
theorem w_497 : (Cond.static yX5_isNear) ∈ tb := tbm (k := 497) (by decide +kernel) (by decide +kernel)
theorem w_498 : (Cond.code yX5_isNear cX5_isNear 3 (some .boolean)) ∈ tb := tbm (k := 498) (by decide +kernel) (by decide +kernel)
theorem w_499 : (Cond.constantLong RX5 120 (-30)) ∈ tb := tbm (k := 499) (by decide +kernel) (by decide +kernel)
theorem w_500 : (Cond.constantLong RX5 122 (30)) ∈ tb := tbm (k := 500) (by decide +kernel) (by decide +kernel)
theorem w_501 : (Cond.constantLong RX5 135 (11)) ∈ tb := tbm (k := 501) (by decide +kernel) (by decide +kernel)
theorem w_502 : (Cond.constantLong RX5 137 (111)) ∈ tb := tbm (k := 502) (by decide +kernel) (by decide +kernel)
theorem w_503 : (Cond.methodLink RX5 139 yX5_measureOf) ∈ tb := tbm (k := 503) (by decide +kernel) (by decide +kernel)
theorem w_504 : (Cond.static yX5_measureOf) ∈ tb := tbm (k := 504) (by decide +kernel) (by decide +kernel)
theorem w_505 : (Cond.code yX5_measureOf cX5_measureOf 5 (some .int)) ∈ tb := tbm (k := 505) (by decide +kernel) (by decide +kernel)
theorem w_506 : (Cond.methodLink RX5 124 yX5_size) ∈ tb := tbm (k := 506) (by decide +kernel) (by decide +kernel)
theorem w_507 : (Cond.static yX5_size) ∈ tb := tbm (k := 507) (by decide +kernel) (by decide +kernel)
theorem w_508 : (Cond.code yX5_size cX5_size 1 (some .int)) ∈ tb := tbm (k := 508) (by decide +kernel) (by decide +kernel)
theorem w_509 : (Cond.methodLink RL 84 yX5_least) ∈ tb := tbm (k := 509) (by decide +kernel) (by decide +kernel)
theorem w_510 : (Cond.instanceMethod yX5_least) ∈ tb := tbm (k := 510) (by decide +kernel) (by decide +kernel)
theorem w_511 : (Cond.selects RX5 yX5_least yX5_least) ∈ tb := tbm (k := 511) (by decide +kernel) (by decide +kernel)
theorem w_512 : (Cond.code yX5_least cX5_least 4 (some .long)) ∈ tb := tbm (k := 512) (by decide +kernel) (by decide +kernel)
theorem w_513 : (Cond.methodLink RX5 169 yX5_seeks) ∈ tb := tbm (k := 513) (by decide +kernel) (by decide +kernel)
theorem w_515 : (Cond.instanceMethod yX5_seeks) ∈ tb := tbm (k := 515) (by decide +kernel) (by decide +kernel)
theorem w_516 : (Cond.code yX5_seeks cX5_seeks 7 none) ∈ tb := tbm (k := 516) (by decide +kernel) (by decide +kernel)
theorem w_517 : (Cond.methodLink RX5 153 yX5_isSolution) ∈ tb := tbm (k := 517) (by decide +kernel) (by decide +kernel)
theorem w_519 : (Cond.instanceMethod yX5_isSolution) ∈ tb := tbm (k := 519) (by decide +kernel) (by decide +kernel)
theorem w_520 : (Cond.code yX5_isSolution cX5_isSolution 5 (some .boolean)) ∈ tb := tbm (k := 520) (by decide +kernel) (by decide +kernel)
theorem w_521 : (Cond.methodLink RX5 143 yX5_isFirstAbove) ∈ tb := tbm (k := 521) (by decide +kernel) (by decide +kernel)
theorem w_522 : (Cond.static yX5_isFirstAbove) ∈ tb := tbm (k := 522) (by decide +kernel) (by decide +kernel)
theorem w_523 : (Cond.code yX5_isFirstAbove cX5_isFirstAbove 6 (some .boolean)) ∈ tb := tbm (k := 523) (by decide +kernel) (by decide +kernel)
theorem w_524 : (Cond.methodLink RX5 146 yX5_common) ∈ tb := tbm (k := 524) (by decide +kernel) (by decide +kernel)
theorem w_525 : (Cond.static yX5_common) ∈ tb := tbm (k := 525) (by decide +kernel) (by decide +kernel)
theorem w_526 : (Cond.code yX5_common cX5_common 10 (some .long)) ∈ tb := tbm (k := 526) (by decide +kernel) (by decide +kernel)
theorem w_527 : (Cond.constantLong RX5 173 (-999999999999999)) ∈ tb := tbm (k := 527) (by decide +kernel) (by decide +kernel)
theorem w_528 : (Cond.methodLink RL 88 yX5_many) ∈ tb := tbm (k := 528) (by decide +kernel) (by decide +kernel)
theorem w_529 : (Cond.instanceMethod yX5_many) ∈ tb := tbm (k := 529) (by decide +kernel) (by decide +kernel)
theorem w_530 : (Cond.selects RX5 yX5_many yX5_many) ∈ tb := tbm (k := 530) (by decide +kernel) (by decide +kernel)
theorem w_531 : (Cond.code yX5_many cX5_many 2 (some .int)) ∈ tb := tbm (k := 531) (by decide +kernel) (by decide +kernel)
theorem w_532 : (Cond.methodLink RL 93 yX5_line) ∈ tb := tbm (k := 532) (by decide +kernel) (by decide +kernel)
theorem w_533 : (Cond.instanceMethod yX5_line) ∈ tb := tbm (k := 533) (by decide +kernel) (by decide +kernel)
theorem w_534 : (Cond.selects RX5 yX5_line yX5_line) ∈ tb := tbm (k := 534) (by decide +kernel) (by decide +kernel)
theorem w_535 : (Cond.code yX5_line cX5_line 21 (some .long)) ∈ tb := tbm (k := 535) (by decide +kernel) (by decide +kernel)
theorem w_536 : (Cond.methodLink RL 97 yX5_count) ∈ tb := tbm (k := 536) (by decide +kernel) (by decide +kernel)
theorem w_537 : (Cond.instanceMethod yX5_count) ∈ tb := tbm (k := 537) (by decide +kernel) (by decide +kernel)
theorem w_538 : (Cond.selects RX5 yX5_count yX5_count) ∈ tb := tbm (k := 538) (by decide +kernel) (by decide +kernel)
theorem w_539 : (Cond.code yX5_count cX5_count 3 (some .int)) ∈ tb := tbm (k := 539) (by decide +kernel) (by decide +kernel)
theorem w_540 : (Cond.methodLink RL 102 yX5_trace) ∈ tb := tbm (k := 540) (by decide +kernel) (by decide +kernel)
theorem w_541 : (Cond.instanceMethod yX5_trace) ∈ tb := tbm (k := 541) (by decide +kernel) (by decide +kernel)
theorem w_542 : (Cond.selects RX5 yX5_trace yX5_trace) ∈ tb := tbm (k := 542) (by decide +kernel) (by decide +kernel)
theorem w_543 : (Cond.code yX5_trace cX5_trace 1 (some .long)) ∈ tb := tbm (k := 543) (by decide +kernel) (by decide +kernel)
theorem w_s0 : (Cond.selects RX0 yX0_mayBar yX0_mayBar) ∈ tb := tbs (k := 0) (by decide +kernel) (by decide +kernel)
theorem w_s1 : (Cond.selects RX3 yX3_meet yX3_meet) ∈ tb := tbs (k := 1) (by decide +kernel) (by decide +kernel)
theorem w_s2 : (Cond.selects RX5 yX5_signOf yX5_signOf) ∈ tb := tbs (k := 2) (by decide +kernel) (by decide +kernel)
theorem w_s3 : (Cond.selects RX5 yX5_without yX5_without) ∈ tb := tbs (k := 3) (by decide +kernel) (by decide +kernel)
theorem w_s4 : (Cond.selects RX5 yX5_productOf yX5_productOf) ∈ tb := tbs (k := 4) (by decide +kernel) (by decide +kernel)
theorem w_s5 : (Cond.selects RX5 yX5_freeOf yX5_freeOf) ∈ tb := tbs (k := 5) (by decide +kernel) (by decide +kernel)
theorem w_s6 : (Cond.selects RX5 yX5_holdOf yX5_holdOf) ∈ tb := tbs (k := 6) (by decide +kernel) (by decide +kernel)
theorem w_s7 : (Cond.selects RX5 yX5_isGoing yX5_isGoing) ∈ tb := tbs (k := 7) (by decide +kernel) (by decide +kernel)
theorem w_s8 : (Cond.selects RX5 yX5_aboveOf yX5_aboveOf) ∈ tb := tbs (k := 8) (by decide +kernel) (by decide +kernel)
theorem w_s9 : (Cond.selects RX5 yX5_isSquare yX5_isSquare) ∈ tb := tbs (k := 9) (by decide +kernel) (by decide +kernel)
theorem w_s10 : (Cond.selects RX5 yX5_isNought yX5_isNought) ∈ tb := tbs (k := 10) (by decide +kernel) (by decide +kernel)
theorem w_s11 : (Cond.selects RX5 yX5_isOf yX5_isOf) ∈ tb := tbs (k := 11) (by decide +kernel) (by decide +kernel)
theorem w_s12 : (Cond.selects RX5 yX5_barOf yX5_barOf) ∈ tb := tbs (k := 12) (by decide +kernel) (by decide +kernel)
theorem w_s13 : (Cond.selects RX5 yX5_isThree yX5_isThree) ∈ tb := tbs (k := 13) (by decide +kernel) (by decide +kernel)
theorem w_s14 : (Cond.selects RX5 yX5_worthOf yX5_worthOf) ∈ tb := tbs (k := 14) (by decide +kernel) (by decide +kernel)
theorem w_s15 : (Cond.selects RX5 yX5_seeks yX5_seeks) ∈ tb := tbs (k := 15) (by decide +kernel) (by decide +kernel)
theorem w_s16 : (Cond.selects RX5 yX5_isSolution yX5_isSolution) ∈ tb := tbs (k := 16) (by decide +kernel) (by decide +kernel)
theorem inX0 : ∀ w ∈ wsX00, w ∈ tb := tbl [27, 29] (by decide +kernel) (by decide +kernel)
theorem inX3 : ∀ w ∈ wsX30, w ∈ tb := tbl [49, 51, 53, 55, 57] (by decide +kernel) (by decide +kernel)
theorem inX4 : ∀ w ∈ wsX40, w ∈ tb := tbl [65, 67, 69, 71, 73] (by decide +kernel) (by decide +kernel)
theorem inX5 : ∀ w ∈ wsX50, w ∈ tb := tbl [329, 331, 333, 335, 337, 339, 341, 343, 345, 347] (by decide +kernel) (by decide +kernel)
end
section
theorem dX0_init_0 : decode cX0_init 0 = .ok (.aload_n 0, 1) := by decide +kernel
theorem dX0_init_1 : decode cX0_init 1 = .ok (.invokespecial 3, 3) := by decide +kernel
theorem dX0_init_4 : decode cX0_init 4 = .ok (.aload_n 0, 1) := by decide +kernel
theorem dX0_init_5 : decode cX0_init 5 = .ok (.bipush 6, 2) := by decide +kernel
theorem dX0_init_7 : decode cX0_init 7 = .ok (.newarray .int, 2) := by decide +kernel
theorem dX0_init_9 : decode cX0_init 9 = .ok (.putfield 9, 3) := by decide +kernel
theorem dX0_init_12 : decode cX0_init 12 = .ok (.aload_n 0, 1) := by decide +kernel
theorem dX0_init_13 : decode cX0_init 13 = .ok (.getfield 9, 3) := by decide +kernel
theorem dX0_init_16 : decode cX0_init 16 = .ok (.iconst 0, 1) := by decide +kernel
theorem dX0_init_17 : decode cX0_init 17 = .ok (.iconst 1, 1) := by decide +kernel
theorem dX0_init_18 : decode cX0_init 18 = .ok (.iastore, 1) := by decide +kernel
theorem dX0_init_19 : decode cX0_init 19 = .ok (.aload_n 0, 1) := by decide +kernel
theorem dX0_init_20 : decode cX0_init 20 = .ok (.iconst 1, 1) := by decide +kernel
theorem dX0_init_21 : decode cX0_init 21 = .ok (.putfield 15, 3) := by decide +kernel
theorem dX0_init_24 : decode cX0_init 24 = .ok (.return_, 1) := by decide +kernel
theorem dX0_take_0 : decode cX0_take 0 = .ok (.iconst 0, 1) := by decide +kernel
theorem dX0_take_1 : decode cX0_take 1 = .ok (.istore_n 3, 1) := by decide +kernel
theorem dX0_take_2 : decode cX0_take 2 = .ok (.iconst 0, 1) := by decide +kernel
theorem dX0_take_3 : decode cX0_take 3 = .ok (.istore 4, 2) := by decide +kernel
theorem dX0_take_5 : decode cX0_take 5 = .ok (.iload 4, 2) := by decide +kernel
theorem dX0_take_7 : decode cX0_take 7 = .ok (.iload_n 2, 1) := by decide +kernel
theorem dX0_take_8 : decode cX0_take 8 = .ok (.if_icmp .ge 40, 3) := by decide +kernel
theorem dX0_take_11 : decode cX0_take 11 = .ok (.iload 4, 2) := by decide +kernel
theorem dX0_take_13 : decode cX0_take 13 = .ok (.aload_n 1, 1) := by decide +kernel
theorem dX0_take_14 : decode cX0_take 14 = .ok (.arraylength, 1) := by decide +kernel
theorem dX0_take_15 : decode cX0_take 15 = .ok (.if_icmp .ge 33, 3) := by decide +kernel
theorem dX0_take_18 : decode cX0_take 18 = .ok (.iload 4, 2) := by decide +kernel
theorem dX0_take_20 : decode cX0_take 20 = .ok (.aload_n 0, 1) := by decide +kernel
theorem dX0_take_21 : decode cX0_take 21 = .ok (.getfield 9, 3) := by decide +kernel
theorem dX0_take_24 : decode cX0_take 24 = .ok (.arraylength, 1) := by decide +kernel
theorem dX0_take_25 : decode cX0_take 25 = .ok (.if_icmp .ge 23, 3) := by decide +kernel
theorem dX0_take_28 : decode cX0_take 28 = .ok (.aload_n 0, 1) := by decide +kernel
theorem dX0_take_29 : decode cX0_take 29 = .ok (.getfield 9, 3) := by decide +kernel
theorem dX0_take_32 : decode cX0_take 32 = .ok (.iload 4, 2) := by decide +kernel
theorem dX0_take_34 : decode cX0_take 34 = .ok (.aload_n 1, 1) := by decide +kernel
theorem dX0_take_35 : decode cX0_take 35 = .ok (.iload 4, 2) := by decide +kernel
theorem dX0_take_37 : decode cX0_take 37 = .ok (.iaload, 1) := by decide +kernel
theorem dX0_take_38 : decode cX0_take 38 = .ok (.iastore, 1) := by decide +kernel
theorem dX0_take_39 : decode cX0_take 39 = .ok (.iinc 3 1, 3) := by decide +kernel
theorem dX0_take_42 : decode cX0_take 42 = .ok (.iinc 4 1, 3) := by decide +kernel
theorem dX0_take_45 : decode cX0_take 45 = .ok (.goto (-40), 3) := by decide +kernel
theorem dX0_take_48 : decode cX0_take 48 = .ok (.aload_n 0, 1) := by decide +kernel
theorem dX0_take_49 : decode cX0_take 49 = .ok (.iload_n 3, 1) := by decide +kernel
theorem dX0_take_50 : decode cX0_take 50 = .ok (.putfield 15, 3) := by decide +kernel
theorem dX0_take_53 : decode cX0_take 53 = .ok (.return_, 1) := by decide +kernel
theorem dX0_append_0 : decode cX0_append 0 = .ok (.aload_n 0, 1) := by decide +kernel
theorem dX0_append_1 : decode cX0_append 1 = .ok (.getfield 15, 3) := by decide +kernel
theorem dX0_append_4 : decode cX0_append 4 = .ok (.aload_n 0, 1) := by decide +kernel
theorem dX0_append_5 : decode cX0_append 5 = .ok (.getfield 9, 3) := by decide +kernel
theorem dX0_append_8 : decode cX0_append 8 = .ok (.arraylength, 1) := by decide +kernel
theorem dX0_append_9 : decode cX0_append 9 = .ok (.if_icmp .ge 23, 3) := by decide +kernel
theorem dX0_append_12 : decode cX0_append 12 = .ok (.aload_n 0, 1) := by decide +kernel
theorem dX0_append_13 : decode cX0_append 13 = .ok (.getfield 9, 3) := by decide +kernel
theorem dX0_append_16 : decode cX0_append 16 = .ok (.aload_n 0, 1) := by decide +kernel
theorem dX0_append_17 : decode cX0_append 17 = .ok (.getfield 15, 3) := by decide +kernel
theorem dX0_append_20 : decode cX0_append 20 = .ok (.iload_n 1, 1) := by decide +kernel
theorem dX0_append_21 : decode cX0_append 21 = .ok (.iastore, 1) := by decide +kernel
theorem dX0_append_22 : decode cX0_append 22 = .ok (.aload_n 0, 1) := by decide +kernel
theorem dX0_append_23 : decode cX0_append 23 = .ok (.dup, 1) := by decide +kernel
theorem dX0_append_24 : decode cX0_append 24 = .ok (.getfield 15, 3) := by decide +kernel
theorem dX0_append_27 : decode cX0_append 27 = .ok (.iconst 1, 1) := by decide +kernel
theorem dX0_append_28 : decode cX0_append 28 = .ok (.iadd, 1) := by decide +kernel
theorem dX0_append_29 : decode cX0_append 29 = .ok (.putfield 15, 3) := by decide +kernel
theorem dX0_append_32 : decode cX0_append 32 = .ok (.return_, 1) := by decide +kernel
theorem dX0_product_0 : decode cX0_product 0 = .ok (.lconst 1, 1) := by decide +kernel
theorem dX0_product_1 : decode cX0_product 1 = .ok (.lstore_n 1, 1) := by decide +kernel
theorem dX0_product_2 : decode cX0_product 2 = .ok (.iconst 0, 1) := by decide +kernel
theorem dX0_product_3 : decode cX0_product 3 = .ok (.istore_n 3, 1) := by decide +kernel
theorem dX0_product_4 : decode cX0_product 4 = .ok (.iload_n 3, 1) := by decide +kernel
theorem dX0_product_5 : decode cX0_product 5 = .ok (.aload_n 0, 1) := by decide +kernel
theorem dX0_product_6 : decode cX0_product 6 = .ok (.getfield 15, 3) := by decide +kernel
theorem dX0_product_9 : decode cX0_product 9 = .ok (.if_icmp .ge 19, 3) := by decide +kernel
theorem dX0_product_12 : decode cX0_product 12 = .ok (.lload_n 1, 1) := by decide +kernel
theorem dX0_product_13 : decode cX0_product 13 = .ok (.aload_n 0, 1) := by decide +kernel
theorem dX0_product_14 : decode cX0_product 14 = .ok (.getfield 9, 3) := by decide +kernel
theorem dX0_product_17 : decode cX0_product 17 = .ok (.iload_n 3, 1) := by decide +kernel
theorem dX0_product_18 : decode cX0_product 18 = .ok (.iaload, 1) := by decide +kernel
theorem dX0_product_19 : decode cX0_product 19 = .ok (.i2l, 1) := by decide +kernel
theorem dX0_product_20 : decode cX0_product 20 = .ok (.lmul, 1) := by decide +kernel
theorem dX0_product_21 : decode cX0_product 21 = .ok (.lstore_n 1, 1) := by decide +kernel
theorem dX0_product_22 : decode cX0_product 22 = .ok (.iinc 3 1, 3) := by decide +kernel
theorem dX0_product_25 : decode cX0_product 25 = .ok (.goto (-21), 3) := by decide +kernel
theorem dX0_product_28 : decode cX0_product 28 = .ok (.lload_n 1, 1) := by decide +kernel
theorem dX0_product_29 : decode cX0_product 29 = .ok (.lreturn, 1) := by decide +kernel
theorem dX0_freeProduct_0 : decode cX0_freeProduct 0 = .ok (.aload_n 0, 1) := by decide +kernel
theorem dX0_freeProduct_1 : decode cX0_freeProduct 1 = .ok (.invokevirtual 19, 3) := by decide +kernel
theorem dX0_freeProduct_4 : decode cX0_freeProduct 4 = .ok (.lstore_n 1, 1) := by decide +kernel
theorem dX0_freeProduct_5 : decode cX0_freeProduct 5 = .ok (.getstatic 23, 3) := by decide +kernel
theorem dX0_freeProduct_8 : decode cX0_freeProduct 8 = .ok (.astore_n 3, 1) := by decide +kernel
theorem dX0_freeProduct_9 : decode cX0_freeProduct 9 = .ok (.aload_n 3, 1) := by decide +kernel
theorem dX0_freeProduct_10 : decode cX0_freeProduct 10 = .ok (.arraylength, 1) := by decide +kernel
theorem dX0_freeProduct_11 : decode cX0_freeProduct 11 = .ok (.istore 4, 2) := by decide +kernel
theorem dX0_freeProduct_13 : decode cX0_freeProduct 13 = .ok (.iconst 0, 1) := by decide +kernel
theorem dX0_freeProduct_14 : decode cX0_freeProduct 14 = .ok (.istore 5, 2) := by decide +kernel
theorem dX0_freeProduct_16 : decode cX0_freeProduct 16 = .ok (.iload 5, 2) := by decide +kernel
theorem dX0_freeProduct_18 : decode cX0_freeProduct 18 = .ok (.iload 4, 2) := by decide +kernel
theorem dX0_freeProduct_20 : decode cX0_freeProduct 20 = .ok (.if_icmp .ge 60, 3) := by decide +kernel
theorem dX0_freeProduct_23 : decode cX0_freeProduct 23 = .ok (.aload_n 3, 1) := by decide +kernel
theorem dX0_freeProduct_24 : decode cX0_freeProduct 24 = .ok (.iload 5, 2) := by decide +kernel
theorem dX0_freeProduct_26 : decode cX0_freeProduct 26 = .ok (.iaload, 1) := by decide +kernel
theorem dX0_freeProduct_27 : decode cX0_freeProduct 27 = .ok (.istore 6, 2) := by decide +kernel
theorem dX0_freeProduct_29 : decode cX0_freeProduct 29 = .ok (.iload 6, 2) := by decide +kernel
theorem dX0_freeProduct_31 : decode cX0_freeProduct 31 = .ok (.iload 6, 2) := by decide +kernel
theorem dX0_freeProduct_33 : decode cX0_freeProduct 33 = .ok (.imul, 1) := by decide +kernel
theorem dX0_freeProduct_34 : decode cX0_freeProduct 34 = .ok (.istore 7, 2) := by decide +kernel
theorem dX0_freeProduct_36 : decode cX0_freeProduct 36 = .ok (.iconst 0, 1) := by decide +kernel
theorem dX0_freeProduct_37 : decode cX0_freeProduct 37 = .ok (.istore 8, 2) := by decide +kernel
theorem dX0_freeProduct_39 : decode cX0_freeProduct 39 = .ok (.iload 8, 2) := by decide +kernel
theorem dX0_freeProduct_41 : decode cX0_freeProduct 41 = .ok (.bipush 64, 2) := by decide +kernel
theorem dX0_freeProduct_43 : decode cX0_freeProduct 43 = .ok (.if_icmp .ge 31, 3) := by decide +kernel
theorem dX0_freeProduct_46 : decode cX0_freeProduct 46 = .ok (.iload 7, 2) := by decide +kernel
theorem dX0_freeProduct_48 : decode cX0_freeProduct 48 = .ok (.iconst 1, 1) := by decide +kernel
theorem dX0_freeProduct_49 : decode cX0_freeProduct 49 = .ok (.if_icmp .le 25, 3) := by decide +kernel
theorem dX0_freeProduct_52 : decode cX0_freeProduct 52 = .ok (.lload_n 1, 1) := by decide +kernel
theorem dX0_freeProduct_53 : decode cX0_freeProduct 53 = .ok (.iload 7, 2) := by decide +kernel
theorem dX0_freeProduct_55 : decode cX0_freeProduct 55 = .ok (.i2l, 1) := by decide +kernel
theorem dX0_freeProduct_56 : decode cX0_freeProduct 56 = .ok (.lrem, 1) := by decide +kernel
theorem dX0_freeProduct_57 : decode cX0_freeProduct 57 = .ok (.lconst 0, 1) := by decide +kernel
theorem dX0_freeProduct_58 : decode cX0_freeProduct 58 = .ok (.lcmp, 1) := by decide +kernel
theorem dX0_freeProduct_59 : decode cX0_freeProduct 59 = .ok (.ifCond .ne 15, 3) := by decide +kernel
theorem dX0_freeProduct_62 : decode cX0_freeProduct 62 = .ok (.lload_n 1, 1) := by decide +kernel
theorem dX0_freeProduct_63 : decode cX0_freeProduct 63 = .ok (.iload 7, 2) := by decide +kernel
theorem dX0_freeProduct_65 : decode cX0_freeProduct 65 = .ok (.i2l, 1) := by decide +kernel
theorem dX0_freeProduct_66 : decode cX0_freeProduct 66 = .ok (.ldiv, 1) := by decide +kernel
theorem dX0_freeProduct_67 : decode cX0_freeProduct 67 = .ok (.lstore_n 1, 1) := by decide +kernel
theorem dX0_freeProduct_68 : decode cX0_freeProduct 68 = .ok (.iinc 8 1, 3) := by decide +kernel
theorem dX0_freeProduct_71 : decode cX0_freeProduct 71 = .ok (.goto (-32), 3) := by decide +kernel
theorem dX0_freeProduct_74 : decode cX0_freeProduct 74 = .ok (.iinc 5 1, 3) := by decide +kernel
theorem dX0_freeProduct_77 : decode cX0_freeProduct 77 = .ok (.goto (-61), 3) := by decide +kernel
theorem dX0_freeProduct_80 : decode cX0_freeProduct 80 = .ok (.lload_n 1, 1) := by decide +kernel
theorem dX0_freeProduct_81 : decode cX0_freeProduct 81 = .ok (.lreturn, 1) := by decide +kernel
theorem dX0_countAbove_0 : decode cX0_countAbove 0 = .ok (.iconst 0, 1) := by decide +kernel
theorem dX0_countAbove_1 : decode cX0_countAbove 1 = .ok (.istore_n 1, 1) := by decide +kernel
theorem dX0_countAbove_2 : decode cX0_countAbove 2 = .ok (.iconst 0, 1) := by decide +kernel
theorem dX0_countAbove_3 : decode cX0_countAbove 3 = .ok (.istore_n 2, 1) := by decide +kernel
theorem dX0_countAbove_4 : decode cX0_countAbove 4 = .ok (.iload_n 2, 1) := by decide +kernel
theorem dX0_countAbove_5 : decode cX0_countAbove 5 = .ok (.aload_n 0, 1) := by decide +kernel
theorem dX0_countAbove_6 : decode cX0_countAbove 6 = .ok (.getfield 15, 3) := by decide +kernel
theorem dX0_countAbove_9 : decode cX0_countAbove 9 = .ok (.if_icmp .ge 21, 3) := by decide +kernel
theorem dX0_countAbove_12 : decode cX0_countAbove 12 = .ok (.aload_n 0, 1) := by decide +kernel
theorem dX0_countAbove_13 : decode cX0_countAbove 13 = .ok (.getfield 9, 3) := by decide +kernel
theorem dX0_countAbove_16 : decode cX0_countAbove 16 = .ok (.iload_n 2, 1) := by decide +kernel
theorem dX0_countAbove_17 : decode cX0_countAbove 17 = .ok (.iaload, 1) := by decide +kernel
theorem dX0_countAbove_18 : decode cX0_countAbove 18 = .ok (.ifCond .le 6, 3) := by decide +kernel
theorem dX0_countAbove_21 : decode cX0_countAbove 21 = .ok (.iinc 1 1, 3) := by decide +kernel
theorem dX0_countAbove_24 : decode cX0_countAbove 24 = .ok (.iinc 2 1, 3) := by decide +kernel
theorem dX0_countAbove_27 : decode cX0_countAbove 27 = .ok (.goto (-23), 3) := by decide +kernel
theorem dX0_countAbove_30 : decode cX0_countAbove 30 = .ok (.iload_n 1, 1) := by decide +kernel
theorem dX0_countAbove_31 : decode cX0_countAbove 31 = .ok (.ireturn, 1) := by decide +kernel
theorem dX0_signsAt_0 : decode cX0_signsAt 0 = .ok (.iconst 1, 1) := by decide +kernel
theorem dX0_signsAt_1 : decode cX0_signsAt 1 = .ok (.istore_n 2, 1) := by decide +kernel
theorem dX0_signsAt_2 : decode cX0_signsAt 2 = .ok (.iconst 0, 1) := by decide +kernel
theorem dX0_signsAt_3 : decode cX0_signsAt 3 = .ok (.istore_n 3, 1) := by decide +kernel
theorem dX0_signsAt_4 : decode cX0_signsAt 4 = .ok (.iload_n 3, 1) := by decide +kernel
theorem dX0_signsAt_5 : decode cX0_signsAt 5 = .ok (.aload_n 0, 1) := by decide +kernel
theorem dX0_signsAt_6 : decode cX0_signsAt 6 = .ok (.getfield 15, 3) := by decide +kernel
theorem dX0_signsAt_9 : decode cX0_signsAt 9 = .ok (.if_icmp .ge 51, 3) := by decide +kernel
theorem dX0_signsAt_12 : decode cX0_signsAt 12 = .ok (.iload_n 3, 1) := by decide +kernel
theorem dX0_signsAt_13 : decode cX0_signsAt 13 = .ok (.iconst 1, 1) := by decide +kernel
theorem dX0_signsAt_14 : decode cX0_signsAt 14 = .ok (.iadd, 1) := by decide +kernel
theorem dX0_signsAt_15 : decode cX0_signsAt 15 = .ok (.istore 4, 2) := by decide +kernel
theorem dX0_signsAt_17 : decode cX0_signsAt 17 = .ok (.iload 4, 2) := by decide +kernel
theorem dX0_signsAt_19 : decode cX0_signsAt 19 = .ok (.aload_n 0, 1) := by decide +kernel
theorem dX0_signsAt_20 : decode cX0_signsAt 20 = .ok (.getfield 15, 3) := by decide +kernel
theorem dX0_signsAt_23 : decode cX0_signsAt 23 = .ok (.if_icmp .ge 31, 3) := by decide +kernel
theorem dX0_signsAt_26 : decode cX0_signsAt 26 = .ok (.iload_n 2, 1) := by decide +kernel
theorem dX0_signsAt_27 : decode cX0_signsAt 27 = .ok (.aload_n 0, 1) := by decide +kernel
theorem dX0_signsAt_28 : decode cX0_signsAt 28 = .ok (.getfield 9, 3) := by decide +kernel
theorem dX0_signsAt_31 : decode cX0_signsAt 31 = .ok (.iload_n 3, 1) := by decide +kernel
theorem dX0_signsAt_32 : decode cX0_signsAt 32 = .ok (.iaload, 1) := by decide +kernel
theorem dX0_signsAt_33 : decode cX0_signsAt 33 = .ok (.i2l, 1) := by decide +kernel
theorem dX0_signsAt_34 : decode cX0_signsAt 34 = .ok (.aload_n 0, 1) := by decide +kernel
theorem dX0_signsAt_35 : decode cX0_signsAt 35 = .ok (.getfield 9, 3) := by decide +kernel
theorem dX0_signsAt_38 : decode cX0_signsAt 38 = .ok (.iload 4, 2) := by decide +kernel
theorem dX0_signsAt_40 : decode cX0_signsAt 40 = .ok (.iaload, 1) := by decide +kernel
theorem dX0_signsAt_41 : decode cX0_signsAt 41 = .ok (.i2l, 1) := by decide +kernel
theorem dX0_signsAt_42 : decode cX0_signsAt 42 = .ok (.iload_n 1, 1) := by decide +kernel
theorem dX0_signsAt_43 : decode cX0_signsAt 43 = .ok (.invokestatic 28, 3) := by decide +kernel
theorem dX0_signsAt_46 : decode cX0_signsAt 46 = .ok (.imul, 1) := by decide +kernel
theorem dX0_signsAt_47 : decode cX0_signsAt 47 = .ok (.istore_n 2, 1) := by decide +kernel
theorem dX0_signsAt_48 : decode cX0_signsAt 48 = .ok (.iinc 4 1, 3) := by decide +kernel
theorem dX0_signsAt_51 : decode cX0_signsAt 51 = .ok (.goto (-34), 3) := by decide +kernel
theorem dX0_signsAt_54 : decode cX0_signsAt 54 = .ok (.iinc 3 1, 3) := by decide +kernel
theorem dX0_signsAt_57 : decode cX0_signsAt 57 = .ok (.goto (-53), 3) := by decide +kernel
theorem dX0_signsAt_60 : decode cX0_signsAt 60 = .ok (.iload_n 2, 1) := by decide +kernel
theorem dX0_signsAt_61 : decode cX0_signsAt 61 = .ok (.ireturn, 1) := by decide +kernel
theorem dX0_goesAt_0 : decode cX0_goesAt 0 = .ok (.iload_n 1, 1) := by decide +kernel
theorem dX0_goesAt_1 : decode cX0_goesAt 1 = .ok (.ifCond .ne 26, 3) := by decide +kernel
theorem dX0_goesAt_4 : decode cX0_goesAt 4 = .ok (.aload_n 0, 1) := by decide +kernel
theorem dX0_goesAt_5 : decode cX0_goesAt 5 = .ok (.invokevirtual 32, 3) := by decide +kernel
theorem dX0_goesAt_8 : decode cX0_goesAt 8 = .ok (.istore_n 2, 1) := by decide +kernel
theorem dX0_goesAt_9 : decode cX0_goesAt 9 = .ok (.iload_n 2, 1) := by decide +kernel
theorem dX0_goesAt_10 : decode cX0_goesAt 10 = .ok (.ifCond .le 15, 3) := by decide +kernel
theorem dX0_goesAt_13 : decode cX0_goesAt 13 = .ok (.iload_n 2, 1) := by decide +kernel
theorem dX0_goesAt_14 : decode cX0_goesAt 14 = .ok (.aload_n 0, 1) := by decide +kernel
theorem dX0_goesAt_15 : decode cX0_goesAt 15 = .ok (.getfield 15, 3) := by decide +kernel
theorem dX0_goesAt_18 : decode cX0_goesAt 18 = .ok (.if_icmp .ge 7, 3) := by decide +kernel
theorem dX0_goesAt_21 : decode cX0_goesAt 21 = .ok (.iconst 1, 1) := by decide +kernel
theorem dX0_goesAt_22 : decode cX0_goesAt 22 = .ok (.goto 4, 3) := by decide +kernel
theorem dX0_goesAt_25 : decode cX0_goesAt 25 = .ok (.iconst 0, 1) := by decide +kernel
theorem dX0_goesAt_26 : decode cX0_goesAt 26 = .ok (.ireturn, 1) := by decide +kernel
theorem dX0_goesAt_27 : decode cX0_goesAt 27 = .ok (.aload_n 0, 1) := by decide +kernel
theorem dX0_goesAt_28 : decode cX0_goesAt 28 = .ok (.getfield 15, 3) := by decide +kernel
theorem dX0_goesAt_31 : decode cX0_goesAt 31 = .ok (.tableswitch 102 1 4 #[29, 31, 41, 67], 29) := by decide +kernel
theorem dX0_goesAt_60 : decode cX0_goesAt 60 = .ok (.iconst 0, 1) := by decide +kernel
theorem dX0_goesAt_61 : decode cX0_goesAt 61 = .ok (.ireturn, 1) := by decide +kernel
theorem dX0_goesAt_62 : decode cX0_goesAt 62 = .ok (.aload_n 0, 1) := by decide +kernel
theorem dX0_goesAt_63 : decode cX0_goesAt 63 = .ok (.invokevirtual 19, 3) := by decide +kernel
theorem dX0_goesAt_66 : decode cX0_goesAt 66 = .ok (.lneg, 1) := by decide +kernel
theorem dX0_goesAt_67 : decode cX0_goesAt 67 = .ok (.iload_n 1, 1) := by decide +kernel
theorem dX0_goesAt_68 : decode cX0_goesAt 68 = .ok (.invokestatic 36, 3) := by decide +kernel
theorem dX0_goesAt_71 : decode cX0_goesAt 71 = .ok (.ireturn, 1) := by decide +kernel
theorem dX0_goesAt_72 : decode cX0_goesAt 72 = .ok (.aload_n 0, 1) := by decide +kernel
theorem dX0_goesAt_73 : decode cX0_goesAt 73 = .ok (.iload_n 1, 1) := by decide +kernel
theorem dX0_goesAt_74 : decode cX0_goesAt 74 = .ok (.invokevirtual 40, 3) := by decide +kernel
theorem dX0_goesAt_77 : decode cX0_goesAt 77 = .ok (.ldc2_w 44, 3) := by decide +kernel
theorem dX0_goesAt_80 : decode cX0_goesAt 80 = .ok (.aload_n 0, 1) := by decide +kernel
theorem dX0_goesAt_81 : decode cX0_goesAt 81 = .ok (.invokevirtual 19, 3) := by decide +kernel
theorem dX0_goesAt_84 : decode cX0_goesAt 84 = .ok (.lneg, 1) := by decide +kernel
theorem dX0_goesAt_85 : decode cX0_goesAt 85 = .ok (.iload_n 1, 1) := by decide +kernel
theorem dX0_goesAt_86 : decode cX0_goesAt 86 = .ok (.invokestatic 28, 3) := by decide +kernel
theorem dX0_goesAt_89 : decode cX0_goesAt 89 = .ok (.if_icmp .ne 7, 3) := by decide +kernel
theorem dX0_goesAt_92 : decode cX0_goesAt 92 = .ok (.iconst 1, 1) := by decide +kernel
theorem dX0_goesAt_93 : decode cX0_goesAt 93 = .ok (.goto 4, 3) := by decide +kernel
theorem dX0_goesAt_96 : decode cX0_goesAt 96 = .ok (.iconst 0, 1) := by decide +kernel
theorem dX0_goesAt_97 : decode cX0_goesAt 97 = .ok (.ireturn, 1) := by decide +kernel
theorem dX0_goesAt_98 : decode cX0_goesAt 98 = .ok (.aload_n 0, 1) := by decide +kernel
theorem dX0_goesAt_99 : decode cX0_goesAt 99 = .ok (.invokevirtual 19, 3) := by decide +kernel
theorem dX0_goesAt_102 : decode cX0_goesAt 102 = .ok (.iload_n 1, 1) := by decide +kernel
theorem dX0_goesAt_103 : decode cX0_goesAt 103 = .ok (.invokestatic 36, 3) := by decide +kernel
theorem dX0_goesAt_106 : decode cX0_goesAt 106 = .ok (.ifCond .eq 21, 3) := by decide +kernel
theorem dX0_goesAt_109 : decode cX0_goesAt 109 = .ok (.aload_n 0, 1) := by decide +kernel
theorem dX0_goesAt_110 : decode cX0_goesAt 110 = .ok (.iload_n 1, 1) := by decide +kernel
theorem dX0_goesAt_111 : decode cX0_goesAt 111 = .ok (.invokevirtual 40, 3) := by decide +kernel
theorem dX0_goesAt_114 : decode cX0_goesAt 114 = .ok (.ldc2_w 44, 3) := by decide +kernel
theorem dX0_goesAt_117 : decode cX0_goesAt 117 = .ok (.ldc2_w 44, 3) := by decide +kernel
theorem dX0_goesAt_120 : decode cX0_goesAt 120 = .ok (.iload_n 1, 1) := by decide +kernel
theorem dX0_goesAt_121 : decode cX0_goesAt 121 = .ok (.invokestatic 28, 3) := by decide +kernel
theorem dX0_goesAt_124 : decode cX0_goesAt 124 = .ok (.if_icmp .ne 7, 3) := by decide +kernel
theorem dX0_goesAt_127 : decode cX0_goesAt 127 = .ok (.iconst 1, 1) := by decide +kernel
theorem dX0_goesAt_128 : decode cX0_goesAt 128 = .ok (.goto 4, 3) := by decide +kernel
theorem dX0_goesAt_131 : decode cX0_goesAt 131 = .ok (.iconst 0, 1) := by decide +kernel
theorem dX0_goesAt_132 : decode cX0_goesAt 132 = .ok (.ireturn, 1) := by decide +kernel
theorem dX0_goesAt_133 : decode cX0_goesAt 133 = .ok (.iconst 1, 1) := by decide +kernel
theorem dX0_goesAt_134 : decode cX0_goesAt 134 = .ok (.ireturn, 1) := by decide +kernel
theorem dX0_countBars_0 : decode cX0_countBars 0 = .ok (.iconst 0, 1) := by decide +kernel
theorem dX0_countBars_1 : decode cX0_countBars 1 = .ok (.istore_n 1, 1) := by decide +kernel
theorem dX0_countBars_2 : decode cX0_countBars 2 = .ok (.getstatic 23, 3) := by decide +kernel
theorem dX0_countBars_5 : decode cX0_countBars 5 = .ok (.astore_n 2, 1) := by decide +kernel
theorem dX0_countBars_6 : decode cX0_countBars 6 = .ok (.aload_n 2, 1) := by decide +kernel
theorem dX0_countBars_7 : decode cX0_countBars 7 = .ok (.arraylength, 1) := by decide +kernel
theorem dX0_countBars_8 : decode cX0_countBars 8 = .ok (.istore_n 3, 1) := by decide +kernel
theorem dX0_countBars_9 : decode cX0_countBars 9 = .ok (.iconst 0, 1) := by decide +kernel
theorem dX0_countBars_10 : decode cX0_countBars 10 = .ok (.istore 4, 2) := by decide +kernel
theorem dX0_countBars_12 : decode cX0_countBars 12 = .ok (.iload 4, 2) := by decide +kernel
theorem dX0_countBars_14 : decode cX0_countBars 14 = .ok (.iload_n 3, 1) := by decide +kernel
theorem dX0_countBars_15 : decode cX0_countBars 15 = .ok (.if_icmp .ge 36, 3) := by decide +kernel
theorem dX0_countBars_18 : decode cX0_countBars 18 = .ok (.aload_n 2, 1) := by decide +kernel
theorem dX0_countBars_19 : decode cX0_countBars 19 = .ok (.iload 4, 2) := by decide +kernel
theorem dX0_countBars_21 : decode cX0_countBars 21 = .ok (.iaload, 1) := by decide +kernel
theorem dX0_countBars_22 : decode cX0_countBars 22 = .ok (.istore 5, 2) := by decide +kernel
theorem dX0_countBars_24 : decode cX0_countBars 24 = .ok (.aload_n 0, 1) := by decide +kernel
theorem dX0_countBars_25 : decode cX0_countBars 25 = .ok (.iload 5, 2) := by decide +kernel
theorem dX0_countBars_27 : decode cX0_countBars 27 = .ok (.invokevirtual 46, 3) := by decide +kernel
theorem dX0_countBars_30 : decode cX0_countBars 30 = .ok (.ifCond .eq 15, 3) := by decide +kernel
theorem dX0_countBars_33 : decode cX0_countBars 33 = .ok (.aload_n 0, 1) := by decide +kernel
theorem dX0_countBars_34 : decode cX0_countBars 34 = .ok (.iload 5, 2) := by decide +kernel
theorem dX0_countBars_36 : decode cX0_countBars 36 = .ok (.invokevirtual 50, 3) := by decide +kernel
theorem dX0_countBars_39 : decode cX0_countBars 39 = .ok (.ifCond .ne 6, 3) := by decide +kernel
theorem dX0_countBars_42 : decode cX0_countBars 42 = .ok (.iinc 1 1, 3) := by decide +kernel
theorem dX0_countBars_45 : decode cX0_countBars 45 = .ok (.iinc 4 1, 3) := by decide +kernel
theorem dX0_countBars_48 : decode cX0_countBars 48 = .ok (.goto (-36), 3) := by decide +kernel
theorem dX0_countBars_51 : decode cX0_countBars 51 = .ok (.iload_n 1, 1) := by decide +kernel
theorem dX0_countBars_52 : decode cX0_countBars 52 = .ok (.ireturn, 1) := by decide +kernel
theorem dX0_findBar_0 : decode cX0_findBar 0 = .ok (.iconst 0, 1) := by decide +kernel
theorem dX0_findBar_1 : decode cX0_findBar 1 = .ok (.istore_n 2, 1) := by decide +kernel
theorem dX0_findBar_2 : decode cX0_findBar 2 = .ok (.getstatic 23, 3) := by decide +kernel
theorem dX0_findBar_5 : decode cX0_findBar 5 = .ok (.astore_n 3, 1) := by decide +kernel
theorem dX0_findBar_6 : decode cX0_findBar 6 = .ok (.aload_n 3, 1) := by decide +kernel
theorem dX0_findBar_7 : decode cX0_findBar 7 = .ok (.arraylength, 1) := by decide +kernel
theorem dX0_findBar_8 : decode cX0_findBar 8 = .ok (.istore 4, 2) := by decide +kernel
theorem dX0_findBar_10 : decode cX0_findBar 10 = .ok (.iconst 0, 1) := by decide +kernel
theorem dX0_findBar_11 : decode cX0_findBar 11 = .ok (.istore 5, 2) := by decide +kernel
theorem dX0_findBar_13 : decode cX0_findBar 13 = .ok (.iload 5, 2) := by decide +kernel
theorem dX0_findBar_15 : decode cX0_findBar 15 = .ok (.iload 4, 2) := by decide +kernel
theorem dX0_findBar_17 : decode cX0_findBar 17 = .ok (.if_icmp .ge 44, 3) := by decide +kernel
theorem dX0_findBar_20 : decode cX0_findBar 20 = .ok (.aload_n 3, 1) := by decide +kernel
theorem dX0_findBar_21 : decode cX0_findBar 21 = .ok (.iload 5, 2) := by decide +kernel
theorem dX0_findBar_23 : decode cX0_findBar 23 = .ok (.iaload, 1) := by decide +kernel
theorem dX0_findBar_24 : decode cX0_findBar 24 = .ok (.istore 6, 2) := by decide +kernel
theorem dX0_findBar_26 : decode cX0_findBar 26 = .ok (.aload_n 0, 1) := by decide +kernel
theorem dX0_findBar_27 : decode cX0_findBar 27 = .ok (.iload 6, 2) := by decide +kernel
theorem dX0_findBar_29 : decode cX0_findBar 29 = .ok (.invokevirtual 46, 3) := by decide +kernel
theorem dX0_findBar_32 : decode cX0_findBar 32 = .ok (.ifCond .eq 23, 3) := by decide +kernel
theorem dX0_findBar_35 : decode cX0_findBar 35 = .ok (.aload_n 0, 1) := by decide +kernel
theorem dX0_findBar_36 : decode cX0_findBar 36 = .ok (.iload 6, 2) := by decide +kernel
theorem dX0_findBar_38 : decode cX0_findBar 38 = .ok (.invokevirtual 50, 3) := by decide +kernel
theorem dX0_findBar_41 : decode cX0_findBar 41 = .ok (.ifCond .ne 14, 3) := by decide +kernel
theorem dX0_findBar_44 : decode cX0_findBar 44 = .ok (.iload_n 2, 1) := by decide +kernel
theorem dX0_findBar_45 : decode cX0_findBar 45 = .ok (.iload_n 1, 1) := by decide +kernel
theorem dX0_findBar_46 : decode cX0_findBar 46 = .ok (.if_icmp .ne 6, 3) := by decide +kernel
theorem dX0_findBar_49 : decode cX0_findBar 49 = .ok (.iload 6, 2) := by decide +kernel
theorem dX0_findBar_51 : decode cX0_findBar 51 = .ok (.ireturn, 1) := by decide +kernel
theorem dX0_findBar_52 : decode cX0_findBar 52 = .ok (.iinc 2 1, 3) := by decide +kernel
theorem dX0_findBar_55 : decode cX0_findBar 55 = .ok (.iinc 5 1, 3) := by decide +kernel
theorem dX0_findBar_58 : decode cX0_findBar 58 = .ok (.goto (-45), 3) := by decide +kernel
theorem dX0_findBar_61 : decode cX0_findBar 61 = .ok (.iconst (-1), 1) := by decide +kernel
theorem dX0_findBar_62 : decode cX0_findBar 62 = .ok (.ireturn, 1) := by decide +kernel
theorem dX0_mayBar_0 : decode cX0_mayBar 0 = .ok (.iload_n 1, 1) := by decide +kernel
theorem dX0_mayBar_1 : decode cX0_mayBar 1 = .ok (.ifCond .eq 8, 3) := by decide +kernel
theorem dX0_mayBar_4 : decode cX0_mayBar 4 = .ok (.iload_n 1, 1) := by decide +kernel
theorem dX0_mayBar_5 : decode cX0_mayBar 5 = .ok (.iconst 2, 1) := by decide +kernel
theorem dX0_mayBar_6 : decode cX0_mayBar 6 = .ok (.if_icmp .ne 5, 3) := by decide +kernel
theorem dX0_mayBar_9 : decode cX0_mayBar 9 = .ok (.iconst 1, 1) := by decide +kernel
theorem dX0_mayBar_10 : decode cX0_mayBar 10 = .ok (.ireturn, 1) := by decide +kernel
theorem dX0_mayBar_11 : decode cX0_mayBar 11 = .ok (.iconst 0, 1) := by decide +kernel
theorem dX0_mayBar_12 : decode cX0_mayBar 12 = .ok (.istore_n 2, 1) := by decide +kernel
theorem dX0_mayBar_13 : decode cX0_mayBar 13 = .ok (.iload_n 2, 1) := by decide +kernel
theorem dX0_mayBar_14 : decode cX0_mayBar 14 = .ok (.aload_n 0, 1) := by decide +kernel
theorem dX0_mayBar_15 : decode cX0_mayBar 15 = .ok (.getfield 15, 3) := by decide +kernel
theorem dX0_mayBar_18 : decode cX0_mayBar 18 = .ok (.if_icmp .ge 22, 3) := by decide +kernel
theorem dX0_mayBar_21 : decode cX0_mayBar 21 = .ok (.aload_n 0, 1) := by decide +kernel
theorem dX0_mayBar_22 : decode cX0_mayBar 22 = .ok (.getfield 9, 3) := by decide +kernel
theorem dX0_mayBar_25 : decode cX0_mayBar 25 = .ok (.iload_n 2, 1) := by decide +kernel
theorem dX0_mayBar_26 : decode cX0_mayBar 26 = .ok (.iaload, 1) := by decide +kernel
theorem dX0_mayBar_27 : decode cX0_mayBar 27 = .ok (.iload_n 1, 1) := by decide +kernel
theorem dX0_mayBar_28 : decode cX0_mayBar 28 = .ok (.irem, 1) := by decide +kernel
theorem dX0_mayBar_29 : decode cX0_mayBar 29 = .ok (.ifCond .ne 5, 3) := by decide +kernel
theorem dX0_mayBar_32 : decode cX0_mayBar 32 = .ok (.iconst 1, 1) := by decide +kernel
theorem dX0_mayBar_33 : decode cX0_mayBar 33 = .ok (.ireturn, 1) := by decide +kernel
theorem dX0_mayBar_34 : decode cX0_mayBar 34 = .ok (.iinc 2 1, 3) := by decide +kernel
theorem dX0_mayBar_37 : decode cX0_mayBar 37 = .ok (.goto (-24), 3) := by decide +kernel
theorem dX0_mayBar_40 : decode cX0_mayBar 40 = .ok (.iconst 0, 1) := by decide +kernel
theorem dX0_mayBar_41 : decode cX0_mayBar 41 = .ok (.ireturn, 1) := by decide +kernel
theorem dX0_isAlike_0 : decode cX0_isAlike 0 = .ok (.aload_n 0, 1) := by decide +kernel
theorem dX0_isAlike_1 : decode cX0_isAlike 1 = .ok (.getfield 15, 3) := by decide +kernel
theorem dX0_isAlike_4 : decode cX0_isAlike 4 = .ok (.aload_n 1, 1) := by decide +kernel
theorem dX0_isAlike_5 : decode cX0_isAlike 5 = .ok (.getfield 15, 3) := by decide +kernel
theorem dX0_isAlike_8 : decode cX0_isAlike 8 = .ok (.if_icmp .ne 26, 3) := by decide +kernel
theorem dX0_isAlike_11 : decode cX0_isAlike 11 = .ok (.aload_n 0, 1) := by decide +kernel
theorem dX0_isAlike_12 : decode cX0_isAlike 12 = .ok (.invokevirtual 32, 3) := by decide +kernel
theorem dX0_isAlike_15 : decode cX0_isAlike 15 = .ok (.aload_n 1, 1) := by decide +kernel
theorem dX0_isAlike_16 : decode cX0_isAlike 16 = .ok (.invokevirtual 32, 3) := by decide +kernel
theorem dX0_isAlike_19 : decode cX0_isAlike 19 = .ok (.if_icmp .ne 15, 3) := by decide +kernel
theorem dX0_isAlike_22 : decode cX0_isAlike 22 = .ok (.aload_n 0, 1) := by decide +kernel
theorem dX0_isAlike_23 : decode cX0_isAlike 23 = .ok (.invokevirtual 53, 3) := by decide +kernel
theorem dX0_isAlike_26 : decode cX0_isAlike 26 = .ok (.aload_n 1, 1) := by decide +kernel
theorem dX0_isAlike_27 : decode cX0_isAlike 27 = .ok (.invokevirtual 53, 3) := by decide +kernel
theorem dX0_isAlike_30 : decode cX0_isAlike 30 = .ok (.lcmp, 1) := by decide +kernel
theorem dX0_isAlike_31 : decode cX0_isAlike 31 = .ok (.ifCond .eq 5, 3) := by decide +kernel
theorem dX0_isAlike_34 : decode cX0_isAlike 34 = .ok (.iconst 0, 1) := by decide +kernel
theorem dX0_isAlike_35 : decode cX0_isAlike 35 = .ok (.ireturn, 1) := by decide +kernel
theorem dX0_isAlike_36 : decode cX0_isAlike 36 = .ok (.getstatic 23, 3) := by decide +kernel
theorem dX0_isAlike_39 : decode cX0_isAlike 39 = .ok (.astore_n 2, 1) := by decide +kernel
theorem dX0_isAlike_40 : decode cX0_isAlike 40 = .ok (.aload_n 2, 1) := by decide +kernel
theorem dX0_isAlike_41 : decode cX0_isAlike 41 = .ok (.arraylength, 1) := by decide +kernel
theorem dX0_isAlike_42 : decode cX0_isAlike 42 = .ok (.istore_n 3, 1) := by decide +kernel
theorem dX0_isAlike_43 : decode cX0_isAlike 43 = .ok (.iconst 0, 1) := by decide +kernel
theorem dX0_isAlike_44 : decode cX0_isAlike 44 = .ok (.istore 4, 2) := by decide +kernel
theorem dX0_isAlike_46 : decode cX0_isAlike 46 = .ok (.iload 4, 2) := by decide +kernel
theorem dX0_isAlike_48 : decode cX0_isAlike 48 = .ok (.iload_n 3, 1) := by decide +kernel
theorem dX0_isAlike_49 : decode cX0_isAlike 49 = .ok (.if_icmp .ge 55, 3) := by decide +kernel
theorem dX0_isAlike_52 : decode cX0_isAlike 52 = .ok (.aload_n 2, 1) := by decide +kernel
theorem dX0_isAlike_53 : decode cX0_isAlike 53 = .ok (.iload 4, 2) := by decide +kernel
theorem dX0_isAlike_55 : decode cX0_isAlike 55 = .ok (.iaload, 1) := by decide +kernel
theorem dX0_isAlike_56 : decode cX0_isAlike 56 = .ok (.istore 5, 2) := by decide +kernel
theorem dX0_isAlike_58 : decode cX0_isAlike 58 = .ok (.iload 5, 2) := by decide +kernel
theorem dX0_isAlike_60 : decode cX0_isAlike 60 = .ok (.ifCond .eq 38, 3) := by decide +kernel
theorem dX0_isAlike_63 : decode cX0_isAlike 63 = .ok (.aload_n 0, 1) := by decide +kernel
theorem dX0_isAlike_64 : decode cX0_isAlike 64 = .ok (.iload 5, 2) := by decide +kernel
theorem dX0_isAlike_66 : decode cX0_isAlike 66 = .ok (.invokevirtual 46, 3) := by decide +kernel
theorem dX0_isAlike_69 : decode cX0_isAlike 69 = .ok (.ifCond .ne 12, 3) := by decide +kernel
theorem dX0_isAlike_72 : decode cX0_isAlike 72 = .ok (.aload_n 1, 1) := by decide +kernel
theorem dX0_isAlike_73 : decode cX0_isAlike 73 = .ok (.iload 5, 2) := by decide +kernel
theorem dX0_isAlike_75 : decode cX0_isAlike 75 = .ok (.invokevirtual 46, 3) := by decide +kernel
theorem dX0_isAlike_78 : decode cX0_isAlike 78 = .ok (.ifCond .eq 20, 3) := by decide +kernel
theorem dX0_isAlike_81 : decode cX0_isAlike 81 = .ok (.aload_n 0, 1) := by decide +kernel
theorem dX0_isAlike_82 : decode cX0_isAlike 82 = .ok (.iload 5, 2) := by decide +kernel
theorem dX0_isAlike_84 : decode cX0_isAlike 84 = .ok (.invokevirtual 40, 3) := by decide +kernel
theorem dX0_isAlike_87 : decode cX0_isAlike 87 = .ok (.aload_n 1, 1) := by decide +kernel
theorem dX0_isAlike_88 : decode cX0_isAlike 88 = .ok (.iload 5, 2) := by decide +kernel
theorem dX0_isAlike_90 : decode cX0_isAlike 90 = .ok (.invokevirtual 40, 3) := by decide +kernel
theorem dX0_isAlike_93 : decode cX0_isAlike 93 = .ok (.if_icmp .eq 5, 3) := by decide +kernel
theorem dX0_isAlike_96 : decode cX0_isAlike 96 = .ok (.iconst 0, 1) := by decide +kernel
theorem dX0_isAlike_97 : decode cX0_isAlike 97 = .ok (.ireturn, 1) := by decide +kernel
theorem dX0_isAlike_98 : decode cX0_isAlike 98 = .ok (.iinc 4 1, 3) := by decide +kernel
theorem dX0_isAlike_101 : decode cX0_isAlike 101 = .ok (.goto (-55), 3) := by decide +kernel
theorem dX0_isAlike_104 : decode cX0_isAlike 104 = .ok (.iconst 1, 1) := by decide +kernel
theorem dX0_isAlike_105 : decode cX0_isAlike 105 = .ok (.ireturn, 1) := by decide +kernel
theorem dX0_pairing_0 : decode cX0_pairing 0 = .ok (.aload_n 0, 1) := by decide +kernel
theorem dX0_pairing_1 : decode cX0_pairing 1 = .ok (.getfield 9, 3) := by decide +kernel
theorem dX0_pairing_4 : decode cX0_pairing 4 = .ok (.iconst 0, 1) := by decide +kernel
theorem dX0_pairing_5 : decode cX0_pairing 5 = .ok (.iaload, 1) := by decide +kernel
theorem dX0_pairing_6 : decode cX0_pairing 6 = .ok (.i2l, 1) := by decide +kernel
theorem dX0_pairing_7 : decode cX0_pairing 7 = .ok (.iload_n 1, 1) := by decide +kernel
theorem dX0_pairing_8 : decode cX0_pairing 8 = .ok (.i2l, 1) := by decide +kernel
theorem dX0_pairing_9 : decode cX0_pairing 9 = .ok (.lmul, 1) := by decide +kernel
theorem dX0_pairing_10 : decode cX0_pairing 10 = .ok (.iload 4, 2) := by decide +kernel
theorem dX0_pairing_12 : decode cX0_pairing 12 = .ok (.i2l, 1) := by decide +kernel
theorem dX0_pairing_13 : decode cX0_pairing 13 = .ok (.lmul, 1) := by decide +kernel
theorem dX0_pairing_14 : decode cX0_pairing 14 = .ok (.aload_n 0, 1) := by decide +kernel
theorem dX0_pairing_15 : decode cX0_pairing 15 = .ok (.getfield 9, 3) := by decide +kernel
theorem dX0_pairing_18 : decode cX0_pairing 18 = .ok (.iconst 1, 1) := by decide +kernel
theorem dX0_pairing_19 : decode cX0_pairing 19 = .ok (.iaload, 1) := by decide +kernel
theorem dX0_pairing_20 : decode cX0_pairing 20 = .ok (.i2l, 1) := by decide +kernel
theorem dX0_pairing_21 : decode cX0_pairing 21 = .ok (.iload_n 2, 1) := by decide +kernel
theorem dX0_pairing_22 : decode cX0_pairing 22 = .ok (.i2l, 1) := by decide +kernel
theorem dX0_pairing_23 : decode cX0_pairing 23 = .ok (.lmul, 1) := by decide +kernel
theorem dX0_pairing_24 : decode cX0_pairing 24 = .ok (.iload 5, 2) := by decide +kernel
theorem dX0_pairing_26 : decode cX0_pairing 26 = .ok (.i2l, 1) := by decide +kernel
theorem dX0_pairing_27 : decode cX0_pairing 27 = .ok (.lmul, 1) := by decide +kernel
theorem dX0_pairing_28 : decode cX0_pairing 28 = .ok (.ladd, 1) := by decide +kernel
theorem dX0_pairing_29 : decode cX0_pairing 29 = .ok (.aload_n 0, 1) := by decide +kernel
theorem dX0_pairing_30 : decode cX0_pairing 30 = .ok (.getfield 9, 3) := by decide +kernel
theorem dX0_pairing_33 : decode cX0_pairing 33 = .ok (.iconst 2, 1) := by decide +kernel
theorem dX0_pairing_34 : decode cX0_pairing 34 = .ok (.iaload, 1) := by decide +kernel
theorem dX0_pairing_35 : decode cX0_pairing 35 = .ok (.i2l, 1) := by decide +kernel
theorem dX0_pairing_36 : decode cX0_pairing 36 = .ok (.iload_n 3, 1) := by decide +kernel
theorem dX0_pairing_37 : decode cX0_pairing 37 = .ok (.i2l, 1) := by decide +kernel
theorem dX0_pairing_38 : decode cX0_pairing 38 = .ok (.lmul, 1) := by decide +kernel
theorem dX0_pairing_39 : decode cX0_pairing 39 = .ok (.iload 6, 2) := by decide +kernel
theorem dX0_pairing_41 : decode cX0_pairing 41 = .ok (.i2l, 1) := by decide +kernel
theorem dX0_pairing_42 : decode cX0_pairing 42 = .ok (.lmul, 1) := by decide +kernel
theorem dX0_pairing_43 : decode cX0_pairing 43 = .ok (.ladd, 1) := by decide +kernel
theorem dX0_pairing_44 : decode cX0_pairing 44 = .ok (.lreturn, 1) := by decide +kernel
theorem dX0_thirdFor_0 : decode cX0_thirdFor 0 = .ok (.aload_n 0, 1) := by decide +kernel
theorem dX0_thirdFor_1 : decode cX0_thirdFor 1 = .ok (.getfield 9, 3) := by decide +kernel
theorem dX0_thirdFor_4 : decode cX0_thirdFor 4 = .ok (.iconst 2, 1) := by decide +kernel
theorem dX0_thirdFor_5 : decode cX0_thirdFor 5 = .ok (.iaload, 1) := by decide +kernel
theorem dX0_thirdFor_6 : decode cX0_thirdFor 6 = .ok (.istore_n 3, 1) := by decide +kernel
theorem dX0_thirdFor_7 : decode cX0_thirdFor 7 = .ok (.aload_n 0, 1) := by decide +kernel
theorem dX0_thirdFor_8 : decode cX0_thirdFor 8 = .ok (.getfield 9, 3) := by decide +kernel
theorem dX0_thirdFor_11 : decode cX0_thirdFor 11 = .ok (.iconst 0, 1) := by decide +kernel
theorem dX0_thirdFor_12 : decode cX0_thirdFor 12 = .ok (.iaload, 1) := by decide +kernel
theorem dX0_thirdFor_13 : decode cX0_thirdFor 13 = .ok (.iload_n 1, 1) := by decide +kernel
theorem dX0_thirdFor_14 : decode cX0_thirdFor 14 = .ok (.imul, 1) := by decide +kernel
theorem dX0_thirdFor_15 : decode cX0_thirdFor 15 = .ok (.iload_n 1, 1) := by decide +kernel
theorem dX0_thirdFor_16 : decode cX0_thirdFor 16 = .ok (.imul, 1) := by decide +kernel
theorem dX0_thirdFor_17 : decode cX0_thirdFor 17 = .ok (.aload_n 0, 1) := by decide +kernel
theorem dX0_thirdFor_18 : decode cX0_thirdFor 18 = .ok (.getfield 9, 3) := by decide +kernel
theorem dX0_thirdFor_21 : decode cX0_thirdFor 21 = .ok (.iconst 1, 1) := by decide +kernel
theorem dX0_thirdFor_22 : decode cX0_thirdFor 22 = .ok (.iaload, 1) := by decide +kernel
theorem dX0_thirdFor_23 : decode cX0_thirdFor 23 = .ok (.iload_n 2, 1) := by decide +kernel
theorem dX0_thirdFor_24 : decode cX0_thirdFor 24 = .ok (.imul, 1) := by decide +kernel
theorem dX0_thirdFor_25 : decode cX0_thirdFor 25 = .ok (.iload_n 2, 1) := by decide +kernel
theorem dX0_thirdFor_26 : decode cX0_thirdFor 26 = .ok (.imul, 1) := by decide +kernel
theorem dX0_thirdFor_27 : decode cX0_thirdFor 27 = .ok (.iadd, 1) := by decide +kernel
theorem dX0_thirdFor_28 : decode cX0_thirdFor 28 = .ok (.ineg, 1) := by decide +kernel
theorem dX0_thirdFor_29 : decode cX0_thirdFor 29 = .ok (.istore 4, 2) := by decide +kernel
theorem dX0_thirdFor_31 : decode cX0_thirdFor 31 = .ok (.iload_n 3, 1) := by decide +kernel
theorem dX0_thirdFor_32 : decode cX0_thirdFor 32 = .ok (.ifCond .eq 10, 3) := by decide +kernel
theorem dX0_thirdFor_35 : decode cX0_thirdFor 35 = .ok (.iload 4, 2) := by decide +kernel
theorem dX0_thirdFor_37 : decode cX0_thirdFor 37 = .ok (.iload_n 3, 1) := by decide +kernel
theorem dX0_thirdFor_38 : decode cX0_thirdFor 38 = .ok (.irem, 1) := by decide +kernel
theorem dX0_thirdFor_39 : decode cX0_thirdFor 39 = .ok (.ifCond .eq 5, 3) := by decide +kernel
theorem dX0_thirdFor_42 : decode cX0_thirdFor 42 = .ok (.iconst (-1), 1) := by decide +kernel
theorem dX0_thirdFor_43 : decode cX0_thirdFor 43 = .ok (.ireturn, 1) := by decide +kernel
theorem dX0_thirdFor_44 : decode cX0_thirdFor 44 = .ok (.iload 4, 2) := by decide +kernel
theorem dX0_thirdFor_46 : decode cX0_thirdFor 46 = .ok (.iload_n 3, 1) := by decide +kernel
theorem dX0_thirdFor_47 : decode cX0_thirdFor 47 = .ok (.idiv, 1) := by decide +kernel
theorem dX0_thirdFor_48 : decode cX0_thirdFor 48 = .ok (.istore 5, 2) := by decide +kernel
theorem dX0_thirdFor_50 : decode cX0_thirdFor 50 = .ok (.iload 5, 2) := by decide +kernel
theorem dX0_thirdFor_52 : decode cX0_thirdFor 52 = .ok (.ifCond .lt 11, 3) := by decide +kernel
theorem dX0_thirdFor_55 : decode cX0_thirdFor 55 = .ok (.iload 5, 2) := by decide +kernel
theorem dX0_thirdFor_57 : decode cX0_thirdFor 57 = .ok (.sipush 900, 3) := by decide +kernel
theorem dX0_thirdFor_60 : decode cX0_thirdFor 60 = .ok (.if_icmp .le 5, 3) := by decide +kernel
theorem dX0_thirdFor_63 : decode cX0_thirdFor 63 = .ok (.iconst (-1), 1) := by decide +kernel
theorem dX0_thirdFor_64 : decode cX0_thirdFor 64 = .ok (.ireturn, 1) := by decide +kernel
theorem dX0_thirdFor_65 : decode cX0_thirdFor 65 = .ok (.iconst 0, 1) := by decide +kernel
theorem dX0_thirdFor_66 : decode cX0_thirdFor 66 = .ok (.istore 6, 2) := by decide +kernel
theorem dX0_thirdFor_68 : decode cX0_thirdFor 68 = .ok (.iload 6, 2) := by decide +kernel
theorem dX0_thirdFor_70 : decode cX0_thirdFor 70 = .ok (.bipush 30, 2) := by decide +kernel
theorem dX0_thirdFor_72 : decode cX0_thirdFor 72 = .ok (.if_icmp .gt 22, 3) := by decide +kernel
theorem dX0_thirdFor_75 : decode cX0_thirdFor 75 = .ok (.iload 6, 2) := by decide +kernel
theorem dX0_thirdFor_77 : decode cX0_thirdFor 77 = .ok (.iload 6, 2) := by decide +kernel
theorem dX0_thirdFor_79 : decode cX0_thirdFor 79 = .ok (.imul, 1) := by decide +kernel
theorem dX0_thirdFor_80 : decode cX0_thirdFor 80 = .ok (.iload 5, 2) := by decide +kernel
theorem dX0_thirdFor_82 : decode cX0_thirdFor 82 = .ok (.if_icmp .ne 6, 3) := by decide +kernel
theorem dX0_thirdFor_85 : decode cX0_thirdFor 85 = .ok (.iload 6, 2) := by decide +kernel
theorem dX0_thirdFor_87 : decode cX0_thirdFor 87 = .ok (.ireturn, 1) := by decide +kernel
theorem dX0_thirdFor_88 : decode cX0_thirdFor 88 = .ok (.iinc 6 1, 3) := by decide +kernel
theorem dX0_thirdFor_91 : decode cX0_thirdFor 91 = .ok (.goto (-23), 3) := by decide +kernel
theorem dX0_thirdFor_94 : decode cX0_thirdFor 94 = .ok (.iconst (-1), 1) := by decide +kernel
theorem dX0_thirdFor_95 : decode cX0_thirdFor 95 = .ok (.ireturn, 1) := by decide +kernel
theorem dX1_byKind_0 : decode cX1_byKind 0 = .ok (.iload_n 0, 1) := by decide +kernel
theorem dX1_byKind_1 : decode cX1_byKind 1 = .ok (.lookupswitch 41 #[(0, 27), (1, 34)], 27) := by decide +kernel
theorem dX1_byKind_28 : decode cX1_byKind 28 = .ok (.iload_n 1, 1) := by decide +kernel
theorem dX1_byKind_29 : decode cX1_byKind 29 = .ok (.iload_n 2, 1) := by decide +kernel
theorem dX1_byKind_30 : decode cX1_byKind 30 = .ok (.iload_n 3, 1) := by decide +kernel
theorem dX1_byKind_31 : decode cX1_byKind 31 = .ok (.invokestatic 7, 3) := by decide +kernel
theorem dX1_byKind_34 : decode cX1_byKind 34 = .ok (.ireturn, 1) := by decide +kernel
theorem dX1_byKind_35 : decode cX1_byKind 35 = .ok (.iload_n 1, 1) := by decide +kernel
theorem dX1_byKind_36 : decode cX1_byKind 36 = .ok (.iload_n 2, 1) := by decide +kernel
theorem dX1_byKind_37 : decode cX1_byKind 37 = .ok (.iload_n 3, 1) := by decide +kernel
theorem dX1_byKind_38 : decode cX1_byKind 38 = .ok (.invokestatic 13, 3) := by decide +kernel
theorem dX1_byKind_41 : decode cX1_byKind 41 = .ok (.ireturn, 1) := by decide +kernel
theorem dX1_byKind_42 : decode cX1_byKind 42 = .ok (.iload_n 1, 1) := by decide +kernel
theorem dX1_byKind_43 : decode cX1_byKind 43 = .ok (.iload_n 2, 1) := by decide +kernel
theorem dX1_byKind_44 : decode cX1_byKind 44 = .ok (.iload_n 3, 1) := by decide +kernel
theorem dX1_byKind_45 : decode cX1_byKind 45 = .ok (.invokestatic 16, 3) := by decide +kernel
theorem dX1_byKind_48 : decode cX1_byKind 48 = .ok (.ireturn, 1) := by decide +kernel
theorem dX1_great_0 : decode cX1_great 0 = .ok (.iload_n 0, 1) := by decide +kernel
theorem dX1_great_1 : decode cX1_great 1 = .ok (.invokestatic 19, 3) := by decide +kernel
theorem dX1_great_4 : decode cX1_great 4 = .ok (.iload_n 1, 1) := by decide +kernel
theorem dX1_great_5 : decode cX1_great 5 = .ok (.invokestatic 19, 3) := by decide +kernel
theorem dX1_great_8 : decode cX1_great 8 = .ok (.iload_n 2, 1) := by decide +kernel
theorem dX1_great_9 : decode cX1_great 9 = .ok (.invokestatic 19, 3) := by decide +kernel
theorem dX1_great_12 : decode cX1_great 12 = .ok (.invokestatic 25, 3) := by decide +kernel
theorem dX1_great_15 : decode cX1_great 15 = .ok (.invokestatic 25, 3) := by decide +kernel
theorem dX1_great_18 : decode cX1_great 18 = .ok (.ireturn, 1) := by decide +kernel
theorem dX1_wide_0 : decode cX1_wide 0 = .ok (.iload_n 0, 1) := by decide +kernel
theorem dX1_wide_1 : decode cX1_wide 1 = .ok (.iload_n 1, 1) := by decide +kernel
theorem dX1_wide_2 : decode cX1_wide 2 = .ok (.iload_n 2, 1) := by decide +kernel
theorem dX1_wide_3 : decode cX1_wide 3 = .ok (.invokestatic 7, 3) := by decide +kernel
theorem dX1_wide_6 : decode cX1_wide 6 = .ok (.iload_n 0, 1) := by decide +kernel
theorem dX1_wide_7 : decode cX1_wide 7 = .ok (.invokestatic 19, 3) := by decide +kernel
theorem dX1_wide_10 : decode cX1_wide 10 = .ok (.iadd, 1) := by decide +kernel
theorem dX1_wide_11 : decode cX1_wide 11 = .ok (.iload_n 1, 1) := by decide +kernel
theorem dX1_wide_12 : decode cX1_wide 12 = .ok (.invokestatic 19, 3) := by decide +kernel
theorem dX1_wide_15 : decode cX1_wide 15 = .ok (.iadd, 1) := by decide +kernel
theorem dX1_wide_16 : decode cX1_wide 16 = .ok (.iload_n 2, 1) := by decide +kernel
theorem dX1_wide_17 : decode cX1_wide 17 = .ok (.invokestatic 19, 3) := by decide +kernel
theorem dX1_wide_20 : decode cX1_wide 20 = .ok (.iadd, 1) := by decide +kernel
theorem dX1_wide_21 : decode cX1_wide 21 = .ok (.ireturn, 1) := by decide +kernel
theorem dX1_odd_0 : decode cX1_odd 0 = .ok (.iload_n 0, 1) := by decide +kernel
theorem dX1_odd_1 : decode cX1_odd 1 = .ok (.iload_n 1, 1) := by decide +kernel
theorem dX1_odd_2 : decode cX1_odd 2 = .ok (.iload_n 2, 1) := by decide +kernel
theorem dX1_odd_3 : decode cX1_odd 3 = .ok (.invokestatic 13, 3) := by decide +kernel
theorem dX1_odd_6 : decode cX1_odd 6 = .ok (.bipush 7, 2) := by decide +kernel
theorem dX1_odd_8 : decode cX1_odd 8 = .ok (.iload_n 0, 1) := by decide +kernel
theorem dX1_odd_9 : decode cX1_odd 9 = .ok (.iconst 1, 1) := by decide +kernel
theorem dX1_odd_10 : decode cX1_odd 10 = .ok (.iand, 1) := by decide +kernel
theorem dX1_odd_11 : decode cX1_odd 11 = .ok (.iload_n 1, 1) := by decide +kernel
theorem dX1_odd_12 : decode cX1_odd 12 = .ok (.iconst 1, 1) := by decide +kernel
theorem dX1_odd_13 : decode cX1_odd 13 = .ok (.iand, 1) := by decide +kernel
theorem dX1_odd_14 : decode cX1_odd 14 = .ok (.iadd, 1) := by decide +kernel
theorem dX1_odd_15 : decode cX1_odd 15 = .ok (.iload_n 2, 1) := by decide +kernel
theorem dX1_odd_16 : decode cX1_odd 16 = .ok (.iconst 1, 1) := by decide +kernel
theorem dX1_odd_17 : decode cX1_odd 17 = .ok (.iand, 1) := by decide +kernel
theorem dX1_odd_18 : decode cX1_odd 18 = .ok (.iadd, 1) := by decide +kernel
theorem dX1_odd_19 : decode cX1_odd 19 = .ok (.imul, 1) := by decide +kernel
theorem dX1_odd_20 : decode cX1_odd 20 = .ok (.iadd, 1) := by decide +kernel
theorem dX1_odd_21 : decode cX1_odd 21 = .ok (.ireturn, 1) := by decide +kernel
theorem dX2_isPlace_0 : decode cX2_isPlace 0 = .ok (.getstatic 7, 3) := by decide +kernel
theorem dX2_isPlace_3 : decode cX2_isPlace 3 = .ok (.astore_n 1, 1) := by decide +kernel
theorem dX2_isPlace_4 : decode cX2_isPlace 4 = .ok (.aload_n 1, 1) := by decide +kernel
theorem dX2_isPlace_5 : decode cX2_isPlace 5 = .ok (.arraylength, 1) := by decide +kernel
theorem dX2_isPlace_6 : decode cX2_isPlace 6 = .ok (.istore_n 2, 1) := by decide +kernel
theorem dX2_isPlace_7 : decode cX2_isPlace 7 = .ok (.iconst 0, 1) := by decide +kernel
theorem dX2_isPlace_8 : decode cX2_isPlace 8 = .ok (.istore_n 3, 1) := by decide +kernel
theorem dX2_isPlace_9 : decode cX2_isPlace 9 = .ok (.iload_n 3, 1) := by decide +kernel
theorem dX2_isPlace_10 : decode cX2_isPlace 10 = .ok (.iload_n 2, 1) := by decide +kernel
theorem dX2_isPlace_11 : decode cX2_isPlace 11 = .ok (.if_icmp .ge 22, 3) := by decide +kernel
theorem dX2_isPlace_14 : decode cX2_isPlace 14 = .ok (.aload_n 1, 1) := by decide +kernel
theorem dX2_isPlace_15 : decode cX2_isPlace 15 = .ok (.iload_n 3, 1) := by decide +kernel
theorem dX2_isPlace_16 : decode cX2_isPlace 16 = .ok (.iaload, 1) := by decide +kernel
theorem dX2_isPlace_17 : decode cX2_isPlace 17 = .ok (.istore 4, 2) := by decide +kernel
theorem dX2_isPlace_19 : decode cX2_isPlace 19 = .ok (.iload 4, 2) := by decide +kernel
theorem dX2_isPlace_21 : decode cX2_isPlace 21 = .ok (.iload_n 0, 1) := by decide +kernel
theorem dX2_isPlace_22 : decode cX2_isPlace 22 = .ok (.if_icmp .ne 5, 3) := by decide +kernel
theorem dX2_isPlace_25 : decode cX2_isPlace 25 = .ok (.iconst 1, 1) := by decide +kernel
theorem dX2_isPlace_26 : decode cX2_isPlace 26 = .ok (.ireturn, 1) := by decide +kernel
theorem dX2_isPlace_27 : decode cX2_isPlace 27 = .ok (.iinc 3 1, 3) := by decide +kernel
theorem dX2_isPlace_30 : decode cX2_isPlace 30 = .ok (.goto (-21), 3) := by decide +kernel
theorem dX2_isPlace_33 : decode cX2_isPlace 33 = .ok (.iconst 0, 1) := by decide +kernel
theorem dX2_isPlace_34 : decode cX2_isPlace 34 = .ok (.ireturn, 1) := by decide +kernel
theorem dX2_signAt_0 : decode cX2_signAt 0 = .ok (.iload 4, 2) := by decide +kernel
theorem dX2_signAt_2 : decode cX2_signAt 2 = .ok (.ifCond .ne 21, 3) := by decide +kernel
theorem dX2_signAt_5 : decode cX2_signAt 5 = .ok (.lload_n 0, 1) := by decide +kernel
theorem dX2_signAt_6 : decode cX2_signAt 6 = .ok (.lconst 0, 1) := by decide +kernel
theorem dX2_signAt_7 : decode cX2_signAt 7 = .ok (.lcmp, 1) := by decide +kernel
theorem dX2_signAt_8 : decode cX2_signAt 8 = .ok (.ifCond .ge 13, 3) := by decide +kernel
theorem dX2_signAt_11 : decode cX2_signAt 11 = .ok (.lload_n 2, 1) := by decide +kernel
theorem dX2_signAt_12 : decode cX2_signAt 12 = .ok (.lconst 0, 1) := by decide +kernel
theorem dX2_signAt_13 : decode cX2_signAt 13 = .ok (.lcmp, 1) := by decide +kernel
theorem dX2_signAt_14 : decode cX2_signAt 14 = .ok (.ifCond .ge 7, 3) := by decide +kernel
theorem dX2_signAt_17 : decode cX2_signAt 17 = .ok (.iconst (-1), 1) := by decide +kernel
theorem dX2_signAt_18 : decode cX2_signAt 18 = .ok (.goto 4, 3) := by decide +kernel
theorem dX2_signAt_21 : decode cX2_signAt 21 = .ok (.iconst 1, 1) := by decide +kernel
theorem dX2_signAt_22 : decode cX2_signAt 22 = .ok (.ireturn, 1) := by decide +kernel
theorem dX2_signAt_23 : decode cX2_signAt 23 = .ok (.lload_n 0, 1) := by decide +kernel
theorem dX2_signAt_24 : decode cX2_signAt 24 = .ok (.iload 4, 2) := by decide +kernel
theorem dX2_signAt_26 : decode cX2_signAt 26 = .ok (.invokestatic 13, 3) := by decide +kernel
theorem dX2_signAt_29 : decode cX2_signAt 29 = .ok (.istore 5, 2) := by decide +kernel
theorem dX2_signAt_31 : decode cX2_signAt 31 = .ok (.lload_n 2, 1) := by decide +kernel
theorem dX2_signAt_32 : decode cX2_signAt 32 = .ok (.iload 4, 2) := by decide +kernel
theorem dX2_signAt_34 : decode cX2_signAt 34 = .ok (.invokestatic 13, 3) := by decide +kernel
theorem dX2_signAt_37 : decode cX2_signAt 37 = .ok (.istore 6, 2) := by decide +kernel
theorem dX2_signAt_39 : decode cX2_signAt 39 = .ok (.lload_n 0, 1) := by decide +kernel
theorem dX2_signAt_40 : decode cX2_signAt 40 = .ok (.iload 4, 2) := by decide +kernel
theorem dX2_signAt_42 : decode cX2_signAt 42 = .ok (.invokestatic 17, 3) := by decide +kernel
theorem dX2_signAt_45 : decode cX2_signAt 45 = .ok (.lstore 7, 2) := by decide +kernel
theorem dX2_signAt_47 : decode cX2_signAt 47 = .ok (.lload_n 2, 1) := by decide +kernel
theorem dX2_signAt_48 : decode cX2_signAt 48 = .ok (.iload 4, 2) := by decide +kernel
theorem dX2_signAt_50 : decode cX2_signAt 50 = .ok (.invokestatic 17, 3) := by decide +kernel
theorem dX2_signAt_53 : decode cX2_signAt 53 = .ok (.lstore 9, 2) := by decide +kernel
theorem dX2_signAt_55 : decode cX2_signAt 55 = .ok (.iload 4, 2) := by decide +kernel
theorem dX2_signAt_57 : decode cX2_signAt 57 = .ok (.iconst 2, 1) := by decide +kernel
theorem dX2_signAt_58 : decode cX2_signAt 58 = .ok (.if_icmp .ne 27, 3) := by decide +kernel
theorem dX2_signAt_61 : decode cX2_signAt 61 = .ok (.lload 7, 2) := by decide +kernel
theorem dX2_signAt_63 : decode cX2_signAt 63 = .ok (.invokestatic 21, 3) := by decide +kernel
theorem dX2_signAt_66 : decode cX2_signAt 66 = .ok (.ifCond .eq 15, 3) := by decide +kernel
theorem dX2_signAt_69 : decode cX2_signAt 69 = .ok (.lload 9, 2) := by decide +kernel
theorem dX2_signAt_71 : decode cX2_signAt 71 = .ok (.invokestatic 21, 3) := by decide +kernel
theorem dX2_signAt_74 : decode cX2_signAt 74 = .ok (.ifCond .eq 7, 3) := by decide +kernel
theorem dX2_signAt_77 : decode cX2_signAt 77 = .ok (.iconst 1, 1) := by decide +kernel
theorem dX2_signAt_78 : decode cX2_signAt 78 = .ok (.goto 31, 3) := by decide +kernel
theorem dX2_signAt_81 : decode cX2_signAt 81 = .ok (.iconst 0, 1) := by decide +kernel
theorem dX2_signAt_82 : decode cX2_signAt 82 = .ok (.goto 27, 3) := by decide +kernel
theorem dX2_signAt_85 : decode cX2_signAt 85 = .ok (.iload 5, 2) := by decide +kernel
theorem dX2_signAt_87 : decode cX2_signAt 87 = .ok (.ifCond .eq 21, 3) := by decide +kernel
theorem dX2_signAt_90 : decode cX2_signAt 90 = .ok (.iload 6, 2) := by decide +kernel
theorem dX2_signAt_92 : decode cX2_signAt 92 = .ok (.ifCond .eq 16, 3) := by decide +kernel
theorem dX2_signAt_95 : decode cX2_signAt 95 = .ok (.iload 4, 2) := by decide +kernel
theorem dX2_signAt_97 : decode cX2_signAt 97 = .ok (.i2l, 1) := by decide +kernel
theorem dX2_signAt_98 : decode cX2_signAt 98 = .ok (.invokestatic 21, 3) := by decide +kernel
theorem dX2_signAt_101 : decode cX2_signAt 101 = .ok (.ifCond .eq 7, 3) := by decide +kernel
theorem dX2_signAt_104 : decode cX2_signAt 104 = .ok (.iconst 1, 1) := by decide +kernel
theorem dX2_signAt_105 : decode cX2_signAt 105 = .ok (.goto 4, 3) := by decide +kernel
theorem dX2_signAt_108 : decode cX2_signAt 108 = .ok (.iconst 0, 1) := by decide +kernel
theorem dX2_signAt_109 : decode cX2_signAt 109 = .ok (.istore 11, 2) := by decide +kernel
theorem dX2_signAt_111 : decode cX2_signAt 111 = .ok (.iload 5, 2) := by decide +kernel
theorem dX2_signAt_113 : decode cX2_signAt 113 = .ok (.ifCond .eq 25, 3) := by decide +kernel
theorem dX2_signAt_116 : decode cX2_signAt 116 = .ok (.lload 9, 2) := by decide +kernel
theorem dX2_signAt_118 : decode cX2_signAt 118 = .ok (.iload 4, 2) := by decide +kernel
theorem dX2_signAt_120 : decode cX2_signAt 120 = .ok (.invokestatic 25, 3) := by decide +kernel
theorem dX2_signAt_123 : decode cX2_signAt 123 = .ok (.ifCond .eq 15, 3) := by decide +kernel
theorem dX2_signAt_126 : decode cX2_signAt 126 = .ok (.iload 11, 2) := by decide +kernel
theorem dX2_signAt_128 : decode cX2_signAt 128 = .ok (.ifCond .ne 7, 3) := by decide +kernel
theorem dX2_signAt_131 : decode cX2_signAt 131 = .ok (.iconst 1, 1) := by decide +kernel
theorem dX2_signAt_132 : decode cX2_signAt 132 = .ok (.goto 4, 3) := by decide +kernel
theorem dX2_signAt_135 : decode cX2_signAt 135 = .ok (.iconst 0, 1) := by decide +kernel
theorem dX2_signAt_136 : decode cX2_signAt 136 = .ok (.istore 11, 2) := by decide +kernel
theorem dX2_signAt_138 : decode cX2_signAt 138 = .ok (.iload 6, 2) := by decide +kernel
theorem dX2_signAt_140 : decode cX2_signAt 140 = .ok (.ifCond .eq 25, 3) := by decide +kernel
theorem dX2_signAt_143 : decode cX2_signAt 143 = .ok (.lload 7, 2) := by decide +kernel
theorem dX2_signAt_145 : decode cX2_signAt 145 = .ok (.iload 4, 2) := by decide +kernel
theorem dX2_signAt_147 : decode cX2_signAt 147 = .ok (.invokestatic 25, 3) := by decide +kernel
theorem dX2_signAt_150 : decode cX2_signAt 150 = .ok (.ifCond .eq 15, 3) := by decide +kernel
theorem dX2_signAt_153 : decode cX2_signAt 153 = .ok (.iload 11, 2) := by decide +kernel
theorem dX2_signAt_155 : decode cX2_signAt 155 = .ok (.ifCond .ne 7, 3) := by decide +kernel
theorem dX2_signAt_158 : decode cX2_signAt 158 = .ok (.iconst 1, 1) := by decide +kernel
theorem dX2_signAt_159 : decode cX2_signAt 159 = .ok (.goto 4, 3) := by decide +kernel
theorem dX2_signAt_162 : decode cX2_signAt 162 = .ok (.iconst 0, 1) := by decide +kernel
theorem dX2_signAt_163 : decode cX2_signAt 163 = .ok (.istore 11, 2) := by decide +kernel
theorem dX2_signAt_165 : decode cX2_signAt 165 = .ok (.iload 11, 2) := by decide +kernel
theorem dX2_signAt_167 : decode cX2_signAt 167 = .ok (.ifCond .eq 7, 3) := by decide +kernel
theorem dX2_signAt_170 : decode cX2_signAt 170 = .ok (.iconst (-1), 1) := by decide +kernel
theorem dX2_signAt_171 : decode cX2_signAt 171 = .ok (.goto 4, 3) := by decide +kernel
theorem dX2_signAt_174 : decode cX2_signAt 174 = .ok (.iconst 1, 1) := by decide +kernel
theorem dX2_signAt_175 : decode cX2_signAt 175 = .ok (.ireturn, 1) := by decide +kernel
theorem dX2_isSquareAtPrime_0 : decode cX2_isSquareAtPrime 0 = .ok (.lload_n 0, 1) := by decide +kernel
theorem dX2_isSquareAtPrime_1 : decode cX2_isSquareAtPrime 1 = .ok (.iload_n 2, 1) := by decide +kernel
theorem dX2_isSquareAtPrime_2 : decode cX2_isSquareAtPrime 2 = .ok (.invokestatic 13, 3) := by decide +kernel
theorem dX2_isSquareAtPrime_5 : decode cX2_isSquareAtPrime 5 = .ok (.ifCond .eq 5, 3) := by decide +kernel
theorem dX2_isSquareAtPrime_8 : decode cX2_isSquareAtPrime 8 = .ok (.iconst 0, 1) := by decide +kernel
theorem dX2_isSquareAtPrime_9 : decode cX2_isSquareAtPrime 9 = .ok (.ireturn, 1) := by decide +kernel
theorem dX2_isSquareAtPrime_10 : decode cX2_isSquareAtPrime 10 = .ok (.lload_n 0, 1) := by decide +kernel
theorem dX2_isSquareAtPrime_11 : decode cX2_isSquareAtPrime 11 = .ok (.iload_n 2, 1) := by decide +kernel
theorem dX2_isSquareAtPrime_12 : decode cX2_isSquareAtPrime 12 = .ok (.invokestatic 17, 3) := by decide +kernel
theorem dX2_isSquareAtPrime_15 : decode cX2_isSquareAtPrime 15 = .ok (.lstore_n 3, 1) := by decide +kernel
theorem dX2_isSquareAtPrime_16 : decode cX2_isSquareAtPrime 16 = .ok (.iload_n 2, 1) := by decide +kernel
theorem dX2_isSquareAtPrime_17 : decode cX2_isSquareAtPrime 17 = .ok (.iconst 2, 1) := by decide +kernel
theorem dX2_isSquareAtPrime_18 : decode cX2_isSquareAtPrime 18 = .ok (.if_icmp .ne 21, 3) := by decide +kernel
theorem dX2_isSquareAtPrime_21 : decode cX2_isSquareAtPrime 21 = .ok (.lload_n 3, 1) := by decide +kernel
theorem dX2_isSquareAtPrime_22 : decode cX2_isSquareAtPrime 22 = .ok (.ldc2_w 28, 3) := by decide +kernel
theorem dX2_isSquareAtPrime_25 : decode cX2_isSquareAtPrime 25 = .ok (.land, 1) := by decide +kernel
theorem dX2_isSquareAtPrime_26 : decode cX2_isSquareAtPrime 26 = .ok (.lconst 1, 1) := by decide +kernel
theorem dX2_isSquareAtPrime_27 : decode cX2_isSquareAtPrime 27 = .ok (.lcmp, 1) := by decide +kernel
theorem dX2_isSquareAtPrime_28 : decode cX2_isSquareAtPrime 28 = .ok (.ifCond .ne 7, 3) := by decide +kernel
theorem dX2_isSquareAtPrime_31 : decode cX2_isSquareAtPrime 31 = .ok (.iconst 1, 1) := by decide +kernel
theorem dX2_isSquareAtPrime_32 : decode cX2_isSquareAtPrime 32 = .ok (.goto 12, 3) := by decide +kernel
theorem dX2_isSquareAtPrime_35 : decode cX2_isSquareAtPrime 35 = .ok (.iconst 0, 1) := by decide +kernel
theorem dX2_isSquareAtPrime_36 : decode cX2_isSquareAtPrime 36 = .ok (.goto 8, 3) := by decide +kernel
theorem dX2_isSquareAtPrime_39 : decode cX2_isSquareAtPrime 39 = .ok (.lload_n 3, 1) := by decide +kernel
theorem dX2_isSquareAtPrime_40 : decode cX2_isSquareAtPrime 40 = .ok (.iload_n 2, 1) := by decide +kernel
theorem dX2_isSquareAtPrime_41 : decode cX2_isSquareAtPrime 41 = .ok (.invokestatic 30, 3) := by decide +kernel
theorem dX2_isSquareAtPrime_44 : decode cX2_isSquareAtPrime 44 = .ok (.ireturn, 1) := by decide +kernel
theorem dX2_isThreeOfFour_0 : decode cX2_isThreeOfFour 0 = .ok (.lload_n 0, 1) := by decide +kernel
theorem dX2_isThreeOfFour_1 : decode cX2_isThreeOfFour 1 = .ok (.ldc2_w 33, 3) := by decide +kernel
theorem dX2_isThreeOfFour_4 : decode cX2_isThreeOfFour 4 = .ok (.land, 1) := by decide +kernel
theorem dX2_isThreeOfFour_5 : decode cX2_isThreeOfFour 5 = .ok (.ldc2_w 33, 3) := by decide +kernel
theorem dX2_isThreeOfFour_8 : decode cX2_isThreeOfFour 8 = .ok (.lcmp, 1) := by decide +kernel
theorem dX2_isThreeOfFour_9 : decode cX2_isThreeOfFour 9 = .ok (.ifCond .ne 7, 3) := by decide +kernel
theorem dX2_isThreeOfFour_12 : decode cX2_isThreeOfFour 12 = .ok (.iconst 1, 1) := by decide +kernel
theorem dX2_isThreeOfFour_13 : decode cX2_isThreeOfFour 13 = .ok (.goto 4, 3) := by decide +kernel
theorem dX2_isThreeOfFour_16 : decode cX2_isThreeOfFour 16 = .ok (.iconst 0, 1) := by decide +kernel
theorem dX2_isThreeOfFour_17 : decode cX2_isThreeOfFour 17 = .ok (.ireturn, 1) := by decide +kernel
theorem dX2_isTurning_0 : decode cX2_isTurning 0 = .ok (.iload_n 2, 1) := by decide +kernel
theorem dX2_isTurning_1 : decode cX2_isTurning 1 = .ok (.iconst 2, 1) := by decide +kernel
theorem dX2_isTurning_2 : decode cX2_isTurning 2 = .ok (.if_icmp .ne 33, 3) := by decide +kernel
theorem dX2_isTurning_5 : decode cX2_isTurning 5 = .ok (.lload_n 0, 1) := by decide +kernel
theorem dX2_isTurning_6 : decode cX2_isTurning 6 = .ok (.ldc2_w 28, 3) := by decide +kernel
theorem dX2_isTurning_9 : decode cX2_isTurning 9 = .ok (.land, 1) := by decide +kernel
theorem dX2_isTurning_10 : decode cX2_isTurning 10 = .ok (.ldc2_w 33, 3) := by decide +kernel
theorem dX2_isTurning_13 : decode cX2_isTurning 13 = .ok (.lcmp, 1) := by decide +kernel
theorem dX2_isTurning_14 : decode cX2_isTurning 14 = .ok (.ifCond .eq 15, 3) := by decide +kernel
theorem dX2_isTurning_17 : decode cX2_isTurning 17 = .ok (.lload_n 0, 1) := by decide +kernel
theorem dX2_isTurning_18 : decode cX2_isTurning 18 = .ok (.ldc2_w 28, 3) := by decide +kernel
theorem dX2_isTurning_21 : decode cX2_isTurning 21 = .ok (.land, 1) := by decide +kernel
theorem dX2_isTurning_22 : decode cX2_isTurning 22 = .ok (.ldc2_w 35, 3) := by decide +kernel
theorem dX2_isTurning_25 : decode cX2_isTurning 25 = .ok (.lcmp, 1) := by decide +kernel
theorem dX2_isTurning_26 : decode cX2_isTurning 26 = .ok (.ifCond .ne 7, 3) := by decide +kernel
theorem dX2_isTurning_29 : decode cX2_isTurning 29 = .ok (.iconst 1, 1) := by decide +kernel
theorem dX2_isTurning_30 : decode cX2_isTurning 30 = .ok (.goto 4, 3) := by decide +kernel
theorem dX2_isTurning_33 : decode cX2_isTurning 33 = .ok (.iconst 0, 1) := by decide +kernel
theorem dX2_isTurning_34 : decode cX2_isTurning 34 = .ok (.ireturn, 1) := by decide +kernel
theorem dX2_isTurning_35 : decode cX2_isTurning 35 = .ok (.lload_n 0, 1) := by decide +kernel
theorem dX2_isTurning_36 : decode cX2_isTurning 36 = .ok (.iload_n 2, 1) := by decide +kernel
theorem dX2_isTurning_37 : decode cX2_isTurning 37 = .ok (.invokestatic 30, 3) := by decide +kernel
theorem dX2_isTurning_40 : decode cX2_isTurning 40 = .ok (.ifCond .ne 7, 3) := by decide +kernel
theorem dX2_isTurning_43 : decode cX2_isTurning 43 = .ok (.iconst 1, 1) := by decide +kernel
theorem dX2_isTurning_44 : decode cX2_isTurning 44 = .ok (.goto 4, 3) := by decide +kernel
theorem dX2_isTurning_47 : decode cX2_isTurning 47 = .ok (.iconst 0, 1) := by decide +kernel
theorem dX2_isTurning_48 : decode cX2_isTurning 48 = .ok (.ireturn, 1) := by decide +kernel
theorem dX2_hasOddPower_0 : decode cX2_hasOddPower 0 = .ok (.iconst 0, 1) := by decide +kernel
theorem dX2_hasOddPower_1 : decode cX2_hasOddPower 1 = .ok (.istore_n 3, 1) := by decide +kernel
theorem dX2_hasOddPower_2 : decode cX2_hasOddPower 2 = .ok (.lload_n 0, 1) := by decide +kernel
theorem dX2_hasOddPower_3 : decode cX2_hasOddPower 3 = .ok (.lstore 4, 2) := by decide +kernel
theorem dX2_hasOddPower_5 : decode cX2_hasOddPower 5 = .ok (.iconst 0, 1) := by decide +kernel
theorem dX2_hasOddPower_6 : decode cX2_hasOddPower 6 = .ok (.istore 6, 2) := by decide +kernel
theorem dX2_hasOddPower_8 : decode cX2_hasOddPower 8 = .ok (.iload 6, 2) := by decide +kernel
theorem dX2_hasOddPower_10 : decode cX2_hasOddPower 10 = .ok (.bipush 64, 2) := by decide +kernel
theorem dX2_hasOddPower_12 : decode cX2_hasOddPower 12 = .ok (.if_icmp .ge 48, 3) := by decide +kernel
theorem dX2_hasOddPower_15 : decode cX2_hasOddPower 15 = .ok (.iload_n 2, 1) := by decide +kernel
theorem dX2_hasOddPower_16 : decode cX2_hasOddPower 16 = .ok (.iconst 1, 1) := by decide +kernel
theorem dX2_hasOddPower_17 : decode cX2_hasOddPower 17 = .ok (.if_icmp .le 43, 3) := by decide +kernel
theorem dX2_hasOddPower_20 : decode cX2_hasOddPower 20 = .ok (.lload 4, 2) := by decide +kernel
theorem dX2_hasOddPower_22 : decode cX2_hasOddPower 22 = .ok (.lconst 0, 1) := by decide +kernel
theorem dX2_hasOddPower_23 : decode cX2_hasOddPower 23 = .ok (.lcmp, 1) := by decide +kernel
theorem dX2_hasOddPower_24 : decode cX2_hasOddPower 24 = .ok (.ifCond .eq 36, 3) := by decide +kernel
theorem dX2_hasOddPower_27 : decode cX2_hasOddPower 27 = .ok (.lload 4, 2) := by decide +kernel
theorem dX2_hasOddPower_29 : decode cX2_hasOddPower 29 = .ok (.iload_n 2, 1) := by decide +kernel
theorem dX2_hasOddPower_30 : decode cX2_hasOddPower 30 = .ok (.i2l, 1) := by decide +kernel
theorem dX2_hasOddPower_31 : decode cX2_hasOddPower 31 = .ok (.lrem, 1) := by decide +kernel
theorem dX2_hasOddPower_32 : decode cX2_hasOddPower 32 = .ok (.lconst 0, 1) := by decide +kernel
theorem dX2_hasOddPower_33 : decode cX2_hasOddPower 33 = .ok (.lcmp, 1) := by decide +kernel
theorem dX2_hasOddPower_34 : decode cX2_hasOddPower 34 = .ok (.ifCond .ne 26, 3) := by decide +kernel
theorem dX2_hasOddPower_37 : decode cX2_hasOddPower 37 = .ok (.lload 4, 2) := by decide +kernel
theorem dX2_hasOddPower_39 : decode cX2_hasOddPower 39 = .ok (.iload_n 2, 1) := by decide +kernel
theorem dX2_hasOddPower_40 : decode cX2_hasOddPower 40 = .ok (.i2l, 1) := by decide +kernel
theorem dX2_hasOddPower_41 : decode cX2_hasOddPower 41 = .ok (.ldiv, 1) := by decide +kernel
theorem dX2_hasOddPower_42 : decode cX2_hasOddPower 42 = .ok (.lstore 4, 2) := by decide +kernel
theorem dX2_hasOddPower_44 : decode cX2_hasOddPower 44 = .ok (.iload_n 3, 1) := by decide +kernel
theorem dX2_hasOddPower_45 : decode cX2_hasOddPower 45 = .ok (.ifCond .ne 7, 3) := by decide +kernel
theorem dX2_hasOddPower_48 : decode cX2_hasOddPower 48 = .ok (.iconst 1, 1) := by decide +kernel
theorem dX2_hasOddPower_49 : decode cX2_hasOddPower 49 = .ok (.goto 4, 3) := by decide +kernel
theorem dX2_hasOddPower_52 : decode cX2_hasOddPower 52 = .ok (.iconst 0, 1) := by decide +kernel
theorem dX2_hasOddPower_53 : decode cX2_hasOddPower 53 = .ok (.istore_n 3, 1) := by decide +kernel
theorem dX2_hasOddPower_54 : decode cX2_hasOddPower 54 = .ok (.iinc 6 1, 3) := by decide +kernel
theorem dX2_hasOddPower_57 : decode cX2_hasOddPower 57 = .ok (.goto (-49), 3) := by decide +kernel
theorem dX2_hasOddPower_60 : decode cX2_hasOddPower 60 = .ok (.iload_n 3, 1) := by decide +kernel
theorem dX2_hasOddPower_61 : decode cX2_hasOddPower 61 = .ok (.ireturn, 1) := by decide +kernel
theorem dX2_unit_0 : decode cX2_unit 0 = .ok (.lload_n 0, 1) := by decide +kernel
theorem dX2_unit_1 : decode cX2_unit 1 = .ok (.lstore_n 3, 1) := by decide +kernel
theorem dX2_unit_2 : decode cX2_unit 2 = .ok (.iconst 0, 1) := by decide +kernel
theorem dX2_unit_3 : decode cX2_unit 3 = .ok (.istore 5, 2) := by decide +kernel
theorem dX2_unit_5 : decode cX2_unit 5 = .ok (.iload 5, 2) := by decide +kernel
theorem dX2_unit_7 : decode cX2_unit 7 = .ok (.bipush 64, 2) := by decide +kernel
theorem dX2_unit_9 : decode cX2_unit 9 = .ok (.if_icmp .ge 34, 3) := by decide +kernel
theorem dX2_unit_12 : decode cX2_unit 12 = .ok (.iload_n 2, 1) := by decide +kernel
theorem dX2_unit_13 : decode cX2_unit 13 = .ok (.iconst 1, 1) := by decide +kernel
theorem dX2_unit_14 : decode cX2_unit 14 = .ok (.if_icmp .le 29, 3) := by decide +kernel
theorem dX2_unit_17 : decode cX2_unit 17 = .ok (.lload_n 3, 1) := by decide +kernel
theorem dX2_unit_18 : decode cX2_unit 18 = .ok (.lconst 0, 1) := by decide +kernel
theorem dX2_unit_19 : decode cX2_unit 19 = .ok (.lcmp, 1) := by decide +kernel
theorem dX2_unit_20 : decode cX2_unit 20 = .ok (.ifCond .eq 23, 3) := by decide +kernel
theorem dX2_unit_23 : decode cX2_unit 23 = .ok (.lload_n 3, 1) := by decide +kernel
theorem dX2_unit_24 : decode cX2_unit 24 = .ok (.iload_n 2, 1) := by decide +kernel
theorem dX2_unit_25 : decode cX2_unit 25 = .ok (.i2l, 1) := by decide +kernel
theorem dX2_unit_26 : decode cX2_unit 26 = .ok (.lrem, 1) := by decide +kernel
theorem dX2_unit_27 : decode cX2_unit 27 = .ok (.lconst 0, 1) := by decide +kernel
theorem dX2_unit_28 : decode cX2_unit 28 = .ok (.lcmp, 1) := by decide +kernel
theorem dX2_unit_29 : decode cX2_unit 29 = .ok (.ifCond .ne 14, 3) := by decide +kernel
theorem dX2_unit_32 : decode cX2_unit 32 = .ok (.lload_n 3, 1) := by decide +kernel
theorem dX2_unit_33 : decode cX2_unit 33 = .ok (.iload_n 2, 1) := by decide +kernel
theorem dX2_unit_34 : decode cX2_unit 34 = .ok (.i2l, 1) := by decide +kernel
theorem dX2_unit_35 : decode cX2_unit 35 = .ok (.ldiv, 1) := by decide +kernel
theorem dX2_unit_36 : decode cX2_unit 36 = .ok (.lstore_n 3, 1) := by decide +kernel
theorem dX2_unit_37 : decode cX2_unit 37 = .ok (.iinc 5 1, 3) := by decide +kernel
theorem dX2_unit_40 : decode cX2_unit 40 = .ok (.goto (-35), 3) := by decide +kernel
theorem dX2_unit_43 : decode cX2_unit 43 = .ok (.lload_n 3, 1) := by decide +kernel
theorem dX2_unit_44 : decode cX2_unit 44 = .ok (.lreturn, 1) := by decide +kernel
theorem dX2_isResidue_0 : decode cX2_isResidue 0 = .ok (.iload_n 2, 1) := by decide +kernel
theorem dX2_isResidue_1 : decode cX2_isResidue 1 = .ok (.iconst 3, 1) := by decide +kernel
theorem dX2_isResidue_2 : decode cX2_isResidue 2 = .ok (.if_icmp .ge 5, 3) := by decide +kernel
theorem dX2_isResidue_5 : decode cX2_isResidue 5 = .ok (.iconst 1, 1) := by decide +kernel
theorem dX2_isResidue_6 : decode cX2_isResidue 6 = .ok (.ireturn, 1) := by decide +kernel
theorem dX2_isResidue_7 : decode cX2_isResidue 7 = .ok (.lload_n 0, 1) := by decide +kernel
theorem dX2_isResidue_8 : decode cX2_isResidue 8 = .ok (.iload_n 2, 1) := by decide +kernel
theorem dX2_isResidue_9 : decode cX2_isResidue 9 = .ok (.invokestatic 37, 3) := by decide +kernel
theorem dX2_isResidue_12 : decode cX2_isResidue 12 = .ok (.istore_n 3, 1) := by decide +kernel
theorem dX2_isResidue_13 : decode cX2_isResidue 13 = .ok (.iconst 1, 1) := by decide +kernel
theorem dX2_isResidue_14 : decode cX2_isResidue 14 = .ok (.istore 4, 2) := by decide +kernel
theorem dX2_isResidue_16 : decode cX2_isResidue 16 = .ok (.iload_n 2, 1) := by decide +kernel
theorem dX2_isResidue_17 : decode cX2_isResidue 17 = .ok (.iconst 1, 1) := by decide +kernel
theorem dX2_isResidue_18 : decode cX2_isResidue 18 = .ok (.isub, 1) := by decide +kernel
theorem dX2_isResidue_19 : decode cX2_isResidue 19 = .ok (.iconst 2, 1) := by decide +kernel
theorem dX2_isResidue_20 : decode cX2_isResidue 20 = .ok (.idiv, 1) := by decide +kernel
theorem dX2_isResidue_21 : decode cX2_isResidue 21 = .ok (.istore 5, 2) := by decide +kernel
theorem dX2_isResidue_23 : decode cX2_isResidue 23 = .ok (.iload 5, 2) := by decide +kernel
theorem dX2_isResidue_25 : decode cX2_isResidue 25 = .ok (.ifCond .le 34, 3) := by decide +kernel
theorem dX2_isResidue_28 : decode cX2_isResidue 28 = .ok (.iload 5, 2) := by decide +kernel
theorem dX2_isResidue_30 : decode cX2_isResidue 30 = .ok (.iconst 1, 1) := by decide +kernel
theorem dX2_isResidue_31 : decode cX2_isResidue 31 = .ok (.iand, 1) := by decide +kernel
theorem dX2_isResidue_32 : decode cX2_isResidue 32 = .ok (.iconst 1, 1) := by decide +kernel
theorem dX2_isResidue_33 : decode cX2_isResidue 33 = .ok (.if_icmp .ne 11, 3) := by decide +kernel
theorem dX2_isResidue_36 : decode cX2_isResidue 36 = .ok (.iload 4, 2) := by decide +kernel
theorem dX2_isResidue_38 : decode cX2_isResidue 38 = .ok (.iload_n 3, 1) := by decide +kernel
theorem dX2_isResidue_39 : decode cX2_isResidue 39 = .ok (.imul, 1) := by decide +kernel
theorem dX2_isResidue_40 : decode cX2_isResidue 40 = .ok (.iload_n 2, 1) := by decide +kernel
theorem dX2_isResidue_41 : decode cX2_isResidue 41 = .ok (.irem, 1) := by decide +kernel
theorem dX2_isResidue_42 : decode cX2_isResidue 42 = .ok (.istore 4, 2) := by decide +kernel
theorem dX2_isResidue_44 : decode cX2_isResidue 44 = .ok (.iload_n 3, 1) := by decide +kernel
theorem dX2_isResidue_45 : decode cX2_isResidue 45 = .ok (.iload_n 3, 1) := by decide +kernel
theorem dX2_isResidue_46 : decode cX2_isResidue 46 = .ok (.imul, 1) := by decide +kernel
theorem dX2_isResidue_47 : decode cX2_isResidue 47 = .ok (.iload_n 2, 1) := by decide +kernel
theorem dX2_isResidue_48 : decode cX2_isResidue 48 = .ok (.irem, 1) := by decide +kernel
theorem dX2_isResidue_49 : decode cX2_isResidue 49 = .ok (.istore_n 3, 1) := by decide +kernel
theorem dX2_isResidue_50 : decode cX2_isResidue 50 = .ok (.iload 5, 2) := by decide +kernel
theorem dX2_isResidue_52 : decode cX2_isResidue 52 = .ok (.iconst 1, 1) := by decide +kernel
theorem dX2_isResidue_53 : decode cX2_isResidue 53 = .ok (.ishr, 1) := by decide +kernel
theorem dX2_isResidue_54 : decode cX2_isResidue 54 = .ok (.istore 5, 2) := by decide +kernel
theorem dX2_isResidue_56 : decode cX2_isResidue 56 = .ok (.goto (-33), 3) := by decide +kernel
theorem dX2_isResidue_59 : decode cX2_isResidue 59 = .ok (.iload 4, 2) := by decide +kernel
theorem dX2_isResidue_61 : decode cX2_isResidue 61 = .ok (.iconst 1, 1) := by decide +kernel
theorem dX2_isResidue_62 : decode cX2_isResidue 62 = .ok (.if_icmp .ne 7, 3) := by decide +kernel
theorem dX2_isResidue_65 : decode cX2_isResidue 65 = .ok (.iconst 1, 1) := by decide +kernel
theorem dX2_isResidue_66 : decode cX2_isResidue 66 = .ok (.goto 4, 3) := by decide +kernel
theorem dX2_isResidue_69 : decode cX2_isResidue 69 = .ok (.iconst 0, 1) := by decide +kernel
theorem dX2_isResidue_70 : decode cX2_isResidue 70 = .ok (.ireturn, 1) := by decide +kernel
theorem dX3_init_0 : decode cX3_init 0 = .ok (.aload_n 0, 1) := by decide +kernel
theorem dX3_init_1 : decode cX3_init 1 = .ok (.invokespecial 3, 3) := by decide +kernel
theorem dX3_init_4 : decode cX3_init 4 = .ok (.return_, 1) := by decide +kernel
theorem dX3_run_0 : decode cX3_run 0 = .ok (.aload_n 0, 1) := by decide +kernel
theorem dX3_run_1 : decode cX3_run 1 = .ok (.iconst 0, 1) := by decide +kernel
theorem dX3_run_2 : decode cX3_run 2 = .ok (.putfield 9, 3) := by decide +kernel
theorem dX3_run_5 : decode cX3_run 5 = .ok (.iconst 0, 1) := by decide +kernel
theorem dX3_run_6 : decode cX3_run 6 = .ok (.istore_n 3, 1) := by decide +kernel
theorem dX3_run_7 : decode cX3_run 7 = .ok (.iload_n 3, 1) := by decide +kernel
theorem dX3_run_8 : decode cX3_run 8 = .ok (.bipush 30, 2) := by decide +kernel
theorem dX3_run_10 : decode cX3_run 10 = .ok (.if_icmp .gt 66, 3) := by decide +kernel
theorem dX3_run_13 : decode cX3_run 13 = .ok (.bipush (-30), 2) := by decide +kernel
theorem dX3_run_15 : decode cX3_run 15 = .ok (.istore 4, 2) := by decide +kernel
theorem dX3_run_17 : decode cX3_run 17 = .ok (.iload 4, 2) := by decide +kernel
theorem dX3_run_19 : decode cX3_run 19 = .ok (.bipush 30, 2) := by decide +kernel
theorem dX3_run_21 : decode cX3_run 21 = .ok (.if_icmp .gt 49, 3) := by decide +kernel
theorem dX3_run_24 : decode cX3_run 24 = .ok (.aload_n 1, 1) := by decide +kernel
theorem dX3_run_25 : decode cX3_run 25 = .ok (.iload_n 3, 1) := by decide +kernel
theorem dX3_run_26 : decode cX3_run 26 = .ok (.iload 4, 2) := by decide +kernel
theorem dX3_run_28 : decode cX3_run 28 = .ok (.invokevirtual 15, 3) := by decide +kernel
theorem dX3_run_31 : decode cX3_run 31 = .ok (.istore 5, 2) := by decide +kernel
theorem dX3_run_33 : decode cX3_run 33 = .ok (.iload 5, 2) := by decide +kernel
theorem dX3_run_35 : decode cX3_run 35 = .ok (.ifCond .le 14, 3) := by decide +kernel
theorem dX3_run_38 : decode cX3_run 38 = .ok (.aload_n 0, 1) := by decide +kernel
theorem dX3_run_39 : decode cX3_run 39 = .ok (.iload_n 2, 1) := by decide +kernel
theorem dX3_run_40 : decode cX3_run 40 = .ok (.iload_n 3, 1) := by decide +kernel
theorem dX3_run_41 : decode cX3_run 41 = .ok (.iload 4, 2) := by decide +kernel
theorem dX3_run_43 : decode cX3_run 43 = .ok (.iload 5, 2) := by decide +kernel
theorem dX3_run_45 : decode cX3_run 45 = .ok (.ineg, 1) := by decide +kernel
theorem dX3_run_46 : decode cX3_run 46 = .ok (.invokevirtual 21, 3) := by decide +kernel
theorem dX3_run_49 : decode cX3_run 49 = .ok (.iload 5, 2) := by decide +kernel
theorem dX3_run_51 : decode cX3_run 51 = .ok (.ifCond .lt 13, 3) := by decide +kernel
theorem dX3_run_54 : decode cX3_run 54 = .ok (.aload_n 0, 1) := by decide +kernel
theorem dX3_run_55 : decode cX3_run 55 = .ok (.iload_n 2, 1) := by decide +kernel
theorem dX3_run_56 : decode cX3_run 56 = .ok (.iload_n 3, 1) := by decide +kernel
theorem dX3_run_57 : decode cX3_run 57 = .ok (.iload 4, 2) := by decide +kernel
theorem dX3_run_59 : decode cX3_run 59 = .ok (.iload 5, 2) := by decide +kernel
theorem dX3_run_61 : decode cX3_run 61 = .ok (.invokevirtual 21, 3) := by decide +kernel
theorem dX3_run_64 : decode cX3_run 64 = .ok (.iinc 4 1, 3) := by decide +kernel
theorem dX3_run_67 : decode cX3_run 67 = .ok (.goto (-50), 3) := by decide +kernel
theorem dX3_run_70 : decode cX3_run 70 = .ok (.iinc 3 1, 3) := by decide +kernel
theorem dX3_run_73 : decode cX3_run 73 = .ok (.goto (-66), 3) := by decide +kernel
theorem dX3_run_76 : decode cX3_run 76 = .ok (.return_, 1) := by decide +kernel
theorem dX3_meet_0 : decode cX3_meet 0 = .ok (.iload_n 2, 1) := by decide +kernel
theorem dX3_meet_1 : decode cX3_meet 1 = .ok (.iload_n 3, 1) := by decide +kernel
theorem dX3_meet_2 : decode cX3_meet 2 = .ok (.iload 4, 2) := by decide +kernel
theorem dX3_meet_4 : decode cX3_meet 4 = .ok (.invokestatic 25, 3) := by decide +kernel
theorem dX3_meet_7 : decode cX3_meet 7 = .ok (.ifCond .ne 4, 3) := by decide +kernel
theorem dX3_meet_10 : decode cX3_meet 10 = .ok (.return_, 1) := by decide +kernel
theorem dX3_meet_11 : decode cX3_meet 11 = .ok (.iload_n 1, 1) := by decide +kernel
theorem dX3_meet_12 : decode cX3_meet 12 = .ok (.iload_n 2, 1) := by decide +kernel
theorem dX3_meet_13 : decode cX3_meet 13 = .ok (.iload_n 3, 1) := by decide +kernel
theorem dX3_meet_14 : decode cX3_meet 14 = .ok (.iload 4, 2) := by decide +kernel
theorem dX3_meet_16 : decode cX3_meet 16 = .ok (.invokestatic 29, 3) := by decide +kernel
theorem dX3_meet_19 : decode cX3_meet 19 = .ok (.istore 5, 2) := by decide +kernel
theorem dX3_meet_21 : decode cX3_meet 21 = .ok (.aload_n 0, 1) := by decide +kernel
theorem dX3_meet_22 : decode cX3_meet 22 = .ok (.getfield 9, 3) := by decide +kernel
theorem dX3_meet_25 : decode cX3_meet 25 = .ok (.ifCond .eq 12, 3) := by decide +kernel
theorem dX3_meet_28 : decode cX3_meet 28 = .ok (.iload 5, 2) := by decide +kernel
theorem dX3_meet_30 : decode cX3_meet 30 = .ok (.aload_n 0, 1) := by decide +kernel
theorem dX3_meet_31 : decode cX3_meet 31 = .ok (.getfield 35, 3) := by decide +kernel
theorem dX3_meet_34 : decode cX3_meet 34 = .ok (.if_icmp .ge 25, 3) := by decide +kernel
theorem dX3_meet_37 : decode cX3_meet 37 = .ok (.aload_n 0, 1) := by decide +kernel
theorem dX3_meet_38 : decode cX3_meet 38 = .ok (.iload 5, 2) := by decide +kernel
theorem dX3_meet_40 : decode cX3_meet 40 = .ok (.putfield 35, 3) := by decide +kernel
theorem dX3_meet_43 : decode cX3_meet 43 = .ok (.aload_n 0, 1) := by decide +kernel
theorem dX3_meet_44 : decode cX3_meet 44 = .ok (.iload_n 2, 1) := by decide +kernel
theorem dX3_meet_45 : decode cX3_meet 45 = .ok (.putfield 38, 3) := by decide +kernel
theorem dX3_meet_48 : decode cX3_meet 48 = .ok (.aload_n 0, 1) := by decide +kernel
theorem dX3_meet_49 : decode cX3_meet 49 = .ok (.iload_n 3, 1) := by decide +kernel
theorem dX3_meet_50 : decode cX3_meet 50 = .ok (.putfield 41, 3) := by decide +kernel
theorem dX3_meet_53 : decode cX3_meet 53 = .ok (.aload_n 0, 1) := by decide +kernel
theorem dX3_meet_54 : decode cX3_meet 54 = .ok (.iload 4, 2) := by decide +kernel
theorem dX3_meet_56 : decode cX3_meet 56 = .ok (.putfield 44, 3) := by decide +kernel
theorem dX3_meet_59 : decode cX3_meet 59 = .ok (.aload_n 0, 1) := by decide +kernel
theorem dX3_meet_60 : decode cX3_meet 60 = .ok (.dup, 1) := by decide +kernel
theorem dX3_meet_61 : decode cX3_meet 61 = .ok (.getfield 9, 3) := by decide +kernel
theorem dX3_meet_64 : decode cX3_meet 64 = .ok (.iconst 1, 1) := by decide +kernel
theorem dX3_meet_65 : decode cX3_meet 65 = .ok (.iadd, 1) := by decide +kernel
theorem dX3_meet_66 : decode cX3_meet 66 = .ok (.putfield 9, 3) := by decide +kernel
theorem dX3_meet_69 : decode cX3_meet 69 = .ok (.return_, 1) := by decide +kernel
theorem dX4_init_0 : decode cX4_init 0 = .ok (.aload_n 0, 1) := by decide +kernel
theorem dX4_init_1 : decode cX4_init 1 = .ok (.invokespecial 1, 3) := by decide +kernel
theorem dX4_init_4 : decode cX4_init 4 = .ok (.aload_n 0, 1) := by decide +kernel
theorem dX4_init_5 : decode cX4_init 5 = .ok (.iconst 4, 1) := by decide +kernel
theorem dX4_init_6 : decode cX4_init 6 = .ok (.anewarray 9, 3) := by decide +kernel
theorem dX4_init_9 : decode cX4_init 9 = .ok (.putfield 11, 3) := by decide +kernel
theorem dX4_init_12 : decode cX4_init 12 = .ok (.iconst 0, 1) := by decide +kernel
theorem dX4_init_13 : decode cX4_init 13 = .ok (.istore_n 1, 1) := by decide +kernel
theorem dX4_init_14 : decode cX4_init 14 = .ok (.iload_n 1, 1) := by decide +kernel
theorem dX4_init_15 : decode cX4_init 15 = .ok (.iconst 4, 1) := by decide +kernel
theorem dX4_init_16 : decode cX4_init 16 = .ok (.if_icmp .ge 22, 3) := by decide +kernel
theorem dX4_init_19 : decode cX4_init 19 = .ok (.aload_n 0, 1) := by decide +kernel
theorem dX4_init_20 : decode cX4_init 20 = .ok (.getfield 11, 3) := by decide +kernel
theorem dX4_init_23 : decode cX4_init 23 = .ok (.iload_n 1, 1) := by decide +kernel
theorem dX4_init_24 : decode cX4_init 24 = .ok (.new 9, 3) := by decide +kernel
theorem dX4_init_27 : decode cX4_init 27 = .ok (.dup, 1) := by decide +kernel
theorem dX4_init_28 : decode cX4_init 28 = .ok (.invokespecial 15, 3) := by decide +kernel
theorem dX4_init_31 : decode cX4_init 31 = .ok (.aastore, 1) := by decide +kernel
theorem dX4_init_32 : decode cX4_init 32 = .ok (.iinc 1 1, 3) := by decide +kernel
theorem dX4_init_35 : decode cX4_init 35 = .ok (.goto (-21), 3) := by decide +kernel
theorem dX4_init_38 : decode cX4_init 38 = .ok (.aload_n 0, 1) := by decide +kernel
theorem dX4_init_39 : decode cX4_init 39 = .ok (.new 9, 3) := by decide +kernel
theorem dX4_init_42 : decode cX4_init 42 = .ok (.dup, 1) := by decide +kernel
theorem dX4_init_43 : decode cX4_init 43 = .ok (.invokespecial 15, 3) := by decide +kernel
theorem dX4_init_46 : decode cX4_init 46 = .ok (.putfield 16, 3) := by decide +kernel
theorem dX4_init_49 : decode cX4_init 49 = .ok (.aload_n 0, 1) := by decide +kernel
theorem dX4_init_50 : decode cX4_init 50 = .ok (.iconst 5, 1) := by decide +kernel
theorem dX4_init_51 : decode cX4_init 51 = .ok (.newarray .int, 2) := by decide +kernel
theorem dX4_init_53 : decode cX4_init 53 = .ok (.putfield 20, 3) := by decide +kernel
theorem dX4_init_56 : decode cX4_init 56 = .ok (.aload_n 0, 1) := by decide +kernel
theorem dX4_init_57 : decode cX4_init 57 = .ok (.new 24, 3) := by decide +kernel
theorem dX4_init_60 : decode cX4_init 60 = .ok (.dup, 1) := by decide +kernel
theorem dX4_init_61 : decode cX4_init 61 = .ok (.invokespecial 26, 3) := by decide +kernel
theorem dX4_init_64 : decode cX4_init 64 = .ok (.putfield 27, 3) := by decide +kernel
theorem dX4_init_67 : decode cX4_init 67 = .ok (.aload_n 0, 1) := by decide +kernel
theorem dX4_init_68 : decode cX4_init 68 = .ok (.lconst 0, 1) := by decide +kernel
theorem dX4_init_69 : decode cX4_init 69 = .ok (.putfield 31, 3) := by decide +kernel
theorem dX4_init_72 : decode cX4_init 72 = .ok (.return_, 1) := by decide +kernel
theorem dX4_free_0 : decode cX4_free 0 = .ok (.iload_n 1, 1) := by decide +kernel
theorem dX4_free_1 : decode cX4_free 1 = .ok (.ldc 35, 2) := by decide +kernel
theorem dX4_free_3 : decode cX4_free 3 = .ok (.invokestatic 36, 3) := by decide +kernel
theorem dX4_free_6 : decode cX4_free 6 = .ok (.ifCond .ne 5, 3) := by decide +kernel
theorem dX4_free_9 : decode cX4_free 9 = .ok (.iconst 0, 1) := by decide +kernel
theorem dX4_free_10 : decode cX4_free 10 = .ok (.ireturn, 1) := by decide +kernel
theorem dX4_free_11 : decode cX4_free 11 = .ok (.sipush 1000, 3) := by decide +kernel
theorem dX4_free_14 : decode cX4_free 14 = .ok (.istore_n 2, 1) := by decide +kernel
theorem dX4_free_15 : decode cX4_free 15 = .ok (.iload_n 2, 1) := by decide +kernel
theorem dX4_free_16 : decode cX4_free 16 = .ok (.iconst 1, 1) := by decide +kernel
theorem dX4_free_17 : decode cX4_free 17 = .ok (.if_icmp .le 23, 3) := by decide +kernel
theorem dX4_free_20 : decode cX4_free 20 = .ok (.iload_n 1, 1) := by decide +kernel
theorem dX4_free_21 : decode cX4_free 21 = .ok (.iload_n 2, 1) := by decide +kernel
theorem dX4_free_22 : decode cX4_free 22 = .ok (.iload_n 2, 1) := by decide +kernel
theorem dX4_free_23 : decode cX4_free 23 = .ok (.imul, 1) := by decide +kernel
theorem dX4_free_24 : decode cX4_free 24 = .ok (.irem, 1) := by decide +kernel
theorem dX4_free_25 : decode cX4_free 25 = .ok (.ifCond .ne 9, 3) := by decide +kernel
theorem dX4_free_28 : decode cX4_free 28 = .ok (.iload_n 1, 1) := by decide +kernel
theorem dX4_free_29 : decode cX4_free 29 = .ok (.iload_n 2, 1) := by decide +kernel
theorem dX4_free_30 : decode cX4_free 30 = .ok (.iload_n 2, 1) := by decide +kernel
theorem dX4_free_31 : decode cX4_free 31 = .ok (.imul, 1) := by decide +kernel
theorem dX4_free_32 : decode cX4_free 32 = .ok (.idiv, 1) := by decide +kernel
theorem dX4_free_33 : decode cX4_free 33 = .ok (.ireturn, 1) := by decide +kernel
theorem dX4_free_34 : decode cX4_free 34 = .ok (.iinc 2 (-1), 3) := by decide +kernel
theorem dX4_free_37 : decode cX4_free 37 = .ok (.goto (-22), 3) := by decide +kernel
theorem dX4_free_40 : decode cX4_free 40 = .ok (.iload_n 1, 1) := by decide +kernel
theorem dX4_free_41 : decode cX4_free 41 = .ok (.ireturn, 1) := by decide +kernel
theorem dX4_sign_0 : decode cX4_sign 0 = .ok (.iload_n 1, 1) := by decide +kernel
theorem dX4_sign_1 : decode cX4_sign 1 = .ok (.ldc 35, 2) := by decide +kernel
theorem dX4_sign_3 : decode cX4_sign 3 = .ok (.invokestatic 36, 3) := by decide +kernel
theorem dX4_sign_6 : decode cX4_sign 6 = .ok (.ifCond .eq 19, 3) := by decide +kernel
theorem dX4_sign_9 : decode cX4_sign 9 = .ok (.iload_n 2, 1) := by decide +kernel
theorem dX4_sign_10 : decode cX4_sign 10 = .ok (.ldc 35, 2) := by decide +kernel
theorem dX4_sign_12 : decode cX4_sign 12 = .ok (.invokestatic 36, 3) := by decide +kernel
theorem dX4_sign_15 : decode cX4_sign 15 = .ok (.ifCond .eq 10, 3) := by decide +kernel
theorem dX4_sign_18 : decode cX4_sign 18 = .ok (.iload_n 3, 1) := by decide +kernel
theorem dX4_sign_19 : decode cX4_sign 19 = .ok (.invokestatic 40, 3) := by decide +kernel
theorem dX4_sign_22 : decode cX4_sign 22 = .ok (.ifCond .ne 6, 3) := by decide +kernel
theorem dX4_sign_25 : decode cX4_sign 25 = .ok (.bipush (-3), 2) := by decide +kernel
theorem dX4_sign_27 : decode cX4_sign 27 = .ok (.ireturn, 1) := by decide +kernel
theorem dX4_sign_28 : decode cX4_sign 28 = .ok (.iload_n 1, 1) := by decide +kernel
theorem dX4_sign_29 : decode cX4_sign 29 = .ok (.i2l, 1) := by decide +kernel
theorem dX4_sign_30 : decode cX4_sign 30 = .ok (.iload_n 2, 1) := by decide +kernel
theorem dX4_sign_31 : decode cX4_sign 31 = .ok (.i2l, 1) := by decide +kernel
theorem dX4_sign_32 : decode cX4_sign 32 = .ok (.iload_n 3, 1) := by decide +kernel
theorem dX4_sign_33 : decode cX4_sign 33 = .ok (.invokestatic 46, 3) := by decide +kernel
theorem dX4_sign_36 : decode cX4_sign 36 = .ok (.ireturn, 1) := by decide +kernel
theorem dX4_odds_0 : decode cX4_odds 0 = .ok (.iload_n 1, 1) := by decide +kernel
theorem dX4_odds_1 : decode cX4_odds 1 = .ok (.sipush 400, 3) := by decide +kernel
theorem dX4_odds_4 : decode cX4_odds 4 = .ok (.invokestatic 36, 3) := by decide +kernel
theorem dX4_odds_7 : decode cX4_odds 7 = .ok (.ifCond .eq 13, 3) := by decide +kernel
theorem dX4_odds_10 : decode cX4_odds 10 = .ok (.iload_n 2, 1) := by decide +kernel
theorem dX4_odds_11 : decode cX4_odds 11 = .ok (.sipush 400, 3) := by decide +kernel
theorem dX4_odds_14 : decode cX4_odds 14 = .ok (.invokestatic 36, 3) := by decide +kernel
theorem dX4_odds_17 : decode cX4_odds 17 = .ok (.ifCond .ne 6, 3) := by decide +kernel
theorem dX4_odds_20 : decode cX4_odds 20 = .ok (.bipush (-3), 2) := by decide +kernel
theorem dX4_odds_22 : decode cX4_odds 22 = .ok (.ireturn, 1) := by decide +kernel
theorem dX4_odds_23 : decode cX4_odds 23 = .ok (.iconst 0, 1) := by decide +kernel
theorem dX4_odds_24 : decode cX4_odds 24 = .ok (.istore_n 3, 1) := by decide +kernel
theorem dX4_odds_25 : decode cX4_odds 25 = .ok (.getstatic 50, 3) := by decide +kernel
theorem dX4_odds_28 : decode cX4_odds 28 = .ok (.astore 4, 2) := by decide +kernel
theorem dX4_odds_30 : decode cX4_odds 30 = .ok (.aload 4, 2) := by decide +kernel
theorem dX4_odds_32 : decode cX4_odds 32 = .ok (.arraylength, 1) := by decide +kernel
theorem dX4_odds_33 : decode cX4_odds 33 = .ok (.istore 5, 2) := by decide +kernel
theorem dX4_odds_35 : decode cX4_odds 35 = .ok (.iconst 0, 1) := by decide +kernel
theorem dX4_odds_36 : decode cX4_odds 36 = .ok (.istore 6, 2) := by decide +kernel
theorem dX4_odds_38 : decode cX4_odds 38 = .ok (.iload 6, 2) := by decide +kernel
theorem dX4_odds_40 : decode cX4_odds 40 = .ok (.iload 5, 2) := by decide +kernel
theorem dX4_odds_42 : decode cX4_odds 42 = .ok (.if_icmp .ge 31, 3) := by decide +kernel
theorem dX4_odds_45 : decode cX4_odds 45 = .ok (.aload 4, 2) := by decide +kernel
theorem dX4_odds_47 : decode cX4_odds 47 = .ok (.iload 6, 2) := by decide +kernel
theorem dX4_odds_49 : decode cX4_odds 49 = .ok (.iaload, 1) := by decide +kernel
theorem dX4_odds_50 : decode cX4_odds 50 = .ok (.istore 7, 2) := by decide +kernel
theorem dX4_odds_52 : decode cX4_odds 52 = .ok (.iload_n 1, 1) := by decide +kernel
theorem dX4_odds_53 : decode cX4_odds 53 = .ok (.i2l, 1) := by decide +kernel
theorem dX4_odds_54 : decode cX4_odds 54 = .ok (.iload_n 2, 1) := by decide +kernel
theorem dX4_odds_55 : decode cX4_odds 55 = .ok (.i2l, 1) := by decide +kernel
theorem dX4_odds_56 : decode cX4_odds 56 = .ok (.iload 7, 2) := by decide +kernel
theorem dX4_odds_58 : decode cX4_odds 58 = .ok (.invokestatic 46, 3) := by decide +kernel
theorem dX4_odds_61 : decode cX4_odds 61 = .ok (.ifCond .ge 6, 3) := by decide +kernel
theorem dX4_odds_64 : decode cX4_odds 64 = .ok (.iinc 3 1, 3) := by decide +kernel
theorem dX4_odds_67 : decode cX4_odds 67 = .ok (.iinc 6 1, 3) := by decide +kernel
theorem dX4_odds_70 : decode cX4_odds 70 = .ok (.goto (-32), 3) := by decide +kernel
theorem dX4_odds_73 : decode cX4_odds 73 = .ok (.iload_n 3, 1) := by decide +kernel
theorem dX4_odds_74 : decode cX4_odds 74 = .ok (.ireturn, 1) := by decide +kernel
theorem dX4_form_0 : decode cX4_form 0 = .ok (.iload_n 1, 1) := by decide +kernel
theorem dX4_form_1 : decode cX4_form 1 = .ok (.invokestatic 53, 3) := by decide +kernel
theorem dX4_form_4 : decode cX4_form 4 = .ok (.ifCond .eq 13, 3) := by decide +kernel
theorem dX4_form_7 : decode cX4_form 7 = .ok (.iload_n 2, 1) := by decide +kernel
theorem dX4_form_8 : decode cX4_form 8 = .ok (.iconst 1, 1) := by decide +kernel
theorem dX4_form_9 : decode cX4_form 9 = .ok (.if_icmp .lt 8, 3) := by decide +kernel
theorem dX4_form_12 : decode cX4_form 12 = .ok (.iload_n 2, 1) := by decide +kernel
theorem dX4_form_13 : decode cX4_form 13 = .ok (.iconst 5, 1) := by decide +kernel
theorem dX4_form_14 : decode cX4_form 14 = .ok (.if_icmp .le 6, 3) := by decide +kernel
theorem dX4_form_17 : decode cX4_form 17 = .ok (.bipush (-3), 2) := by decide +kernel
theorem dX4_form_19 : decode cX4_form 19 = .ok (.ireturn, 1) := by decide +kernel
theorem dX4_form_20 : decode cX4_form 20 = .ok (.aload_n 0, 1) := by decide +kernel
theorem dX4_form_21 : decode cX4_form 21 = .ok (.getfield 20, 3) := by decide +kernel
theorem dX4_form_24 : decode cX4_form 24 = .ok (.iconst 0, 1) := by decide +kernel
theorem dX4_form_25 : decode cX4_form 25 = .ok (.iload_n 3, 1) := by decide +kernel
theorem dX4_form_26 : decode cX4_form 26 = .ok (.iastore, 1) := by decide +kernel
theorem dX4_form_27 : decode cX4_form 27 = .ok (.aload_n 0, 1) := by decide +kernel
theorem dX4_form_28 : decode cX4_form 28 = .ok (.getfield 20, 3) := by decide +kernel
theorem dX4_form_31 : decode cX4_form 31 = .ok (.iconst 1, 1) := by decide +kernel
theorem dX4_form_32 : decode cX4_form 32 = .ok (.iload 4, 2) := by decide +kernel
theorem dX4_form_34 : decode cX4_form 34 = .ok (.iastore, 1) := by decide +kernel
theorem dX4_form_35 : decode cX4_form 35 = .ok (.aload_n 0, 1) := by decide +kernel
theorem dX4_form_36 : decode cX4_form 36 = .ok (.getfield 20, 3) := by decide +kernel
theorem dX4_form_39 : decode cX4_form 39 = .ok (.iconst 2, 1) := by decide +kernel
theorem dX4_form_40 : decode cX4_form 40 = .ok (.iload 5, 2) := by decide +kernel
theorem dX4_form_42 : decode cX4_form 42 = .ok (.iastore, 1) := by decide +kernel
theorem dX4_form_43 : decode cX4_form 43 = .ok (.aload_n 0, 1) := by decide +kernel
theorem dX4_form_44 : decode cX4_form 44 = .ok (.getfield 20, 3) := by decide +kernel
theorem dX4_form_47 : decode cX4_form 47 = .ok (.iconst 3, 1) := by decide +kernel
theorem dX4_form_48 : decode cX4_form 48 = .ok (.iload 6, 2) := by decide +kernel
theorem dX4_form_50 : decode cX4_form 50 = .ok (.iastore, 1) := by decide +kernel
theorem dX4_form_51 : decode cX4_form 51 = .ok (.aload_n 0, 1) := by decide +kernel
theorem dX4_form_52 : decode cX4_form 52 = .ok (.getfield 20, 3) := by decide +kernel
theorem dX4_form_55 : decode cX4_form 55 = .ok (.iconst 4, 1) := by decide +kernel
theorem dX4_form_56 : decode cX4_form 56 = .ok (.iload 7, 2) := by decide +kernel
theorem dX4_form_58 : decode cX4_form 58 = .ok (.iastore, 1) := by decide +kernel
theorem dX4_form_59 : decode cX4_form 59 = .ok (.iconst 0, 1) := by decide +kernel
theorem dX4_form_60 : decode cX4_form 60 = .ok (.istore 8, 2) := by decide +kernel
theorem dX4_form_62 : decode cX4_form 62 = .ok (.iload 8, 2) := by decide +kernel
theorem dX4_form_64 : decode cX4_form 64 = .ok (.iload_n 2, 1) := by decide +kernel
theorem dX4_form_65 : decode cX4_form 65 = .ok (.if_icmp .ge 28, 3) := by decide +kernel
theorem dX4_form_68 : decode cX4_form 68 = .ok (.aload_n 0, 1) := by decide +kernel
theorem dX4_form_69 : decode cX4_form 69 = .ok (.getfield 20, 3) := by decide +kernel
theorem dX4_form_72 : decode cX4_form 72 = .ok (.iload 8, 2) := by decide +kernel
theorem dX4_form_74 : decode cX4_form 74 = .ok (.iaload, 1) := by decide +kernel
theorem dX4_form_75 : decode cX4_form 75 = .ok (.sipush 400, 3) := by decide +kernel
theorem dX4_form_78 : decode cX4_form 78 = .ok (.invokestatic 36, 3) := by decide +kernel
theorem dX4_form_81 : decode cX4_form 81 = .ok (.ifCond .ne 6, 3) := by decide +kernel
theorem dX4_form_84 : decode cX4_form 84 = .ok (.bipush (-3), 2) := by decide +kernel
theorem dX4_form_86 : decode cX4_form 86 = .ok (.ireturn, 1) := by decide +kernel
theorem dX4_form_87 : decode cX4_form 87 = .ok (.iinc 8 1, 3) := by decide +kernel
theorem dX4_form_90 : decode cX4_form 90 = .ok (.goto (-28), 3) := by decide +kernel
theorem dX4_form_93 : decode cX4_form 93 = .ok (.aload_n 0, 1) := by decide +kernel
theorem dX4_form_94 : decode cX4_form 94 = .ok (.getfield 11, 3) := by decide +kernel
theorem dX4_form_97 : decode cX4_form 97 = .ok (.iload_n 1, 1) := by decide +kernel
theorem dX4_form_98 : decode cX4_form 98 = .ok (.aaload, 1) := by decide +kernel
theorem dX4_form_99 : decode cX4_form 99 = .ok (.aload_n 0, 1) := by decide +kernel
theorem dX4_form_100 : decode cX4_form 100 = .ok (.getfield 20, 3) := by decide +kernel
theorem dX4_form_103 : decode cX4_form 103 = .ok (.iload_n 2, 1) := by decide +kernel
theorem dX4_form_104 : decode cX4_form 104 = .ok (.invokevirtual 56, 3) := by decide +kernel
theorem dX4_form_107 : decode cX4_form 107 = .ok (.iload_n 2, 1) := by decide +kernel
theorem dX4_form_108 : decode cX4_form 108 = .ok (.ireturn, 1) := by decide +kernel
theorem dX4_at_0 : decode cX4_at 0 = .ok (.iload_n 1, 1) := by decide +kernel
theorem dX4_at_1 : decode cX4_at 1 = .ok (.invokestatic 53, 3) := by decide +kernel
theorem dX4_at_4 : decode cX4_at 4 = .ok (.ifCond .eq 20, 3) := by decide +kernel
end
section
theorem dX4_at_7 : decode cX4_at 7 = .ok (.iload_n 2, 1) := by decide +kernel
theorem dX4_at_8 : decode cX4_at 8 = .ok (.ifCond .lt 16, 3) := by decide +kernel
theorem dX4_at_11 : decode cX4_at 11 = .ok (.iload_n 2, 1) := by decide +kernel
theorem dX4_at_12 : decode cX4_at 12 = .ok (.aload_n 0, 1) := by decide +kernel
theorem dX4_at_13 : decode cX4_at 13 = .ok (.getfield 11, 3) := by decide +kernel
theorem dX4_at_16 : decode cX4_at 16 = .ok (.iload_n 1, 1) := by decide +kernel
theorem dX4_at_17 : decode cX4_at 17 = .ok (.aaload, 1) := by decide +kernel
theorem dX4_at_18 : decode cX4_at 18 = .ok (.getfield 60, 3) := by decide +kernel
theorem dX4_at_21 : decode cX4_at 21 = .ok (.if_icmp .lt 5, 3) := by decide +kernel
theorem dX4_at_24 : decode cX4_at 24 = .ok (.iconst 0, 1) := by decide +kernel
theorem dX4_at_25 : decode cX4_at 25 = .ok (.ireturn, 1) := by decide +kernel
theorem dX4_at_26 : decode cX4_at 26 = .ok (.aload_n 0, 1) := by decide +kernel
theorem dX4_at_27 : decode cX4_at 27 = .ok (.getfield 11, 3) := by decide +kernel
theorem dX4_at_30 : decode cX4_at 30 = .ok (.iload_n 1, 1) := by decide +kernel
theorem dX4_at_31 : decode cX4_at 31 = .ok (.aaload, 1) := by decide +kernel
theorem dX4_at_32 : decode cX4_at 32 = .ok (.getfield 64, 3) := by decide +kernel
theorem dX4_at_35 : decode cX4_at 35 = .ok (.iload_n 2, 1) := by decide +kernel
theorem dX4_at_36 : decode cX4_at 36 = .ok (.iaload, 1) := by decide +kernel
theorem dX4_at_37 : decode cX4_at 37 = .ok (.ireturn, 1) := by decide +kernel
theorem dX4_whole_0 : decode cX4_whole 0 = .ok (.iload_n 1, 1) := by decide +kernel
theorem dX4_whole_1 : decode cX4_whole 1 = .ok (.invokestatic 53, 3) := by decide +kernel
theorem dX4_whole_4 : decode cX4_whole 4 = .ok (.ifCond .eq 12, 3) := by decide +kernel
theorem dX4_whole_7 : decode cX4_whole 7 = .ok (.iload_n 2, 1) := by decide +kernel
theorem dX4_whole_8 : decode cX4_whole 8 = .ok (.ifCond .lt 8, 3) := by decide +kernel
theorem dX4_whole_11 : decode cX4_whole 11 = .ok (.iload_n 2, 1) := by decide +kernel
theorem dX4_whole_12 : decode cX4_whole 12 = .ok (.iconst 1, 1) := by decide +kernel
theorem dX4_whole_13 : decode cX4_whole 13 = .ok (.if_icmp .le 5, 3) := by decide +kernel
theorem dX4_whole_16 : decode cX4_whole 16 = .ok (.lconst 0, 1) := by decide +kernel
theorem dX4_whole_17 : decode cX4_whole 17 = .ok (.lreturn, 1) := by decide +kernel
theorem dX4_whole_18 : decode cX4_whole 18 = .ok (.iload_n 2, 1) := by decide +kernel
theorem dX4_whole_19 : decode cX4_whole 19 = .ok (.ifCond .ne 15, 3) := by decide +kernel
theorem dX4_whole_22 : decode cX4_whole 22 = .ok (.aload_n 0, 1) := by decide +kernel
theorem dX4_whole_23 : decode cX4_whole 23 = .ok (.getfield 11, 3) := by decide +kernel
theorem dX4_whole_26 : decode cX4_whole 26 = .ok (.iload_n 1, 1) := by decide +kernel
theorem dX4_whole_27 : decode cX4_whole 27 = .ok (.aaload, 1) := by decide +kernel
theorem dX4_whole_28 : decode cX4_whole 28 = .ok (.invokevirtual 67, 3) := by decide +kernel
theorem dX4_whole_31 : decode cX4_whole 31 = .ok (.goto 12, 3) := by decide +kernel
theorem dX4_whole_34 : decode cX4_whole 34 = .ok (.aload_n 0, 1) := by decide +kernel
theorem dX4_whole_35 : decode cX4_whole 35 = .ok (.getfield 11, 3) := by decide +kernel
theorem dX4_whole_38 : decode cX4_whole 38 = .ok (.iload_n 1, 1) := by decide +kernel
theorem dX4_whole_39 : decode cX4_whole 39 = .ok (.aaload, 1) := by decide +kernel
theorem dX4_whole_40 : decode cX4_whole 40 = .ok (.invokevirtual 71, 3) := by decide +kernel
theorem dX4_whole_43 : decode cX4_whole 43 = .ok (.lreturn, 1) := by decide +kernel
theorem dX4_hold_0 : decode cX4_hold 0 = .ok (.iload_n 1, 1) := by decide +kernel
theorem dX4_hold_1 : decode cX4_hold 1 = .ok (.invokestatic 53, 3) := by decide +kernel
theorem dX4_hold_4 : decode cX4_hold 4 = .ok (.ifCond .eq 10, 3) := by decide +kernel
theorem dX4_hold_7 : decode cX4_hold 7 = .ok (.iload_n 2, 1) := by decide +kernel
theorem dX4_hold_8 : decode cX4_hold 8 = .ok (.invokestatic 40, 3) := by decide +kernel
theorem dX4_hold_11 : decode cX4_hold 11 = .ok (.ifCond .ne 6, 3) := by decide +kernel
theorem dX4_hold_14 : decode cX4_hold 14 = .ok (.bipush (-3), 2) := by decide +kernel
theorem dX4_hold_16 : decode cX4_hold 16 = .ok (.ireturn, 1) := by decide +kernel
theorem dX4_hold_17 : decode cX4_hold 17 = .ok (.aload_n 0, 1) := by decide +kernel
theorem dX4_hold_18 : decode cX4_hold 18 = .ok (.getfield 11, 3) := by decide +kernel
theorem dX4_hold_21 : decode cX4_hold 21 = .ok (.iload_n 1, 1) := by decide +kernel
theorem dX4_hold_22 : decode cX4_hold 22 = .ok (.aaload, 1) := by decide +kernel
theorem dX4_hold_23 : decode cX4_hold 23 = .ok (.iload_n 2, 1) := by decide +kernel
theorem dX4_hold_24 : decode cX4_hold 24 = .ok (.invokevirtual 74, 3) := by decide +kernel
theorem dX4_hold_27 : decode cX4_hold 27 = .ok (.ireturn, 1) := by decide +kernel
theorem dX4_goes_0 : decode cX4_goes 0 = .ok (.iload_n 1, 1) := by decide +kernel
theorem dX4_goes_1 : decode cX4_goes 1 = .ok (.invokestatic 53, 3) := by decide +kernel
theorem dX4_goes_4 : decode cX4_goes 4 = .ok (.ifCond .eq 10, 3) := by decide +kernel
theorem dX4_goes_7 : decode cX4_goes 7 = .ok (.iload_n 2, 1) := by decide +kernel
theorem dX4_goes_8 : decode cX4_goes 8 = .ok (.invokestatic 40, 3) := by decide +kernel
theorem dX4_goes_11 : decode cX4_goes 11 = .ok (.ifCond .ne 6, 3) := by decide +kernel
theorem dX4_goes_14 : decode cX4_goes 14 = .ok (.bipush (-3), 2) := by decide +kernel
theorem dX4_goes_16 : decode cX4_goes 16 = .ok (.ireturn, 1) := by decide +kernel
theorem dX4_goes_17 : decode cX4_goes 17 = .ok (.aload_n 0, 1) := by decide +kernel
theorem dX4_goes_18 : decode cX4_goes 18 = .ok (.getfield 11, 3) := by decide +kernel
theorem dX4_goes_21 : decode cX4_goes 21 = .ok (.iload_n 1, 1) := by decide +kernel
theorem dX4_goes_22 : decode cX4_goes 22 = .ok (.aaload, 1) := by decide +kernel
theorem dX4_goes_23 : decode cX4_goes 23 = .ok (.iload_n 2, 1) := by decide +kernel
theorem dX4_goes_24 : decode cX4_goes 24 = .ok (.invokevirtual 78, 3) := by decide +kernel
theorem dX4_goes_27 : decode cX4_goes 27 = .ok (.ifCond .eq 7, 3) := by decide +kernel
theorem dX4_goes_30 : decode cX4_goes 30 = .ok (.iconst 1, 1) := by decide +kernel
theorem dX4_goes_31 : decode cX4_goes 31 = .ok (.goto 4, 3) := by decide +kernel
theorem dX4_goes_34 : decode cX4_goes 34 = .ok (.iconst 0, 1) := by decide +kernel
theorem dX4_goes_35 : decode cX4_goes 35 = .ok (.ireturn, 1) := by decide +kernel
theorem dX4_nought_0 : decode cX4_nought 0 = .ok (.iload_n 1, 1) := by decide +kernel
theorem dX4_nought_1 : decode cX4_nought 1 = .ok (.invokestatic 53, 3) := by decide +kernel
theorem dX4_nought_4 : decode cX4_nought 4 = .ok (.ifCond .ne 6, 3) := by decide +kernel
theorem dX4_nought_7 : decode cX4_nought 7 = .ok (.bipush (-3), 2) := by decide +kernel
theorem dX4_nought_9 : decode cX4_nought 9 = .ok (.ireturn, 1) := by decide +kernel
theorem dX4_nought_10 : decode cX4_nought 10 = .ok (.aload_n 0, 1) := by decide +kernel
theorem dX4_nought_11 : decode cX4_nought 11 = .ok (.getfield 11, 3) := by decide +kernel
theorem dX4_nought_14 : decode cX4_nought 14 = .ok (.iload_n 1, 1) := by decide +kernel
theorem dX4_nought_15 : decode cX4_nought 15 = .ok (.aaload, 1) := by decide +kernel
theorem dX4_nought_16 : decode cX4_nought 16 = .ok (.invokevirtual 81, 3) := by decide +kernel
theorem dX4_nought_19 : decode cX4_nought 19 = .ok (.ifCond .ne 7, 3) := by decide +kernel
theorem dX4_nought_22 : decode cX4_nought 22 = .ok (.iconst 1, 1) := by decide +kernel
theorem dX4_nought_23 : decode cX4_nought 23 = .ok (.goto 4, 3) := by decide +kernel
theorem dX4_nought_26 : decode cX4_nought 26 = .ok (.iconst 0, 1) := by decide +kernel
theorem dX4_nought_27 : decode cX4_nought 27 = .ok (.ireturn, 1) := by decide +kernel
theorem dX4_bars_0 : decode cX4_bars 0 = .ok (.iload_n 1, 1) := by decide +kernel
theorem dX4_bars_1 : decode cX4_bars 1 = .ok (.invokestatic 53, 3) := by decide +kernel
theorem dX4_bars_4 : decode cX4_bars 4 = .ok (.ifCond .ne 6, 3) := by decide +kernel
theorem dX4_bars_7 : decode cX4_bars 7 = .ok (.bipush (-3), 2) := by decide +kernel
theorem dX4_bars_9 : decode cX4_bars 9 = .ok (.ireturn, 1) := by decide +kernel
theorem dX4_bars_10 : decode cX4_bars 10 = .ok (.aload_n 0, 1) := by decide +kernel
theorem dX4_bars_11 : decode cX4_bars 11 = .ok (.getfield 11, 3) := by decide +kernel
theorem dX4_bars_14 : decode cX4_bars 14 = .ok (.iload_n 1, 1) := by decide +kernel
theorem dX4_bars_15 : decode cX4_bars 15 = .ok (.aaload, 1) := by decide +kernel
theorem dX4_bars_16 : decode cX4_bars 16 = .ok (.invokevirtual 81, 3) := by decide +kernel
theorem dX4_bars_19 : decode cX4_bars 19 = .ok (.ireturn, 1) := by decide +kernel
theorem dX4_bar_0 : decode cX4_bar 0 = .ok (.iload_n 1, 1) := by decide +kernel
theorem dX4_bar_1 : decode cX4_bar 1 = .ok (.invokestatic 53, 3) := by decide +kernel
theorem dX4_bar_4 : decode cX4_bar 4 = .ok (.ifCond .eq 7, 3) := by decide +kernel
theorem dX4_bar_7 : decode cX4_bar 7 = .ok (.iload_n 2, 1) := by decide +kernel
theorem dX4_bar_8 : decode cX4_bar 8 = .ok (.ifCond .ge 6, 3) := by decide +kernel
theorem dX4_bar_11 : decode cX4_bar 11 = .ok (.bipush (-3), 2) := by decide +kernel
theorem dX4_bar_13 : decode cX4_bar 13 = .ok (.ireturn, 1) := by decide +kernel
theorem dX4_bar_14 : decode cX4_bar 14 = .ok (.aload_n 0, 1) := by decide +kernel
theorem dX4_bar_15 : decode cX4_bar 15 = .ok (.getfield 11, 3) := by decide +kernel
theorem dX4_bar_18 : decode cX4_bar 18 = .ok (.iload_n 1, 1) := by decide +kernel
theorem dX4_bar_19 : decode cX4_bar 19 = .ok (.aaload, 1) := by decide +kernel
theorem dX4_bar_20 : decode cX4_bar 20 = .ok (.iload_n 2, 1) := by decide +kernel
theorem dX4_bar_21 : decode cX4_bar 21 = .ok (.invokevirtual 85, 3) := by decide +kernel
theorem dX4_bar_24 : decode cX4_bar 24 = .ok (.istore_n 3, 1) := by decide +kernel
theorem dX4_bar_25 : decode cX4_bar 25 = .ok (.iload_n 3, 1) := by decide +kernel
theorem dX4_bar_26 : decode cX4_bar 26 = .ok (.ifCond .ge 8, 3) := by decide +kernel
theorem dX4_bar_29 : decode cX4_bar 29 = .ok (.bipush (-3), 2) := by decide +kernel
theorem dX4_bar_31 : decode cX4_bar 31 = .ok (.goto 4, 3) := by decide +kernel
theorem dX4_bar_34 : decode cX4_bar 34 = .ok (.iload_n 3, 1) := by decide +kernel
theorem dX4_bar_35 : decode cX4_bar 35 = .ok (.ireturn, 1) := by decide +kernel
theorem dX4_takes_0 : decode cX4_takes 0 = .ok (.iload_n 1, 1) := by decide +kernel
theorem dX4_takes_1 : decode cX4_takes 1 = .ok (.invokestatic 53, 3) := by decide +kernel
theorem dX4_takes_4 : decode cX4_takes 4 = .ok (.ifCond .eq 13, 3) := by decide +kernel
theorem dX4_takes_7 : decode cX4_takes 7 = .ok (.iload_n 2, 1) := by decide +kernel
theorem dX4_takes_8 : decode cX4_takes 8 = .ok (.sipush 400, 3) := by decide +kernel
theorem dX4_takes_11 : decode cX4_takes 11 = .ok (.invokestatic 36, 3) := by decide +kernel
theorem dX4_takes_14 : decode cX4_takes 14 = .ok (.ifCond .ne 6, 3) := by decide +kernel
theorem dX4_takes_17 : decode cX4_takes 17 = .ok (.bipush (-3), 2) := by decide +kernel
theorem dX4_takes_19 : decode cX4_takes 19 = .ok (.ireturn, 1) := by decide +kernel
theorem dX4_takes_20 : decode cX4_takes 20 = .ok (.aload_n 0, 1) := by decide +kernel
theorem dX4_takes_21 : decode cX4_takes 21 = .ok (.getfield 11, 3) := by decide +kernel
theorem dX4_takes_24 : decode cX4_takes 24 = .ok (.iload_n 1, 1) := by decide +kernel
theorem dX4_takes_25 : decode cX4_takes 25 = .ok (.aaload, 1) := by decide +kernel
theorem dX4_takes_26 : decode cX4_takes 26 = .ok (.astore_n 3, 1) := by decide +kernel
theorem dX4_takes_27 : decode cX4_takes 27 = .ok (.aload_n 0, 1) := by decide +kernel
theorem dX4_takes_28 : decode cX4_takes 28 = .ok (.getfield 16, 3) := by decide +kernel
theorem dX4_takes_31 : decode cX4_takes 31 = .ok (.aload_n 3, 1) := by decide +kernel
theorem dX4_takes_32 : decode cX4_takes 32 = .ok (.getfield 64, 3) := by decide +kernel
theorem dX4_takes_35 : decode cX4_takes 35 = .ok (.aload_n 3, 1) := by decide +kernel
theorem dX4_takes_36 : decode cX4_takes 36 = .ok (.getfield 60, 3) := by decide +kernel
theorem dX4_takes_39 : decode cX4_takes 39 = .ok (.invokevirtual 56, 3) := by decide +kernel
theorem dX4_takes_42 : decode cX4_takes 42 = .ok (.aload_n 0, 1) := by decide +kernel
theorem dX4_takes_43 : decode cX4_takes 43 = .ok (.getfield 16, 3) := by decide +kernel
theorem dX4_takes_46 : decode cX4_takes 46 = .ok (.iload_n 2, 1) := by decide +kernel
theorem dX4_takes_47 : decode cX4_takes 47 = .ok (.ineg, 1) := by decide +kernel
theorem dX4_takes_48 : decode cX4_takes 48 = .ok (.invokevirtual 88, 3) := by decide +kernel
theorem dX4_takes_51 : decode cX4_takes 51 = .ok (.aload_n 0, 1) := by decide +kernel
theorem dX4_takes_52 : decode cX4_takes 52 = .ok (.getfield 16, 3) := by decide +kernel
theorem dX4_takes_55 : decode cX4_takes 55 = .ok (.invokevirtual 81, 3) := by decide +kernel
theorem dX4_takes_58 : decode cX4_takes 58 = .ok (.ifCond .ne 7, 3) := by decide +kernel
theorem dX4_takes_61 : decode cX4_takes 61 = .ok (.iconst 1, 1) := by decide +kernel
theorem dX4_takes_62 : decode cX4_takes 62 = .ok (.goto 4, 3) := by decide +kernel
theorem dX4_takes_65 : decode cX4_takes 65 = .ok (.iconst 0, 1) := by decide +kernel
theorem dX4_takes_66 : decode cX4_takes 66 = .ok (.ireturn, 1) := by decide +kernel
theorem dX4_alike_0 : decode cX4_alike 0 = .ok (.iload_n 1, 1) := by decide +kernel
theorem dX4_alike_1 : decode cX4_alike 1 = .ok (.invokestatic 53, 3) := by decide +kernel
theorem dX4_alike_4 : decode cX4_alike 4 = .ok (.ifCond .eq 10, 3) := by decide +kernel
theorem dX4_alike_7 : decode cX4_alike 7 = .ok (.iload_n 2, 1) := by decide +kernel
theorem dX4_alike_8 : decode cX4_alike 8 = .ok (.invokestatic 53, 3) := by decide +kernel
theorem dX4_alike_11 : decode cX4_alike 11 = .ok (.ifCond .ne 6, 3) := by decide +kernel
theorem dX4_alike_14 : decode cX4_alike 14 = .ok (.bipush (-3), 2) := by decide +kernel
theorem dX4_alike_16 : decode cX4_alike 16 = .ok (.ireturn, 1) := by decide +kernel
theorem dX4_alike_17 : decode cX4_alike 17 = .ok (.aload_n 0, 1) := by decide +kernel
theorem dX4_alike_18 : decode cX4_alike 18 = .ok (.getfield 11, 3) := by decide +kernel
theorem dX4_alike_21 : decode cX4_alike 21 = .ok (.iload_n 1, 1) := by decide +kernel
theorem dX4_alike_22 : decode cX4_alike 22 = .ok (.aaload, 1) := by decide +kernel
theorem dX4_alike_23 : decode cX4_alike 23 = .ok (.aload_n 0, 1) := by decide +kernel
theorem dX4_alike_24 : decode cX4_alike 24 = .ok (.getfield 11, 3) := by decide +kernel
theorem dX4_alike_27 : decode cX4_alike 27 = .ok (.iload_n 2, 1) := by decide +kernel
theorem dX4_alike_28 : decode cX4_alike 28 = .ok (.aaload, 1) := by decide +kernel
theorem dX4_alike_29 : decode cX4_alike 29 = .ok (.invokevirtual 92, 3) := by decide +kernel
theorem dX4_alike_32 : decode cX4_alike 32 = .ok (.ifCond .eq 7, 3) := by decide +kernel
theorem dX4_alike_35 : decode cX4_alike 35 = .ok (.iconst 1, 1) := by decide +kernel
theorem dX4_alike_36 : decode cX4_alike 36 = .ok (.goto 4, 3) := by decide +kernel
theorem dX4_alike_39 : decode cX4_alike 39 = .ok (.iconst 0, 1) := by decide +kernel
theorem dX4_alike_40 : decode cX4_alike 40 = .ok (.ireturn, 1) := by decide +kernel
theorem dX4_worth_0 : decode cX4_worth 0 = .ok (.iload_n 1, 1) := by decide +kernel
theorem dX4_worth_1 : decode cX4_worth 1 = .ok (.invokestatic 53, 3) := by decide +kernel
theorem dX4_worth_4 : decode cX4_worth 4 = .ok (.ifCond .eq 29, 3) := by decide +kernel
theorem dX4_worth_7 : decode cX4_worth 7 = .ok (.aload_n 0, 1) := by decide +kernel
theorem dX4_worth_8 : decode cX4_worth 8 = .ok (.getfield 11, 3) := by decide +kernel
theorem dX4_worth_11 : decode cX4_worth 11 = .ok (.iload_n 1, 1) := by decide +kernel
theorem dX4_worth_12 : decode cX4_worth 12 = .ok (.aaload, 1) := by decide +kernel
theorem dX4_worth_13 : decode cX4_worth 13 = .ok (.getfield 60, 3) := by decide +kernel
theorem dX4_worth_16 : decode cX4_worth 16 = .ok (.iconst 3, 1) := by decide +kernel
theorem dX4_worth_17 : decode cX4_worth 17 = .ok (.if_icmp .ne 16, 3) := by decide +kernel
theorem dX4_worth_20 : decode cX4_worth 20 = .ok (.iload_n 2, 1) := by decide +kernel
theorem dX4_worth_21 : decode cX4_worth 21 = .ok (.iload_n 3, 1) := by decide +kernel
theorem dX4_worth_22 : decode cX4_worth 22 = .ok (.iload 4, 2) := by decide +kernel
theorem dX4_worth_24 : decode cX4_worth 24 = .ok (.sipush 1000, 3) := by decide +kernel
theorem dX4_worth_27 : decode cX4_worth 27 = .ok (.invokestatic 96, 3) := by decide +kernel
theorem dX4_worth_30 : decode cX4_worth 30 = .ok (.ifCond .ne 7, 3) := by decide +kernel
theorem dX4_worth_33 : decode cX4_worth 33 = .ok (.ldc2_w 100, 3) := by decide +kernel
theorem dX4_worth_36 : decode cX4_worth 36 = .ok (.lreturn, 1) := by decide +kernel
theorem dX4_worth_37 : decode cX4_worth 37 = .ok (.aload_n 0, 1) := by decide +kernel
theorem dX4_worth_38 : decode cX4_worth 38 = .ok (.getfield 11, 3) := by decide +kernel
theorem dX4_worth_41 : decode cX4_worth 41 = .ok (.iload_n 1, 1) := by decide +kernel
theorem dX4_worth_42 : decode cX4_worth 42 = .ok (.aaload, 1) := by decide +kernel
theorem dX4_worth_43 : decode cX4_worth 43 = .ok (.iload_n 2, 1) := by decide +kernel
theorem dX4_worth_44 : decode cX4_worth 44 = .ok (.iload_n 3, 1) := by decide +kernel
theorem dX4_worth_45 : decode cX4_worth 45 = .ok (.iload 4, 2) := by decide +kernel
theorem dX4_worth_47 : decode cX4_worth 47 = .ok (.iload_n 2, 1) := by decide +kernel
theorem dX4_worth_48 : decode cX4_worth 48 = .ok (.iload_n 3, 1) := by decide +kernel
theorem dX4_worth_49 : decode cX4_worth 49 = .ok (.iload 4, 2) := by decide +kernel
theorem dX4_worth_51 : decode cX4_worth 51 = .ok (.invokevirtual 102, 3) := by decide +kernel
theorem dX4_worth_54 : decode cX4_worth 54 = .ok (.lreturn, 1) := by decide +kernel
theorem dX4_measure_0 : decode cX4_measure 0 = .ok (.iload_n 1, 1) := by decide +kernel
theorem dX4_measure_1 : decode cX4_measure 1 = .ok (.ifCond .lt 20, 3) := by decide +kernel
theorem dX4_measure_4 : decode cX4_measure 4 = .ok (.iload_n 1, 1) := by decide +kernel
theorem dX4_measure_5 : decode cX4_measure 5 = .ok (.iconst 3, 1) := by decide +kernel
theorem dX4_measure_6 : decode cX4_measure 6 = .ok (.if_icmp .ge 15, 3) := by decide +kernel
theorem dX4_measure_9 : decode cX4_measure 9 = .ok (.iload_n 2, 1) := by decide +kernel
theorem dX4_measure_10 : decode cX4_measure 10 = .ok (.iload_n 3, 1) := by decide +kernel
theorem dX4_measure_11 : decode cX4_measure 11 = .ok (.iload 4, 2) := by decide +kernel
theorem dX4_measure_13 : decode cX4_measure 13 = .ok (.bipush 30, 2) := by decide +kernel
theorem dX4_measure_15 : decode cX4_measure 15 = .ok (.invokestatic 96, 3) := by decide +kernel
theorem dX4_measure_18 : decode cX4_measure 18 = .ok (.ifCond .ne 6, 3) := by decide +kernel
theorem dX4_measure_21 : decode cX4_measure 21 = .ok (.bipush (-3), 2) := by decide +kernel
theorem dX4_measure_23 : decode cX4_measure 23 = .ok (.ireturn, 1) := by decide +kernel
theorem dX4_measure_24 : decode cX4_measure 24 = .ok (.aload_n 0, 1) := by decide +kernel
theorem dX4_measure_25 : decode cX4_measure 25 = .ok (.dup, 1) := by decide +kernel
theorem dX4_measure_26 : decode cX4_measure 26 = .ok (.getfield 31, 3) := by decide +kernel
theorem dX4_measure_29 : decode cX4_measure 29 = .ok (.getstatic 106, 3) := by decide +kernel
theorem dX4_measure_32 : decode cX4_measure 32 = .ok (.iload_n 1, 1) := by decide +kernel
theorem dX4_measure_33 : decode cX4_measure 33 = .ok (.iaload, 1) := by decide +kernel
theorem dX4_measure_34 : decode cX4_measure 34 = .ok (.i2l, 1) := by decide +kernel
theorem dX4_measure_35 : decode cX4_measure 35 = .ok (.ladd, 1) := by decide +kernel
theorem dX4_measure_36 : decode cX4_measure 36 = .ok (.putfield 31, 3) := by decide +kernel
theorem dX4_measure_39 : decode cX4_measure 39 = .ok (.iload_n 1, 1) := by decide +kernel
theorem dX4_measure_40 : decode cX4_measure 40 = .ok (.iload_n 2, 1) := by decide +kernel
theorem dX4_measure_41 : decode cX4_measure 41 = .ok (.iload_n 3, 1) := by decide +kernel
theorem dX4_measure_42 : decode cX4_measure 42 = .ok (.iload 4, 2) := by decide +kernel
theorem dX4_measure_44 : decode cX4_measure 44 = .ok (.invokestatic 109, 3) := by decide +kernel
theorem dX4_measure_47 : decode cX4_measure 47 = .ok (.ireturn, 1) := by decide +kernel
theorem dX4_least_0 : decode cX4_least 0 = .ok (.iload_n 1, 1) := by decide +kernel
theorem dX4_least_1 : decode cX4_least 1 = .ok (.invokestatic 53, 3) := by decide +kernel
theorem dX4_least_4 : decode cX4_least 4 = .ok (.ifCond .eq 16, 3) := by decide +kernel
theorem dX4_least_7 : decode cX4_least 7 = .ok (.aload_n 0, 1) := by decide +kernel
theorem dX4_least_8 : decode cX4_least 8 = .ok (.getfield 11, 3) := by decide +kernel
theorem dX4_least_11 : decode cX4_least 11 = .ok (.iload_n 1, 1) := by decide +kernel
theorem dX4_least_12 : decode cX4_least 12 = .ok (.aaload, 1) := by decide +kernel
theorem dX4_least_13 : decode cX4_least 13 = .ok (.getfield 60, 3) := by decide +kernel
theorem dX4_least_16 : decode cX4_least 16 = .ok (.iconst 3, 1) := by decide +kernel
theorem dX4_least_17 : decode cX4_least 17 = .ok (.if_icmp .eq 7, 3) := by decide +kernel
theorem dX4_least_20 : decode cX4_least 20 = .ok (.ldc2_w 100, 3) := by decide +kernel
theorem dX4_least_23 : decode cX4_least 23 = .ok (.lreturn, 1) := by decide +kernel
theorem dX4_least_24 : decode cX4_least 24 = .ok (.iload_n 2, 1) := by decide +kernel
theorem dX4_least_25 : decode cX4_least 25 = .ok (.ifCond .lt 17, 3) := by decide +kernel
theorem dX4_least_28 : decode cX4_least 28 = .ok (.iload_n 2, 1) := by decide +kernel
theorem dX4_least_29 : decode cX4_least 29 = .ok (.iconst 3, 1) := by decide +kernel
theorem dX4_least_30 : decode cX4_least 30 = .ok (.if_icmp .ge 12, 3) := by decide +kernel
theorem dX4_least_33 : decode cX4_least 33 = .ok (.iload_n 3, 1) := by decide +kernel
theorem dX4_least_34 : decode cX4_least 34 = .ok (.ifCond .lt 8, 3) := by decide +kernel
theorem dX4_least_37 : decode cX4_least 37 = .ok (.iload_n 3, 1) := by decide +kernel
theorem dX4_least_38 : decode cX4_least 38 = .ok (.iconst 3, 1) := by decide +kernel
theorem dX4_least_39 : decode cX4_least 39 = .ok (.if_icmp .le 7, 3) := by decide +kernel
theorem dX4_least_42 : decode cX4_least 42 = .ok (.ldc2_w 100, 3) := by decide +kernel
theorem dX4_least_45 : decode cX4_least 45 = .ok (.lreturn, 1) := by decide +kernel
theorem dX4_least_46 : decode cX4_least 46 = .ok (.aload_n 0, 1) := by decide +kernel
theorem dX4_least_47 : decode cX4_least 47 = .ok (.getfield 27, 3) := by decide +kernel
theorem dX4_least_50 : decode cX4_least 50 = .ok (.aload_n 0, 1) := by decide +kernel
theorem dX4_least_51 : decode cX4_least 51 = .ok (.getfield 11, 3) := by decide +kernel
theorem dX4_least_54 : decode cX4_least 54 = .ok (.iload_n 1, 1) := by decide +kernel
theorem dX4_least_55 : decode cX4_least 55 = .ok (.aaload, 1) := by decide +kernel
theorem dX4_least_56 : decode cX4_least 56 = .ok (.iload_n 2, 1) := by decide +kernel
theorem dX4_least_57 : decode cX4_least 57 = .ok (.invokevirtual 115, 3) := by decide +kernel
theorem dX4_least_60 : decode cX4_least 60 = .ok (.aload_n 0, 1) := by decide +kernel
theorem dX4_least_61 : decode cX4_least 61 = .ok (.getfield 27, 3) := by decide +kernel
theorem dX4_least_64 : decode cX4_least 64 = .ok (.getfield 119, 3) := by decide +kernel
theorem dX4_least_67 : decode cX4_least 67 = .ok (.ifCond .ne 7, 3) := by decide +kernel
theorem dX4_least_70 : decode cX4_least 70 = .ok (.ldc2_w 122, 3) := by decide +kernel
theorem dX4_least_73 : decode cX4_least 73 = .ok (.lreturn, 1) := by decide +kernel
theorem dX4_least_74 : decode cX4_least 74 = .ok (.iload_n 3, 1) := by decide +kernel
theorem dX4_least_75 : decode cX4_least 75 = .ok (.iconst 3, 1) := by decide +kernel
theorem dX4_least_76 : decode cX4_least 76 = .ok (.if_icmp .ne 12, 3) := by decide +kernel
theorem dX4_least_79 : decode cX4_least 79 = .ok (.aload_n 0, 1) := by decide +kernel
theorem dX4_least_80 : decode cX4_least 80 = .ok (.getfield 27, 3) := by decide +kernel
theorem dX4_least_83 : decode cX4_least 83 = .ok (.getfield 124, 3) := by decide +kernel
theorem dX4_least_86 : decode cX4_least 86 = .ok (.i2l, 1) := by decide +kernel
theorem dX4_least_87 : decode cX4_least 87 = .ok (.lreturn, 1) := by decide +kernel
theorem dX4_least_88 : decode cX4_least 88 = .ok (.iload_n 3, 1) := by decide +kernel
theorem dX4_least_89 : decode cX4_least 89 = .ok (.aload_n 0, 1) := by decide +kernel
theorem dX4_least_90 : decode cX4_least 90 = .ok (.getfield 27, 3) := by decide +kernel
theorem dX4_least_93 : decode cX4_least 93 = .ok (.getfield 127, 3) := by decide +kernel
theorem dX4_least_96 : decode cX4_least 96 = .ok (.i2l, 1) := by decide +kernel
theorem dX4_least_97 : decode cX4_least 97 = .ok (.aload_n 0, 1) := by decide +kernel
theorem dX4_least_98 : decode cX4_least 98 = .ok (.getfield 27, 3) := by decide +kernel
theorem dX4_least_101 : decode cX4_least 101 = .ok (.getfield 130, 3) := by decide +kernel
theorem dX4_least_104 : decode cX4_least 104 = .ok (.i2l, 1) := by decide +kernel
theorem dX4_least_105 : decode cX4_least 105 = .ok (.aload_n 0, 1) := by decide +kernel
theorem dX4_least_106 : decode cX4_least 106 = .ok (.getfield 27, 3) := by decide +kernel
theorem dX4_least_109 : decode cX4_least 109 = .ok (.getfield 133, 3) := by decide +kernel
theorem dX4_least_112 : decode cX4_least 112 = .ok (.i2l, 1) := by decide +kernel
theorem dX4_least_113 : decode cX4_least 113 = .ok (.invokestatic 136, 3) := by decide +kernel
theorem dX4_least_116 : decode cX4_least 116 = .ok (.lreturn, 1) := by decide +kernel
theorem dX4_many_0 : decode cX4_many 0 = .ok (.iload_n 1, 1) := by decide +kernel
theorem dX4_many_1 : decode cX4_many 1 = .ok (.invokestatic 53, 3) := by decide +kernel
theorem dX4_many_4 : decode cX4_many 4 = .ok (.ifCond .eq 16, 3) := by decide +kernel
theorem dX4_many_7 : decode cX4_many 7 = .ok (.aload_n 0, 1) := by decide +kernel
theorem dX4_many_8 : decode cX4_many 8 = .ok (.getfield 11, 3) := by decide +kernel
theorem dX4_many_11 : decode cX4_many 11 = .ok (.iload_n 1, 1) := by decide +kernel
theorem dX4_many_12 : decode cX4_many 12 = .ok (.aaload, 1) := by decide +kernel
theorem dX4_many_13 : decode cX4_many 13 = .ok (.getfield 60, 3) := by decide +kernel
theorem dX4_many_16 : decode cX4_many 16 = .ok (.iconst 3, 1) := by decide +kernel
theorem dX4_many_17 : decode cX4_many 17 = .ok (.if_icmp .eq 6, 3) := by decide +kernel
theorem dX4_many_20 : decode cX4_many 20 = .ok (.bipush (-3), 2) := by decide +kernel
theorem dX4_many_22 : decode cX4_many 22 = .ok (.ireturn, 1) := by decide +kernel
theorem dX4_many_23 : decode cX4_many 23 = .ok (.aload_n 0, 1) := by decide +kernel
theorem dX4_many_24 : decode cX4_many 24 = .ok (.getfield 27, 3) := by decide +kernel
theorem dX4_many_27 : decode cX4_many 27 = .ok (.aload_n 0, 1) := by decide +kernel
theorem dX4_many_28 : decode cX4_many 28 = .ok (.getfield 11, 3) := by decide +kernel
theorem dX4_many_31 : decode cX4_many 31 = .ok (.iload_n 1, 1) := by decide +kernel
theorem dX4_many_32 : decode cX4_many 32 = .ok (.aaload, 1) := by decide +kernel
theorem dX4_many_33 : decode cX4_many 33 = .ok (.iconst 0, 1) := by decide +kernel
theorem dX4_many_34 : decode cX4_many 34 = .ok (.invokevirtual 115, 3) := by decide +kernel
theorem dX4_many_37 : decode cX4_many 37 = .ok (.aload_n 0, 1) := by decide +kernel
theorem dX4_many_38 : decode cX4_many 38 = .ok (.getfield 27, 3) := by decide +kernel
theorem dX4_many_41 : decode cX4_many 41 = .ok (.getfield 119, 3) := by decide +kernel
theorem dX4_many_44 : decode cX4_many 44 = .ok (.ireturn, 1) := by decide +kernel
theorem dX4_line_0 : decode cX4_line 0 = .ok (.iload_n 1, 1) := by decide +kernel
theorem dX4_line_1 : decode cX4_line 1 = .ok (.invokestatic 53, 3) := by decide +kernel
theorem dX4_line_4 : decode cX4_line 4 = .ok (.ifCond .eq 27, 3) := by decide +kernel
theorem dX4_line_7 : decode cX4_line 7 = .ok (.aload_n 0, 1) := by decide +kernel
theorem dX4_line_8 : decode cX4_line 8 = .ok (.getfield 11, 3) := by decide +kernel
theorem dX4_line_11 : decode cX4_line 11 = .ok (.iload_n 1, 1) := by decide +kernel
theorem dX4_line_12 : decode cX4_line 12 = .ok (.aaload, 1) := by decide +kernel
theorem dX4_line_13 : decode cX4_line 13 = .ok (.getfield 60, 3) := by decide +kernel
theorem dX4_line_16 : decode cX4_line 16 = .ok (.iconst 3, 1) := by decide +kernel
theorem dX4_line_17 : decode cX4_line 17 = .ok (.if_icmp .ne 14, 3) := by decide +kernel
theorem dX4_line_20 : decode cX4_line 20 = .ok (.iload 8, 2) := by decide +kernel
theorem dX4_line_22 : decode cX4_line 22 = .ok (.ifCond .lt 9, 3) := by decide +kernel
theorem dX4_line_25 : decode cX4_line 25 = .ok (.iload 8, 2) := by decide +kernel
theorem dX4_line_27 : decode cX4_line 27 = .ok (.iconst 2, 1) := by decide +kernel
theorem dX4_line_28 : decode cX4_line 28 = .ok (.if_icmp .le 7, 3) := by decide +kernel
theorem dX4_line_31 : decode cX4_line 31 = .ok (.ldc2_w 100, 3) := by decide +kernel
theorem dX4_line_34 : decode cX4_line 34 = .ok (.lreturn, 1) := by decide +kernel
theorem dX4_line_35 : decode cX4_line 35 = .ok (.aload_n 0, 1) := by decide +kernel
theorem dX4_line_36 : decode cX4_line 36 = .ok (.getfield 11, 3) := by decide +kernel
theorem dX4_line_39 : decode cX4_line 39 = .ok (.iload_n 1, 1) := by decide +kernel
theorem dX4_line_40 : decode cX4_line 40 = .ok (.aaload, 1) := by decide +kernel
theorem dX4_line_41 : decode cX4_line 41 = .ok (.astore 9, 2) := by decide +kernel
theorem dX4_line_43 : decode cX4_line 43 = .ok (.iload_n 2, 1) := by decide +kernel
theorem dX4_line_44 : decode cX4_line 44 = .ok (.iload_n 3, 1) := by decide +kernel
theorem dX4_line_45 : decode cX4_line 45 = .ok (.iload 4, 2) := by decide +kernel
theorem dX4_line_47 : decode cX4_line 47 = .ok (.bipush 30, 2) := by decide +kernel
theorem dX4_line_49 : decode cX4_line 49 = .ok (.invokestatic 96, 3) := by decide +kernel
theorem dX4_line_52 : decode cX4_line 52 = .ok (.ifCond .eq 31, 3) := by decide +kernel
theorem dX4_line_55 : decode cX4_line 55 = .ok (.iload_n 2, 1) := by decide +kernel
theorem dX4_line_56 : decode cX4_line 56 = .ok (.iload_n 3, 1) := by decide +kernel
theorem dX4_line_57 : decode cX4_line 57 = .ok (.iload 4, 2) := by decide +kernel
theorem dX4_line_59 : decode cX4_line 59 = .ok (.invokestatic 140, 3) := by decide +kernel
theorem dX4_line_62 : decode cX4_line 62 = .ok (.ifCond .eq 21, 3) := by decide +kernel
theorem dX4_line_65 : decode cX4_line 65 = .ok (.aload 9, 2) := by decide +kernel
theorem dX4_line_67 : decode cX4_line 67 = .ok (.iload_n 2, 1) := by decide +kernel
theorem dX4_line_68 : decode cX4_line 68 = .ok (.iload_n 3, 1) := by decide +kernel
theorem dX4_line_69 : decode cX4_line 69 = .ok (.iload 4, 2) := by decide +kernel
theorem dX4_line_71 : decode cX4_line 71 = .ok (.iload_n 2, 1) := by decide +kernel
theorem dX4_line_72 : decode cX4_line 72 = .ok (.iload_n 3, 1) := by decide +kernel
theorem dX4_line_73 : decode cX4_line 73 = .ok (.iload 4, 2) := by decide +kernel
theorem dX4_line_75 : decode cX4_line 75 = .ok (.invokevirtual 102, 3) := by decide +kernel
theorem dX4_line_78 : decode cX4_line 78 = .ok (.lconst 0, 1) := by decide +kernel
theorem dX4_line_79 : decode cX4_line 79 = .ok (.lcmp, 1) := by decide +kernel
theorem dX4_line_80 : decode cX4_line 80 = .ok (.ifCond .eq 7, 3) := by decide +kernel
theorem dX4_line_83 : decode cX4_line 83 = .ok (.ldc2_w 100, 3) := by decide +kernel
theorem dX4_line_86 : decode cX4_line 86 = .ok (.lreturn, 1) := by decide +kernel
theorem dX4_line_87 : decode cX4_line 87 = .ok (.iload 5, 2) := by decide +kernel
theorem dX4_line_89 : decode cX4_line 89 = .ok (.iload 6, 2) := by decide +kernel
theorem dX4_line_91 : decode cX4_line 91 = .ok (.iload 7, 2) := by decide +kernel
theorem dX4_line_93 : decode cX4_line 93 = .ok (.bipush 30, 2) := by decide +kernel
theorem dX4_line_95 : decode cX4_line 95 = .ok (.invokestatic 96, 3) := by decide +kernel
theorem dX4_line_98 : decode cX4_line 98 = .ok (.ifCond .eq 18, 3) := by decide +kernel
theorem dX4_line_101 : decode cX4_line 101 = .ok (.iload 5, 2) := by decide +kernel
theorem dX4_line_103 : decode cX4_line 103 = .ok (.ifCond .ne 17, 3) := by decide +kernel
theorem dX4_line_106 : decode cX4_line 106 = .ok (.iload 6, 2) := by decide +kernel
theorem dX4_line_108 : decode cX4_line 108 = .ok (.ifCond .ne 12, 3) := by decide +kernel
theorem dX4_line_111 : decode cX4_line 111 = .ok (.iload 7, 2) := by decide +kernel
theorem dX4_line_113 : decode cX4_line 113 = .ok (.ifCond .ne 7, 3) := by decide +kernel
theorem dX4_line_116 : decode cX4_line 116 = .ok (.ldc2_w 100, 3) := by decide +kernel
theorem dX4_line_119 : decode cX4_line 119 = .ok (.lreturn, 1) := by decide +kernel
theorem dX4_line_120 : decode cX4_line 120 = .ok (.aload 9, 2) := by decide +kernel
theorem dX4_line_122 : decode cX4_line 122 = .ok (.iload 5, 2) := by decide +kernel
theorem dX4_line_124 : decode cX4_line 124 = .ok (.iload 6, 2) := by decide +kernel
theorem dX4_line_126 : decode cX4_line 126 = .ok (.iload 7, 2) := by decide +kernel
theorem dX4_line_128 : decode cX4_line 128 = .ok (.iload 5, 2) := by decide +kernel
theorem dX4_line_130 : decode cX4_line 130 = .ok (.iload 6, 2) := by decide +kernel
theorem dX4_line_132 : decode cX4_line 132 = .ok (.iload 7, 2) := by decide +kernel
theorem dX4_line_134 : decode cX4_line 134 = .ok (.invokevirtual 102, 3) := by decide +kernel
theorem dX4_line_137 : decode cX4_line 137 = .ok (.lstore 10, 2) := by decide +kernel
theorem dX4_line_139 : decode cX4_line 139 = .ok (.ldc2_w 144, 3) := by decide +kernel
theorem dX4_line_142 : decode cX4_line 142 = .ok (.aload 9, 2) := by decide +kernel
theorem dX4_line_144 : decode cX4_line 144 = .ok (.iload_n 2, 1) := by decide +kernel
theorem dX4_line_145 : decode cX4_line 145 = .ok (.iload_n 3, 1) := by decide +kernel
theorem dX4_line_146 : decode cX4_line 146 = .ok (.iload 4, 2) := by decide +kernel
theorem dX4_line_148 : decode cX4_line 148 = .ok (.iload 5, 2) := by decide +kernel
theorem dX4_line_150 : decode cX4_line 150 = .ok (.iload 6, 2) := by decide +kernel
theorem dX4_line_152 : decode cX4_line 152 = .ok (.iload 7, 2) := by decide +kernel
theorem dX4_line_154 : decode cX4_line 154 = .ok (.invokevirtual 102, 3) := by decide +kernel
theorem dX4_line_157 : decode cX4_line 157 = .ok (.lmul, 1) := by decide +kernel
theorem dX4_line_158 : decode cX4_line 158 = .ok (.lstore 12, 2) := by decide +kernel
theorem dX4_line_160 : decode cX4_line 160 = .ok (.lload 10, 2) := by decide +kernel
theorem dX4_line_162 : decode cX4_line 162 = .ok (.iload_n 2, 1) := by decide +kernel
theorem dX4_line_163 : decode cX4_line 163 = .ok (.i2l, 1) := by decide +kernel
theorem dX4_line_164 : decode cX4_line 164 = .ok (.lmul, 1) := by decide +kernel
theorem dX4_line_165 : decode cX4_line 165 = .ok (.lload 12, 2) := by decide +kernel
theorem dX4_line_167 : decode cX4_line 167 = .ok (.iload 5, 2) := by decide +kernel
theorem dX4_line_169 : decode cX4_line 169 = .ok (.i2l, 1) := by decide +kernel
theorem dX4_line_170 : decode cX4_line 170 = .ok (.lmul, 1) := by decide +kernel
theorem dX4_line_171 : decode cX4_line 171 = .ok (.lsub, 1) := by decide +kernel
theorem dX4_line_172 : decode cX4_line 172 = .ok (.lstore 14, 2) := by decide +kernel
theorem dX4_line_174 : decode cX4_line 174 = .ok (.lload 10, 2) := by decide +kernel
theorem dX4_line_176 : decode cX4_line 176 = .ok (.iload_n 3, 1) := by decide +kernel
theorem dX4_line_177 : decode cX4_line 177 = .ok (.i2l, 1) := by decide +kernel
theorem dX4_line_178 : decode cX4_line 178 = .ok (.lmul, 1) := by decide +kernel
theorem dX4_line_179 : decode cX4_line 179 = .ok (.lload 12, 2) := by decide +kernel
theorem dX4_line_181 : decode cX4_line 181 = .ok (.iload 6, 2) := by decide +kernel
theorem dX4_line_183 : decode cX4_line 183 = .ok (.i2l, 1) := by decide +kernel
theorem dX4_line_184 : decode cX4_line 184 = .ok (.lmul, 1) := by decide +kernel
theorem dX4_line_185 : decode cX4_line 185 = .ok (.lsub, 1) := by decide +kernel
theorem dX4_line_186 : decode cX4_line 186 = .ok (.lstore 16, 2) := by decide +kernel
theorem dX4_line_188 : decode cX4_line 188 = .ok (.lload 10, 2) := by decide +kernel
theorem dX4_line_190 : decode cX4_line 190 = .ok (.iload 4, 2) := by decide +kernel
theorem dX4_line_192 : decode cX4_line 192 = .ok (.i2l, 1) := by decide +kernel
theorem dX4_line_193 : decode cX4_line 193 = .ok (.lmul, 1) := by decide +kernel
theorem dX4_line_194 : decode cX4_line 194 = .ok (.lload 12, 2) := by decide +kernel
theorem dX4_line_196 : decode cX4_line 196 = .ok (.iload 7, 2) := by decide +kernel
theorem dX4_line_198 : decode cX4_line 198 = .ok (.i2l, 1) := by decide +kernel
theorem dX4_line_199 : decode cX4_line 199 = .ok (.lmul, 1) := by decide +kernel
theorem dX4_line_200 : decode cX4_line 200 = .ok (.lsub, 1) := by decide +kernel
theorem dX4_line_201 : decode cX4_line 201 = .ok (.lstore 18, 2) := by decide +kernel
theorem dX4_line_203 : decode cX4_line 203 = .ok (.lload 14, 2) := by decide +kernel
theorem dX4_line_205 : decode cX4_line 205 = .ok (.lload 16, 2) := by decide +kernel
theorem dX4_line_207 : decode cX4_line 207 = .ok (.lload 18, 2) := by decide +kernel
theorem dX4_line_209 : decode cX4_line 209 = .ok (.invokestatic 146, 3) := by decide +kernel
theorem dX4_line_212 : decode cX4_line 212 = .ok (.lstore 20, 2) := by decide +kernel
theorem dX4_line_214 : decode cX4_line 214 = .ok (.lload 20, 2) := by decide +kernel
theorem dX4_line_216 : decode cX4_line 216 = .ok (.lconst 0, 1) := by decide +kernel
theorem dX4_line_217 : decode cX4_line 217 = .ok (.lcmp, 1) := by decide +kernel
theorem dX4_line_218 : decode cX4_line 218 = .ok (.ifCond .ne 16, 3) := by decide +kernel
theorem dX4_line_221 : decode cX4_line 221 = .ok (.iload 8, 2) := by decide +kernel
theorem dX4_line_223 : decode cX4_line 223 = .ok (.iload_n 2, 1) := by decide +kernel
theorem dX4_line_224 : decode cX4_line 224 = .ok (.i2l, 1) := by decide +kernel
theorem dX4_line_225 : decode cX4_line 225 = .ok (.iload_n 3, 1) := by decide +kernel
theorem dX4_line_226 : decode cX4_line 226 = .ok (.i2l, 1) := by decide +kernel
theorem dX4_line_227 : decode cX4_line 227 = .ok (.iload 4, 2) := by decide +kernel
theorem dX4_line_229 : decode cX4_line 229 = .ok (.i2l, 1) := by decide +kernel
theorem dX4_line_230 : decode cX4_line 230 = .ok (.invokestatic 136, 3) := by decide +kernel
theorem dX4_line_233 : decode cX4_line 233 = .ok (.lreturn, 1) := by decide +kernel
theorem dX4_line_234 : decode cX4_line 234 = .ok (.iload 8, 2) := by decide +kernel
theorem dX4_line_236 : decode cX4_line 236 = .ok (.lload 14, 2) := by decide +kernel
theorem dX4_line_238 : decode cX4_line 238 = .ok (.lload 16, 2) := by decide +kernel
theorem dX4_line_240 : decode cX4_line 240 = .ok (.lload 18, 2) := by decide +kernel
theorem dX4_line_242 : decode cX4_line 242 = .ok (.invokestatic 136, 3) := by decide +kernel
theorem dX4_line_245 : decode cX4_line 245 = .ok (.lload 20, 2) := by decide +kernel
theorem dX4_line_247 : decode cX4_line 247 = .ok (.ldiv, 1) := by decide +kernel
theorem dX4_line_248 : decode cX4_line 248 = .ok (.lreturn, 1) := by decide +kernel
theorem dX4_count_0 : decode cX4_count 0 = .ok (.iload_n 1, 1) := by decide +kernel
theorem dX4_count_1 : decode cX4_count 1 = .ok (.invokestatic 53, 3) := by decide +kernel
theorem dX4_count_4 : decode cX4_count 4 = .ok (.ifCond .eq 12, 3) := by decide +kernel
theorem dX4_count_7 : decode cX4_count 7 = .ok (.iload_n 2, 1) := by decide +kernel
theorem dX4_count_8 : decode cX4_count 8 = .ok (.ifCond .lt 8, 3) := by decide +kernel
theorem dX4_count_11 : decode cX4_count 11 = .ok (.iload_n 2, 1) := by decide +kernel
theorem dX4_count_12 : decode cX4_count 12 = .ok (.iconst 1, 1) := by decide +kernel
theorem dX4_count_13 : decode cX4_count 13 = .ok (.if_icmp .le 6, 3) := by decide +kernel
theorem dX4_count_16 : decode cX4_count 16 = .ok (.bipush (-3), 2) := by decide +kernel
theorem dX4_count_18 : decode cX4_count 18 = .ok (.ireturn, 1) := by decide +kernel
theorem dX4_count_19 : decode cX4_count 19 = .ok (.iload_n 2, 1) := by decide +kernel
theorem dX4_count_20 : decode cX4_count 20 = .ok (.ifCond .ne 15, 3) := by decide +kernel
theorem dX4_count_23 : decode cX4_count 23 = .ok (.aload_n 0, 1) := by decide +kernel
theorem dX4_count_24 : decode cX4_count 24 = .ok (.getfield 11, 3) := by decide +kernel
theorem dX4_count_27 : decode cX4_count 27 = .ok (.iload_n 1, 1) := by decide +kernel
theorem dX4_count_28 : decode cX4_count 28 = .ok (.aaload, 1) := by decide +kernel
theorem dX4_count_29 : decode cX4_count 29 = .ok (.getfield 60, 3) := by decide +kernel
theorem dX4_count_32 : decode cX4_count 32 = .ok (.goto 12, 3) := by decide +kernel
theorem dX4_count_35 : decode cX4_count 35 = .ok (.aload_n 0, 1) := by decide +kernel
theorem dX4_count_36 : decode cX4_count 36 = .ok (.getfield 11, 3) := by decide +kernel
theorem dX4_count_39 : decode cX4_count 39 = .ok (.iload_n 1, 1) := by decide +kernel
theorem dX4_count_40 : decode cX4_count 40 = .ok (.aaload, 1) := by decide +kernel
theorem dX4_count_41 : decode cX4_count 41 = .ok (.invokevirtual 150, 3) := by decide +kernel
theorem dX4_count_44 : decode cX4_count 44 = .ok (.ireturn, 1) := by decide +kernel
theorem dX4_trace_0 : decode cX4_trace 0 = .ok (.aload_n 0, 1) := by decide +kernel
theorem dX4_trace_1 : decode cX4_trace 1 = .ok (.getfield 31, 3) := by decide +kernel
theorem dX4_trace_4 : decode cX4_trace 4 = .ok (.lreturn, 1) := by decide +kernel
theorem dX4_isShelf_0 : decode cX4_isShelf 0 = .ok (.iload_n 0, 1) := by decide +kernel
theorem dX4_isShelf_1 : decode cX4_isShelf 1 = .ok (.ifCond .lt 12, 3) := by decide +kernel
theorem dX4_isShelf_4 : decode cX4_isShelf 4 = .ok (.iload_n 0, 1) := by decide +kernel
theorem dX4_isShelf_5 : decode cX4_isShelf 5 = .ok (.iconst 4, 1) := by decide +kernel
theorem dX4_isShelf_6 : decode cX4_isShelf 6 = .ok (.if_icmp .ge 7, 3) := by decide +kernel
theorem dX4_isShelf_9 : decode cX4_isShelf 9 = .ok (.iconst 1, 1) := by decide +kernel
theorem dX4_isShelf_10 : decode cX4_isShelf 10 = .ok (.goto 4, 3) := by decide +kernel
theorem dX4_isShelf_13 : decode cX4_isShelf 13 = .ok (.iconst 0, 1) := by decide +kernel
theorem dX4_isShelf_14 : decode cX4_isShelf 14 = .ok (.ireturn, 1) := by decide +kernel
theorem dX4_isNumber_0 : decode cX4_isNumber 0 = .ok (.iload_n 0, 1) := by decide +kernel
theorem dX4_isNumber_1 : decode cX4_isNumber 1 = .ok (.ifCond .eq 15, 3) := by decide +kernel
theorem dX4_isNumber_4 : decode cX4_isNumber 4 = .ok (.iload_n 0, 1) := by decide +kernel
theorem dX4_isNumber_5 : decode cX4_isNumber 5 = .ok (.iload_n 1, 1) := by decide +kernel
theorem dX4_isNumber_6 : decode cX4_isNumber 6 = .ok (.invokestatic 153, 3) := by decide +kernel
theorem dX4_isNumber_9 : decode cX4_isNumber 9 = .ok (.ifCond .eq 7, 3) := by decide +kernel
theorem dX4_isNumber_12 : decode cX4_isNumber 12 = .ok (.iconst 1, 1) := by decide +kernel
theorem dX4_isNumber_13 : decode cX4_isNumber 13 = .ok (.goto 4, 3) := by decide +kernel
theorem dX4_isNumber_16 : decode cX4_isNumber 16 = .ok (.iconst 0, 1) := by decide +kernel
theorem dX4_isNumber_17 : decode cX4_isNumber 17 = .ok (.ireturn, 1) := by decide +kernel
theorem dX4_isWithin_0 : decode cX4_isWithin 0 = .ok (.iload_n 0, 1) := by decide +kernel
theorem dX4_isWithin_1 : decode cX4_isWithin 1 = .ok (.iload_n 1, 1) := by decide +kernel
theorem dX4_isWithin_2 : decode cX4_isWithin 2 = .ok (.ineg, 1) := by decide +kernel
theorem dX4_isWithin_3 : decode cX4_isWithin 3 = .ok (.if_icmp .lt 12, 3) := by decide +kernel
theorem dX4_isWithin_6 : decode cX4_isWithin 6 = .ok (.iload_n 0, 1) := by decide +kernel
theorem dX4_isWithin_7 : decode cX4_isWithin 7 = .ok (.iload_n 1, 1) := by decide +kernel
theorem dX4_isWithin_8 : decode cX4_isWithin 8 = .ok (.if_icmp .gt 7, 3) := by decide +kernel
theorem dX4_isWithin_11 : decode cX4_isWithin 11 = .ok (.iconst 1, 1) := by decide +kernel
theorem dX4_isWithin_12 : decode cX4_isWithin 12 = .ok (.goto 4, 3) := by decide +kernel
theorem dX4_isWithin_15 : decode cX4_isWithin 15 = .ok (.iconst 0, 1) := by decide +kernel
theorem dX4_isWithin_16 : decode cX4_isWithin 16 = .ok (.ireturn, 1) := by decide +kernel
theorem dX4_areWithin_0 : decode cX4_areWithin 0 = .ok (.iload_n 0, 1) := by decide +kernel
theorem dX4_areWithin_1 : decode cX4_areWithin 1 = .ok (.iload_n 3, 1) := by decide +kernel
theorem dX4_areWithin_2 : decode cX4_areWithin 2 = .ok (.invokestatic 153, 3) := by decide +kernel
theorem dX4_areWithin_5 : decode cX4_areWithin 5 = .ok (.ifCond .eq 23, 3) := by decide +kernel
theorem dX4_areWithin_8 : decode cX4_areWithin 8 = .ok (.iload_n 1, 1) := by decide +kernel
theorem dX4_areWithin_9 : decode cX4_areWithin 9 = .ok (.iload_n 3, 1) := by decide +kernel
theorem dX4_areWithin_10 : decode cX4_areWithin 10 = .ok (.invokestatic 153, 3) := by decide +kernel
theorem dX4_areWithin_13 : decode cX4_areWithin 13 = .ok (.ifCond .eq 15, 3) := by decide +kernel
theorem dX4_areWithin_16 : decode cX4_areWithin 16 = .ok (.iload_n 2, 1) := by decide +kernel
theorem dX4_areWithin_17 : decode cX4_areWithin 17 = .ok (.iload_n 3, 1) := by decide +kernel
theorem dX4_areWithin_18 : decode cX4_areWithin 18 = .ok (.invokestatic 153, 3) := by decide +kernel
theorem dX4_areWithin_21 : decode cX4_areWithin 21 = .ok (.ifCond .eq 7, 3) := by decide +kernel
theorem dX4_areWithin_24 : decode cX4_areWithin 24 = .ok (.iconst 1, 1) := by decide +kernel
theorem dX4_areWithin_25 : decode cX4_areWithin 25 = .ok (.goto 4, 3) := by decide +kernel
theorem dX4_areWithin_28 : decode cX4_areWithin 28 = .ok (.iconst 0, 1) := by decide +kernel
theorem dX4_areWithin_29 : decode cX4_areWithin 29 = .ok (.ireturn, 1) := by decide +kernel
theorem dX4_pick_0 : decode cX4_pick 0 = .ok (.iload_n 0, 1) := by decide +kernel
theorem dX4_pick_1 : decode cX4_pick 1 = .ok (.ifCond .ne 7, 3) := by decide +kernel
theorem dX4_pick_4 : decode cX4_pick 4 = .ok (.lload_n 1, 1) := by decide +kernel
theorem dX4_pick_5 : decode cX4_pick 5 = .ok (.goto 14, 3) := by decide +kernel
theorem dX4_pick_8 : decode cX4_pick 8 = .ok (.iload_n 0, 1) := by decide +kernel
theorem dX4_pick_9 : decode cX4_pick 9 = .ok (.iconst 1, 1) := by decide +kernel
theorem dX4_pick_10 : decode cX4_pick 10 = .ok (.if_icmp .ne 7, 3) := by decide +kernel
theorem dX4_pick_13 : decode cX4_pick 13 = .ok (.lload_n 3, 1) := by decide +kernel
theorem dX4_pick_14 : decode cX4_pick 14 = .ok (.goto 5, 3) := by decide +kernel
theorem dX4_pick_17 : decode cX4_pick 17 = .ok (.lload 5, 2) := by decide +kernel
theorem dX4_pick_19 : decode cX4_pick 19 = .ok (.lreturn, 1) := by decide +kernel
theorem dX4_isReduced_0 : decode cX4_isReduced 0 = .ok (.iload_n 0, 1) := by decide +kernel
theorem dX4_isReduced_1 : decode cX4_isReduced 1 = .ok (.i2l, 1) := by decide +kernel
theorem dX4_isReduced_2 : decode cX4_isReduced 2 = .ok (.iload_n 1, 1) := by decide +kernel
theorem dX4_isReduced_3 : decode cX4_isReduced 3 = .ok (.i2l, 1) := by decide +kernel
theorem dX4_isReduced_4 : decode cX4_isReduced 4 = .ok (.iload_n 2, 1) := by decide +kernel
theorem dX4_isReduced_5 : decode cX4_isReduced 5 = .ok (.i2l, 1) := by decide +kernel
theorem dX4_isReduced_6 : decode cX4_isReduced 6 = .ok (.invokestatic 146, 3) := by decide +kernel
theorem dX4_isReduced_9 : decode cX4_isReduced 9 = .ok (.lconst 1, 1) := by decide +kernel
theorem dX4_isReduced_10 : decode cX4_isReduced 10 = .ok (.lcmp, 1) := by decide +kernel
theorem dX4_isReduced_11 : decode cX4_isReduced 11 = .ok (.ifCond .ne 7, 3) := by decide +kernel
theorem dX4_isReduced_14 : decode cX4_isReduced 14 = .ok (.iconst 1, 1) := by decide +kernel
theorem dX4_isReduced_15 : decode cX4_isReduced 15 = .ok (.goto 4, 3) := by decide +kernel
theorem dX4_isReduced_18 : decode cX4_isReduced 18 = .ok (.iconst 0, 1) := by decide +kernel
theorem dX4_isReduced_19 : decode cX4_isReduced 19 = .ok (.ireturn, 1) := by decide +kernel
theorem dX4_reducer_0 : decode cX4_reducer 0 = .ok (.lload_n 0, 1) := by decide +kernel
theorem dX4_reducer_1 : decode cX4_reducer 1 = .ok (.lload_n 2, 1) := by decide +kernel
theorem dX4_reducer_2 : decode cX4_reducer 2 = .ok (.lload 4, 2) := by decide +kernel
theorem dX4_reducer_4 : decode cX4_reducer 4 = .ok (.invokestatic 156, 3) := by decide +kernel
theorem dX4_reducer_7 : decode cX4_reducer 7 = .ok (.invokestatic 156, 3) := by decide +kernel
theorem dX4_reducer_10 : decode cX4_reducer 10 = .ok (.lstore 6, 2) := by decide +kernel
theorem dX4_reducer_12 : decode cX4_reducer 12 = .ok (.lload_n 0, 1) := by decide +kernel
theorem dX4_reducer_13 : decode cX4_reducer 13 = .ok (.lconst 0, 1) := by decide +kernel
theorem dX4_reducer_14 : decode cX4_reducer 14 = .ok (.lcmp, 1) := by decide +kernel
theorem dX4_reducer_15 : decode cX4_reducer 15 = .ok (.ifCond .eq 7, 3) := by decide +kernel
theorem dX4_reducer_18 : decode cX4_reducer 18 = .ok (.lload_n 0, 1) := by decide +kernel
theorem dX4_reducer_19 : decode cX4_reducer 19 = .ok (.goto 15, 3) := by decide +kernel
theorem dX4_reducer_22 : decode cX4_reducer 22 = .ok (.lload_n 2, 1) := by decide +kernel
theorem dX4_reducer_23 : decode cX4_reducer 23 = .ok (.lconst 0, 1) := by decide +kernel
theorem dX4_reducer_24 : decode cX4_reducer 24 = .ok (.lcmp, 1) := by decide +kernel
theorem dX4_reducer_25 : decode cX4_reducer 25 = .ok (.ifCond .eq 7, 3) := by decide +kernel
theorem dX4_reducer_28 : decode cX4_reducer 28 = .ok (.lload_n 2, 1) := by decide +kernel
theorem dX4_reducer_29 : decode cX4_reducer 29 = .ok (.goto 5, 3) := by decide +kernel
theorem dX4_reducer_32 : decode cX4_reducer 32 = .ok (.lload 4, 2) := by decide +kernel
theorem dX4_reducer_34 : decode cX4_reducer 34 = .ok (.lstore 8, 2) := by decide +kernel
theorem dX4_reducer_36 : decode cX4_reducer 36 = .ok (.lload 8, 2) := by decide +kernel
theorem dX4_reducer_38 : decode cX4_reducer 38 = .ok (.lconst 0, 1) := by decide +kernel
theorem dX4_reducer_39 : decode cX4_reducer 39 = .ok (.lcmp, 1) := by decide +kernel
theorem dX4_reducer_40 : decode cX4_reducer 40 = .ok (.ifCond .ge 9, 3) := by decide +kernel
theorem dX4_reducer_43 : decode cX4_reducer 43 = .ok (.lload 6, 2) := by decide +kernel
theorem dX4_reducer_45 : decode cX4_reducer 45 = .ok (.lneg, 1) := by decide +kernel
theorem dX4_reducer_46 : decode cX4_reducer 46 = .ok (.goto 5, 3) := by decide +kernel
theorem dX4_reducer_49 : decode cX4_reducer 49 = .ok (.lload 6, 2) := by decide +kernel
theorem dX4_reducer_51 : decode cX4_reducer 51 = .ok (.lreturn, 1) := by decide +kernel
theorem dX4_commonDivisor_0 : decode cX4_commonDivisor 0 = .ok (.lload_n 0, 1) := by decide +kernel
theorem dX4_commonDivisor_1 : decode cX4_commonDivisor 1 = .ok (.invokestatic 160, 3) := by decide +kernel
theorem dX4_commonDivisor_4 : decode cX4_commonDivisor 4 = .ok (.lstore 4, 2) := by decide +kernel
theorem dX4_commonDivisor_6 : decode cX4_commonDivisor 6 = .ok (.lload_n 2, 1) := by decide +kernel
theorem dX4_commonDivisor_7 : decode cX4_commonDivisor 7 = .ok (.invokestatic 160, 3) := by decide +kernel
theorem dX4_commonDivisor_10 : decode cX4_commonDivisor 10 = .ok (.lstore 6, 2) := by decide +kernel
theorem dX4_commonDivisor_12 : decode cX4_commonDivisor 12 = .ok (.iconst 0, 1) := by decide +kernel
theorem dX4_commonDivisor_13 : decode cX4_commonDivisor 13 = .ok (.istore 8, 2) := by decide +kernel
theorem dX4_commonDivisor_15 : decode cX4_commonDivisor 15 = .ok (.iload 8, 2) := by decide +kernel
theorem dX4_commonDivisor_17 : decode cX4_commonDivisor 17 = .ok (.bipush 100, 2) := by decide +kernel
theorem dX4_commonDivisor_19 : decode cX4_commonDivisor 19 = .ok (.if_icmp .ge 31, 3) := by decide +kernel
theorem dX4_commonDivisor_22 : decode cX4_commonDivisor 22 = .ok (.lload 6, 2) := by decide +kernel
theorem dX4_commonDivisor_24 : decode cX4_commonDivisor 24 = .ok (.lconst 0, 1) := by decide +kernel
theorem dX4_commonDivisor_25 : decode cX4_commonDivisor 25 = .ok (.lcmp, 1) := by decide +kernel
theorem dX4_commonDivisor_26 : decode cX4_commonDivisor 26 = .ok (.ifCond .eq 24, 3) := by decide +kernel
theorem dX4_commonDivisor_29 : decode cX4_commonDivisor 29 = .ok (.lload 4, 2) := by decide +kernel
theorem dX4_commonDivisor_31 : decode cX4_commonDivisor 31 = .ok (.lload 6, 2) := by decide +kernel
theorem dX4_commonDivisor_33 : decode cX4_commonDivisor 33 = .ok (.lrem, 1) := by decide +kernel
theorem dX4_commonDivisor_34 : decode cX4_commonDivisor 34 = .ok (.lstore 9, 2) := by decide +kernel
theorem dX4_commonDivisor_36 : decode cX4_commonDivisor 36 = .ok (.lload 6, 2) := by decide +kernel
theorem dX4_commonDivisor_38 : decode cX4_commonDivisor 38 = .ok (.lstore 4, 2) := by decide +kernel
theorem dX4_commonDivisor_40 : decode cX4_commonDivisor 40 = .ok (.lload 9, 2) := by decide +kernel
theorem dX4_commonDivisor_42 : decode cX4_commonDivisor 42 = .ok (.lstore 6, 2) := by decide +kernel
theorem dX4_commonDivisor_44 : decode cX4_commonDivisor 44 = .ok (.iinc 8 1, 3) := by decide +kernel
theorem dX4_commonDivisor_47 : decode cX4_commonDivisor 47 = .ok (.goto (-32), 3) := by decide +kernel
theorem dX4_commonDivisor_50 : decode cX4_commonDivisor 50 = .ok (.lload 4, 2) := by decide +kernel
theorem dX4_commonDivisor_52 : decode cX4_commonDivisor 52 = .ok (.lreturn, 1) := by decide +kernel
theorem dX5_init_0 : decode cX5_init 0 = .ok (.aload_n 0, 1) := by decide +kernel
theorem dX5_init_1 : decode cX5_init 1 = .ok (.invokespecial 1, 3) := by decide +kernel
theorem dX5_init_4 : decode cX5_init 4 = .ok (.aload_n 0, 1) := by decide +kernel
theorem dX5_init_5 : decode cX5_init 5 = .ok (.iconst 4, 1) := by decide +kernel
theorem dX5_init_6 : decode cX5_init 6 = .ok (.newarray .int, 2) := by decide +kernel
theorem dX5_init_8 : decode cX5_init 8 = .ok (.putfield 7, 3) := by decide +kernel
theorem dX5_init_11 : decode cX5_init 11 = .ok (.aload_n 0, 1) := by decide +kernel
theorem dX5_init_12 : decode cX5_init 12 = .ok (.bipush 24, 2) := by decide +kernel
theorem dX5_init_14 : decode cX5_init 14 = .ok (.newarray .int, 2) := by decide +kernel
theorem dX5_init_16 : decode cX5_init 16 = .ok (.putfield 13, 3) := by decide +kernel
theorem dX5_init_19 : decode cX5_init 19 = .ok (.iconst 0, 1) := by decide +kernel
theorem dX5_init_20 : decode cX5_init 20 = .ok (.istore_n 1, 1) := by decide +kernel
theorem dX5_init_21 : decode cX5_init 21 = .ok (.iload_n 1, 1) := by decide +kernel
theorem dX5_init_22 : decode cX5_init 22 = .ok (.iconst 4, 1) := by decide +kernel
theorem dX5_init_23 : decode cX5_init 23 = .ok (.if_icmp .ge 26, 3) := by decide +kernel
theorem dX5_init_26 : decode cX5_init 26 = .ok (.aload_n 0, 1) := by decide +kernel
theorem dX5_init_27 : decode cX5_init 27 = .ok (.getfield 7, 3) := by decide +kernel
theorem dX5_init_30 : decode cX5_init 30 = .ok (.iload_n 1, 1) := by decide +kernel
theorem dX5_init_31 : decode cX5_init 31 = .ok (.iconst 1, 1) := by decide +kernel
theorem dX5_init_32 : decode cX5_init 32 = .ok (.iastore, 1) := by decide +kernel
theorem dX5_init_33 : decode cX5_init 33 = .ok (.aload_n 0, 1) := by decide +kernel
theorem dX5_init_34 : decode cX5_init 34 = .ok (.getfield 13, 3) := by decide +kernel
theorem dX5_init_37 : decode cX5_init 37 = .ok (.bipush 6, 2) := by decide +kernel
theorem dX5_init_39 : decode cX5_init 39 = .ok (.iload_n 1, 1) := by decide +kernel
theorem dX5_init_40 : decode cX5_init 40 = .ok (.imul, 1) := by decide +kernel
theorem dX5_init_41 : decode cX5_init 41 = .ok (.iconst 1, 1) := by decide +kernel
theorem dX5_init_42 : decode cX5_init 42 = .ok (.iastore, 1) := by decide +kernel
theorem dX5_init_43 : decode cX5_init 43 = .ok (.iinc 1 1, 3) := by decide +kernel
theorem dX5_init_46 : decode cX5_init 46 = .ok (.goto (-25), 3) := by decide +kernel
theorem dX5_init_49 : decode cX5_init 49 = .ok (.return_, 1) := by decide +kernel
theorem dX5_in_0 : decode cX5_in 0 = .ok (.lload_n 0, 1) := by decide +kernel
theorem dX5_in_1 : decode cX5_in 1 = .ok (.lload_n 2, 1) := by decide +kernel
theorem dX5_in_2 : decode cX5_in 2 = .ok (.lcmp, 1) := by decide +kernel
theorem dX5_in_3 : decode cX5_in 3 = .ok (.ifCond .lt 14, 3) := by decide +kernel
theorem dX5_in_6 : decode cX5_in 6 = .ok (.lload_n 0, 1) := by decide +kernel
theorem dX5_in_7 : decode cX5_in 7 = .ok (.lload 4, 2) := by decide +kernel
theorem dX5_in_9 : decode cX5_in 9 = .ok (.lcmp, 1) := by decide +kernel
theorem dX5_in_10 : decode cX5_in 10 = .ok (.ifCond .gt 7, 3) := by decide +kernel
theorem dX5_in_13 : decode cX5_in 13 = .ok (.iconst 1, 1) := by decide +kernel
theorem dX5_in_14 : decode cX5_in 14 = .ok (.goto 4, 3) := by decide +kernel
theorem dX5_in_17 : decode cX5_in 17 = .ok (.iconst 0, 1) := by decide +kernel
theorem dX5_in_18 : decode cX5_in 18 = .ok (.ireturn, 1) := by decide +kernel
theorem dX5_isPrime_0 : decode cX5_isPrime 0 = .ok (.iload_n 0, 1) := by decide +kernel
theorem dX5_isPrime_1 : decode cX5_isPrime 1 = .ok (.iconst 1, 1) := by decide +kernel
theorem dX5_isPrime_2 : decode cX5_isPrime 2 = .ok (.if_icmp .le 7, 3) := by decide +kernel
theorem dX5_isPrime_5 : decode cX5_isPrime 5 = .ok (.iconst 1, 1) := by decide +kernel
theorem dX5_isPrime_6 : decode cX5_isPrime 6 = .ok (.goto 4, 3) := by decide +kernel
theorem dX5_isPrime_9 : decode cX5_isPrime 9 = .ok (.iconst 0, 1) := by decide +kernel
theorem dX5_isPrime_10 : decode cX5_isPrime 10 = .ok (.istore_n 1, 1) := by decide +kernel
theorem dX5_isPrime_11 : decode cX5_isPrime 11 = .ok (.iconst 2, 1) := by decide +kernel
theorem dX5_isPrime_12 : decode cX5_isPrime 12 = .ok (.istore_n 2, 1) := by decide +kernel
theorem dX5_isPrime_13 : decode cX5_isPrime 13 = .ok (.iload_n 2, 1) := by decide +kernel
theorem dX5_isPrime_14 : decode cX5_isPrime 14 = .ok (.iload_n 2, 1) := by decide +kernel
theorem dX5_isPrime_15 : decode cX5_isPrime 15 = .ok (.imul, 1) := by decide +kernel
theorem dX5_isPrime_16 : decode cX5_isPrime 16 = .ok (.iload_n 0, 1) := by decide +kernel
theorem dX5_isPrime_17 : decode cX5_isPrime 17 = .ok (.if_icmp .gt 25, 3) := by decide +kernel
theorem dX5_isPrime_20 : decode cX5_isPrime 20 = .ok (.iload_n 1, 1) := by decide +kernel
theorem dX5_isPrime_21 : decode cX5_isPrime 21 = .ok (.ifCond .eq 21, 3) := by decide +kernel
theorem dX5_isPrime_24 : decode cX5_isPrime 24 = .ok (.iload_n 0, 1) := by decide +kernel
theorem dX5_isPrime_25 : decode cX5_isPrime 25 = .ok (.iload_n 2, 1) := by decide +kernel
theorem dX5_isPrime_26 : decode cX5_isPrime 26 = .ok (.irem, 1) := by decide +kernel
theorem dX5_isPrime_27 : decode cX5_isPrime 27 = .ok (.ifCond .eq 7, 3) := by decide +kernel
theorem dX5_isPrime_30 : decode cX5_isPrime 30 = .ok (.iconst 1, 1) := by decide +kernel
theorem dX5_isPrime_31 : decode cX5_isPrime 31 = .ok (.goto 4, 3) := by decide +kernel
theorem dX5_isPrime_34 : decode cX5_isPrime 34 = .ok (.iconst 0, 1) := by decide +kernel
theorem dX5_isPrime_35 : decode cX5_isPrime 35 = .ok (.istore_n 1, 1) := by decide +kernel
theorem dX5_isPrime_36 : decode cX5_isPrime 36 = .ok (.iinc 2 1, 3) := by decide +kernel
theorem dX5_isPrime_39 : decode cX5_isPrime 39 = .ok (.goto (-26), 3) := by decide +kernel
theorem dX5_isPrime_42 : decode cX5_isPrime 42 = .ok (.iload_n 1, 1) := by decide +kernel
theorem dX5_isPrime_43 : decode cX5_isPrime 43 = .ok (.ireturn, 1) := by decide +kernel
theorem dX5_isPlace_0 : decode cX5_isPlace 0 = .ok (.iload_n 0, 1) := by decide +kernel
theorem dX5_isPlace_1 : decode cX5_isPlace 1 = .ok (.ifCond .eq 24, 3) := by decide +kernel
theorem dX5_isPlace_4 : decode cX5_isPlace 4 = .ok (.iload_n 0, 1) := by decide +kernel
theorem dX5_isPlace_5 : decode cX5_isPlace 5 = .ok (.i2l, 1) := by decide +kernel
theorem dX5_isPlace_6 : decode cX5_isPlace 6 = .ok (.ldc2_w 20, 3) := by decide +kernel
theorem dX5_isPlace_9 : decode cX5_isPlace 9 = .ok (.ldc2_w 22, 3) := by decide +kernel
theorem dX5_isPlace_12 : decode cX5_isPlace 12 = .ok (.invokestatic 24, 3) := by decide +kernel
theorem dX5_isPlace_15 : decode cX5_isPlace 15 = .ok (.ifCond .eq 14, 3) := by decide +kernel
theorem dX5_isPlace_18 : decode cX5_isPlace 18 = .ok (.iload_n 0, 1) := by decide +kernel
theorem dX5_isPlace_19 : decode cX5_isPlace 19 = .ok (.invokestatic 28, 3) := by decide +kernel
theorem dX5_isPlace_22 : decode cX5_isPlace 22 = .ok (.ifCond .eq 7, 3) := by decide +kernel
theorem dX5_isPlace_25 : decode cX5_isPlace 25 = .ok (.iconst 1, 1) := by decide +kernel
theorem dX5_isPlace_26 : decode cX5_isPlace 26 = .ok (.goto 4, 3) := by decide +kernel
theorem dX5_isPlace_29 : decode cX5_isPlace 29 = .ok (.iconst 0, 1) := by decide +kernel
theorem dX5_isPlace_30 : decode cX5_isPlace 30 = .ok (.ireturn, 1) := by decide +kernel
theorem dX5_isTold_0 : decode cX5_isTold 0 = .ok (.iload_n 0, 1) := by decide +kernel
theorem dX5_isTold_1 : decode cX5_isTold 1 = .ok (.ifCond .eq 20, 3) := by decide +kernel
theorem dX5_isTold_4 : decode cX5_isTold 4 = .ok (.iload_n 0, 1) := by decide +kernel
theorem dX5_isTold_5 : decode cX5_isTold 5 = .ok (.i2l, 1) := by decide +kernel
theorem dX5_isTold_6 : decode cX5_isTold 6 = .ok (.iload_n 1, 1) := by decide +kernel
theorem dX5_isTold_7 : decode cX5_isTold 7 = .ok (.ineg, 1) := by decide +kernel
theorem dX5_isTold_8 : decode cX5_isTold 8 = .ok (.i2l, 1) := by decide +kernel
theorem dX5_isTold_9 : decode cX5_isTold 9 = .ok (.iload_n 1, 1) := by decide +kernel
theorem dX5_isTold_10 : decode cX5_isTold 10 = .ok (.i2l, 1) := by decide +kernel
theorem dX5_isTold_11 : decode cX5_isTold 11 = .ok (.invokestatic 24, 3) := by decide +kernel
theorem dX5_isTold_14 : decode cX5_isTold 14 = .ok (.ifCond .eq 7, 3) := by decide +kernel
theorem dX5_isTold_17 : decode cX5_isTold 17 = .ok (.iconst 1, 1) := by decide +kernel
theorem dX5_isTold_18 : decode cX5_isTold 18 = .ok (.goto 4, 3) := by decide +kernel
theorem dX5_isTold_21 : decode cX5_isTold 21 = .ok (.iconst 0, 1) := by decide +kernel
theorem dX5_isTold_22 : decode cX5_isTold 22 = .ok (.ireturn, 1) := by decide +kernel
theorem dX5_without_0 : decode cX5_without 0 = .ok (.lload_n 1, 1) := by decide +kernel
theorem dX5_without_1 : decode cX5_without 1 = .ok (.lstore 4, 2) := by decide +kernel
theorem dX5_without_3 : decode cX5_without 3 = .ok (.aload_n 0, 1) := by decide +kernel
theorem dX5_without_4 : decode cX5_without 4 = .ok (.iconst 0, 1) := by decide +kernel
theorem dX5_without_5 : decode cX5_without 5 = .ok (.putfield 32, 3) := by decide +kernel
theorem dX5_without_8 : decode cX5_without 8 = .ok (.lload 4, 2) := by decide +kernel
theorem dX5_without_10 : decode cX5_without 10 = .ok (.iload_n 3, 1) := by decide +kernel
theorem dX5_without_11 : decode cX5_without 11 = .ok (.i2l, 1) := by decide +kernel
theorem dX5_without_12 : decode cX5_without 12 = .ok (.lrem, 1) := by decide +kernel
theorem dX5_without_13 : decode cX5_without 13 = .ok (.lconst 0, 1) := by decide +kernel
theorem dX5_without_14 : decode cX5_without 14 = .ok (.lcmp, 1) := by decide +kernel
theorem dX5_without_15 : decode cX5_without 15 = .ok (.ifCond .ne 23, 3) := by decide +kernel
theorem dX5_without_18 : decode cX5_without 18 = .ok (.lload 4, 2) := by decide +kernel
theorem dX5_without_20 : decode cX5_without 20 = .ok (.iload_n 3, 1) := by decide +kernel
theorem dX5_without_21 : decode cX5_without 21 = .ok (.i2l, 1) := by decide +kernel
theorem dX5_without_22 : decode cX5_without 22 = .ok (.ldiv, 1) := by decide +kernel
theorem dX5_without_23 : decode cX5_without 23 = .ok (.lstore 4, 2) := by decide +kernel
theorem dX5_without_25 : decode cX5_without 25 = .ok (.aload_n 0, 1) := by decide +kernel
theorem dX5_without_26 : decode cX5_without 26 = .ok (.dup, 1) := by decide +kernel
theorem dX5_without_27 : decode cX5_without 27 = .ok (.getfield 32, 3) := by decide +kernel
theorem dX5_without_30 : decode cX5_without 30 = .ok (.iconst 1, 1) := by decide +kernel
theorem dX5_without_31 : decode cX5_without 31 = .ok (.iadd, 1) := by decide +kernel
theorem dX5_without_32 : decode cX5_without 32 = .ok (.putfield 32, 3) := by decide +kernel
theorem dX5_without_35 : decode cX5_without 35 = .ok (.goto (-27), 3) := by decide +kernel
theorem dX5_without_38 : decode cX5_without 38 = .ok (.lload 4, 2) := by decide +kernel
theorem dX5_without_40 : decode cX5_without 40 = .ok (.lreturn, 1) := by decide +kernel
theorem dX5_root_0 : decode cX5_root 0 = .ok (.lload_n 0, 1) := by decide +kernel
theorem dX5_root_1 : decode cX5_root 1 = .ok (.iload_n 2, 1) := by decide +kernel
theorem dX5_root_2 : decode cX5_root 2 = .ok (.i2l, 1) := by decide +kernel
theorem dX5_root_3 : decode cX5_root 3 = .ok (.lrem, 1) := by decide +kernel
theorem dX5_root_4 : decode cX5_root 4 = .ok (.lstore_n 3, 1) := by decide +kernel
theorem dX5_root_5 : decode cX5_root 5 = .ok (.lload_n 3, 1) := by decide +kernel
theorem dX5_root_6 : decode cX5_root 6 = .ok (.lconst 0, 1) := by decide +kernel
theorem dX5_root_7 : decode cX5_root 7 = .ok (.lcmp, 1) := by decide +kernel
theorem dX5_root_8 : decode cX5_root 8 = .ok (.ifCond .ge 10, 3) := by decide +kernel
theorem dX5_root_11 : decode cX5_root 11 = .ok (.lload_n 3, 1) := by decide +kernel
theorem dX5_root_12 : decode cX5_root 12 = .ok (.iload_n 2, 1) := by decide +kernel
theorem dX5_root_13 : decode cX5_root 13 = .ok (.i2l, 1) := by decide +kernel
theorem dX5_root_14 : decode cX5_root 14 = .ok (.ladd, 1) := by decide +kernel
theorem dX5_root_15 : decode cX5_root 15 = .ok (.goto 4, 3) := by decide +kernel
theorem dX5_root_18 : decode cX5_root 18 = .ok (.lload_n 3, 1) := by decide +kernel
theorem dX5_root_19 : decode cX5_root 19 = .ok (.lstore_n 3, 1) := by decide +kernel
theorem dX5_root_20 : decode cX5_root 20 = .ok (.lconst 1, 1) := by decide +kernel
theorem dX5_root_21 : decode cX5_root 21 = .ok (.lstore 5, 2) := by decide +kernel
theorem dX5_root_23 : decode cX5_root 23 = .ok (.iconst 0, 1) := by decide +kernel
theorem dX5_root_24 : decode cX5_root 24 = .ok (.istore 7, 2) := by decide +kernel
theorem dX5_root_26 : decode cX5_root 26 = .ok (.iload 7, 2) := by decide +kernel
theorem dX5_root_28 : decode cX5_root 28 = .ok (.iload_n 2, 1) := by decide +kernel
theorem dX5_root_29 : decode cX5_root 29 = .ok (.iconst 1, 1) := by decide +kernel
theorem dX5_root_30 : decode cX5_root 30 = .ok (.isub, 1) := by decide +kernel
theorem dX5_root_31 : decode cX5_root 31 = .ok (.iconst 2, 1) := by decide +kernel
theorem dX5_root_32 : decode cX5_root 32 = .ok (.idiv, 1) := by decide +kernel
theorem dX5_root_33 : decode cX5_root 33 = .ok (.if_icmp .ge 18, 3) := by decide +kernel
theorem dX5_root_36 : decode cX5_root 36 = .ok (.lload 5, 2) := by decide +kernel
theorem dX5_root_38 : decode cX5_root 38 = .ok (.lload_n 3, 1) := by decide +kernel
theorem dX5_root_39 : decode cX5_root 39 = .ok (.lmul, 1) := by decide +kernel
theorem dX5_root_40 : decode cX5_root 40 = .ok (.iload_n 2, 1) := by decide +kernel
theorem dX5_root_41 : decode cX5_root 41 = .ok (.i2l, 1) := by decide +kernel
theorem dX5_root_42 : decode cX5_root 42 = .ok (.lrem, 1) := by decide +kernel
theorem dX5_root_43 : decode cX5_root 43 = .ok (.lstore 5, 2) := by decide +kernel
theorem dX5_root_45 : decode cX5_root 45 = .ok (.iinc 7 1, 3) := by decide +kernel
theorem dX5_root_48 : decode cX5_root 48 = .ok (.goto (-22), 3) := by decide +kernel
theorem dX5_root_51 : decode cX5_root 51 = .ok (.lload 5, 2) := by decide +kernel
theorem dX5_root_53 : decode cX5_root 53 = .ok (.lconst 1, 1) := by decide +kernel
theorem dX5_root_54 : decode cX5_root 54 = .ok (.lcmp, 1) := by decide +kernel
theorem dX5_root_55 : decode cX5_root 55 = .ok (.ifCond .ne 7, 3) := by decide +kernel
theorem dX5_root_58 : decode cX5_root 58 = .ok (.iconst 1, 1) := by decide +kernel
theorem dX5_root_59 : decode cX5_root 59 = .ok (.goto 4, 3) := by decide +kernel
theorem dX5_root_62 : decode cX5_root 62 = .ok (.iconst (-1), 1) := by decide +kernel
theorem dX5_root_63 : decode cX5_root 63 = .ok (.ireturn, 1) := by decide +kernel
theorem dX5_rest_0 : decode cX5_rest 0 = .ok (.lload_n 0, 1) := by decide +kernel
theorem dX5_rest_1 : decode cX5_rest 1 = .ok (.ldc2_w 35, 3) := by decide +kernel
theorem dX5_rest_4 : decode cX5_rest 4 = .ok (.lrem, 1) := by decide +kernel
theorem dX5_rest_5 : decode cX5_rest 5 = .ok (.l2i, 1) := by decide +kernel
theorem dX5_rest_6 : decode cX5_rest 6 = .ok (.istore_n 2, 1) := by decide +kernel
theorem dX5_rest_7 : decode cX5_rest 7 = .ok (.iload_n 2, 1) := by decide +kernel
theorem dX5_rest_8 : decode cX5_rest 8 = .ok (.ifCond .ge 10, 3) := by decide +kernel
theorem dX5_rest_11 : decode cX5_rest 11 = .ok (.iload_n 2, 1) := by decide +kernel
theorem dX5_rest_12 : decode cX5_rest 12 = .ok (.bipush 8, 2) := by decide +kernel
theorem dX5_rest_14 : decode cX5_rest 14 = .ok (.iadd, 1) := by decide +kernel
theorem dX5_rest_15 : decode cX5_rest 15 = .ok (.goto 4, 3) := by decide +kernel
theorem dX5_rest_18 : decode cX5_rest 18 = .ok (.iload_n 2, 1) := by decide +kernel
theorem dX5_rest_19 : decode cX5_rest 19 = .ok (.ireturn, 1) := by decide +kernel
theorem dX5_signOf_0 : decode cX5_signOf 0 = .ok (.iload 5, 2) := by decide +kernel
theorem dX5_signOf_2 : decode cX5_signOf 2 = .ok (.ifCond .ne 21, 3) := by decide +kernel
theorem dX5_signOf_5 : decode cX5_signOf 5 = .ok (.lload_n 1, 1) := by decide +kernel
theorem dX5_signOf_6 : decode cX5_signOf 6 = .ok (.lconst 0, 1) := by decide +kernel
theorem dX5_signOf_7 : decode cX5_signOf 7 = .ok (.lcmp, 1) := by decide +kernel
theorem dX5_signOf_8 : decode cX5_signOf 8 = .ok (.ifCond .ge 13, 3) := by decide +kernel
theorem dX5_signOf_11 : decode cX5_signOf 11 = .ok (.lload_n 3, 1) := by decide +kernel
theorem dX5_signOf_12 : decode cX5_signOf 12 = .ok (.lconst 0, 1) := by decide +kernel
theorem dX5_signOf_13 : decode cX5_signOf 13 = .ok (.lcmp, 1) := by decide +kernel
theorem dX5_signOf_14 : decode cX5_signOf 14 = .ok (.ifCond .ge 7, 3) := by decide +kernel
theorem dX5_signOf_17 : decode cX5_signOf 17 = .ok (.iconst (-1), 1) := by decide +kernel
theorem dX5_signOf_18 : decode cX5_signOf 18 = .ok (.goto 4, 3) := by decide +kernel
theorem dX5_signOf_21 : decode cX5_signOf 21 = .ok (.iconst 1, 1) := by decide +kernel
theorem dX5_signOf_22 : decode cX5_signOf 22 = .ok (.ireturn, 1) := by decide +kernel
theorem dX5_signOf_23 : decode cX5_signOf 23 = .ok (.aload_n 0, 1) := by decide +kernel
theorem dX5_signOf_24 : decode cX5_signOf 24 = .ok (.lload_n 1, 1) := by decide +kernel
theorem dX5_signOf_25 : decode cX5_signOf 25 = .ok (.iload 5, 2) := by decide +kernel
theorem dX5_signOf_27 : decode cX5_signOf 27 = .ok (.invokevirtual 37, 3) := by decide +kernel
theorem dX5_signOf_30 : decode cX5_signOf 30 = .ok (.lstore 6, 2) := by decide +kernel
theorem dX5_signOf_32 : decode cX5_signOf 32 = .ok (.aload_n 0, 1) := by decide +kernel
theorem dX5_signOf_33 : decode cX5_signOf 33 = .ok (.getfield 32, 3) := by decide +kernel
theorem dX5_signOf_36 : decode cX5_signOf 36 = .ok (.istore 8, 2) := by decide +kernel
theorem dX5_signOf_38 : decode cX5_signOf 38 = .ok (.aload_n 0, 1) := by decide +kernel
theorem dX5_signOf_39 : decode cX5_signOf 39 = .ok (.lload_n 3, 1) := by decide +kernel
theorem dX5_signOf_40 : decode cX5_signOf 40 = .ok (.iload 5, 2) := by decide +kernel
theorem dX5_signOf_42 : decode cX5_signOf 42 = .ok (.invokevirtual 37, 3) := by decide +kernel
theorem dX5_signOf_45 : decode cX5_signOf 45 = .ok (.lstore 9, 2) := by decide +kernel
theorem dX5_signOf_47 : decode cX5_signOf 47 = .ok (.aload_n 0, 1) := by decide +kernel
theorem dX5_signOf_48 : decode cX5_signOf 48 = .ok (.getfield 32, 3) := by decide +kernel
theorem dX5_signOf_51 : decode cX5_signOf 51 = .ok (.istore 11, 2) := by decide +kernel
theorem dX5_signOf_53 : decode cX5_signOf 53 = .ok (.iload 5, 2) := by decide +kernel
theorem dX5_signOf_55 : decode cX5_signOf 55 = .ok (.iconst 2, 1) := by decide +kernel
theorem dX5_signOf_56 : decode cX5_signOf 56 = .ok (.if_icmp .ne 73, 3) := by decide +kernel
theorem dX5_signOf_59 : decode cX5_signOf 59 = .ok (.lload 6, 2) := by decide +kernel
theorem dX5_signOf_61 : decode cX5_signOf 61 = .ok (.invokestatic 41, 3) := by decide +kernel
theorem dX5_signOf_64 : decode cX5_signOf 64 = .ok (.istore 12, 2) := by decide +kernel
theorem dX5_signOf_66 : decode cX5_signOf 66 = .ok (.lload 9, 2) := by decide +kernel
theorem dX5_signOf_68 : decode cX5_signOf 68 = .ok (.invokestatic 41, 3) := by decide +kernel
theorem dX5_signOf_71 : decode cX5_signOf 71 = .ok (.istore 13, 2) := by decide +kernel
theorem dX5_signOf_73 : decode cX5_signOf 73 = .ok (.iload 12, 2) := by decide +kernel
theorem dX5_signOf_75 : decode cX5_signOf 75 = .ok (.iconst 1, 1) := by decide +kernel
theorem dX5_signOf_76 : decode cX5_signOf 76 = .ok (.isub, 1) := by decide +kernel
theorem dX5_signOf_77 : decode cX5_signOf 77 = .ok (.iconst 2, 1) := by decide +kernel
theorem dX5_signOf_78 : decode cX5_signOf 78 = .ok (.idiv, 1) := by decide +kernel
theorem dX5_signOf_79 : decode cX5_signOf 79 = .ok (.iload 13, 2) := by decide +kernel
theorem dX5_signOf_81 : decode cX5_signOf 81 = .ok (.iconst 1, 1) := by decide +kernel
theorem dX5_signOf_82 : decode cX5_signOf 82 = .ok (.isub, 1) := by decide +kernel
theorem dX5_signOf_83 : decode cX5_signOf 83 = .ok (.iconst 2, 1) := by decide +kernel
theorem dX5_signOf_84 : decode cX5_signOf 84 = .ok (.idiv, 1) := by decide +kernel
theorem dX5_signOf_85 : decode cX5_signOf 85 = .ok (.imul, 1) := by decide +kernel
theorem dX5_signOf_86 : decode cX5_signOf 86 = .ok (.iload 8, 2) := by decide +kernel
theorem dX5_signOf_88 : decode cX5_signOf 88 = .ok (.iload 13, 2) := by decide +kernel
theorem dX5_signOf_90 : decode cX5_signOf 90 = .ok (.iload 13, 2) := by decide +kernel
theorem dX5_signOf_92 : decode cX5_signOf 92 = .ok (.imul, 1) := by decide +kernel
theorem dX5_signOf_93 : decode cX5_signOf 93 = .ok (.iconst 1, 1) := by decide +kernel
theorem dX5_signOf_94 : decode cX5_signOf 94 = .ok (.isub, 1) := by decide +kernel
theorem dX5_signOf_95 : decode cX5_signOf 95 = .ok (.bipush 8, 2) := by decide +kernel
theorem dX5_signOf_97 : decode cX5_signOf 97 = .ok (.idiv, 1) := by decide +kernel
theorem dX5_signOf_98 : decode cX5_signOf 98 = .ok (.imul, 1) := by decide +kernel
theorem dX5_signOf_99 : decode cX5_signOf 99 = .ok (.iadd, 1) := by decide +kernel
theorem dX5_signOf_100 : decode cX5_signOf 100 = .ok (.iload 11, 2) := by decide +kernel
theorem dX5_signOf_102 : decode cX5_signOf 102 = .ok (.iload 12, 2) := by decide +kernel
theorem dX5_signOf_104 : decode cX5_signOf 104 = .ok (.iload 12, 2) := by decide +kernel
theorem dX5_signOf_106 : decode cX5_signOf 106 = .ok (.imul, 1) := by decide +kernel
theorem dX5_signOf_107 : decode cX5_signOf 107 = .ok (.iconst 1, 1) := by decide +kernel
theorem dX5_signOf_108 : decode cX5_signOf 108 = .ok (.isub, 1) := by decide +kernel
theorem dX5_signOf_109 : decode cX5_signOf 109 = .ok (.bipush 8, 2) := by decide +kernel
theorem dX5_signOf_111 : decode cX5_signOf 111 = .ok (.idiv, 1) := by decide +kernel
theorem dX5_signOf_112 : decode cX5_signOf 112 = .ok (.imul, 1) := by decide +kernel
theorem dX5_signOf_113 : decode cX5_signOf 113 = .ok (.iadd, 1) := by decide +kernel
theorem dX5_signOf_114 : decode cX5_signOf 114 = .ok (.istore 14, 2) := by decide +kernel
theorem dX5_signOf_116 : decode cX5_signOf 116 = .ok (.iload 14, 2) := by decide +kernel
theorem dX5_signOf_118 : decode cX5_signOf 118 = .ok (.iconst 2, 1) := by decide +kernel
theorem dX5_signOf_119 : decode cX5_signOf 119 = .ok (.irem, 1) := by decide +kernel
theorem dX5_signOf_120 : decode cX5_signOf 120 = .ok (.ifCond .ne 7, 3) := by decide +kernel
theorem dX5_signOf_123 : decode cX5_signOf 123 = .ok (.iconst 1, 1) := by decide +kernel
theorem dX5_signOf_124 : decode cX5_signOf 124 = .ok (.goto 4, 3) := by decide +kernel
theorem dX5_signOf_127 : decode cX5_signOf 127 = .ok (.iconst (-1), 1) := by decide +kernel
theorem dX5_signOf_128 : decode cX5_signOf 128 = .ok (.ireturn, 1) := by decide +kernel
theorem dX5_signOf_129 : decode cX5_signOf 129 = .ok (.iload 8, 2) := by decide +kernel
theorem dX5_signOf_131 : decode cX5_signOf 131 = .ok (.iconst 2, 1) := by decide +kernel
theorem dX5_signOf_132 : decode cX5_signOf 132 = .ok (.irem, 1) := by decide +kernel
theorem dX5_signOf_133 : decode cX5_signOf 133 = .ok (.iconst 1, 1) := by decide +kernel
theorem dX5_signOf_134 : decode cX5_signOf 134 = .ok (.if_icmp .ne 27, 3) := by decide +kernel
theorem dX5_signOf_137 : decode cX5_signOf 137 = .ok (.iload 11, 2) := by decide +kernel
theorem dX5_signOf_139 : decode cX5_signOf 139 = .ok (.iconst 2, 1) := by decide +kernel
theorem dX5_signOf_140 : decode cX5_signOf 140 = .ok (.irem, 1) := by decide +kernel
theorem dX5_signOf_141 : decode cX5_signOf 141 = .ok (.iconst 1, 1) := by decide +kernel
theorem dX5_signOf_142 : decode cX5_signOf 142 = .ok (.if_icmp .ne 19, 3) := by decide +kernel
theorem dX5_signOf_145 : decode cX5_signOf 145 = .ok (.iload 5, 2) := by decide +kernel
theorem dX5_signOf_147 : decode cX5_signOf 147 = .ok (.iconst 1, 1) := by decide +kernel
theorem dX5_signOf_148 : decode cX5_signOf 148 = .ok (.isub, 1) := by decide +kernel
theorem dX5_signOf_149 : decode cX5_signOf 149 = .ok (.iconst 2, 1) := by decide +kernel
theorem dX5_signOf_150 : decode cX5_signOf 150 = .ok (.idiv, 1) := by decide +kernel
theorem dX5_signOf_151 : decode cX5_signOf 151 = .ok (.iconst 2, 1) := by decide +kernel
theorem dX5_signOf_152 : decode cX5_signOf 152 = .ok (.irem, 1) := by decide +kernel
theorem dX5_signOf_153 : decode cX5_signOf 153 = .ok (.iconst 1, 1) := by decide +kernel
theorem dX5_signOf_154 : decode cX5_signOf 154 = .ok (.if_icmp .ne 7, 3) := by decide +kernel
theorem dX5_signOf_157 : decode cX5_signOf 157 = .ok (.iconst (-1), 1) := by decide +kernel
theorem dX5_signOf_158 : decode cX5_signOf 158 = .ok (.goto 4, 3) := by decide +kernel
theorem dX5_signOf_161 : decode cX5_signOf 161 = .ok (.iconst 1, 1) := by decide +kernel
theorem dX5_signOf_162 : decode cX5_signOf 162 = .ok (.istore 12, 2) := by decide +kernel
theorem dX5_signOf_164 : decode cX5_signOf 164 = .ok (.iload 12, 2) := by decide +kernel
theorem dX5_signOf_166 : decode cX5_signOf 166 = .ok (.iload 11, 2) := by decide +kernel
theorem dX5_signOf_168 : decode cX5_signOf 168 = .ok (.iconst 2, 1) := by decide +kernel
theorem dX5_signOf_169 : decode cX5_signOf 169 = .ok (.irem, 1) := by decide +kernel
theorem dX5_signOf_170 : decode cX5_signOf 170 = .ok (.iconst 1, 1) := by decide +kernel
theorem dX5_signOf_171 : decode cX5_signOf 171 = .ok (.if_icmp .ne 13, 3) := by decide +kernel
theorem dX5_signOf_174 : decode cX5_signOf 174 = .ok (.lload 6, 2) := by decide +kernel
theorem dX5_signOf_176 : decode cX5_signOf 176 = .ok (.iload 5, 2) := by decide +kernel
theorem dX5_signOf_178 : decode cX5_signOf 178 = .ok (.invokestatic 45, 3) := by decide +kernel
theorem dX5_signOf_181 : decode cX5_signOf 181 = .ok (.goto 4, 3) := by decide +kernel
theorem dX5_signOf_184 : decode cX5_signOf 184 = .ok (.iconst 1, 1) := by decide +kernel
theorem dX5_signOf_185 : decode cX5_signOf 185 = .ok (.imul, 1) := by decide +kernel
theorem dX5_signOf_186 : decode cX5_signOf 186 = .ok (.istore 12, 2) := by decide +kernel
theorem dX5_signOf_188 : decode cX5_signOf 188 = .ok (.iload 12, 2) := by decide +kernel
theorem dX5_signOf_190 : decode cX5_signOf 190 = .ok (.iload 8, 2) := by decide +kernel
theorem dX5_signOf_192 : decode cX5_signOf 192 = .ok (.iconst 2, 1) := by decide +kernel
theorem dX5_signOf_193 : decode cX5_signOf 193 = .ok (.irem, 1) := by decide +kernel
theorem dX5_signOf_194 : decode cX5_signOf 194 = .ok (.iconst 1, 1) := by decide +kernel
theorem dX5_signOf_195 : decode cX5_signOf 195 = .ok (.if_icmp .ne 13, 3) := by decide +kernel
theorem dX5_signOf_198 : decode cX5_signOf 198 = .ok (.lload 9, 2) := by decide +kernel
theorem dX5_signOf_200 : decode cX5_signOf 200 = .ok (.iload 5, 2) := by decide +kernel
theorem dX5_signOf_202 : decode cX5_signOf 202 = .ok (.invokestatic 45, 3) := by decide +kernel
theorem dX5_signOf_205 : decode cX5_signOf 205 = .ok (.goto 4, 3) := by decide +kernel
theorem dX5_signOf_208 : decode cX5_signOf 208 = .ok (.iconst 1, 1) := by decide +kernel
theorem dX5_signOf_209 : decode cX5_signOf 209 = .ok (.imul, 1) := by decide +kernel
theorem dX5_signOf_210 : decode cX5_signOf 210 = .ok (.ireturn, 1) := by decide +kernel
theorem dX5_free_0 : decode cX5_free 0 = .ok (.aload_n 0, 1) := by decide +kernel
theorem dX5_free_1 : decode cX5_free 1 = .ok (.iconst 0, 1) := by decide +kernel
theorem dX5_free_2 : decode cX5_free 2 = .ok (.putfield 16, 3) := by decide +kernel
theorem dX5_free_5 : decode cX5_free 5 = .ok (.iload_n 1, 1) := by decide +kernel
theorem dX5_free_6 : decode cX5_free 6 = .ok (.ldc 49, 2) := by decide +kernel
theorem dX5_free_8 : decode cX5_free 8 = .ok (.invokestatic 50, 3) := by decide +kernel
theorem dX5_free_11 : decode cX5_free 11 = .ok (.ifCond .ne 5, 3) := by decide +kernel
theorem dX5_free_14 : decode cX5_free 14 = .ok (.iconst 0, 1) := by decide +kernel
theorem dX5_free_15 : decode cX5_free 15 = .ok (.ireturn, 1) := by decide +kernel
theorem dX5_free_16 : decode cX5_free 16 = .ok (.iload_n 1, 1) := by decide +kernel
theorem dX5_free_17 : decode cX5_free 17 = .ok (.istore_n 2, 1) := by decide +kernel
theorem dX5_free_18 : decode cX5_free 18 = .ok (.iconst 2, 1) := by decide +kernel
theorem dX5_free_19 : decode cX5_free 19 = .ok (.istore_n 3, 1) := by decide +kernel
theorem dX5_free_20 : decode cX5_free 20 = .ok (.iload_n 3, 1) := by decide +kernel
theorem dX5_free_21 : decode cX5_free 21 = .ok (.sipush 1000, 3) := by decide +kernel
theorem dX5_free_24 : decode cX5_free 24 = .ok (.if_icmp .gt 26, 3) := by decide +kernel
theorem dX5_free_27 : decode cX5_free 27 = .ok (.iload_n 2, 1) := by decide +kernel
theorem dX5_free_28 : decode cX5_free 28 = .ok (.iload_n 3, 1) := by decide +kernel
theorem dX5_free_29 : decode cX5_free 29 = .ok (.iload_n 3, 1) := by decide +kernel
theorem dX5_free_30 : decode cX5_free 30 = .ok (.imul, 1) := by decide +kernel
theorem dX5_free_31 : decode cX5_free 31 = .ok (.irem, 1) := by decide +kernel
theorem dX5_free_32 : decode cX5_free 32 = .ok (.ifCond .ne 12, 3) := by decide +kernel
theorem dX5_free_35 : decode cX5_free 35 = .ok (.iload_n 2, 1) := by decide +kernel
theorem dX5_free_36 : decode cX5_free 36 = .ok (.iload_n 3, 1) := by decide +kernel
theorem dX5_free_37 : decode cX5_free 37 = .ok (.iload_n 3, 1) := by decide +kernel
theorem dX5_free_38 : decode cX5_free 38 = .ok (.imul, 1) := by decide +kernel
theorem dX5_free_39 : decode cX5_free 39 = .ok (.idiv, 1) := by decide +kernel
theorem dX5_free_40 : decode cX5_free 40 = .ok (.istore_n 2, 1) := by decide +kernel
theorem dX5_free_41 : decode cX5_free 41 = .ok (.goto (-14), 3) := by decide +kernel
theorem dX5_free_44 : decode cX5_free 44 = .ok (.iinc 3 1, 3) := by decide +kernel
theorem dX5_free_47 : decode cX5_free 47 = .ok (.goto (-27), 3) := by decide +kernel
theorem dX5_free_50 : decode cX5_free 50 = .ok (.iload_n 2, 1) := by decide +kernel
theorem dX5_free_51 : decode cX5_free 51 = .ok (.ireturn, 1) := by decide +kernel
theorem dX5_sign_0 : decode cX5_sign 0 = .ok (.aload_n 0, 1) := by decide +kernel
theorem dX5_sign_1 : decode cX5_sign 1 = .ok (.iconst 0, 1) := by decide +kernel
theorem dX5_sign_2 : decode cX5_sign 2 = .ok (.putfield 16, 3) := by decide +kernel
theorem dX5_sign_5 : decode cX5_sign 5 = .ok (.iload_n 1, 1) := by decide +kernel
theorem dX5_sign_6 : decode cX5_sign 6 = .ok (.ldc 49, 2) := by decide +kernel
theorem dX5_sign_8 : decode cX5_sign 8 = .ok (.invokestatic 50, 3) := by decide +kernel
theorem dX5_sign_11 : decode cX5_sign 11 = .ok (.ifCond .eq 31, 3) := by decide +kernel
theorem dX5_sign_14 : decode cX5_sign 14 = .ok (.iload_n 2, 1) := by decide +kernel
theorem dX5_sign_15 : decode cX5_sign 15 = .ok (.ldc 49, 2) := by decide +kernel
theorem dX5_sign_17 : decode cX5_sign 17 = .ok (.invokestatic 50, 3) := by decide +kernel
theorem dX5_sign_20 : decode cX5_sign 20 = .ok (.ifCond .eq 22, 3) := by decide +kernel
theorem dX5_sign_23 : decode cX5_sign 23 = .ok (.iload_n 3, 1) := by decide +kernel
theorem dX5_sign_24 : decode cX5_sign 24 = .ok (.invokestatic 54, 3) := by decide +kernel
theorem dX5_sign_27 : decode cX5_sign 27 = .ok (.ifCond .eq 15, 3) := by decide +kernel
theorem dX5_sign_30 : decode cX5_sign 30 = .ok (.aload_n 0, 1) := by decide +kernel
theorem dX5_sign_31 : decode cX5_sign 31 = .ok (.iload_n 1, 1) := by decide +kernel
theorem dX5_sign_32 : decode cX5_sign 32 = .ok (.i2l, 1) := by decide +kernel
theorem dX5_sign_33 : decode cX5_sign 33 = .ok (.iload_n 2, 1) := by decide +kernel
theorem dX5_sign_34 : decode cX5_sign 34 = .ok (.i2l, 1) := by decide +kernel
theorem dX5_sign_35 : decode cX5_sign 35 = .ok (.iload_n 3, 1) := by decide +kernel
theorem dX5_sign_36 : decode cX5_sign 36 = .ok (.invokevirtual 57, 3) := by decide +kernel
theorem dX5_sign_39 : decode cX5_sign 39 = .ok (.goto 5, 3) := by decide +kernel
theorem dX5_sign_42 : decode cX5_sign 42 = .ok (.bipush (-3), 2) := by decide +kernel
theorem dX5_sign_44 : decode cX5_sign 44 = .ok (.ireturn, 1) := by decide +kernel
theorem dX5_odds_0 : decode cX5_odds 0 = .ok (.aload_n 0, 1) := by decide +kernel
theorem dX5_odds_1 : decode cX5_odds 1 = .ok (.iconst 0, 1) := by decide +kernel
theorem dX5_odds_2 : decode cX5_odds 2 = .ok (.putfield 16, 3) := by decide +kernel
theorem dX5_odds_5 : decode cX5_odds 5 = .ok (.iload_n 1, 1) := by decide +kernel
theorem dX5_odds_6 : decode cX5_odds 6 = .ok (.sipush 400, 3) := by decide +kernel
theorem dX5_odds_9 : decode cX5_odds 9 = .ok (.invokestatic 50, 3) := by decide +kernel
theorem dX5_odds_12 : decode cX5_odds 12 = .ok (.ifCond .eq 13, 3) := by decide +kernel
theorem dX5_odds_15 : decode cX5_odds 15 = .ok (.iload_n 2, 1) := by decide +kernel
theorem dX5_odds_16 : decode cX5_odds 16 = .ok (.sipush 400, 3) := by decide +kernel
theorem dX5_odds_19 : decode cX5_odds 19 = .ok (.invokestatic 50, 3) := by decide +kernel
theorem dX5_odds_22 : decode cX5_odds 22 = .ok (.ifCond .ne 6, 3) := by decide +kernel
theorem dX5_odds_25 : decode cX5_odds 25 = .ok (.bipush (-3), 2) := by decide +kernel
theorem dX5_odds_27 : decode cX5_odds 27 = .ok (.ireturn, 1) := by decide +kernel
theorem dX5_odds_28 : decode cX5_odds 28 = .ok (.iconst 0, 1) := by decide +kernel
theorem dX5_odds_29 : decode cX5_odds 29 = .ok (.istore_n 3, 1) := by decide +kernel
theorem dX5_odds_30 : decode cX5_odds 30 = .ok (.iconst 0, 1) := by decide +kernel
theorem dX5_odds_31 : decode cX5_odds 31 = .ok (.istore 4, 2) := by decide +kernel
theorem dX5_odds_33 : decode cX5_odds 33 = .ok (.iload 4, 2) := by decide +kernel
theorem dX5_odds_35 : decode cX5_odds 35 = .ok (.sipush 398, 3) := by decide +kernel
theorem dX5_odds_38 : decode cX5_odds 38 = .ok (.if_icmp .ge 38, 3) := by decide +kernel
theorem dX5_odds_41 : decode cX5_odds 41 = .ok (.iload_n 3, 1) := by decide +kernel
theorem dX5_odds_42 : decode cX5_odds 42 = .ok (.iload 4, 2) := by decide +kernel
theorem dX5_odds_44 : decode cX5_odds 44 = .ok (.invokestatic 54, 3) := by decide +kernel
theorem dX5_odds_47 : decode cX5_odds 47 = .ok (.ifCond .eq 20, 3) := by decide +kernel
theorem dX5_odds_50 : decode cX5_odds 50 = .ok (.aload_n 0, 1) := by decide +kernel
theorem dX5_odds_51 : decode cX5_odds 51 = .ok (.iload_n 1, 1) := by decide +kernel
theorem dX5_odds_52 : decode cX5_odds 52 = .ok (.i2l, 1) := by decide +kernel
theorem dX5_odds_53 : decode cX5_odds 53 = .ok (.iload_n 2, 1) := by decide +kernel
theorem dX5_odds_54 : decode cX5_odds 54 = .ok (.i2l, 1) := by decide +kernel
theorem dX5_odds_55 : decode cX5_odds 55 = .ok (.iload 4, 2) := by decide +kernel
theorem dX5_odds_57 : decode cX5_odds 57 = .ok (.invokevirtual 57, 3) := by decide +kernel
theorem dX5_odds_60 : decode cX5_odds 60 = .ok (.ifCond .ge 7, 3) := by decide +kernel
theorem dX5_odds_63 : decode cX5_odds 63 = .ok (.iconst 1, 1) := by decide +kernel
theorem dX5_odds_64 : decode cX5_odds 64 = .ok (.goto 4, 3) := by decide +kernel
theorem dX5_odds_67 : decode cX5_odds 67 = .ok (.iconst 0, 1) := by decide +kernel
theorem dX5_odds_68 : decode cX5_odds 68 = .ok (.iadd, 1) := by decide +kernel
theorem dX5_odds_69 : decode cX5_odds 69 = .ok (.istore_n 3, 1) := by decide +kernel
theorem dX5_odds_70 : decode cX5_odds 70 = .ok (.iinc 4 1, 3) := by decide +kernel
theorem dX5_odds_73 : decode cX5_odds 73 = .ok (.goto (-40), 3) := by decide +kernel
theorem dX5_odds_76 : decode cX5_odds 76 = .ok (.iload_n 3, 1) := by decide +kernel
theorem dX5_odds_77 : decode cX5_odds 77 = .ok (.ireturn, 1) := by decide +kernel
theorem dX5_isShelf_0 : decode cX5_isShelf 0 = .ok (.iload_n 0, 1) := by decide +kernel
theorem dX5_isShelf_1 : decode cX5_isShelf 1 = .ok (.i2l, 1) := by decide +kernel
theorem dX5_isShelf_2 : decode cX5_isShelf 2 = .ok (.lconst 0, 1) := by decide +kernel
theorem dX5_isShelf_3 : decode cX5_isShelf 3 = .ok (.ldc2_w 61, 3) := by decide +kernel
theorem dX5_isShelf_6 : decode cX5_isShelf 6 = .ok (.invokestatic 24, 3) := by decide +kernel
theorem dX5_isShelf_9 : decode cX5_isShelf 9 = .ok (.ireturn, 1) := by decide +kernel
theorem dX5_form_0 : decode cX5_form 0 = .ok (.aload_n 0, 1) := by decide +kernel
theorem dX5_form_1 : decode cX5_form 1 = .ok (.iconst 0, 1) := by decide +kernel
theorem dX5_form_2 : decode cX5_form 2 = .ok (.putfield 16, 3) := by decide +kernel
theorem dX5_form_5 : decode cX5_form 5 = .ok (.iload_n 1, 1) := by decide +kernel
theorem dX5_form_6 : decode cX5_form 6 = .ok (.invokestatic 63, 3) := by decide +kernel
theorem dX5_form_9 : decode cX5_form 9 = .ok (.ifCond .eq 89, 3) := by decide +kernel
theorem dX5_form_12 : decode cX5_form 12 = .ok (.iload_n 2, 1) := by decide +kernel
theorem dX5_form_13 : decode cX5_form 13 = .ok (.i2l, 1) := by decide +kernel
theorem dX5_form_14 : decode cX5_form 14 = .ok (.lconst 1, 1) := by decide +kernel
theorem dX5_form_15 : decode cX5_form 15 = .ok (.ldc2_w 66, 3) := by decide +kernel
theorem dX5_form_18 : decode cX5_form 18 = .ok (.invokestatic 24, 3) := by decide +kernel
theorem dX5_form_21 : decode cX5_form 21 = .ok (.ifCond .eq 77, 3) := by decide +kernel
theorem dX5_form_24 : decode cX5_form 24 = .ok (.iload_n 3, 1) := by decide +kernel
theorem dX5_form_25 : decode cX5_form 25 = .ok (.sipush 400, 3) := by decide +kernel
theorem dX5_form_28 : decode cX5_form 28 = .ok (.invokestatic 50, 3) := by decide +kernel
theorem dX5_form_31 : decode cX5_form 31 = .ok (.ifCond .eq 67, 3) := by decide +kernel
theorem dX5_form_34 : decode cX5_form 34 = .ok (.iload_n 2, 1) := by decide +kernel
theorem dX5_form_35 : decode cX5_form 35 = .ok (.iconst 1, 1) := by decide +kernel
theorem dX5_form_36 : decode cX5_form 36 = .ok (.if_icmp .le 14, 3) := by decide +kernel
theorem dX5_form_39 : decode cX5_form 39 = .ok (.iload 4, 2) := by decide +kernel
theorem dX5_form_41 : decode cX5_form 41 = .ok (.sipush 400, 3) := by decide +kernel
theorem dX5_form_44 : decode cX5_form 44 = .ok (.invokestatic 50, 3) := by decide +kernel
theorem dX5_form_47 : decode cX5_form 47 = .ok (.ifCond .eq 51, 3) := by decide +kernel
theorem dX5_form_50 : decode cX5_form 50 = .ok (.iload_n 2, 1) := by decide +kernel
theorem dX5_form_51 : decode cX5_form 51 = .ok (.iconst 2, 1) := by decide +kernel
theorem dX5_form_52 : decode cX5_form 52 = .ok (.if_icmp .le 14, 3) := by decide +kernel
theorem dX5_form_55 : decode cX5_form 55 = .ok (.iload 5, 2) := by decide +kernel
theorem dX5_form_57 : decode cX5_form 57 = .ok (.sipush 400, 3) := by decide +kernel
theorem dX5_form_60 : decode cX5_form 60 = .ok (.invokestatic 50, 3) := by decide +kernel
theorem dX5_form_63 : decode cX5_form 63 = .ok (.ifCond .eq 35, 3) := by decide +kernel
theorem dX5_form_66 : decode cX5_form 66 = .ok (.iload_n 2, 1) := by decide +kernel
theorem dX5_form_67 : decode cX5_form 67 = .ok (.iconst 3, 1) := by decide +kernel
theorem dX5_form_68 : decode cX5_form 68 = .ok (.if_icmp .le 14, 3) := by decide +kernel
theorem dX5_form_71 : decode cX5_form 71 = .ok (.iload 6, 2) := by decide +kernel
theorem dX5_form_73 : decode cX5_form 73 = .ok (.sipush 400, 3) := by decide +kernel
theorem dX5_form_76 : decode cX5_form 76 = .ok (.invokestatic 50, 3) := by decide +kernel
theorem dX5_form_79 : decode cX5_form 79 = .ok (.ifCond .eq 19, 3) := by decide +kernel
theorem dX5_form_82 : decode cX5_form 82 = .ok (.iload_n 2, 1) := by decide +kernel
theorem dX5_form_83 : decode cX5_form 83 = .ok (.iconst 4, 1) := by decide +kernel
theorem dX5_form_84 : decode cX5_form 84 = .ok (.if_icmp .le 17, 3) := by decide +kernel
theorem dX5_form_87 : decode cX5_form 87 = .ok (.iload 7, 2) := by decide +kernel
theorem dX5_form_89 : decode cX5_form 89 = .ok (.sipush 400, 3) := by decide +kernel
theorem dX5_form_92 : decode cX5_form 92 = .ok (.invokestatic 50, 3) := by decide +kernel
theorem dX5_form_95 : decode cX5_form 95 = .ok (.ifCond .ne 6, 3) := by decide +kernel
theorem dX5_form_98 : decode cX5_form 98 = .ok (.bipush (-3), 2) := by decide +kernel
theorem dX5_form_100 : decode cX5_form 100 = .ok (.ireturn, 1) := by decide +kernel
theorem dX5_form_101 : decode cX5_form 101 = .ok (.bipush 6, 2) := by decide +kernel
theorem dX5_form_103 : decode cX5_form 103 = .ok (.iload_n 1, 1) := by decide +kernel
theorem dX5_form_104 : decode cX5_form 104 = .ok (.imul, 1) := by decide +kernel
theorem dX5_form_105 : decode cX5_form 105 = .ok (.istore 8, 2) := by decide +kernel
theorem dX5_form_107 : decode cX5_form 107 = .ok (.aload_n 0, 1) := by decide +kernel
theorem dX5_form_108 : decode cX5_form 108 = .ok (.getfield 7, 3) := by decide +kernel
theorem dX5_form_111 : decode cX5_form 111 = .ok (.iload_n 1, 1) := by decide +kernel
theorem dX5_form_112 : decode cX5_form 112 = .ok (.iload_n 2, 1) := by decide +kernel
theorem dX5_form_113 : decode cX5_form 113 = .ok (.iastore, 1) := by decide +kernel
theorem dX5_form_114 : decode cX5_form 114 = .ok (.aload_n 0, 1) := by decide +kernel
theorem dX5_form_115 : decode cX5_form 115 = .ok (.getfield 13, 3) := by decide +kernel
theorem dX5_form_118 : decode cX5_form 118 = .ok (.iload 8, 2) := by decide +kernel
theorem dX5_form_120 : decode cX5_form 120 = .ok (.iload_n 3, 1) := by decide +kernel
theorem dX5_form_121 : decode cX5_form 121 = .ok (.iastore, 1) := by decide +kernel
theorem dX5_form_122 : decode cX5_form 122 = .ok (.aload_n 0, 1) := by decide +kernel
theorem dX5_form_123 : decode cX5_form 123 = .ok (.getfield 13, 3) := by decide +kernel
theorem dX5_form_126 : decode cX5_form 126 = .ok (.iload 8, 2) := by decide +kernel
theorem dX5_form_128 : decode cX5_form 128 = .ok (.iconst 1, 1) := by decide +kernel
theorem dX5_form_129 : decode cX5_form 129 = .ok (.iadd, 1) := by decide +kernel
theorem dX5_form_130 : decode cX5_form 130 = .ok (.iload 4, 2) := by decide +kernel
theorem dX5_form_132 : decode cX5_form 132 = .ok (.iastore, 1) := by decide +kernel
theorem dX5_form_133 : decode cX5_form 133 = .ok (.aload_n 0, 1) := by decide +kernel
theorem dX5_form_134 : decode cX5_form 134 = .ok (.getfield 13, 3) := by decide +kernel
theorem dX5_form_137 : decode cX5_form 137 = .ok (.iload 8, 2) := by decide +kernel
theorem dX5_form_139 : decode cX5_form 139 = .ok (.iconst 2, 1) := by decide +kernel
theorem dX5_form_140 : decode cX5_form 140 = .ok (.iadd, 1) := by decide +kernel
theorem dX5_form_141 : decode cX5_form 141 = .ok (.iload 5, 2) := by decide +kernel
end
section
theorem dX5_form_143 : decode cX5_form 143 = .ok (.iastore, 1) := by decide +kernel
theorem dX5_form_144 : decode cX5_form 144 = .ok (.aload_n 0, 1) := by decide +kernel
theorem dX5_form_145 : decode cX5_form 145 = .ok (.getfield 13, 3) := by decide +kernel
theorem dX5_form_148 : decode cX5_form 148 = .ok (.iload 8, 2) := by decide +kernel
theorem dX5_form_150 : decode cX5_form 150 = .ok (.iconst 3, 1) := by decide +kernel
theorem dX5_form_151 : decode cX5_form 151 = .ok (.iadd, 1) := by decide +kernel
theorem dX5_form_152 : decode cX5_form 152 = .ok (.iload 6, 2) := by decide +kernel
theorem dX5_form_154 : decode cX5_form 154 = .ok (.iastore, 1) := by decide +kernel
theorem dX5_form_155 : decode cX5_form 155 = .ok (.aload_n 0, 1) := by decide +kernel
theorem dX5_form_156 : decode cX5_form 156 = .ok (.getfield 13, 3) := by decide +kernel
theorem dX5_form_159 : decode cX5_form 159 = .ok (.iload 8, 2) := by decide +kernel
theorem dX5_form_161 : decode cX5_form 161 = .ok (.iconst 4, 1) := by decide +kernel
theorem dX5_form_162 : decode cX5_form 162 = .ok (.iadd, 1) := by decide +kernel
theorem dX5_form_163 : decode cX5_form 163 = .ok (.iload 7, 2) := by decide +kernel
theorem dX5_form_165 : decode cX5_form 165 = .ok (.iastore, 1) := by decide +kernel
theorem dX5_form_166 : decode cX5_form 166 = .ok (.iload_n 2, 1) := by decide +kernel
theorem dX5_form_167 : decode cX5_form 167 = .ok (.ireturn, 1) := by decide +kernel
theorem dX5_at_0 : decode cX5_at 0 = .ok (.aload_n 0, 1) := by decide +kernel
theorem dX5_at_1 : decode cX5_at 1 = .ok (.iconst 0, 1) := by decide +kernel
theorem dX5_at_2 : decode cX5_at 2 = .ok (.putfield 16, 3) := by decide +kernel
theorem dX5_at_5 : decode cX5_at 5 = .ok (.iload_n 1, 1) := by decide +kernel
theorem dX5_at_6 : decode cX5_at 6 = .ok (.invokestatic 63, 3) := by decide +kernel
theorem dX5_at_9 : decode cX5_at 9 = .ok (.ifCond .eq 35, 3) := by decide +kernel
theorem dX5_at_12 : decode cX5_at 12 = .ok (.iload_n 2, 1) := by decide +kernel
theorem dX5_at_13 : decode cX5_at 13 = .ok (.i2l, 1) := by decide +kernel
theorem dX5_at_14 : decode cX5_at 14 = .ok (.lconst 0, 1) := by decide +kernel
theorem dX5_at_15 : decode cX5_at 15 = .ok (.aload_n 0, 1) := by decide +kernel
theorem dX5_at_16 : decode cX5_at 16 = .ok (.getfield 7, 3) := by decide +kernel
theorem dX5_at_19 : decode cX5_at 19 = .ok (.iload_n 1, 1) := by decide +kernel
theorem dX5_at_20 : decode cX5_at 20 = .ok (.iaload, 1) := by decide +kernel
theorem dX5_at_21 : decode cX5_at 21 = .ok (.iconst 1, 1) := by decide +kernel
theorem dX5_at_22 : decode cX5_at 22 = .ok (.isub, 1) := by decide +kernel
theorem dX5_at_23 : decode cX5_at 23 = .ok (.i2l, 1) := by decide +kernel
theorem dX5_at_24 : decode cX5_at 24 = .ok (.invokestatic 24, 3) := by decide +kernel
theorem dX5_at_27 : decode cX5_at 27 = .ok (.ifCond .eq 17, 3) := by decide +kernel
theorem dX5_at_30 : decode cX5_at 30 = .ok (.aload_n 0, 1) := by decide +kernel
theorem dX5_at_31 : decode cX5_at 31 = .ok (.getfield 13, 3) := by decide +kernel
theorem dX5_at_34 : decode cX5_at 34 = .ok (.bipush 6, 2) := by decide +kernel
theorem dX5_at_36 : decode cX5_at 36 = .ok (.iload_n 1, 1) := by decide +kernel
theorem dX5_at_37 : decode cX5_at 37 = .ok (.imul, 1) := by decide +kernel
theorem dX5_at_38 : decode cX5_at 38 = .ok (.iload_n 2, 1) := by decide +kernel
theorem dX5_at_39 : decode cX5_at 39 = .ok (.iadd, 1) := by decide +kernel
theorem dX5_at_40 : decode cX5_at 40 = .ok (.iaload, 1) := by decide +kernel
theorem dX5_at_41 : decode cX5_at 41 = .ok (.goto 4, 3) := by decide +kernel
theorem dX5_at_44 : decode cX5_at 44 = .ok (.iconst 0, 1) := by decide +kernel
theorem dX5_at_45 : decode cX5_at 45 = .ok (.ireturn, 1) := by decide +kernel
theorem dX5_productOf_0 : decode cX5_productOf 0 = .ok (.lconst 1, 1) := by decide +kernel
theorem dX5_productOf_1 : decode cX5_productOf 1 = .ok (.lstore_n 3, 1) := by decide +kernel
theorem dX5_productOf_2 : decode cX5_productOf 2 = .ok (.iconst 0, 1) := by decide +kernel
theorem dX5_productOf_3 : decode cX5_productOf 3 = .ok (.istore 5, 2) := by decide +kernel
theorem dX5_productOf_5 : decode cX5_productOf 5 = .ok (.iload 5, 2) := by decide +kernel
theorem dX5_productOf_7 : decode cX5_productOf 7 = .ok (.iload_n 2, 1) := by decide +kernel
theorem dX5_productOf_8 : decode cX5_productOf 8 = .ok (.if_icmp .ge 25, 3) := by decide +kernel
theorem dX5_productOf_11 : decode cX5_productOf 11 = .ok (.lload_n 3, 1) := by decide +kernel
theorem dX5_productOf_12 : decode cX5_productOf 12 = .ok (.aload_n 0, 1) := by decide +kernel
theorem dX5_productOf_13 : decode cX5_productOf 13 = .ok (.getfield 13, 3) := by decide +kernel
theorem dX5_productOf_16 : decode cX5_productOf 16 = .ok (.bipush 6, 2) := by decide +kernel
theorem dX5_productOf_18 : decode cX5_productOf 18 = .ok (.iload_n 1, 1) := by decide +kernel
theorem dX5_productOf_19 : decode cX5_productOf 19 = .ok (.imul, 1) := by decide +kernel
theorem dX5_productOf_20 : decode cX5_productOf 20 = .ok (.iload 5, 2) := by decide +kernel
theorem dX5_productOf_22 : decode cX5_productOf 22 = .ok (.iadd, 1) := by decide +kernel
theorem dX5_productOf_23 : decode cX5_productOf 23 = .ok (.iaload, 1) := by decide +kernel
theorem dX5_productOf_24 : decode cX5_productOf 24 = .ok (.i2l, 1) := by decide +kernel
theorem dX5_productOf_25 : decode cX5_productOf 25 = .ok (.lmul, 1) := by decide +kernel
theorem dX5_productOf_26 : decode cX5_productOf 26 = .ok (.lstore_n 3, 1) := by decide +kernel
theorem dX5_productOf_27 : decode cX5_productOf 27 = .ok (.iinc 5 1, 3) := by decide +kernel
theorem dX5_productOf_30 : decode cX5_productOf 30 = .ok (.goto (-25), 3) := by decide +kernel
theorem dX5_productOf_33 : decode cX5_productOf 33 = .ok (.lload_n 3, 1) := by decide +kernel
theorem dX5_productOf_34 : decode cX5_productOf 34 = .ok (.lreturn, 1) := by decide +kernel
theorem dX5_isOf_0 : decode cX5_isOf 0 = .ok (.iconst 0, 1) := by decide +kernel
theorem dX5_isOf_1 : decode cX5_isOf 1 = .ok (.istore 4, 2) := by decide +kernel
theorem dX5_isOf_3 : decode cX5_isOf 3 = .ok (.iconst 0, 1) := by decide +kernel
theorem dX5_isOf_4 : decode cX5_isOf 4 = .ok (.istore 5, 2) := by decide +kernel
theorem dX5_isOf_6 : decode cX5_isOf 6 = .ok (.iload 5, 2) := by decide +kernel
theorem dX5_isOf_8 : decode cX5_isOf 8 = .ok (.iload_n 2, 1) := by decide +kernel
theorem dX5_isOf_9 : decode cX5_isOf 9 = .ok (.if_icmp .ge 40, 3) := by decide +kernel
theorem dX5_isOf_12 : decode cX5_isOf 12 = .ok (.iload_n 3, 1) := by decide +kernel
theorem dX5_isOf_13 : decode cX5_isOf 13 = .ok (.ifCond .le 36, 3) := by decide +kernel
theorem dX5_isOf_16 : decode cX5_isOf 16 = .ok (.iload 4, 2) := by decide +kernel
theorem dX5_isOf_18 : decode cX5_isOf 18 = .ok (.aload_n 0, 1) := by decide +kernel
theorem dX5_isOf_19 : decode cX5_isOf 19 = .ok (.getfield 13, 3) := by decide +kernel
theorem dX5_isOf_22 : decode cX5_isOf 22 = .ok (.bipush 6, 2) := by decide +kernel
theorem dX5_isOf_24 : decode cX5_isOf 24 = .ok (.iload_n 1, 1) := by decide +kernel
theorem dX5_isOf_25 : decode cX5_isOf 25 = .ok (.imul, 1) := by decide +kernel
theorem dX5_isOf_26 : decode cX5_isOf 26 = .ok (.iload 5, 2) := by decide +kernel
theorem dX5_isOf_28 : decode cX5_isOf 28 = .ok (.iadd, 1) := by decide +kernel
theorem dX5_isOf_29 : decode cX5_isOf 29 = .ok (.iaload, 1) := by decide +kernel
theorem dX5_isOf_30 : decode cX5_isOf 30 = .ok (.iload_n 3, 1) := by decide +kernel
theorem dX5_isOf_31 : decode cX5_isOf 31 = .ok (.irem, 1) := by decide +kernel
theorem dX5_isOf_32 : decode cX5_isOf 32 = .ok (.ifCond .ne 7, 3) := by decide +kernel
theorem dX5_isOf_35 : decode cX5_isOf 35 = .ok (.iconst 1, 1) := by decide +kernel
theorem dX5_isOf_36 : decode cX5_isOf 36 = .ok (.goto 4, 3) := by decide +kernel
theorem dX5_isOf_39 : decode cX5_isOf 39 = .ok (.iconst 0, 1) := by decide +kernel
theorem dX5_isOf_40 : decode cX5_isOf 40 = .ok (.ior, 1) := by decide +kernel
theorem dX5_isOf_41 : decode cX5_isOf 41 = .ok (.istore 4, 2) := by decide +kernel
theorem dX5_isOf_43 : decode cX5_isOf 43 = .ok (.iinc 5 1, 3) := by decide +kernel
theorem dX5_isOf_46 : decode cX5_isOf 46 = .ok (.goto (-40), 3) := by decide +kernel
theorem dX5_isOf_49 : decode cX5_isOf 49 = .ok (.iload 4, 2) := by decide +kernel
theorem dX5_isOf_51 : decode cX5_isOf 51 = .ok (.ireturn, 1) := by decide +kernel
theorem dX5_freeOf_0 : decode cX5_freeOf 0 = .ok (.aload_n 0, 1) := by decide +kernel
theorem dX5_freeOf_1 : decode cX5_freeOf 1 = .ok (.iload_n 1, 1) := by decide +kernel
theorem dX5_freeOf_2 : decode cX5_freeOf 2 = .ok (.aload_n 0, 1) := by decide +kernel
theorem dX5_freeOf_3 : decode cX5_freeOf 3 = .ok (.getfield 7, 3) := by decide +kernel
theorem dX5_freeOf_6 : decode cX5_freeOf 6 = .ok (.iload_n 1, 1) := by decide +kernel
theorem dX5_freeOf_7 : decode cX5_freeOf 7 = .ok (.iaload, 1) := by decide +kernel
theorem dX5_freeOf_8 : decode cX5_freeOf 8 = .ok (.invokevirtual 68, 3) := by decide +kernel
theorem dX5_freeOf_11 : decode cX5_freeOf 11 = .ok (.lstore_n 2, 1) := by decide +kernel
theorem dX5_freeOf_12 : decode cX5_freeOf 12 = .ok (.iconst 2, 1) := by decide +kernel
theorem dX5_freeOf_13 : decode cX5_freeOf 13 = .ok (.istore 4, 2) := by decide +kernel
theorem dX5_freeOf_15 : decode cX5_freeOf 15 = .ok (.iload 4, 2) := by decide +kernel
theorem dX5_freeOf_17 : decode cX5_freeOf 17 = .ok (.sipush 398, 3) := by decide +kernel
theorem dX5_freeOf_20 : decode cX5_freeOf 20 = .ok (.if_icmp .ge 34, 3) := by decide +kernel
theorem dX5_freeOf_23 : decode cX5_freeOf 23 = .ok (.lload_n 2, 1) := by decide +kernel
theorem dX5_freeOf_24 : decode cX5_freeOf 24 = .ok (.iload 4, 2) := by decide +kernel
theorem dX5_freeOf_26 : decode cX5_freeOf 26 = .ok (.iload 4, 2) := by decide +kernel
theorem dX5_freeOf_28 : decode cX5_freeOf 28 = .ok (.imul, 1) := by decide +kernel
theorem dX5_freeOf_29 : decode cX5_freeOf 29 = .ok (.i2l, 1) := by decide +kernel
theorem dX5_freeOf_30 : decode cX5_freeOf 30 = .ok (.lrem, 1) := by decide +kernel
theorem dX5_freeOf_31 : decode cX5_freeOf 31 = .ok (.lconst 0, 1) := by decide +kernel
theorem dX5_freeOf_32 : decode cX5_freeOf 32 = .ok (.lcmp, 1) := by decide +kernel
theorem dX5_freeOf_33 : decode cX5_freeOf 33 = .ok (.ifCond .ne 15, 3) := by decide +kernel
theorem dX5_freeOf_36 : decode cX5_freeOf 36 = .ok (.lload_n 2, 1) := by decide +kernel
theorem dX5_freeOf_37 : decode cX5_freeOf 37 = .ok (.iload 4, 2) := by decide +kernel
theorem dX5_freeOf_39 : decode cX5_freeOf 39 = .ok (.iload 4, 2) := by decide +kernel
theorem dX5_freeOf_41 : decode cX5_freeOf 41 = .ok (.imul, 1) := by decide +kernel
theorem dX5_freeOf_42 : decode cX5_freeOf 42 = .ok (.i2l, 1) := by decide +kernel
theorem dX5_freeOf_43 : decode cX5_freeOf 43 = .ok (.ldiv, 1) := by decide +kernel
theorem dX5_freeOf_44 : decode cX5_freeOf 44 = .ok (.lstore_n 2, 1) := by decide +kernel
theorem dX5_freeOf_45 : decode cX5_freeOf 45 = .ok (.goto (-22), 3) := by decide +kernel
theorem dX5_freeOf_48 : decode cX5_freeOf 48 = .ok (.iinc 4 1, 3) := by decide +kernel
theorem dX5_freeOf_51 : decode cX5_freeOf 51 = .ok (.goto (-36), 3) := by decide +kernel
theorem dX5_freeOf_54 : decode cX5_freeOf 54 = .ok (.lload_n 2, 1) := by decide +kernel
theorem dX5_freeOf_55 : decode cX5_freeOf 55 = .ok (.lreturn, 1) := by decide +kernel
theorem dX5_whole_0 : decode cX5_whole 0 = .ok (.aload_n 0, 1) := by decide +kernel
theorem dX5_whole_1 : decode cX5_whole 1 = .ok (.iconst 0, 1) := by decide +kernel
theorem dX5_whole_2 : decode cX5_whole 2 = .ok (.putfield 16, 3) := by decide +kernel
theorem dX5_whole_5 : decode cX5_whole 5 = .ok (.iload_n 1, 1) := by decide +kernel
theorem dX5_whole_6 : decode cX5_whole 6 = .ok (.invokestatic 63, 3) := by decide +kernel
theorem dX5_whole_9 : decode cX5_whole 9 = .ok (.ifCond .eq 13, 3) := by decide +kernel
theorem dX5_whole_12 : decode cX5_whole 12 = .ok (.iload_n 2, 1) := by decide +kernel
theorem dX5_whole_13 : decode cX5_whole 13 = .ok (.i2l, 1) := by decide +kernel
theorem dX5_whole_14 : decode cX5_whole 14 = .ok (.lconst 0, 1) := by decide +kernel
theorem dX5_whole_15 : decode cX5_whole 15 = .ok (.lconst 1, 1) := by decide +kernel
theorem dX5_whole_16 : decode cX5_whole 16 = .ok (.invokestatic 24, 3) := by decide +kernel
theorem dX5_whole_19 : decode cX5_whole 19 = .ok (.ifCond .ne 5, 3) := by decide +kernel
theorem dX5_whole_22 : decode cX5_whole 22 = .ok (.lconst 0, 1) := by decide +kernel
theorem dX5_whole_23 : decode cX5_whole 23 = .ok (.lreturn, 1) := by decide +kernel
theorem dX5_whole_24 : decode cX5_whole 24 = .ok (.iload_n 2, 1) := by decide +kernel
theorem dX5_whole_25 : decode cX5_whole 25 = .ok (.ifCond .ne 17, 3) := by decide +kernel
theorem dX5_whole_28 : decode cX5_whole 28 = .ok (.aload_n 0, 1) := by decide +kernel
theorem dX5_whole_29 : decode cX5_whole 29 = .ok (.iload_n 1, 1) := by decide +kernel
theorem dX5_whole_30 : decode cX5_whole 30 = .ok (.aload_n 0, 1) := by decide +kernel
theorem dX5_whole_31 : decode cX5_whole 31 = .ok (.getfield 7, 3) := by decide +kernel
theorem dX5_whole_34 : decode cX5_whole 34 = .ok (.iload_n 1, 1) := by decide +kernel
theorem dX5_whole_35 : decode cX5_whole 35 = .ok (.iaload, 1) := by decide +kernel
theorem dX5_whole_36 : decode cX5_whole 36 = .ok (.invokevirtual 68, 3) := by decide +kernel
theorem dX5_whole_39 : decode cX5_whole 39 = .ok (.goto 8, 3) := by decide +kernel
theorem dX5_whole_42 : decode cX5_whole 42 = .ok (.aload_n 0, 1) := by decide +kernel
theorem dX5_whole_43 : decode cX5_whole 43 = .ok (.iload_n 1, 1) := by decide +kernel
theorem dX5_whole_44 : decode cX5_whole 44 = .ok (.invokevirtual 72, 3) := by decide +kernel
theorem dX5_whole_47 : decode cX5_whole 47 = .ok (.lreturn, 1) := by decide +kernel
theorem dX5_holdOf_0 : decode cX5_holdOf 0 = .ok (.iconst 1, 1) := by decide +kernel
theorem dX5_holdOf_1 : decode cX5_holdOf 1 = .ok (.istore 4, 2) := by decide +kernel
theorem dX5_holdOf_3 : decode cX5_holdOf 3 = .ok (.iconst 0, 1) := by decide +kernel
theorem dX5_holdOf_4 : decode cX5_holdOf 4 = .ok (.istore 5, 2) := by decide +kernel
theorem dX5_holdOf_6 : decode cX5_holdOf 6 = .ok (.iload 5, 2) := by decide +kernel
theorem dX5_holdOf_8 : decode cX5_holdOf 8 = .ok (.iload_n 2, 1) := by decide +kernel
theorem dX5_holdOf_9 : decode cX5_holdOf 9 = .ok (.if_icmp .ge 61, 3) := by decide +kernel
theorem dX5_holdOf_12 : decode cX5_holdOf 12 = .ok (.iconst 0, 1) := by decide +kernel
theorem dX5_holdOf_13 : decode cX5_holdOf 13 = .ok (.istore 6, 2) := by decide +kernel
theorem dX5_holdOf_15 : decode cX5_holdOf 15 = .ok (.iload 6, 2) := by decide +kernel
theorem dX5_holdOf_17 : decode cX5_holdOf 17 = .ok (.iload 5, 2) := by decide +kernel
theorem dX5_holdOf_19 : decode cX5_holdOf 19 = .ok (.if_icmp .ge 45, 3) := by decide +kernel
theorem dX5_holdOf_22 : decode cX5_holdOf 22 = .ok (.iload 4, 2) := by decide +kernel
theorem dX5_holdOf_24 : decode cX5_holdOf 24 = .ok (.aload_n 0, 1) := by decide +kernel
theorem dX5_holdOf_25 : decode cX5_holdOf 25 = .ok (.aload_n 0, 1) := by decide +kernel
theorem dX5_holdOf_26 : decode cX5_holdOf 26 = .ok (.getfield 13, 3) := by decide +kernel
theorem dX5_holdOf_29 : decode cX5_holdOf 29 = .ok (.bipush 6, 2) := by decide +kernel
theorem dX5_holdOf_31 : decode cX5_holdOf 31 = .ok (.iload_n 1, 1) := by decide +kernel
theorem dX5_holdOf_32 : decode cX5_holdOf 32 = .ok (.imul, 1) := by decide +kernel
theorem dX5_holdOf_33 : decode cX5_holdOf 33 = .ok (.iload 5, 2) := by decide +kernel
theorem dX5_holdOf_35 : decode cX5_holdOf 35 = .ok (.iadd, 1) := by decide +kernel
theorem dX5_holdOf_36 : decode cX5_holdOf 36 = .ok (.iaload, 1) := by decide +kernel
theorem dX5_holdOf_37 : decode cX5_holdOf 37 = .ok (.i2l, 1) := by decide +kernel
theorem dX5_holdOf_38 : decode cX5_holdOf 38 = .ok (.aload_n 0, 1) := by decide +kernel
theorem dX5_holdOf_39 : decode cX5_holdOf 39 = .ok (.getfield 13, 3) := by decide +kernel
theorem dX5_holdOf_42 : decode cX5_holdOf 42 = .ok (.bipush 6, 2) := by decide +kernel
theorem dX5_holdOf_44 : decode cX5_holdOf 44 = .ok (.iload_n 1, 1) := by decide +kernel
theorem dX5_holdOf_45 : decode cX5_holdOf 45 = .ok (.imul, 1) := by decide +kernel
theorem dX5_holdOf_46 : decode cX5_holdOf 46 = .ok (.iload 6, 2) := by decide +kernel
theorem dX5_holdOf_48 : decode cX5_holdOf 48 = .ok (.iadd, 1) := by decide +kernel
theorem dX5_holdOf_49 : decode cX5_holdOf 49 = .ok (.iaload, 1) := by decide +kernel
theorem dX5_holdOf_50 : decode cX5_holdOf 50 = .ok (.i2l, 1) := by decide +kernel
theorem dX5_holdOf_51 : decode cX5_holdOf 51 = .ok (.iload_n 3, 1) := by decide +kernel
theorem dX5_holdOf_52 : decode cX5_holdOf 52 = .ok (.invokevirtual 57, 3) := by decide +kernel
theorem dX5_holdOf_55 : decode cX5_holdOf 55 = .ok (.imul, 1) := by decide +kernel
theorem dX5_holdOf_56 : decode cX5_holdOf 56 = .ok (.istore 4, 2) := by decide +kernel
theorem dX5_holdOf_58 : decode cX5_holdOf 58 = .ok (.iinc 6 1, 3) := by decide +kernel
theorem dX5_holdOf_61 : decode cX5_holdOf 61 = .ok (.goto (-46), 3) := by decide +kernel
theorem dX5_holdOf_64 : decode cX5_holdOf 64 = .ok (.iinc 5 1, 3) := by decide +kernel
theorem dX5_holdOf_67 : decode cX5_holdOf 67 = .ok (.goto (-61), 3) := by decide +kernel
theorem dX5_holdOf_70 : decode cX5_holdOf 70 = .ok (.iload 4, 2) := by decide +kernel
theorem dX5_holdOf_72 : decode cX5_holdOf 72 = .ok (.ireturn, 1) := by decide +kernel
theorem dX5_hold_0 : decode cX5_hold 0 = .ok (.aload_n 0, 1) := by decide +kernel
theorem dX5_hold_1 : decode cX5_hold 1 = .ok (.iconst 0, 1) := by decide +kernel
theorem dX5_hold_2 : decode cX5_hold 2 = .ok (.putfield 16, 3) := by decide +kernel
theorem dX5_hold_5 : decode cX5_hold 5 = .ok (.iload_n 1, 1) := by decide +kernel
theorem dX5_hold_6 : decode cX5_hold 6 = .ok (.invokestatic 63, 3) := by decide +kernel
theorem dX5_hold_9 : decode cX5_hold 9 = .ok (.ifCond .eq 25, 3) := by decide +kernel
theorem dX5_hold_12 : decode cX5_hold 12 = .ok (.iload_n 2, 1) := by decide +kernel
theorem dX5_hold_13 : decode cX5_hold 13 = .ok (.invokestatic 54, 3) := by decide +kernel
theorem dX5_hold_16 : decode cX5_hold 16 = .ok (.ifCond .eq 18, 3) := by decide +kernel
theorem dX5_hold_19 : decode cX5_hold 19 = .ok (.aload_n 0, 1) := by decide +kernel
theorem dX5_hold_20 : decode cX5_hold 20 = .ok (.iload_n 1, 1) := by decide +kernel
theorem dX5_hold_21 : decode cX5_hold 21 = .ok (.aload_n 0, 1) := by decide +kernel
theorem dX5_hold_22 : decode cX5_hold 22 = .ok (.getfield 7, 3) := by decide +kernel
theorem dX5_hold_25 : decode cX5_hold 25 = .ok (.iload_n 1, 1) := by decide +kernel
theorem dX5_hold_26 : decode cX5_hold 26 = .ok (.iaload, 1) := by decide +kernel
theorem dX5_hold_27 : decode cX5_hold 27 = .ok (.iload_n 2, 1) := by decide +kernel
theorem dX5_hold_28 : decode cX5_hold 28 = .ok (.invokevirtual 76, 3) := by decide +kernel
theorem dX5_hold_31 : decode cX5_hold 31 = .ok (.goto 5, 3) := by decide +kernel
theorem dX5_hold_34 : decode cX5_hold 34 = .ok (.bipush (-3), 2) := by decide +kernel
theorem dX5_hold_36 : decode cX5_hold 36 = .ok (.ireturn, 1) := by decide +kernel
theorem dX5_isSquare_0 : decode cX5_isSquare 0 = .ok (.iload_n 3, 1) := by decide +kernel
theorem dX5_isSquare_1 : decode cX5_isSquare 1 = .ok (.ifCond .ne 15, 3) := by decide +kernel
theorem dX5_isSquare_4 : decode cX5_isSquare 4 = .ok (.lload_n 1, 1) := by decide +kernel
theorem dX5_isSquare_5 : decode cX5_isSquare 5 = .ok (.lconst 0, 1) := by decide +kernel
theorem dX5_isSquare_6 : decode cX5_isSquare 6 = .ok (.lcmp, 1) := by decide +kernel
theorem dX5_isSquare_7 : decode cX5_isSquare 7 = .ok (.ifCond .le 7, 3) := by decide +kernel
theorem dX5_isSquare_10 : decode cX5_isSquare 10 = .ok (.iconst 1, 1) := by decide +kernel
theorem dX5_isSquare_11 : decode cX5_isSquare 11 = .ok (.goto 4, 3) := by decide +kernel
theorem dX5_isSquare_14 : decode cX5_isSquare 14 = .ok (.iconst 0, 1) := by decide +kernel
theorem dX5_isSquare_15 : decode cX5_isSquare 15 = .ok (.ireturn, 1) := by decide +kernel
theorem dX5_isSquare_16 : decode cX5_isSquare 16 = .ok (.aload_n 0, 1) := by decide +kernel
theorem dX5_isSquare_17 : decode cX5_isSquare 17 = .ok (.lload_n 1, 1) := by decide +kernel
theorem dX5_isSquare_18 : decode cX5_isSquare 18 = .ok (.iload_n 3, 1) := by decide +kernel
theorem dX5_isSquare_19 : decode cX5_isSquare 19 = .ok (.invokevirtual 37, 3) := by decide +kernel
theorem dX5_isSquare_22 : decode cX5_isSquare 22 = .ok (.lstore 4, 2) := by decide +kernel
theorem dX5_isSquare_24 : decode cX5_isSquare 24 = .ok (.aload_n 0, 1) := by decide +kernel
theorem dX5_isSquare_25 : decode cX5_isSquare 25 = .ok (.getfield 32, 3) := by decide +kernel
theorem dX5_isSquare_28 : decode cX5_isSquare 28 = .ok (.iconst 2, 1) := by decide +kernel
theorem dX5_isSquare_29 : decode cX5_isSquare 29 = .ok (.irem, 1) := by decide +kernel
theorem dX5_isSquare_30 : decode cX5_isSquare 30 = .ok (.ifCond .ne 34, 3) := by decide +kernel
theorem dX5_isSquare_33 : decode cX5_isSquare 33 = .ok (.iload_n 3, 1) := by decide +kernel
theorem dX5_isSquare_34 : decode cX5_isSquare 34 = .ok (.iconst 2, 1) := by decide +kernel
theorem dX5_isSquare_35 : decode cX5_isSquare 35 = .ok (.if_icmp .ne 15, 3) := by decide +kernel
theorem dX5_isSquare_38 : decode cX5_isSquare 38 = .ok (.lload 4, 2) := by decide +kernel
theorem dX5_isSquare_40 : decode cX5_isSquare 40 = .ok (.invokestatic 41, 3) := by decide +kernel
theorem dX5_isSquare_43 : decode cX5_isSquare 43 = .ok (.iconst 1, 1) := by decide +kernel
theorem dX5_isSquare_44 : decode cX5_isSquare 44 = .ok (.if_icmp .ne 20, 3) := by decide +kernel
theorem dX5_isSquare_47 : decode cX5_isSquare 47 = .ok (.goto 13, 3) := by decide +kernel
theorem dX5_isSquare_50 : decode cX5_isSquare 50 = .ok (.lload 4, 2) := by decide +kernel
theorem dX5_isSquare_52 : decode cX5_isSquare 52 = .ok (.iload_n 3, 1) := by decide +kernel
theorem dX5_isSquare_53 : decode cX5_isSquare 53 = .ok (.invokestatic 45, 3) := by decide +kernel
theorem dX5_isSquare_56 : decode cX5_isSquare 56 = .ok (.iconst 1, 1) := by decide +kernel
theorem dX5_isSquare_57 : decode cX5_isSquare 57 = .ok (.if_icmp .ne 7, 3) := by decide +kernel
theorem dX5_isSquare_60 : decode cX5_isSquare 60 = .ok (.iconst 1, 1) := by decide +kernel
theorem dX5_isSquare_61 : decode cX5_isSquare 61 = .ok (.goto 4, 3) := by decide +kernel
theorem dX5_isSquare_64 : decode cX5_isSquare 64 = .ok (.iconst 0, 1) := by decide +kernel
theorem dX5_isSquare_65 : decode cX5_isSquare 65 = .ok (.ireturn, 1) := by decide +kernel
theorem dX5_aboveOf_0 : decode cX5_aboveOf 0 = .ok (.iconst 0, 1) := by decide +kernel
theorem dX5_aboveOf_1 : decode cX5_aboveOf 1 = .ok (.istore_n 3, 1) := by decide +kernel
theorem dX5_aboveOf_2 : decode cX5_aboveOf 2 = .ok (.iconst 0, 1) := by decide +kernel
theorem dX5_aboveOf_3 : decode cX5_aboveOf 3 = .ok (.istore 4, 2) := by decide +kernel
theorem dX5_aboveOf_5 : decode cX5_aboveOf 5 = .ok (.iload 4, 2) := by decide +kernel
theorem dX5_aboveOf_7 : decode cX5_aboveOf 7 = .ok (.iload_n 2, 1) := by decide +kernel
theorem dX5_aboveOf_8 : decode cX5_aboveOf 8 = .ok (.if_icmp .ge 32, 3) := by decide +kernel
theorem dX5_aboveOf_11 : decode cX5_aboveOf 11 = .ok (.iload_n 3, 1) := by decide +kernel
theorem dX5_aboveOf_12 : decode cX5_aboveOf 12 = .ok (.aload_n 0, 1) := by decide +kernel
theorem dX5_aboveOf_13 : decode cX5_aboveOf 13 = .ok (.getfield 13, 3) := by decide +kernel
theorem dX5_aboveOf_16 : decode cX5_aboveOf 16 = .ok (.bipush 6, 2) := by decide +kernel
theorem dX5_aboveOf_18 : decode cX5_aboveOf 18 = .ok (.iload_n 1, 1) := by decide +kernel
theorem dX5_aboveOf_19 : decode cX5_aboveOf 19 = .ok (.imul, 1) := by decide +kernel
theorem dX5_aboveOf_20 : decode cX5_aboveOf 20 = .ok (.iload 4, 2) := by decide +kernel
theorem dX5_aboveOf_22 : decode cX5_aboveOf 22 = .ok (.iadd, 1) := by decide +kernel
theorem dX5_aboveOf_23 : decode cX5_aboveOf 23 = .ok (.iaload, 1) := by decide +kernel
theorem dX5_aboveOf_24 : decode cX5_aboveOf 24 = .ok (.ifCond .le 7, 3) := by decide +kernel
theorem dX5_aboveOf_27 : decode cX5_aboveOf 27 = .ok (.iconst 1, 1) := by decide +kernel
theorem dX5_aboveOf_28 : decode cX5_aboveOf 28 = .ok (.goto 4, 3) := by decide +kernel
theorem dX5_aboveOf_31 : decode cX5_aboveOf 31 = .ok (.iconst 0, 1) := by decide +kernel
theorem dX5_aboveOf_32 : decode cX5_aboveOf 32 = .ok (.iadd, 1) := by decide +kernel
theorem dX5_aboveOf_33 : decode cX5_aboveOf 33 = .ok (.istore_n 3, 1) := by decide +kernel
theorem dX5_aboveOf_34 : decode cX5_aboveOf 34 = .ok (.iinc 4 1, 3) := by decide +kernel
theorem dX5_aboveOf_37 : decode cX5_aboveOf 37 = .ok (.goto (-32), 3) := by decide +kernel
theorem dX5_aboveOf_40 : decode cX5_aboveOf 40 = .ok (.iload_n 3, 1) := by decide +kernel
theorem dX5_aboveOf_41 : decode cX5_aboveOf 41 = .ok (.ireturn, 1) := by decide +kernel
theorem dX5_isGoing_0 : decode cX5_isGoing 0 = .ok (.iload_n 2, 1) := by decide +kernel
theorem dX5_isGoing_1 : decode cX5_isGoing 1 = .ok (.iconst 1, 1) := by decide +kernel
theorem dX5_isGoing_2 : decode cX5_isGoing 2 = .ok (.if_icmp .ne 5, 3) := by decide +kernel
theorem dX5_isGoing_5 : decode cX5_isGoing 5 = .ok (.iconst 0, 1) := by decide +kernel
theorem dX5_isGoing_6 : decode cX5_isGoing 6 = .ok (.ireturn, 1) := by decide +kernel
theorem dX5_isGoing_7 : decode cX5_isGoing 7 = .ok (.iload_n 3, 1) := by decide +kernel
theorem dX5_isGoing_8 : decode cX5_isGoing 8 = .ok (.ifCond .ne 20, 3) := by decide +kernel
theorem dX5_isGoing_11 : decode cX5_isGoing 11 = .ok (.aload_n 0, 1) := by decide +kernel
theorem dX5_isGoing_12 : decode cX5_isGoing 12 = .ok (.iload_n 1, 1) := by decide +kernel
theorem dX5_isGoing_13 : decode cX5_isGoing 13 = .ok (.iload_n 2, 1) := by decide +kernel
theorem dX5_isGoing_14 : decode cX5_isGoing 14 = .ok (.invokevirtual 80, 3) := by decide +kernel
theorem dX5_isGoing_17 : decode cX5_isGoing 17 = .ok (.iload_n 2, 1) := by decide +kernel
theorem dX5_isGoing_18 : decode cX5_isGoing 18 = .ok (.irem, 1) := by decide +kernel
theorem dX5_isGoing_19 : decode cX5_isGoing 19 = .ok (.ifCond .eq 7, 3) := by decide +kernel
theorem dX5_isGoing_22 : decode cX5_isGoing 22 = .ok (.iconst 1, 1) := by decide +kernel
theorem dX5_isGoing_23 : decode cX5_isGoing 23 = .ok (.goto 4, 3) := by decide +kernel
theorem dX5_isGoing_26 : decode cX5_isGoing 26 = .ok (.iconst 0, 1) := by decide +kernel
theorem dX5_isGoing_27 : decode cX5_isGoing 27 = .ok (.ireturn, 1) := by decide +kernel
theorem dX5_isGoing_28 : decode cX5_isGoing 28 = .ok (.iload_n 2, 1) := by decide +kernel
theorem dX5_isGoing_29 : decode cX5_isGoing 29 = .ok (.iconst 4, 1) := by decide +kernel
theorem dX5_isGoing_30 : decode cX5_isGoing 30 = .ok (.if_icmp .le 5, 3) := by decide +kernel
theorem dX5_isGoing_33 : decode cX5_isGoing 33 = .ok (.iconst 1, 1) := by decide +kernel
theorem dX5_isGoing_34 : decode cX5_isGoing 34 = .ok (.ireturn, 1) := by decide +kernel
theorem dX5_isGoing_35 : decode cX5_isGoing 35 = .ok (.aload_n 0, 1) := by decide +kernel
theorem dX5_isGoing_36 : decode cX5_isGoing 36 = .ok (.iload_n 1, 1) := by decide +kernel
theorem dX5_isGoing_37 : decode cX5_isGoing 37 = .ok (.iload_n 2, 1) := by decide +kernel
theorem dX5_isGoing_38 : decode cX5_isGoing 38 = .ok (.invokevirtual 68, 3) := by decide +kernel
theorem dX5_isGoing_41 : decode cX5_isGoing 41 = .ok (.lstore 4, 2) := by decide +kernel
theorem dX5_isGoing_43 : decode cX5_isGoing 43 = .ok (.iload_n 2, 1) := by decide +kernel
theorem dX5_isGoing_44 : decode cX5_isGoing 44 = .ok (.iconst 2, 1) := by decide +kernel
theorem dX5_isGoing_45 : decode cX5_isGoing 45 = .ok (.if_icmp .ne 12, 3) := by decide +kernel
theorem dX5_isGoing_48 : decode cX5_isGoing 48 = .ok (.aload_n 0, 1) := by decide +kernel
theorem dX5_isGoing_49 : decode cX5_isGoing 49 = .ok (.lload 4, 2) := by decide +kernel
theorem dX5_isGoing_51 : decode cX5_isGoing 51 = .ok (.lneg, 1) := by decide +kernel
theorem dX5_isGoing_52 : decode cX5_isGoing 52 = .ok (.iload_n 3, 1) := by decide +kernel
theorem dX5_isGoing_53 : decode cX5_isGoing 53 = .ok (.invokevirtual 84, 3) := by decide +kernel
theorem dX5_isGoing_56 : decode cX5_isGoing 56 = .ok (.ireturn, 1) := by decide +kernel
theorem dX5_isGoing_57 : decode cX5_isGoing 57 = .ok (.aload_n 0, 1) := by decide +kernel
theorem dX5_isGoing_58 : decode cX5_isGoing 58 = .ok (.iload_n 1, 1) := by decide +kernel
theorem dX5_isGoing_59 : decode cX5_isGoing 59 = .ok (.iload_n 2, 1) := by decide +kernel
theorem dX5_isGoing_60 : decode cX5_isGoing 60 = .ok (.iload_n 3, 1) := by decide +kernel
theorem dX5_isGoing_61 : decode cX5_isGoing 61 = .ok (.invokevirtual 76, 3) := by decide +kernel
theorem dX5_isGoing_64 : decode cX5_isGoing 64 = .ok (.istore 6, 2) := by decide +kernel
theorem dX5_isGoing_66 : decode cX5_isGoing 66 = .ok (.iload_n 2, 1) := by decide +kernel
theorem dX5_isGoing_67 : decode cX5_isGoing 67 = .ok (.iconst 3, 1) := by decide +kernel
theorem dX5_isGoing_68 : decode cX5_isGoing 68 = .ok (.if_icmp .ne 27, 3) := by decide +kernel
theorem dX5_isGoing_71 : decode cX5_isGoing 71 = .ok (.iload 6, 2) := by decide +kernel
theorem dX5_isGoing_73 : decode cX5_isGoing 73 = .ok (.aload_n 0, 1) := by decide +kernel
theorem dX5_isGoing_74 : decode cX5_isGoing 74 = .ok (.ldc2_w 88, 3) := by decide +kernel
theorem dX5_isGoing_77 : decode cX5_isGoing 77 = .ok (.lload 4, 2) := by decide +kernel
theorem dX5_isGoing_79 : decode cX5_isGoing 79 = .ok (.lneg, 1) := by decide +kernel
theorem dX5_isGoing_80 : decode cX5_isGoing 80 = .ok (.iload_n 3, 1) := by decide +kernel
theorem dX5_isGoing_81 : decode cX5_isGoing 81 = .ok (.invokevirtual 57, 3) := by decide +kernel
theorem dX5_isGoing_84 : decode cX5_isGoing 84 = .ok (.if_icmp .ne 7, 3) := by decide +kernel
theorem dX5_isGoing_87 : decode cX5_isGoing 87 = .ok (.iconst 1, 1) := by decide +kernel
theorem dX5_isGoing_88 : decode cX5_isGoing 88 = .ok (.goto 38, 3) := by decide +kernel
theorem dX5_isGoing_91 : decode cX5_isGoing 91 = .ok (.iconst 0, 1) := by decide +kernel
theorem dX5_isGoing_92 : decode cX5_isGoing 92 = .ok (.goto 34, 3) := by decide +kernel
theorem dX5_isGoing_95 : decode cX5_isGoing 95 = .ok (.aload_n 0, 1) := by decide +kernel
theorem dX5_isGoing_96 : decode cX5_isGoing 96 = .ok (.lload 4, 2) := by decide +kernel
theorem dX5_isGoing_98 : decode cX5_isGoing 98 = .ok (.iload_n 3, 1) := by decide +kernel
theorem dX5_isGoing_99 : decode cX5_isGoing 99 = .ok (.invokevirtual 84, 3) := by decide +kernel
theorem dX5_isGoing_102 : decode cX5_isGoing 102 = .ok (.ifCond .eq 19, 3) := by decide +kernel
theorem dX5_isGoing_105 : decode cX5_isGoing 105 = .ok (.iload 6, 2) := by decide +kernel
theorem dX5_isGoing_107 : decode cX5_isGoing 107 = .ok (.aload_n 0, 1) := by decide +kernel
theorem dX5_isGoing_108 : decode cX5_isGoing 108 = .ok (.ldc2_w 88, 3) := by decide +kernel
theorem dX5_isGoing_111 : decode cX5_isGoing 111 = .ok (.ldc2_w 88, 3) := by decide +kernel
theorem dX5_isGoing_114 : decode cX5_isGoing 114 = .ok (.iload_n 3, 1) := by decide +kernel
theorem dX5_isGoing_115 : decode cX5_isGoing 115 = .ok (.invokevirtual 57, 3) := by decide +kernel
theorem dX5_isGoing_118 : decode cX5_isGoing 118 = .ok (.if_icmp .ne 7, 3) := by decide +kernel
theorem dX5_isGoing_121 : decode cX5_isGoing 121 = .ok (.iconst 1, 1) := by decide +kernel
theorem dX5_isGoing_122 : decode cX5_isGoing 122 = .ok (.goto 4, 3) := by decide +kernel
theorem dX5_isGoing_125 : decode cX5_isGoing 125 = .ok (.iconst 0, 1) := by decide +kernel
theorem dX5_isGoing_126 : decode cX5_isGoing 126 = .ok (.ireturn, 1) := by decide +kernel
theorem dX5_goes_0 : decode cX5_goes 0 = .ok (.aload_n 0, 1) := by decide +kernel
theorem dX5_goes_1 : decode cX5_goes 1 = .ok (.iconst 0, 1) := by decide +kernel
theorem dX5_goes_2 : decode cX5_goes 2 = .ok (.putfield 16, 3) := by decide +kernel
theorem dX5_goes_5 : decode cX5_goes 5 = .ok (.iload_n 1, 1) := by decide +kernel
theorem dX5_goes_6 : decode cX5_goes 6 = .ok (.invokestatic 63, 3) := by decide +kernel
theorem dX5_goes_9 : decode cX5_goes 9 = .ok (.ifCond .eq 10, 3) := by decide +kernel
theorem dX5_goes_12 : decode cX5_goes 12 = .ok (.iload_n 2, 1) := by decide +kernel
theorem dX5_goes_13 : decode cX5_goes 13 = .ok (.invokestatic 54, 3) := by decide +kernel
theorem dX5_goes_16 : decode cX5_goes 16 = .ok (.ifCond .ne 8, 3) := by decide +kernel
theorem dX5_goes_19 : decode cX5_goes 19 = .ok (.bipush (-3), 2) := by decide +kernel
theorem dX5_goes_21 : decode cX5_goes 21 = .ok (.goto 23, 3) := by decide +kernel
theorem dX5_goes_24 : decode cX5_goes 24 = .ok (.aload_n 0, 1) := by decide +kernel
theorem dX5_goes_25 : decode cX5_goes 25 = .ok (.iload_n 1, 1) := by decide +kernel
theorem dX5_goes_26 : decode cX5_goes 26 = .ok (.aload_n 0, 1) := by decide +kernel
theorem dX5_goes_27 : decode cX5_goes 27 = .ok (.getfield 7, 3) := by decide +kernel
theorem dX5_goes_30 : decode cX5_goes 30 = .ok (.iload_n 1, 1) := by decide +kernel
theorem dX5_goes_31 : decode cX5_goes 31 = .ok (.iaload, 1) := by decide +kernel
theorem dX5_goes_32 : decode cX5_goes 32 = .ok (.iload_n 2, 1) := by decide +kernel
theorem dX5_goes_33 : decode cX5_goes 33 = .ok (.invokevirtual 90, 3) := by decide +kernel
theorem dX5_goes_36 : decode cX5_goes 36 = .ok (.ifCond .eq 7, 3) := by decide +kernel
theorem dX5_goes_39 : decode cX5_goes 39 = .ok (.iconst 1, 1) := by decide +kernel
theorem dX5_goes_40 : decode cX5_goes 40 = .ok (.goto 4, 3) := by decide +kernel
theorem dX5_goes_43 : decode cX5_goes 43 = .ok (.iconst 0, 1) := by decide +kernel
theorem dX5_goes_44 : decode cX5_goes 44 = .ok (.ireturn, 1) := by decide +kernel
theorem dX5_isWholeSquare_0 : decode cX5_isWholeSquare 0 = .ok (.lconst 0, 1) := by decide +kernel
theorem dX5_isWholeSquare_1 : decode cX5_isWholeSquare 1 = .ok (.lstore_n 2, 1) := by decide +kernel
theorem dX5_isWholeSquare_2 : decode cX5_isWholeSquare 2 = .ok (.lload_n 2, 1) := by decide +kernel
theorem dX5_isWholeSquare_3 : decode cX5_isWholeSquare 3 = .ok (.lload_n 2, 1) := by decide +kernel
theorem dX5_isWholeSquare_4 : decode cX5_isWholeSquare 4 = .ok (.lmul, 1) := by decide +kernel
theorem dX5_isWholeSquare_5 : decode cX5_isWholeSquare 5 = .ok (.lload_n 0, 1) := by decide +kernel
theorem dX5_isWholeSquare_6 : decode cX5_isWholeSquare 6 = .ok (.lcmp, 1) := by decide +kernel
theorem dX5_isWholeSquare_7 : decode cX5_isWholeSquare 7 = .ok (.ifCond .ge 10, 3) := by decide +kernel
theorem dX5_isWholeSquare_10 : decode cX5_isWholeSquare 10 = .ok (.lload_n 2, 1) := by decide +kernel
theorem dX5_isWholeSquare_11 : decode cX5_isWholeSquare 11 = .ok (.lconst 1, 1) := by decide +kernel
theorem dX5_isWholeSquare_12 : decode cX5_isWholeSquare 12 = .ok (.ladd, 1) := by decide +kernel
theorem dX5_isWholeSquare_13 : decode cX5_isWholeSquare 13 = .ok (.lstore_n 2, 1) := by decide +kernel
theorem dX5_isWholeSquare_14 : decode cX5_isWholeSquare 14 = .ok (.goto (-12), 3) := by decide +kernel
theorem dX5_isWholeSquare_17 : decode cX5_isWholeSquare 17 = .ok (.lload_n 0, 1) := by decide +kernel
theorem dX5_isWholeSquare_18 : decode cX5_isWholeSquare 18 = .ok (.lconst 0, 1) := by decide +kernel
theorem dX5_isWholeSquare_19 : decode cX5_isWholeSquare 19 = .ok (.lcmp, 1) := by decide +kernel
theorem dX5_isWholeSquare_20 : decode cX5_isWholeSquare 20 = .ok (.ifCond .le 15, 3) := by decide +kernel
theorem dX5_isWholeSquare_23 : decode cX5_isWholeSquare 23 = .ok (.lload_n 2, 1) := by decide +kernel
theorem dX5_isWholeSquare_24 : decode cX5_isWholeSquare 24 = .ok (.lload_n 2, 1) := by decide +kernel
theorem dX5_isWholeSquare_25 : decode cX5_isWholeSquare 25 = .ok (.lmul, 1) := by decide +kernel
theorem dX5_isWholeSquare_26 : decode cX5_isWholeSquare 26 = .ok (.lload_n 0, 1) := by decide +kernel
theorem dX5_isWholeSquare_27 : decode cX5_isWholeSquare 27 = .ok (.lcmp, 1) := by decide +kernel
theorem dX5_isWholeSquare_28 : decode cX5_isWholeSquare 28 = .ok (.ifCond .ne 7, 3) := by decide +kernel
theorem dX5_isWholeSquare_31 : decode cX5_isWholeSquare 31 = .ok (.iconst 1, 1) := by decide +kernel
theorem dX5_isWholeSquare_32 : decode cX5_isWholeSquare 32 = .ok (.goto 4, 3) := by decide +kernel
theorem dX5_isWholeSquare_35 : decode cX5_isWholeSquare 35 = .ok (.iconst 0, 1) := by decide +kernel
theorem dX5_isWholeSquare_36 : decode cX5_isWholeSquare 36 = .ok (.ireturn, 1) := by decide +kernel
theorem dX5_isNought_0 : decode cX5_isNought 0 = .ok (.iload_n 2, 1) := by decide +kernel
theorem dX5_isNought_1 : decode cX5_isNought 1 = .ok (.iconst 2, 1) := by decide +kernel
theorem dX5_isNought_2 : decode cX5_isNought 2 = .ok (.if_icmp .ne 14, 3) := by decide +kernel
theorem dX5_isNought_5 : decode cX5_isNought 5 = .ok (.aload_n 0, 1) := by decide +kernel
theorem dX5_isNought_6 : decode cX5_isNought 6 = .ok (.iload_n 1, 1) := by decide +kernel
theorem dX5_isNought_7 : decode cX5_isNought 7 = .ok (.iconst 2, 1) := by decide +kernel
theorem dX5_isNought_8 : decode cX5_isNought 8 = .ok (.invokevirtual 68, 3) := by decide +kernel
theorem dX5_isNought_11 : decode cX5_isNought 11 = .ok (.lneg, 1) := by decide +kernel
theorem dX5_isNought_12 : decode cX5_isNought 12 = .ok (.invokestatic 94, 3) := by decide +kernel
theorem dX5_isNought_15 : decode cX5_isNought 15 = .ok (.ireturn, 1) := by decide +kernel
theorem dX5_isNought_16 : decode cX5_isNought 16 = .ok (.iconst 1, 1) := by decide +kernel
theorem dX5_isNought_17 : decode cX5_isNought 17 = .ok (.istore_n 3, 1) := by decide +kernel
theorem dX5_isNought_18 : decode cX5_isNought 18 = .ok (.iconst 0, 1) := by decide +kernel
theorem dX5_isNought_19 : decode cX5_isNought 19 = .ok (.istore 4, 2) := by decide +kernel
theorem dX5_isNought_21 : decode cX5_isNought 21 = .ok (.iload 4, 2) := by decide +kernel
theorem dX5_isNought_23 : decode cX5_isNought 23 = .ok (.sipush 398, 3) := by decide +kernel
theorem dX5_isNought_26 : decode cX5_isNought 26 = .ok (.if_icmp .ge 52, 3) := by decide +kernel
theorem dX5_isNought_29 : decode cX5_isNought 29 = .ok (.iload_n 3, 1) := by decide +kernel
theorem dX5_isNought_30 : decode cX5_isNought 30 = .ok (.ifCond .eq 48, 3) := by decide +kernel
theorem dX5_isNought_33 : decode cX5_isNought 33 = .ok (.iload 4, 2) := by decide +kernel
theorem dX5_isNought_35 : decode cX5_isNought 35 = .ok (.ifCond .eq 28, 3) := by decide +kernel
theorem dX5_isNought_38 : decode cX5_isNought 38 = .ok (.iload 4, 2) := by decide +kernel
theorem dX5_isNought_40 : decode cX5_isNought 40 = .ok (.iconst 2, 1) := by decide +kernel
theorem dX5_isNought_41 : decode cX5_isNought 41 = .ok (.if_icmp .eq 22, 3) := by decide +kernel
theorem dX5_isNought_44 : decode cX5_isNought 44 = .ok (.aload_n 0, 1) := by decide +kernel
theorem dX5_isNought_45 : decode cX5_isNought 45 = .ok (.iload_n 1, 1) := by decide +kernel
theorem dX5_isNought_46 : decode cX5_isNought 46 = .ok (.iload_n 2, 1) := by decide +kernel
theorem dX5_isNought_47 : decode cX5_isNought 47 = .ok (.iload 4, 2) := by decide +kernel
theorem dX5_isNought_49 : decode cX5_isNought 49 = .ok (.invokevirtual 98, 3) := by decide +kernel
theorem dX5_isNought_52 : decode cX5_isNought 52 = .ok (.ifCond .eq 20, 3) := by decide +kernel
theorem dX5_isNought_55 : decode cX5_isNought 55 = .ok (.iload 4, 2) := by decide +kernel
theorem dX5_isNought_57 : decode cX5_isNought 57 = .ok (.invokestatic 28, 3) := by decide +kernel
theorem dX5_isNought_60 : decode cX5_isNought 60 = .ok (.ifCond .eq 12, 3) := by decide +kernel
theorem dX5_isNought_63 : decode cX5_isNought 63 = .ok (.aload_n 0, 1) := by decide +kernel
theorem dX5_isNought_64 : decode cX5_isNought 64 = .ok (.iload_n 1, 1) := by decide +kernel
theorem dX5_isNought_65 : decode cX5_isNought 65 = .ok (.iload_n 2, 1) := by decide +kernel
theorem dX5_isNought_66 : decode cX5_isNought 66 = .ok (.iload 4, 2) := by decide +kernel
theorem dX5_isNought_68 : decode cX5_isNought 68 = .ok (.invokevirtual 90, 3) := by decide +kernel
theorem dX5_isNought_71 : decode cX5_isNought 71 = .ok (.istore_n 3, 1) := by decide +kernel
theorem dX5_isNought_72 : decode cX5_isNought 72 = .ok (.iinc 4 1, 3) := by decide +kernel
theorem dX5_isNought_75 : decode cX5_isNought 75 = .ok (.goto (-54), 3) := by decide +kernel
theorem dX5_isNought_78 : decode cX5_isNought 78 = .ok (.iload_n 3, 1) := by decide +kernel
theorem dX5_isNought_79 : decode cX5_isNought 79 = .ok (.ireturn, 1) := by decide +kernel
theorem dX5_nought_0 : decode cX5_nought 0 = .ok (.aload_n 0, 1) := by decide +kernel
theorem dX5_nought_1 : decode cX5_nought 1 = .ok (.iconst 0, 1) := by decide +kernel
theorem dX5_nought_2 : decode cX5_nought 2 = .ok (.putfield 16, 3) := by decide +kernel
theorem dX5_nought_5 : decode cX5_nought 5 = .ok (.iload_n 1, 1) := by decide +kernel
theorem dX5_nought_6 : decode cX5_nought 6 = .ok (.invokestatic 63, 3) := by decide +kernel
theorem dX5_nought_9 : decode cX5_nought 9 = .ok (.ifCond .ne 8, 3) := by decide +kernel
theorem dX5_nought_12 : decode cX5_nought 12 = .ok (.bipush (-3), 2) := by decide +kernel
theorem dX5_nought_14 : decode cX5_nought 14 = .ok (.goto 22, 3) := by decide +kernel
theorem dX5_nought_17 : decode cX5_nought 17 = .ok (.aload_n 0, 1) := by decide +kernel
theorem dX5_nought_18 : decode cX5_nought 18 = .ok (.iload_n 1, 1) := by decide +kernel
theorem dX5_nought_19 : decode cX5_nought 19 = .ok (.aload_n 0, 1) := by decide +kernel
theorem dX5_nought_20 : decode cX5_nought 20 = .ok (.getfield 7, 3) := by decide +kernel
theorem dX5_nought_23 : decode cX5_nought 23 = .ok (.iload_n 1, 1) := by decide +kernel
theorem dX5_nought_24 : decode cX5_nought 24 = .ok (.iaload, 1) := by decide +kernel
theorem dX5_nought_25 : decode cX5_nought 25 = .ok (.invokevirtual 101, 3) := by decide +kernel
theorem dX5_nought_28 : decode cX5_nought 28 = .ok (.ifCond .eq 7, 3) := by decide +kernel
theorem dX5_nought_31 : decode cX5_nought 31 = .ok (.iconst 1, 1) := by decide +kernel
theorem dX5_nought_32 : decode cX5_nought 32 = .ok (.goto 4, 3) := by decide +kernel
theorem dX5_nought_35 : decode cX5_nought 35 = .ok (.iconst 0, 1) := by decide +kernel
theorem dX5_nought_36 : decode cX5_nought 36 = .ok (.ireturn, 1) := by decide +kernel
theorem dX5_barOf_0 : decode cX5_barOf 0 = .ok (.iconst 0, 1) := by decide +kernel
theorem dX5_barOf_1 : decode cX5_barOf 1 = .ok (.istore_n 3, 1) := by decide +kernel
theorem dX5_barOf_2 : decode cX5_barOf 2 = .ok (.iconst 0, 1) := by decide +kernel
theorem dX5_barOf_3 : decode cX5_barOf 3 = .ok (.istore 4, 2) := by decide +kernel
theorem dX5_barOf_5 : decode cX5_barOf 5 = .ok (.iload 4, 2) := by decide +kernel
theorem dX5_barOf_7 : decode cX5_barOf 7 = .ok (.sipush 398, 3) := by decide +kernel
theorem dX5_barOf_10 : decode cX5_barOf 10 = .ok (.if_icmp .ge 71, 3) := by decide +kernel
theorem dX5_barOf_13 : decode cX5_barOf 13 = .ok (.iload 4, 2) := by decide +kernel
theorem dX5_barOf_15 : decode cX5_barOf 15 = .ok (.ifCond .eq 33, 3) := by decide +kernel
theorem dX5_barOf_18 : decode cX5_barOf 18 = .ok (.iload 4, 2) := by decide +kernel
theorem dX5_barOf_20 : decode cX5_barOf 20 = .ok (.iconst 2, 1) := by decide +kernel
theorem dX5_barOf_21 : decode cX5_barOf 21 = .ok (.if_icmp .eq 27, 3) := by decide +kernel
theorem dX5_barOf_24 : decode cX5_barOf 24 = .ok (.aload_n 0, 1) := by decide +kernel
theorem dX5_barOf_25 : decode cX5_barOf 25 = .ok (.iload_n 1, 1) := by decide +kernel
theorem dX5_barOf_26 : decode cX5_barOf 26 = .ok (.aload_n 0, 1) := by decide +kernel
theorem dX5_barOf_27 : decode cX5_barOf 27 = .ok (.getfield 7, 3) := by decide +kernel
theorem dX5_barOf_30 : decode cX5_barOf 30 = .ok (.iload_n 1, 1) := by decide +kernel
theorem dX5_barOf_31 : decode cX5_barOf 31 = .ok (.iaload, 1) := by decide +kernel
theorem dX5_barOf_32 : decode cX5_barOf 32 = .ok (.iload 4, 2) := by decide +kernel
theorem dX5_barOf_34 : decode cX5_barOf 34 = .ok (.invokevirtual 98, 3) := by decide +kernel
theorem dX5_barOf_37 : decode cX5_barOf 37 = .ok (.ifCond .eq 38, 3) := by decide +kernel
theorem dX5_barOf_40 : decode cX5_barOf 40 = .ok (.iload 4, 2) := by decide +kernel
theorem dX5_barOf_42 : decode cX5_barOf 42 = .ok (.invokestatic 28, 3) := by decide +kernel
theorem dX5_barOf_45 : decode cX5_barOf 45 = .ok (.ifCond .eq 30, 3) := by decide +kernel
theorem dX5_barOf_48 : decode cX5_barOf 48 = .ok (.aload_n 0, 1) := by decide +kernel
theorem dX5_barOf_49 : decode cX5_barOf 49 = .ok (.iload_n 1, 1) := by decide +kernel
theorem dX5_barOf_50 : decode cX5_barOf 50 = .ok (.aload_n 0, 1) := by decide +kernel
theorem dX5_barOf_51 : decode cX5_barOf 51 = .ok (.getfield 7, 3) := by decide +kernel
theorem dX5_barOf_54 : decode cX5_barOf 54 = .ok (.iload_n 1, 1) := by decide +kernel
theorem dX5_barOf_55 : decode cX5_barOf 55 = .ok (.iaload, 1) := by decide +kernel
theorem dX5_barOf_56 : decode cX5_barOf 56 = .ok (.iload 4, 2) := by decide +kernel
theorem dX5_barOf_58 : decode cX5_barOf 58 = .ok (.invokevirtual 90, 3) := by decide +kernel
theorem dX5_barOf_61 : decode cX5_barOf 61 = .ok (.ifCond .ne 14, 3) := by decide +kernel
theorem dX5_barOf_64 : decode cX5_barOf 64 = .ok (.iload_n 3, 1) := by decide +kernel
theorem dX5_barOf_65 : decode cX5_barOf 65 = .ok (.iload_n 2, 1) := by decide +kernel
theorem dX5_barOf_66 : decode cX5_barOf 66 = .ok (.if_icmp .ne 6, 3) := by decide +kernel
theorem dX5_barOf_69 : decode cX5_barOf 69 = .ok (.iload 4, 2) := by decide +kernel
theorem dX5_barOf_71 : decode cX5_barOf 71 = .ok (.ireturn, 1) := by decide +kernel
theorem dX5_barOf_72 : decode cX5_barOf 72 = .ok (.iinc 3 1, 3) := by decide +kernel
theorem dX5_barOf_75 : decode cX5_barOf 75 = .ok (.iinc 4 1, 3) := by decide +kernel
theorem dX5_barOf_78 : decode cX5_barOf 78 = .ok (.goto (-73), 3) := by decide +kernel
theorem dX5_barOf_81 : decode cX5_barOf 81 = .ok (.bipush (-10), 2) := by decide +kernel
theorem dX5_barOf_83 : decode cX5_barOf 83 = .ok (.iload_n 3, 1) := by decide +kernel
theorem dX5_barOf_84 : decode cX5_barOf 84 = .ok (.isub, 1) := by decide +kernel
theorem dX5_barOf_85 : decode cX5_barOf 85 = .ok (.ireturn, 1) := by decide +kernel
theorem dX5_bars_0 : decode cX5_bars 0 = .ok (.aload_n 0, 1) := by decide +kernel
theorem dX5_bars_1 : decode cX5_bars 1 = .ok (.iconst 0, 1) := by decide +kernel
theorem dX5_bars_2 : decode cX5_bars 2 = .ok (.putfield 16, 3) := by decide +kernel
theorem dX5_bars_5 : decode cX5_bars 5 = .ok (.iload_n 1, 1) := by decide +kernel
theorem dX5_bars_6 : decode cX5_bars 6 = .ok (.invokestatic 63, 3) := by decide +kernel
theorem dX5_bars_9 : decode cX5_bars 9 = .ok (.ifCond .eq 15, 3) := by decide +kernel
theorem dX5_bars_12 : decode cX5_bars 12 = .ok (.bipush (-10), 2) := by decide +kernel
theorem dX5_bars_14 : decode cX5_bars 14 = .ok (.aload_n 0, 1) := by decide +kernel
theorem dX5_bars_15 : decode cX5_bars 15 = .ok (.iload_n 1, 1) := by decide +kernel
theorem dX5_bars_16 : decode cX5_bars 16 = .ok (.iconst (-1), 1) := by decide +kernel
theorem dX5_bars_17 : decode cX5_bars 17 = .ok (.invokevirtual 104, 3) := by decide +kernel
theorem dX5_bars_20 : decode cX5_bars 20 = .ok (.isub, 1) := by decide +kernel
theorem dX5_bars_21 : decode cX5_bars 21 = .ok (.goto 5, 3) := by decide +kernel
theorem dX5_bars_24 : decode cX5_bars 24 = .ok (.bipush (-3), 2) := by decide +kernel
theorem dX5_bars_26 : decode cX5_bars 26 = .ok (.ireturn, 1) := by decide +kernel
theorem dX5_bar_0 : decode cX5_bar 0 = .ok (.aload_n 0, 1) := by decide +kernel
theorem dX5_bar_1 : decode cX5_bar 1 = .ok (.iconst 0, 1) := by decide +kernel
theorem dX5_bar_2 : decode cX5_bar 2 = .ok (.putfield 16, 3) := by decide +kernel
theorem dX5_bar_5 : decode cX5_bar 5 = .ok (.iload_n 1, 1) := by decide +kernel
theorem dX5_bar_6 : decode cX5_bar 6 = .ok (.invokestatic 63, 3) := by decide +kernel
theorem dX5_bar_9 : decode cX5_bar 9 = .ok (.ifCond .eq 7, 3) := by decide +kernel
theorem dX5_bar_12 : decode cX5_bar 12 = .ok (.iload_n 2, 1) := by decide +kernel
theorem dX5_bar_13 : decode cX5_bar 13 = .ok (.ifCond .ge 6, 3) := by decide +kernel
theorem dX5_bar_16 : decode cX5_bar 16 = .ok (.bipush (-3), 2) := by decide +kernel
theorem dX5_bar_18 : decode cX5_bar 18 = .ok (.ireturn, 1) := by decide +kernel
theorem dX5_bar_19 : decode cX5_bar 19 = .ok (.aload_n 0, 1) := by decide +kernel
theorem dX5_bar_20 : decode cX5_bar 20 = .ok (.iload_n 1, 1) := by decide +kernel
theorem dX5_bar_21 : decode cX5_bar 21 = .ok (.iload_n 2, 1) := by decide +kernel
theorem dX5_bar_22 : decode cX5_bar 22 = .ok (.invokevirtual 104, 3) := by decide +kernel
theorem dX5_bar_25 : decode cX5_bar 25 = .ok (.istore_n 3, 1) := by decide +kernel
theorem dX5_bar_26 : decode cX5_bar 26 = .ok (.iload_n 3, 1) := by decide +kernel
theorem dX5_bar_27 : decode cX5_bar 27 = .ok (.ifCond .ge 8, 3) := by decide +kernel
theorem dX5_bar_30 : decode cX5_bar 30 = .ok (.bipush (-3), 2) := by decide +kernel
theorem dX5_bar_32 : decode cX5_bar 32 = .ok (.goto 4, 3) := by decide +kernel
theorem dX5_bar_35 : decode cX5_bar 35 = .ok (.iload_n 3, 1) := by decide +kernel
theorem dX5_bar_36 : decode cX5_bar 36 = .ok (.ireturn, 1) := by decide +kernel
theorem dX5_takes_0 : decode cX5_takes 0 = .ok (.aload_n 0, 1) := by decide +kernel
theorem dX5_takes_1 : decode cX5_takes 1 = .ok (.iconst 0, 1) := by decide +kernel
theorem dX5_takes_2 : decode cX5_takes 2 = .ok (.putfield 16, 3) := by decide +kernel
theorem dX5_takes_5 : decode cX5_takes 5 = .ok (.iload_n 1, 1) := by decide +kernel
theorem dX5_takes_6 : decode cX5_takes 6 = .ok (.invokestatic 63, 3) := by decide +kernel
theorem dX5_takes_9 : decode cX5_takes 9 = .ok (.ifCond .eq 13, 3) := by decide +kernel
theorem dX5_takes_12 : decode cX5_takes 12 = .ok (.iload_n 2, 1) := by decide +kernel
theorem dX5_takes_13 : decode cX5_takes 13 = .ok (.sipush 400, 3) := by decide +kernel
theorem dX5_takes_16 : decode cX5_takes 16 = .ok (.invokestatic 50, 3) := by decide +kernel
theorem dX5_takes_19 : decode cX5_takes 19 = .ok (.ifCond .ne 6, 3) := by decide +kernel
theorem dX5_takes_22 : decode cX5_takes 22 = .ok (.bipush (-3), 2) := by decide +kernel
theorem dX5_takes_24 : decode cX5_takes 24 = .ok (.ireturn, 1) := by decide +kernel
theorem dX5_takes_25 : decode cX5_takes 25 = .ok (.aload_n 0, 1) := by decide +kernel
theorem dX5_takes_26 : decode cX5_takes 26 = .ok (.getfield 7, 3) := by decide +kernel
theorem dX5_takes_29 : decode cX5_takes 29 = .ok (.iload_n 1, 1) := by decide +kernel
theorem dX5_takes_30 : decode cX5_takes 30 = .ok (.iaload, 1) := by decide +kernel
theorem dX5_takes_31 : decode cX5_takes 31 = .ok (.istore_n 3, 1) := by decide +kernel
theorem dX5_takes_32 : decode cX5_takes 32 = .ok (.aload_n 0, 1) := by decide +kernel
theorem dX5_takes_33 : decode cX5_takes 33 = .ok (.getfield 13, 3) := by decide +kernel
theorem dX5_takes_36 : decode cX5_takes 36 = .ok (.bipush 6, 2) := by decide +kernel
theorem dX5_takes_38 : decode cX5_takes 38 = .ok (.iload_n 1, 1) := by decide +kernel
theorem dX5_takes_39 : decode cX5_takes 39 = .ok (.imul, 1) := by decide +kernel
theorem dX5_takes_40 : decode cX5_takes 40 = .ok (.iload_n 3, 1) := by decide +kernel
theorem dX5_takes_41 : decode cX5_takes 41 = .ok (.iadd, 1) := by decide +kernel
theorem dX5_takes_42 : decode cX5_takes 42 = .ok (.iaload, 1) := by decide +kernel
theorem dX5_takes_43 : decode cX5_takes 43 = .ok (.istore 4, 2) := by decide +kernel
theorem dX5_takes_45 : decode cX5_takes 45 = .ok (.aload_n 0, 1) := by decide +kernel
theorem dX5_takes_46 : decode cX5_takes 46 = .ok (.getfield 13, 3) := by decide +kernel
theorem dX5_takes_49 : decode cX5_takes 49 = .ok (.bipush 6, 2) := by decide +kernel
theorem dX5_takes_51 : decode cX5_takes 51 = .ok (.iload_n 1, 1) := by decide +kernel
theorem dX5_takes_52 : decode cX5_takes 52 = .ok (.imul, 1) := by decide +kernel
theorem dX5_takes_53 : decode cX5_takes 53 = .ok (.iload_n 3, 1) := by decide +kernel
theorem dX5_takes_54 : decode cX5_takes 54 = .ok (.iadd, 1) := by decide +kernel
theorem dX5_takes_55 : decode cX5_takes 55 = .ok (.iload_n 2, 1) := by decide +kernel
theorem dX5_takes_56 : decode cX5_takes 56 = .ok (.ineg, 1) := by decide +kernel
theorem dX5_takes_57 : decode cX5_takes 57 = .ok (.iastore, 1) := by decide +kernel
theorem dX5_takes_58 : decode cX5_takes 58 = .ok (.aload_n 0, 1) := by decide +kernel
theorem dX5_takes_59 : decode cX5_takes 59 = .ok (.iload_n 1, 1) := by decide +kernel
theorem dX5_takes_60 : decode cX5_takes 60 = .ok (.iload_n 3, 1) := by decide +kernel
theorem dX5_takes_61 : decode cX5_takes 61 = .ok (.iconst 1, 1) := by decide +kernel
theorem dX5_takes_62 : decode cX5_takes 62 = .ok (.iadd, 1) := by decide +kernel
theorem dX5_takes_63 : decode cX5_takes 63 = .ok (.invokevirtual 101, 3) := by decide +kernel
theorem dX5_takes_66 : decode cX5_takes 66 = .ok (.istore 5, 2) := by decide +kernel
theorem dX5_takes_68 : decode cX5_takes 68 = .ok (.aload_n 0, 1) := by decide +kernel
theorem dX5_takes_69 : decode cX5_takes 69 = .ok (.getfield 13, 3) := by decide +kernel
theorem dX5_takes_72 : decode cX5_takes 72 = .ok (.bipush 6, 2) := by decide +kernel
theorem dX5_takes_74 : decode cX5_takes 74 = .ok (.iload_n 1, 1) := by decide +kernel
theorem dX5_takes_75 : decode cX5_takes 75 = .ok (.imul, 1) := by decide +kernel
theorem dX5_takes_76 : decode cX5_takes 76 = .ok (.iload_n 3, 1) := by decide +kernel
theorem dX5_takes_77 : decode cX5_takes 77 = .ok (.iadd, 1) := by decide +kernel
theorem dX5_takes_78 : decode cX5_takes 78 = .ok (.iload 4, 2) := by decide +kernel
theorem dX5_takes_80 : decode cX5_takes 80 = .ok (.iastore, 1) := by decide +kernel
theorem dX5_takes_81 : decode cX5_takes 81 = .ok (.iload 5, 2) := by decide +kernel
theorem dX5_takes_83 : decode cX5_takes 83 = .ok (.ifCond .eq 7, 3) := by decide +kernel
theorem dX5_takes_86 : decode cX5_takes 86 = .ok (.iconst 1, 1) := by decide +kernel
theorem dX5_takes_87 : decode cX5_takes 87 = .ok (.goto 4, 3) := by decide +kernel
theorem dX5_takes_90 : decode cX5_takes 90 = .ok (.iconst 0, 1) := by decide +kernel
theorem dX5_takes_91 : decode cX5_takes 91 = .ok (.ireturn, 1) := by decide +kernel
theorem dX5_alike_0 : decode cX5_alike 0 = .ok (.aload_n 0, 1) := by decide +kernel
theorem dX5_alike_1 : decode cX5_alike 1 = .ok (.iconst 0, 1) := by decide +kernel
theorem dX5_alike_2 : decode cX5_alike 2 = .ok (.putfield 16, 3) := by decide +kernel
theorem dX5_alike_5 : decode cX5_alike 5 = .ok (.iload_n 1, 1) := by decide +kernel
theorem dX5_alike_6 : decode cX5_alike 6 = .ok (.invokestatic 63, 3) := by decide +kernel
theorem dX5_alike_9 : decode cX5_alike 9 = .ok (.ifCond .eq 10, 3) := by decide +kernel
theorem dX5_alike_12 : decode cX5_alike 12 = .ok (.iload_n 2, 1) := by decide +kernel
theorem dX5_alike_13 : decode cX5_alike 13 = .ok (.invokestatic 63, 3) := by decide +kernel
theorem dX5_alike_16 : decode cX5_alike 16 = .ok (.ifCond .ne 6, 3) := by decide +kernel
theorem dX5_alike_19 : decode cX5_alike 19 = .ok (.bipush (-3), 2) := by decide +kernel
theorem dX5_alike_21 : decode cX5_alike 21 = .ok (.ireturn, 1) := by decide +kernel
theorem dX5_alike_22 : decode cX5_alike 22 = .ok (.aload_n 0, 1) := by decide +kernel
theorem dX5_alike_23 : decode cX5_alike 23 = .ok (.getfield 7, 3) := by decide +kernel
theorem dX5_alike_26 : decode cX5_alike 26 = .ok (.iload_n 1, 1) := by decide +kernel
theorem dX5_alike_27 : decode cX5_alike 27 = .ok (.iaload, 1) := by decide +kernel
theorem dX5_alike_28 : decode cX5_alike 28 = .ok (.istore_n 3, 1) := by decide +kernel
theorem dX5_alike_29 : decode cX5_alike 29 = .ok (.iload_n 3, 1) := by decide +kernel
theorem dX5_alike_30 : decode cX5_alike 30 = .ok (.aload_n 0, 1) := by decide +kernel
theorem dX5_alike_31 : decode cX5_alike 31 = .ok (.getfield 7, 3) := by decide +kernel
theorem dX5_alike_34 : decode cX5_alike 34 = .ok (.iload_n 2, 1) := by decide +kernel
theorem dX5_alike_35 : decode cX5_alike 35 = .ok (.iaload, 1) := by decide +kernel
theorem dX5_alike_36 : decode cX5_alike 36 = .ok (.if_icmp .ne 32, 3) := by decide +kernel
theorem dX5_alike_39 : decode cX5_alike 39 = .ok (.aload_n 0, 1) := by decide +kernel
theorem dX5_alike_40 : decode cX5_alike 40 = .ok (.iload_n 1, 1) := by decide +kernel
theorem dX5_alike_41 : decode cX5_alike 41 = .ok (.iload_n 3, 1) := by decide +kernel
theorem dX5_alike_42 : decode cX5_alike 42 = .ok (.invokevirtual 80, 3) := by decide +kernel
theorem dX5_alike_45 : decode cX5_alike 45 = .ok (.aload_n 0, 1) := by decide +kernel
theorem dX5_alike_46 : decode cX5_alike 46 = .ok (.iload_n 2, 1) := by decide +kernel
theorem dX5_alike_47 : decode cX5_alike 47 = .ok (.iload_n 3, 1) := by decide +kernel
theorem dX5_alike_48 : decode cX5_alike 48 = .ok (.invokevirtual 80, 3) := by decide +kernel
theorem dX5_alike_51 : decode cX5_alike 51 = .ok (.if_icmp .ne 17, 3) := by decide +kernel
theorem dX5_alike_54 : decode cX5_alike 54 = .ok (.aload_n 0, 1) := by decide +kernel
theorem dX5_alike_55 : decode cX5_alike 55 = .ok (.iload_n 1, 1) := by decide +kernel
theorem dX5_alike_56 : decode cX5_alike 56 = .ok (.invokevirtual 72, 3) := by decide +kernel
theorem dX5_alike_59 : decode cX5_alike 59 = .ok (.aload_n 0, 1) := by decide +kernel
theorem dX5_alike_60 : decode cX5_alike 60 = .ok (.iload_n 2, 1) := by decide +kernel
theorem dX5_alike_61 : decode cX5_alike 61 = .ok (.invokevirtual 72, 3) := by decide +kernel
theorem dX5_alike_64 : decode cX5_alike 64 = .ok (.lcmp, 1) := by decide +kernel
theorem dX5_alike_65 : decode cX5_alike 65 = .ok (.ifCond .eq 5, 3) := by decide +kernel
theorem dX5_alike_68 : decode cX5_alike 68 = .ok (.iconst 0, 1) := by decide +kernel
theorem dX5_alike_69 : decode cX5_alike 69 = .ok (.ireturn, 1) := by decide +kernel
theorem dX5_alike_70 : decode cX5_alike 70 = .ok (.iconst 1, 1) := by decide +kernel
theorem dX5_alike_71 : decode cX5_alike 71 = .ok (.istore 4, 2) := by decide +kernel
theorem dX5_alike_73 : decode cX5_alike 73 = .ok (.iconst 2, 1) := by decide +kernel
theorem dX5_alike_74 : decode cX5_alike 74 = .ok (.istore 5, 2) := by decide +kernel
theorem dX5_alike_76 : decode cX5_alike 76 = .ok (.iload 5, 2) := by decide +kernel
theorem dX5_alike_78 : decode cX5_alike 78 = .ok (.sipush 398, 3) := by decide +kernel
theorem dX5_alike_81 : decode cX5_alike 81 = .ok (.if_icmp .ge 74, 3) := by decide +kernel
theorem dX5_alike_84 : decode cX5_alike 84 = .ok (.iload 5, 2) := by decide +kernel
theorem dX5_alike_86 : decode cX5_alike 86 = .ok (.iconst 2, 1) := by decide +kernel
theorem dX5_alike_87 : decode cX5_alike 87 = .ok (.if_icmp .eq 33, 3) := by decide +kernel
theorem dX5_alike_90 : decode cX5_alike 90 = .ok (.aload_n 0, 1) := by decide +kernel
theorem dX5_alike_91 : decode cX5_alike 91 = .ok (.iload_n 1, 1) := by decide +kernel
theorem dX5_alike_92 : decode cX5_alike 92 = .ok (.iload_n 3, 1) := by decide +kernel
theorem dX5_alike_93 : decode cX5_alike 93 = .ok (.iload 5, 2) := by decide +kernel
theorem dX5_alike_95 : decode cX5_alike 95 = .ok (.invokevirtual 98, 3) := by decide +kernel
theorem dX5_alike_98 : decode cX5_alike 98 = .ok (.ifCond .ne 14, 3) := by decide +kernel
theorem dX5_alike_101 : decode cX5_alike 101 = .ok (.aload_n 0, 1) := by decide +kernel
theorem dX5_alike_102 : decode cX5_alike 102 = .ok (.iload_n 2, 1) := by decide +kernel
theorem dX5_alike_103 : decode cX5_alike 103 = .ok (.iload_n 3, 1) := by decide +kernel
theorem dX5_alike_104 : decode cX5_alike 104 = .ok (.iload 5, 2) := by decide +kernel
theorem dX5_alike_106 : decode cX5_alike 106 = .ok (.invokevirtual 98, 3) := by decide +kernel
theorem dX5_alike_109 : decode cX5_alike 109 = .ok (.ifCond .eq 40, 3) := by decide +kernel
theorem dX5_alike_112 : decode cX5_alike 112 = .ok (.iload 5, 2) := by decide +kernel
theorem dX5_alike_114 : decode cX5_alike 114 = .ok (.invokestatic 28, 3) := by decide +kernel
theorem dX5_alike_117 : decode cX5_alike 117 = .ok (.ifCond .eq 32, 3) := by decide +kernel
theorem dX5_alike_120 : decode cX5_alike 120 = .ok (.iload 4, 2) := by decide +kernel
theorem dX5_alike_122 : decode cX5_alike 122 = .ok (.aload_n 0, 1) := by decide +kernel
theorem dX5_alike_123 : decode cX5_alike 123 = .ok (.iload_n 1, 1) := by decide +kernel
theorem dX5_alike_124 : decode cX5_alike 124 = .ok (.iload_n 3, 1) := by decide +kernel
theorem dX5_alike_125 : decode cX5_alike 125 = .ok (.iload 5, 2) := by decide +kernel
theorem dX5_alike_127 : decode cX5_alike 127 = .ok (.invokevirtual 76, 3) := by decide +kernel
theorem dX5_alike_130 : decode cX5_alike 130 = .ok (.aload_n 0, 1) := by decide +kernel
theorem dX5_alike_131 : decode cX5_alike 131 = .ok (.iload_n 2, 1) := by decide +kernel
theorem dX5_alike_132 : decode cX5_alike 132 = .ok (.iload_n 3, 1) := by decide +kernel
theorem dX5_alike_133 : decode cX5_alike 133 = .ok (.iload 5, 2) := by decide +kernel
theorem dX5_alike_135 : decode cX5_alike 135 = .ok (.invokevirtual 76, 3) := by decide +kernel
theorem dX5_alike_138 : decode cX5_alike 138 = .ok (.if_icmp .ne 7, 3) := by decide +kernel
theorem dX5_alike_141 : decode cX5_alike 141 = .ok (.iconst 1, 1) := by decide +kernel
theorem dX5_alike_142 : decode cX5_alike 142 = .ok (.goto 4, 3) := by decide +kernel
theorem dX5_alike_145 : decode cX5_alike 145 = .ok (.iconst 0, 1) := by decide +kernel
theorem dX5_alike_146 : decode cX5_alike 146 = .ok (.iand, 1) := by decide +kernel
theorem dX5_alike_147 : decode cX5_alike 147 = .ok (.istore 4, 2) := by decide +kernel
theorem dX5_alike_149 : decode cX5_alike 149 = .ok (.iinc 5 1, 3) := by decide +kernel
theorem dX5_alike_152 : decode cX5_alike 152 = .ok (.goto (-76), 3) := by decide +kernel
theorem dX5_alike_155 : decode cX5_alike 155 = .ok (.iload 4, 2) := by decide +kernel
theorem dX5_alike_157 : decode cX5_alike 157 = .ok (.ifCond .eq 7, 3) := by decide +kernel
theorem dX5_alike_160 : decode cX5_alike 160 = .ok (.iconst 1, 1) := by decide +kernel
theorem dX5_alike_161 : decode cX5_alike 161 = .ok (.goto 4, 3) := by decide +kernel
theorem dX5_alike_164 : decode cX5_alike 164 = .ok (.iconst 0, 1) := by decide +kernel
theorem dX5_alike_165 : decode cX5_alike 165 = .ok (.ireturn, 1) := by decide +kernel
theorem dX5_worthOf_0 : decode cX5_worthOf 0 = .ok (.aload_n 0, 1) := by decide +kernel
theorem dX5_worthOf_1 : decode cX5_worthOf 1 = .ok (.getfield 13, 3) := by decide +kernel
theorem dX5_worthOf_4 : decode cX5_worthOf 4 = .ok (.bipush 6, 2) := by decide +kernel
theorem dX5_worthOf_6 : decode cX5_worthOf 6 = .ok (.iload_n 1, 1) := by decide +kernel
theorem dX5_worthOf_7 : decode cX5_worthOf 7 = .ok (.imul, 1) := by decide +kernel
theorem dX5_worthOf_8 : decode cX5_worthOf 8 = .ok (.iaload, 1) := by decide +kernel
theorem dX5_worthOf_9 : decode cX5_worthOf 9 = .ok (.i2l, 1) := by decide +kernel
theorem dX5_worthOf_10 : decode cX5_worthOf 10 = .ok (.lload_n 2, 1) := by decide +kernel
theorem dX5_worthOf_11 : decode cX5_worthOf 11 = .ok (.lmul, 1) := by decide +kernel
theorem dX5_worthOf_12 : decode cX5_worthOf 12 = .ok (.lload_n 2, 1) := by decide +kernel
theorem dX5_worthOf_13 : decode cX5_worthOf 13 = .ok (.lmul, 1) := by decide +kernel
theorem dX5_worthOf_14 : decode cX5_worthOf 14 = .ok (.aload_n 0, 1) := by decide +kernel
theorem dX5_worthOf_15 : decode cX5_worthOf 15 = .ok (.getfield 13, 3) := by decide +kernel
theorem dX5_worthOf_18 : decode cX5_worthOf 18 = .ok (.bipush 6, 2) := by decide +kernel
theorem dX5_worthOf_20 : decode cX5_worthOf 20 = .ok (.iload_n 1, 1) := by decide +kernel
theorem dX5_worthOf_21 : decode cX5_worthOf 21 = .ok (.imul, 1) := by decide +kernel
theorem dX5_worthOf_22 : decode cX5_worthOf 22 = .ok (.iconst 1, 1) := by decide +kernel
theorem dX5_worthOf_23 : decode cX5_worthOf 23 = .ok (.iadd, 1) := by decide +kernel
theorem dX5_worthOf_24 : decode cX5_worthOf 24 = .ok (.iaload, 1) := by decide +kernel
theorem dX5_worthOf_25 : decode cX5_worthOf 25 = .ok (.i2l, 1) := by decide +kernel
theorem dX5_worthOf_26 : decode cX5_worthOf 26 = .ok (.lload 4, 2) := by decide +kernel
theorem dX5_worthOf_28 : decode cX5_worthOf 28 = .ok (.lmul, 1) := by decide +kernel
theorem dX5_worthOf_29 : decode cX5_worthOf 29 = .ok (.lload 4, 2) := by decide +kernel
theorem dX5_worthOf_31 : decode cX5_worthOf 31 = .ok (.lmul, 1) := by decide +kernel
theorem dX5_worthOf_32 : decode cX5_worthOf 32 = .ok (.ladd, 1) := by decide +kernel
theorem dX5_worthOf_33 : decode cX5_worthOf 33 = .ok (.aload_n 0, 1) := by decide +kernel
theorem dX5_worthOf_34 : decode cX5_worthOf 34 = .ok (.getfield 13, 3) := by decide +kernel
theorem dX5_worthOf_37 : decode cX5_worthOf 37 = .ok (.bipush 6, 2) := by decide +kernel
theorem dX5_worthOf_39 : decode cX5_worthOf 39 = .ok (.iload_n 1, 1) := by decide +kernel
theorem dX5_worthOf_40 : decode cX5_worthOf 40 = .ok (.imul, 1) := by decide +kernel
theorem dX5_worthOf_41 : decode cX5_worthOf 41 = .ok (.iconst 2, 1) := by decide +kernel
theorem dX5_worthOf_42 : decode cX5_worthOf 42 = .ok (.iadd, 1) := by decide +kernel
theorem dX5_worthOf_43 : decode cX5_worthOf 43 = .ok (.iaload, 1) := by decide +kernel
theorem dX5_worthOf_44 : decode cX5_worthOf 44 = .ok (.i2l, 1) := by decide +kernel
theorem dX5_worthOf_45 : decode cX5_worthOf 45 = .ok (.lload 6, 2) := by decide +kernel
theorem dX5_worthOf_47 : decode cX5_worthOf 47 = .ok (.lmul, 1) := by decide +kernel
theorem dX5_worthOf_48 : decode cX5_worthOf 48 = .ok (.lload 6, 2) := by decide +kernel
theorem dX5_worthOf_50 : decode cX5_worthOf 50 = .ok (.lmul, 1) := by decide +kernel
theorem dX5_worthOf_51 : decode cX5_worthOf 51 = .ok (.ladd, 1) := by decide +kernel
theorem dX5_worthOf_52 : decode cX5_worthOf 52 = .ok (.lreturn, 1) := by decide +kernel
theorem dX5_isThree_0 : decode cX5_isThree 0 = .ok (.iload_n 1, 1) := by decide +kernel
theorem dX5_isThree_1 : decode cX5_isThree 1 = .ok (.invokestatic 63, 3) := by decide +kernel
theorem dX5_isThree_4 : decode cX5_isThree 4 = .ok (.ifCond .eq 17, 3) := by decide +kernel
theorem dX5_isThree_7 : decode cX5_isThree 7 = .ok (.aload_n 0, 1) := by decide +kernel
theorem dX5_isThree_8 : decode cX5_isThree 8 = .ok (.getfield 7, 3) := by decide +kernel
theorem dX5_isThree_11 : decode cX5_isThree 11 = .ok (.iload_n 1, 1) := by decide +kernel
theorem dX5_isThree_12 : decode cX5_isThree 12 = .ok (.iaload, 1) := by decide +kernel
theorem dX5_isThree_13 : decode cX5_isThree 13 = .ok (.iconst 3, 1) := by decide +kernel
theorem dX5_isThree_14 : decode cX5_isThree 14 = .ok (.if_icmp .ne 7, 3) := by decide +kernel
theorem dX5_isThree_17 : decode cX5_isThree 17 = .ok (.iconst 1, 1) := by decide +kernel
theorem dX5_isThree_18 : decode cX5_isThree 18 = .ok (.goto 4, 3) := by decide +kernel
theorem dX5_isThree_21 : decode cX5_isThree 21 = .ok (.iconst 0, 1) := by decide +kernel
theorem dX5_isThree_22 : decode cX5_isThree 22 = .ok (.ireturn, 1) := by decide +kernel
theorem dX5_worth_0 : decode cX5_worth 0 = .ok (.aload_n 0, 1) := by decide +kernel
theorem dX5_worth_1 : decode cX5_worth 1 = .ok (.iconst 0, 1) := by decide +kernel
theorem dX5_worth_2 : decode cX5_worth 2 = .ok (.putfield 16, 3) := by decide +kernel
theorem dX5_worth_5 : decode cX5_worth 5 = .ok (.aload_n 0, 1) := by decide +kernel
theorem dX5_worth_6 : decode cX5_worth 6 = .ok (.iload_n 1, 1) := by decide +kernel
theorem dX5_worth_7 : decode cX5_worth 7 = .ok (.invokevirtual 107, 3) := by decide +kernel
theorem dX5_worth_10 : decode cX5_worth 10 = .ok (.ifCond .eq 61, 3) := by decide +kernel
theorem dX5_worth_13 : decode cX5_worth 13 = .ok (.iload_n 2, 1) := by decide +kernel
theorem dX5_worth_14 : decode cX5_worth 14 = .ok (.i2l, 1) := by decide +kernel
theorem dX5_worth_15 : decode cX5_worth 15 = .ok (.ldc2_w 110, 3) := by decide +kernel
theorem dX5_worth_18 : decode cX5_worth 18 = .ok (.ldc2_w 112, 3) := by decide +kernel
theorem dX5_worth_21 : decode cX5_worth 21 = .ok (.invokestatic 24, 3) := by decide +kernel
theorem dX5_worth_24 : decode cX5_worth 24 = .ok (.ifCond .eq 47, 3) := by decide +kernel
theorem dX5_worth_27 : decode cX5_worth 27 = .ok (.iload_n 3, 1) := by decide +kernel
theorem dX5_worth_28 : decode cX5_worth 28 = .ok (.i2l, 1) := by decide +kernel
theorem dX5_worth_29 : decode cX5_worth 29 = .ok (.ldc2_w 110, 3) := by decide +kernel
theorem dX5_worth_32 : decode cX5_worth 32 = .ok (.ldc2_w 112, 3) := by decide +kernel
theorem dX5_worth_35 : decode cX5_worth 35 = .ok (.invokestatic 24, 3) := by decide +kernel
theorem dX5_worth_38 : decode cX5_worth 38 = .ok (.ifCond .eq 33, 3) := by decide +kernel
theorem dX5_worth_41 : decode cX5_worth 41 = .ok (.iload 4, 2) := by decide +kernel
theorem dX5_worth_43 : decode cX5_worth 43 = .ok (.i2l, 1) := by decide +kernel
theorem dX5_worth_44 : decode cX5_worth 44 = .ok (.ldc2_w 110, 3) := by decide +kernel
theorem dX5_worth_47 : decode cX5_worth 47 = .ok (.ldc2_w 112, 3) := by decide +kernel
theorem dX5_worth_50 : decode cX5_worth 50 = .ok (.invokestatic 24, 3) := by decide +kernel
theorem dX5_worth_53 : decode cX5_worth 53 = .ok (.ifCond .eq 18, 3) := by decide +kernel
theorem dX5_worth_56 : decode cX5_worth 56 = .ok (.aload_n 0, 1) := by decide +kernel
theorem dX5_worth_57 : decode cX5_worth 57 = .ok (.iload_n 1, 1) := by decide +kernel
theorem dX5_worth_58 : decode cX5_worth 58 = .ok (.iload_n 2, 1) := by decide +kernel
theorem dX5_worth_59 : decode cX5_worth 59 = .ok (.i2l, 1) := by decide +kernel
theorem dX5_worth_60 : decode cX5_worth 60 = .ok (.iload_n 3, 1) := by decide +kernel
theorem dX5_worth_61 : decode cX5_worth 61 = .ok (.i2l, 1) := by decide +kernel
theorem dX5_worth_62 : decode cX5_worth 62 = .ok (.iload 4, 2) := by decide +kernel
theorem dX5_worth_64 : decode cX5_worth 64 = .ok (.i2l, 1) := by decide +kernel
theorem dX5_worth_65 : decode cX5_worth 65 = .ok (.invokevirtual 114, 3) := by decide +kernel
theorem dX5_worth_68 : decode cX5_worth 68 = .ok (.goto 6, 3) := by decide +kernel
theorem dX5_worth_71 : decode cX5_worth 71 = .ok (.ldc2_w 118, 3) := by decide +kernel
theorem dX5_worth_74 : decode cX5_worth 74 = .ok (.lreturn, 1) := by decide +kernel
theorem dX5_size_0 : decode cX5_size 0 = .ok (.iload_n 0, 1) := by decide +kernel
theorem dX5_size_1 : decode cX5_size 1 = .ok (.ifCond .ge 8, 3) := by decide +kernel
theorem dX5_size_4 : decode cX5_size 4 = .ok (.iload_n 0, 1) := by decide +kernel
theorem dX5_size_5 : decode cX5_size 5 = .ok (.ineg, 1) := by decide +kernel
theorem dX5_size_6 : decode cX5_size 6 = .ok (.goto 4, 3) := by decide +kernel
theorem dX5_size_9 : decode cX5_size 9 = .ok (.iload_n 0, 1) := by decide +kernel
theorem dX5_size_10 : decode cX5_size 10 = .ok (.ireturn, 1) := by decide +kernel
theorem dX5_isNear_0 : decode cX5_isNear 0 = .ok (.iload_n 0, 1) := by decide +kernel
theorem dX5_isNear_1 : decode cX5_isNear 1 = .ok (.i2l, 1) := by decide +kernel
theorem dX5_isNear_2 : decode cX5_isNear 2 = .ok (.ldc2_w 120, 3) := by decide +kernel
theorem dX5_isNear_5 : decode cX5_isNear 5 = .ok (.ldc2_w 122, 3) := by decide +kernel
theorem dX5_isNear_8 : decode cX5_isNear 8 = .ok (.invokestatic 24, 3) := by decide +kernel
theorem dX5_isNear_11 : decode cX5_isNear 11 = .ok (.ifCond .eq 35, 3) := by decide +kernel
theorem dX5_isNear_14 : decode cX5_isNear 14 = .ok (.iload_n 1, 1) := by decide +kernel
theorem dX5_isNear_15 : decode cX5_isNear 15 = .ok (.i2l, 1) := by decide +kernel
theorem dX5_isNear_16 : decode cX5_isNear 16 = .ok (.ldc2_w 120, 3) := by decide +kernel
theorem dX5_isNear_19 : decode cX5_isNear 19 = .ok (.ldc2_w 122, 3) := by decide +kernel
theorem dX5_isNear_22 : decode cX5_isNear 22 = .ok (.invokestatic 24, 3) := by decide +kernel
theorem dX5_isNear_25 : decode cX5_isNear 25 = .ok (.ifCond .eq 21, 3) := by decide +kernel
theorem dX5_isNear_28 : decode cX5_isNear 28 = .ok (.iload_n 2, 1) := by decide +kernel
theorem dX5_isNear_29 : decode cX5_isNear 29 = .ok (.i2l, 1) := by decide +kernel
theorem dX5_isNear_30 : decode cX5_isNear 30 = .ok (.ldc2_w 120, 3) := by decide +kernel
theorem dX5_isNear_33 : decode cX5_isNear 33 = .ok (.ldc2_w 122, 3) := by decide +kernel
theorem dX5_isNear_36 : decode cX5_isNear 36 = .ok (.invokestatic 24, 3) := by decide +kernel
theorem dX5_isNear_39 : decode cX5_isNear 39 = .ok (.ifCond .eq 7, 3) := by decide +kernel
theorem dX5_isNear_42 : decode cX5_isNear 42 = .ok (.iconst 1, 1) := by decide +kernel
theorem dX5_isNear_43 : decode cX5_isNear 43 = .ok (.goto 4, 3) := by decide +kernel
theorem dX5_isNear_46 : decode cX5_isNear 46 = .ok (.iconst 0, 1) := by decide +kernel
theorem dX5_isNear_47 : decode cX5_isNear 47 = .ok (.ireturn, 1) := by decide +kernel
theorem dX5_measureOf_0 : decode cX5_measureOf 0 = .ok (.iload_n 1, 1) := by decide +kernel
theorem dX5_measureOf_1 : decode cX5_measureOf 1 = .ok (.invokestatic 124, 3) := by decide +kernel
theorem dX5_measureOf_4 : decode cX5_measureOf 4 = .ok (.iload_n 2, 1) := by decide +kernel
theorem dX5_measureOf_5 : decode cX5_measureOf 5 = .ok (.invokestatic 124, 3) := by decide +kernel
theorem dX5_measureOf_8 : decode cX5_measureOf 8 = .ok (.if_icmp .le 10, 3) := by decide +kernel
theorem dX5_measureOf_11 : decode cX5_measureOf 11 = .ok (.iload_n 1, 1) := by decide +kernel
theorem dX5_measureOf_12 : decode cX5_measureOf 12 = .ok (.invokestatic 124, 3) := by decide +kernel
theorem dX5_measureOf_15 : decode cX5_measureOf 15 = .ok (.goto 7, 3) := by decide +kernel
theorem dX5_measureOf_18 : decode cX5_measureOf 18 = .ok (.iload_n 2, 1) := by decide +kernel
theorem dX5_measureOf_19 : decode cX5_measureOf 19 = .ok (.invokestatic 124, 3) := by decide +kernel
theorem dX5_measureOf_22 : decode cX5_measureOf 22 = .ok (.istore 4, 2) := by decide +kernel
theorem dX5_measureOf_24 : decode cX5_measureOf 24 = .ok (.iload_n 3, 1) := by decide +kernel
theorem dX5_measureOf_25 : decode cX5_measureOf 25 = .ok (.invokestatic 124, 3) := by decide +kernel
theorem dX5_measureOf_28 : decode cX5_measureOf 28 = .ok (.iload 4, 2) := by decide +kernel
theorem dX5_measureOf_30 : decode cX5_measureOf 30 = .ok (.if_icmp .le 10, 3) := by decide +kernel
theorem dX5_measureOf_33 : decode cX5_measureOf 33 = .ok (.iload_n 3, 1) := by decide +kernel
theorem dX5_measureOf_34 : decode cX5_measureOf 34 = .ok (.invokestatic 124, 3) := by decide +kernel
theorem dX5_measureOf_37 : decode cX5_measureOf 37 = .ok (.goto 5, 3) := by decide +kernel
theorem dX5_measureOf_40 : decode cX5_measureOf 40 = .ok (.iload 4, 2) := by decide +kernel
theorem dX5_measureOf_42 : decode cX5_measureOf 42 = .ok (.istore 4, 2) := by decide +kernel
theorem dX5_measureOf_44 : decode cX5_measureOf 44 = .ok (.iload 4, 2) := by decide +kernel
theorem dX5_measureOf_46 : decode cX5_measureOf 46 = .ok (.iload_n 0, 1) := by decide +kernel
theorem dX5_measureOf_47 : decode cX5_measureOf 47 = .ok (.ifCond .le 20, 3) := by decide +kernel
theorem dX5_measureOf_50 : decode cX5_measureOf 50 = .ok (.iload_n 1, 1) := by decide +kernel
theorem dX5_measureOf_51 : decode cX5_measureOf 51 = .ok (.invokestatic 124, 3) := by decide +kernel
theorem dX5_measureOf_54 : decode cX5_measureOf 54 = .ok (.iload_n 2, 1) := by decide +kernel
theorem dX5_measureOf_55 : decode cX5_measureOf 55 = .ok (.invokestatic 124, 3) := by decide +kernel
theorem dX5_measureOf_58 : decode cX5_measureOf 58 = .ok (.iadd, 1) := by decide +kernel
theorem dX5_measureOf_59 : decode cX5_measureOf 59 = .ok (.iload_n 3, 1) := by decide +kernel
theorem dX5_measureOf_60 : decode cX5_measureOf 60 = .ok (.invokestatic 124, 3) := by decide +kernel
theorem dX5_measureOf_63 : decode cX5_measureOf 63 = .ok (.iadd, 1) := by decide +kernel
theorem dX5_measureOf_64 : decode cX5_measureOf 64 = .ok (.goto 4, 3) := by decide +kernel
theorem dX5_measureOf_67 : decode cX5_measureOf 67 = .ok (.iconst 0, 1) := by decide +kernel
theorem dX5_measureOf_68 : decode cX5_measureOf 68 = .ok (.iadd, 1) := by decide +kernel
theorem dX5_measureOf_69 : decode cX5_measureOf 69 = .ok (.istore 4, 2) := by decide +kernel
theorem dX5_measureOf_71 : decode cX5_measureOf 71 = .ok (.iload_n 0, 1) := by decide +kernel
theorem dX5_measureOf_72 : decode cX5_measureOf 72 = .ok (.iconst 2, 1) := by decide +kernel
theorem dX5_measureOf_73 : decode cX5_measureOf 73 = .ok (.if_icmp .ne 23, 3) := by decide +kernel
theorem dX5_measureOf_76 : decode cX5_measureOf 76 = .ok (.iload 4, 2) := by decide +kernel
theorem dX5_measureOf_78 : decode cX5_measureOf 78 = .ok (.bipush 7, 2) := by decide +kernel
theorem dX5_measureOf_80 : decode cX5_measureOf 80 = .ok (.iload_n 1, 1) := by decide +kernel
theorem dX5_measureOf_81 : decode cX5_measureOf 81 = .ok (.iconst 1, 1) := by decide +kernel
theorem dX5_measureOf_82 : decode cX5_measureOf 82 = .ok (.iand, 1) := by decide +kernel
theorem dX5_measureOf_83 : decode cX5_measureOf 83 = .ok (.iload_n 2, 1) := by decide +kernel
theorem dX5_measureOf_84 : decode cX5_measureOf 84 = .ok (.iconst 1, 1) := by decide +kernel
theorem dX5_measureOf_85 : decode cX5_measureOf 85 = .ok (.iand, 1) := by decide +kernel
theorem dX5_measureOf_86 : decode cX5_measureOf 86 = .ok (.iadd, 1) := by decide +kernel
theorem dX5_measureOf_87 : decode cX5_measureOf 87 = .ok (.iload_n 3, 1) := by decide +kernel
theorem dX5_measureOf_88 : decode cX5_measureOf 88 = .ok (.iconst 1, 1) := by decide +kernel
theorem dX5_measureOf_89 : decode cX5_measureOf 89 = .ok (.iand, 1) := by decide +kernel
theorem dX5_measureOf_90 : decode cX5_measureOf 90 = .ok (.iadd, 1) := by decide +kernel
theorem dX5_measureOf_91 : decode cX5_measureOf 91 = .ok (.imul, 1) := by decide +kernel
theorem dX5_measureOf_92 : decode cX5_measureOf 92 = .ok (.iadd, 1) := by decide +kernel
theorem dX5_measureOf_93 : decode cX5_measureOf 93 = .ok (.goto 5, 3) := by decide +kernel
theorem dX5_measureOf_96 : decode cX5_measureOf 96 = .ok (.iload 4, 2) := by decide +kernel
theorem dX5_measureOf_98 : decode cX5_measureOf 98 = .ok (.ireturn, 1) := by decide +kernel
theorem dX5_measure_0 : decode cX5_measure 0 = .ok (.aload_n 0, 1) := by decide +kernel
theorem dX5_measure_1 : decode cX5_measure 1 = .ok (.iconst 0, 1) := by decide +kernel
theorem dX5_measure_2 : decode cX5_measure 2 = .ok (.putfield 16, 3) := by decide +kernel
theorem dX5_measure_5 : decode cX5_measure 5 = .ok (.iload_n 1, 1) := by decide +kernel
theorem dX5_measure_6 : decode cX5_measure 6 = .ok (.i2l, 1) := by decide +kernel
theorem dX5_measure_7 : decode cX5_measure 7 = .ok (.lconst 0, 1) := by decide +kernel
theorem dX5_measure_8 : decode cX5_measure 8 = .ok (.ldc2_w 20, 3) := by decide +kernel
theorem dX5_measure_11 : decode cX5_measure 11 = .ok (.invokestatic 24, 3) := by decide +kernel
theorem dX5_measure_14 : decode cX5_measure 14 = .ok (.ifCond .eq 13, 3) := by decide +kernel
theorem dX5_measure_17 : decode cX5_measure 17 = .ok (.iload_n 2, 1) := by decide +kernel
theorem dX5_measure_18 : decode cX5_measure 18 = .ok (.iload_n 3, 1) := by decide +kernel
theorem dX5_measure_19 : decode cX5_measure 19 = .ok (.iload 4, 2) := by decide +kernel
theorem dX5_measure_21 : decode cX5_measure 21 = .ok (.invokestatic 128, 3) := by decide +kernel
theorem dX5_measure_24 : decode cX5_measure 24 = .ok (.ifCond .ne 6, 3) := by decide +kernel
theorem dX5_measure_27 : decode cX5_measure 27 = .ok (.bipush (-3), 2) := by decide +kernel
theorem dX5_measure_29 : decode cX5_measure 29 = .ok (.ireturn, 1) := by decide +kernel
theorem dX5_measure_30 : decode cX5_measure 30 = .ok (.aload_n 0, 1) := by decide +kernel
theorem dX5_measure_31 : decode cX5_measure 31 = .ok (.dup, 1) := by decide +kernel
theorem dX5_measure_32 : decode cX5_measure 32 = .ok (.getfield 131, 3) := by decide +kernel
theorem dX5_measure_35 : decode cX5_measure 35 = .ok (.iload_n 1, 1) := by decide +kernel
theorem dX5_measure_36 : decode cX5_measure 36 = .ok (.ifCond .ne 7, 3) := by decide +kernel
theorem dX5_measure_39 : decode cX5_measure 39 = .ok (.lconst 1, 1) := by decide +kernel
theorem dX5_measure_40 : decode cX5_measure 40 = .ok (.goto 17, 3) := by decide +kernel
theorem dX5_measure_43 : decode cX5_measure 43 = .ok (.iload_n 1, 1) := by decide +kernel
theorem dX5_measure_44 : decode cX5_measure 44 = .ok (.iconst 1, 1) := by decide +kernel
theorem dX5_measure_45 : decode cX5_measure 45 = .ok (.if_icmp .ne 9, 3) := by decide +kernel
theorem dX5_measure_48 : decode cX5_measure 48 = .ok (.ldc2_w 135, 3) := by decide +kernel
theorem dX5_measure_51 : decode cX5_measure 51 = .ok (.goto 6, 3) := by decide +kernel
theorem dX5_measure_54 : decode cX5_measure 54 = .ok (.ldc2_w 137, 3) := by decide +kernel
theorem dX5_measure_57 : decode cX5_measure 57 = .ok (.ladd, 1) := by decide +kernel
theorem dX5_measure_58 : decode cX5_measure 58 = .ok (.putfield 131, 3) := by decide +kernel
theorem dX5_measure_61 : decode cX5_measure 61 = .ok (.iload_n 1, 1) := by decide +kernel
theorem dX5_measure_62 : decode cX5_measure 62 = .ok (.iload_n 2, 1) := by decide +kernel
theorem dX5_measure_63 : decode cX5_measure 63 = .ok (.iload_n 3, 1) := by decide +kernel
theorem dX5_measure_64 : decode cX5_measure 64 = .ok (.iload 4, 2) := by decide +kernel
theorem dX5_measure_66 : decode cX5_measure 66 = .ok (.invokestatic 139, 3) := by decide +kernel
theorem dX5_measure_69 : decode cX5_measure 69 = .ok (.ireturn, 1) := by decide +kernel
theorem dX5_common_0 : decode cX5_common 0 = .ok (.lload_n 0, 1) := by decide +kernel
theorem dX5_common_1 : decode cX5_common 1 = .ok (.lconst 0, 1) := by decide +kernel
theorem dX5_common_2 : decode cX5_common 2 = .ok (.lcmp, 1) := by decide +kernel
theorem dX5_common_3 : decode cX5_common 3 = .ok (.ifCond .ge 8, 3) := by decide +kernel
theorem dX5_common_6 : decode cX5_common 6 = .ok (.lload_n 0, 1) := by decide +kernel
theorem dX5_common_7 : decode cX5_common 7 = .ok (.lneg, 1) := by decide +kernel
theorem dX5_common_8 : decode cX5_common 8 = .ok (.goto 4, 3) := by decide +kernel
theorem dX5_common_11 : decode cX5_common 11 = .ok (.lload_n 0, 1) := by decide +kernel
theorem dX5_common_12 : decode cX5_common 12 = .ok (.lstore 4, 2) := by decide +kernel
theorem dX5_common_14 : decode cX5_common 14 = .ok (.lload_n 2, 1) := by decide +kernel
theorem dX5_common_15 : decode cX5_common 15 = .ok (.lconst 0, 1) := by decide +kernel
theorem dX5_common_16 : decode cX5_common 16 = .ok (.lcmp, 1) := by decide +kernel
theorem dX5_common_17 : decode cX5_common 17 = .ok (.ifCond .ge 8, 3) := by decide +kernel
theorem dX5_common_20 : decode cX5_common 20 = .ok (.lload_n 2, 1) := by decide +kernel
theorem dX5_common_21 : decode cX5_common 21 = .ok (.lneg, 1) := by decide +kernel
theorem dX5_common_22 : decode cX5_common 22 = .ok (.goto 4, 3) := by decide +kernel
theorem dX5_common_25 : decode cX5_common 25 = .ok (.lload_n 2, 1) := by decide +kernel
theorem dX5_common_26 : decode cX5_common 26 = .ok (.lstore 6, 2) := by decide +kernel
theorem dX5_common_28 : decode cX5_common 28 = .ok (.lload 6, 2) := by decide +kernel
theorem dX5_common_30 : decode cX5_common 30 = .ok (.lconst 0, 1) := by decide +kernel
theorem dX5_common_31 : decode cX5_common 31 = .ok (.lcmp, 1) := by decide +kernel
theorem dX5_common_32 : decode cX5_common 32 = .ok (.ifCond .eq 21, 3) := by decide +kernel
theorem dX5_common_35 : decode cX5_common 35 = .ok (.lload 4, 2) := by decide +kernel
theorem dX5_common_37 : decode cX5_common 37 = .ok (.lload 6, 2) := by decide +kernel
theorem dX5_common_39 : decode cX5_common 39 = .ok (.lrem, 1) := by decide +kernel
theorem dX5_common_40 : decode cX5_common 40 = .ok (.lstore 8, 2) := by decide +kernel
theorem dX5_common_42 : decode cX5_common 42 = .ok (.lload 6, 2) := by decide +kernel
theorem dX5_common_44 : decode cX5_common 44 = .ok (.lstore 4, 2) := by decide +kernel
theorem dX5_common_46 : decode cX5_common 46 = .ok (.lload 8, 2) := by decide +kernel
theorem dX5_common_48 : decode cX5_common 48 = .ok (.lstore 6, 2) := by decide +kernel
theorem dX5_common_50 : decode cX5_common 50 = .ok (.goto (-22), 3) := by decide +kernel
theorem dX5_common_53 : decode cX5_common 53 = .ok (.lload 4, 2) := by decide +kernel
theorem dX5_common_55 : decode cX5_common 55 = .ok (.lreturn, 1) := by decide +kernel
theorem dX5_isFirstAbove_0 : decode cX5_isFirstAbove 0 = .ok (.lload_n 0, 1) := by decide +kernel
theorem dX5_isFirstAbove_1 : decode cX5_isFirstAbove 1 = .ok (.lconst 0, 1) := by decide +kernel
theorem dX5_isFirstAbove_2 : decode cX5_isFirstAbove 2 = .ok (.lcmp, 1) := by decide +kernel
theorem dX5_isFirstAbove_3 : decode cX5_isFirstAbove 3 = .ok (.ifCond .gt 28, 3) := by decide +kernel
theorem dX5_isFirstAbove_6 : decode cX5_isFirstAbove 6 = .ok (.lload_n 0, 1) := by decide +kernel
theorem dX5_isFirstAbove_7 : decode cX5_isFirstAbove 7 = .ok (.lconst 0, 1) := by decide +kernel
theorem dX5_isFirstAbove_8 : decode cX5_isFirstAbove 8 = .ok (.lcmp, 1) := by decide +kernel
theorem dX5_isFirstAbove_9 : decode cX5_isFirstAbove 9 = .ok (.ifCond .ne 26, 3) := by decide +kernel
theorem dX5_isFirstAbove_12 : decode cX5_isFirstAbove 12 = .ok (.lload_n 2, 1) := by decide +kernel
theorem dX5_isFirstAbove_13 : decode cX5_isFirstAbove 13 = .ok (.lconst 0, 1) := by decide +kernel
theorem dX5_isFirstAbove_14 : decode cX5_isFirstAbove 14 = .ok (.lcmp, 1) := by decide +kernel
theorem dX5_isFirstAbove_15 : decode cX5_isFirstAbove 15 = .ok (.ifCond .gt 16, 3) := by decide +kernel
theorem dX5_isFirstAbove_18 : decode cX5_isFirstAbove 18 = .ok (.lload_n 2, 1) := by decide +kernel
theorem dX5_isFirstAbove_19 : decode cX5_isFirstAbove 19 = .ok (.lconst 0, 1) := by decide +kernel
theorem dX5_isFirstAbove_20 : decode cX5_isFirstAbove 20 = .ok (.lcmp, 1) := by decide +kernel
theorem dX5_isFirstAbove_21 : decode cX5_isFirstAbove 21 = .ok (.ifCond .ne 14, 3) := by decide +kernel
theorem dX5_isFirstAbove_24 : decode cX5_isFirstAbove 24 = .ok (.lload 4, 2) := by decide +kernel
theorem dX5_isFirstAbove_26 : decode cX5_isFirstAbove 26 = .ok (.lconst 0, 1) := by decide +kernel
theorem dX5_isFirstAbove_27 : decode cX5_isFirstAbove 27 = .ok (.lcmp, 1) := by decide +kernel
theorem dX5_isFirstAbove_28 : decode cX5_isFirstAbove 28 = .ok (.ifCond .le 7, 3) := by decide +kernel
theorem dX5_isFirstAbove_31 : decode cX5_isFirstAbove 31 = .ok (.iconst 1, 1) := by decide +kernel
theorem dX5_isFirstAbove_32 : decode cX5_isFirstAbove 32 = .ok (.goto 4, 3) := by decide +kernel
theorem dX5_isFirstAbove_35 : decode cX5_isFirstAbove 35 = .ok (.iconst 0, 1) := by decide +kernel
theorem dX5_isFirstAbove_36 : decode cX5_isFirstAbove 36 = .ok (.ireturn, 1) := by decide +kernel
theorem dX5_isSolution_0 : decode cX5_isSolution 0 = .ok (.iload_n 2, 1) := by decide +kernel
theorem dX5_isSolution_1 : decode cX5_isSolution 1 = .ok (.i2l, 1) := by decide +kernel
theorem dX5_isSolution_2 : decode cX5_isSolution 2 = .ok (.iload_n 3, 1) := by decide +kernel
theorem dX5_isSolution_3 : decode cX5_isSolution 3 = .ok (.i2l, 1) := by decide +kernel
theorem dX5_isSolution_4 : decode cX5_isSolution 4 = .ok (.iload 4, 2) := by decide +kernel
theorem dX5_isSolution_6 : decode cX5_isSolution 6 = .ok (.i2l, 1) := by decide +kernel
theorem dX5_isSolution_7 : decode cX5_isSolution 7 = .ok (.invokestatic 143, 3) := by decide +kernel
theorem dX5_isSolution_10 : decode cX5_isSolution 10 = .ok (.ifCond .eq 42, 3) := by decide +kernel
theorem dX5_isSolution_13 : decode cX5_isSolution 13 = .ok (.aload_n 0, 1) := by decide +kernel
theorem dX5_isSolution_14 : decode cX5_isSolution 14 = .ok (.iload_n 1, 1) := by decide +kernel
theorem dX5_isSolution_15 : decode cX5_isSolution 15 = .ok (.iload_n 2, 1) := by decide +kernel
theorem dX5_isSolution_16 : decode cX5_isSolution 16 = .ok (.i2l, 1) := by decide +kernel
theorem dX5_isSolution_17 : decode cX5_isSolution 17 = .ok (.iload_n 3, 1) := by decide +kernel
theorem dX5_isSolution_18 : decode cX5_isSolution 18 = .ok (.i2l, 1) := by decide +kernel
theorem dX5_isSolution_19 : decode cX5_isSolution 19 = .ok (.iload 4, 2) := by decide +kernel
theorem dX5_isSolution_21 : decode cX5_isSolution 21 = .ok (.i2l, 1) := by decide +kernel
theorem dX5_isSolution_22 : decode cX5_isSolution 22 = .ok (.invokevirtual 114, 3) := by decide +kernel
theorem dX5_isSolution_25 : decode cX5_isSolution 25 = .ok (.lconst 0, 1) := by decide +kernel
theorem dX5_isSolution_26 : decode cX5_isSolution 26 = .ok (.lcmp, 1) := by decide +kernel
theorem dX5_isSolution_27 : decode cX5_isSolution 27 = .ok (.ifCond .ne 25, 3) := by decide +kernel
theorem dX5_isSolution_30 : decode cX5_isSolution 30 = .ok (.iload_n 2, 1) := by decide +kernel
theorem dX5_isSolution_31 : decode cX5_isSolution 31 = .ok (.i2l, 1) := by decide +kernel
theorem dX5_isSolution_32 : decode cX5_isSolution 32 = .ok (.iload_n 3, 1) := by decide +kernel
theorem dX5_isSolution_33 : decode cX5_isSolution 33 = .ok (.i2l, 1) := by decide +kernel
theorem dX5_isSolution_34 : decode cX5_isSolution 34 = .ok (.invokestatic 146, 3) := by decide +kernel
theorem dX5_isSolution_37 : decode cX5_isSolution 37 = .ok (.iload 4, 2) := by decide +kernel
theorem dX5_isSolution_39 : decode cX5_isSolution 39 = .ok (.i2l, 1) := by decide +kernel
theorem dX5_isSolution_40 : decode cX5_isSolution 40 = .ok (.invokestatic 146, 3) := by decide +kernel
theorem dX5_isSolution_43 : decode cX5_isSolution 43 = .ok (.lconst 1, 1) := by decide +kernel
theorem dX5_isSolution_44 : decode cX5_isSolution 44 = .ok (.lcmp, 1) := by decide +kernel
theorem dX5_isSolution_45 : decode cX5_isSolution 45 = .ok (.ifCond .ne 7, 3) := by decide +kernel
theorem dX5_isSolution_48 : decode cX5_isSolution 48 = .ok (.iconst 1, 1) := by decide +kernel
theorem dX5_isSolution_49 : decode cX5_isSolution 49 = .ok (.goto 4, 3) := by decide +kernel
theorem dX5_isSolution_52 : decode cX5_isSolution 52 = .ok (.iconst 0, 1) := by decide +kernel
theorem dX5_isSolution_53 : decode cX5_isSolution 53 = .ok (.ireturn, 1) := by decide +kernel
theorem dX5_seeks_0 : decode cX5_seeks 0 = .ok (.aload_n 0, 1) := by decide +kernel
theorem dX5_seeks_1 : decode cX5_seeks 1 = .ok (.iconst 0, 1) := by decide +kernel
theorem dX5_seeks_2 : decode cX5_seeks 2 = .ok (.putfield 150, 3) := by decide +kernel
theorem dX5_seeks_5 : decode cX5_seeks 5 = .ok (.iconst 0, 1) := by decide +kernel
theorem dX5_seeks_6 : decode cX5_seeks 6 = .ok (.istore_n 3, 1) := by decide +kernel
theorem dX5_seeks_7 : decode cX5_seeks 7 = .ok (.iload_n 3, 1) := by decide +kernel
theorem dX5_seeks_8 : decode cX5_seeks 8 = .ok (.bipush 30, 2) := by decide +kernel
theorem dX5_seeks_10 : decode cX5_seeks 10 = .ok (.if_icmp .gt 116, 3) := by decide +kernel
theorem dX5_seeks_13 : decode cX5_seeks 13 = .ok (.bipush (-30), 2) := by decide +kernel
theorem dX5_seeks_15 : decode cX5_seeks 15 = .ok (.istore 4, 2) := by decide +kernel
theorem dX5_seeks_17 : decode cX5_seeks 17 = .ok (.iload 4, 2) := by decide +kernel
theorem dX5_seeks_19 : decode cX5_seeks 19 = .ok (.bipush 30, 2) := by decide +kernel
theorem dX5_seeks_21 : decode cX5_seeks 21 = .ok (.if_icmp .gt 99, 3) := by decide +kernel
theorem dX5_seeks_24 : decode cX5_seeks 24 = .ok (.bipush (-30), 2) := by decide +kernel
theorem dX5_seeks_26 : decode cX5_seeks 26 = .ok (.istore 5, 2) := by decide +kernel
theorem dX5_seeks_28 : decode cX5_seeks 28 = .ok (.iload 5, 2) := by decide +kernel
theorem dX5_seeks_30 : decode cX5_seeks 30 = .ok (.bipush 30, 2) := by decide +kernel
theorem dX5_seeks_32 : decode cX5_seeks 32 = .ok (.if_icmp .gt 82, 3) := by decide +kernel
theorem dX5_seeks_35 : decode cX5_seeks 35 = .ok (.aload_n 0, 1) := by decide +kernel
theorem dX5_seeks_36 : decode cX5_seeks 36 = .ok (.iload_n 1, 1) := by decide +kernel
theorem dX5_seeks_37 : decode cX5_seeks 37 = .ok (.iload_n 3, 1) := by decide +kernel
theorem dX5_seeks_38 : decode cX5_seeks 38 = .ok (.iload 4, 2) := by decide +kernel
theorem dX5_seeks_40 : decode cX5_seeks 40 = .ok (.iload 5, 2) := by decide +kernel
theorem dX5_seeks_42 : decode cX5_seeks 42 = .ok (.invokevirtual 153, 3) := by decide +kernel
theorem dX5_seeks_45 : decode cX5_seeks 45 = .ok (.ifCond .eq 63, 3) := by decide +kernel
theorem dX5_seeks_48 : decode cX5_seeks 48 = .ok (.iload_n 2, 1) := by decide +kernel
theorem dX5_seeks_49 : decode cX5_seeks 49 = .ok (.iload_n 3, 1) := by decide +kernel
theorem dX5_seeks_50 : decode cX5_seeks 50 = .ok (.iload 4, 2) := by decide +kernel
theorem dX5_seeks_52 : decode cX5_seeks 52 = .ok (.iload 5, 2) := by decide +kernel
theorem dX5_seeks_54 : decode cX5_seeks 54 = .ok (.invokestatic 139, 3) := by decide +kernel
theorem dX5_seeks_57 : decode cX5_seeks 57 = .ok (.istore 6, 2) := by decide +kernel
theorem dX5_seeks_59 : decode cX5_seeks 59 = .ok (.aload_n 0, 1) := by decide +kernel
theorem dX5_seeks_60 : decode cX5_seeks 60 = .ok (.getfield 150, 3) := by decide +kernel
theorem dX5_seeks_63 : decode cX5_seeks 63 = .ok (.ifCond .eq 12, 3) := by decide +kernel
theorem dX5_seeks_66 : decode cX5_seeks 66 = .ok (.iload 6, 2) := by decide +kernel
theorem dX5_seeks_68 : decode cX5_seeks 68 = .ok (.aload_n 0, 1) := by decide +kernel
theorem dX5_seeks_69 : decode cX5_seeks 69 = .ok (.getfield 157, 3) := by decide +kernel
theorem dX5_seeks_72 : decode cX5_seeks 72 = .ok (.if_icmp .ge 26, 3) := by decide +kernel
theorem dX5_seeks_75 : decode cX5_seeks 75 = .ok (.aload_n 0, 1) := by decide +kernel
theorem dX5_seeks_76 : decode cX5_seeks 76 = .ok (.iload 6, 2) := by decide +kernel
theorem dX5_seeks_78 : decode cX5_seeks 78 = .ok (.putfield 157, 3) := by decide +kernel
theorem dX5_seeks_81 : decode cX5_seeks 81 = .ok (.aload_n 0, 1) := by decide +kernel
theorem dX5_seeks_82 : decode cX5_seeks 82 = .ok (.iload_n 3, 1) := by decide +kernel
theorem dX5_seeks_83 : decode cX5_seeks 83 = .ok (.putfield 160, 3) := by decide +kernel
theorem dX5_seeks_86 : decode cX5_seeks 86 = .ok (.aload_n 0, 1) := by decide +kernel
theorem dX5_seeks_87 : decode cX5_seeks 87 = .ok (.iload 4, 2) := by decide +kernel
theorem dX5_seeks_89 : decode cX5_seeks 89 = .ok (.putfield 163, 3) := by decide +kernel
theorem dX5_seeks_92 : decode cX5_seeks 92 = .ok (.aload_n 0, 1) := by decide +kernel
theorem dX5_seeks_93 : decode cX5_seeks 93 = .ok (.iload 5, 2) := by decide +kernel
theorem dX5_seeks_95 : decode cX5_seeks 95 = .ok (.putfield 166, 3) := by decide +kernel
theorem dX5_seeks_98 : decode cX5_seeks 98 = .ok (.aload_n 0, 1) := by decide +kernel
theorem dX5_seeks_99 : decode cX5_seeks 99 = .ok (.dup, 1) := by decide +kernel
theorem dX5_seeks_100 : decode cX5_seeks 100 = .ok (.getfield 150, 3) := by decide +kernel
theorem dX5_seeks_103 : decode cX5_seeks 103 = .ok (.iconst 1, 1) := by decide +kernel
theorem dX5_seeks_104 : decode cX5_seeks 104 = .ok (.iadd, 1) := by decide +kernel
theorem dX5_seeks_105 : decode cX5_seeks 105 = .ok (.putfield 150, 3) := by decide +kernel
theorem dX5_seeks_108 : decode cX5_seeks 108 = .ok (.iinc 5 1, 3) := by decide +kernel
theorem dX5_seeks_111 : decode cX5_seeks 111 = .ok (.goto (-83), 3) := by decide +kernel
theorem dX5_seeks_114 : decode cX5_seeks 114 = .ok (.iinc 4 1, 3) := by decide +kernel
theorem dX5_seeks_117 : decode cX5_seeks 117 = .ok (.goto (-100), 3) := by decide +kernel
theorem dX5_seeks_120 : decode cX5_seeks 120 = .ok (.iinc 3 1, 3) := by decide +kernel
theorem dX5_seeks_123 : decode cX5_seeks 123 = .ok (.goto (-116), 3) := by decide +kernel
theorem dX5_seeks_126 : decode cX5_seeks 126 = .ok (.return_, 1) := by decide +kernel
theorem dX5_least_0 : decode cX5_least 0 = .ok (.aload_n 0, 1) := by decide +kernel
theorem dX5_least_1 : decode cX5_least 1 = .ok (.iconst 0, 1) := by decide +kernel
theorem dX5_least_2 : decode cX5_least 2 = .ok (.putfield 16, 3) := by decide +kernel
theorem dX5_least_5 : decode cX5_least 5 = .ok (.aload_n 0, 1) := by decide +kernel
theorem dX5_least_6 : decode cX5_least 6 = .ok (.iload_n 1, 1) := by decide +kernel
theorem dX5_least_7 : decode cX5_least 7 = .ok (.invokevirtual 107, 3) := by decide +kernel
theorem dX5_least_10 : decode cX5_least 10 = .ok (.ifCond .eq 27, 3) := by decide +kernel
theorem dX5_least_13 : decode cX5_least 13 = .ok (.iload_n 2, 1) := by decide +kernel
theorem dX5_least_14 : decode cX5_least 14 = .ok (.i2l, 1) := by decide +kernel
theorem dX5_least_15 : decode cX5_least 15 = .ok (.lconst 0, 1) := by decide +kernel
theorem dX5_least_16 : decode cX5_least 16 = .ok (.ldc2_w 20, 3) := by decide +kernel
theorem dX5_least_19 : decode cX5_least 19 = .ok (.invokestatic 24, 3) := by decide +kernel
theorem dX5_least_22 : decode cX5_least 22 = .ok (.ifCond .eq 15, 3) := by decide +kernel
theorem dX5_least_25 : decode cX5_least 25 = .ok (.iload_n 3, 1) := by decide +kernel
theorem dX5_least_26 : decode cX5_least 26 = .ok (.i2l, 1) := by decide +kernel
theorem dX5_least_27 : decode cX5_least 27 = .ok (.lconst 0, 1) := by decide +kernel
theorem dX5_least_28 : decode cX5_least 28 = .ok (.ldc2_w 61, 3) := by decide +kernel
theorem dX5_least_31 : decode cX5_least 31 = .ok (.invokestatic 24, 3) := by decide +kernel
theorem dX5_least_34 : decode cX5_least 34 = .ok (.ifCond .ne 7, 3) := by decide +kernel
theorem dX5_least_37 : decode cX5_least 37 = .ok (.ldc2_w 118, 3) := by decide +kernel
theorem dX5_least_40 : decode cX5_least 40 = .ok (.lreturn, 1) := by decide +kernel
theorem dX5_least_41 : decode cX5_least 41 = .ok (.aload_n 0, 1) := by decide +kernel
theorem dX5_least_42 : decode cX5_least 42 = .ok (.iload_n 1, 1) := by decide +kernel
theorem dX5_least_43 : decode cX5_least 43 = .ok (.iload_n 2, 1) := by decide +kernel
theorem dX5_least_44 : decode cX5_least 44 = .ok (.invokevirtual 169, 3) := by decide +kernel
theorem dX5_least_47 : decode cX5_least 47 = .ok (.aload_n 0, 1) := by decide +kernel
theorem dX5_least_48 : decode cX5_least 48 = .ok (.getfield 150, 3) := by decide +kernel
theorem dX5_least_51 : decode cX5_least 51 = .ok (.ifCond .ne 7, 3) := by decide +kernel
theorem dX5_least_54 : decode cX5_least 54 = .ok (.ldc2_w 173, 3) := by decide +kernel
end
section
theorem dX5_least_57 : decode cX5_least 57 = .ok (.lreturn, 1) := by decide +kernel
theorem dX5_least_58 : decode cX5_least 58 = .ok (.iload_n 3, 1) := by decide +kernel
theorem dX5_least_59 : decode cX5_least 59 = .ok (.ifCond .ne 11, 3) := by decide +kernel
theorem dX5_least_62 : decode cX5_least 62 = .ok (.aload_n 0, 1) := by decide +kernel
theorem dX5_least_63 : decode cX5_least 63 = .ok (.getfield 160, 3) := by decide +kernel
theorem dX5_least_66 : decode cX5_least 66 = .ok (.i2l, 1) := by decide +kernel
theorem dX5_least_67 : decode cX5_least 67 = .ok (.goto 34, 3) := by decide +kernel
theorem dX5_least_70 : decode cX5_least 70 = .ok (.iload_n 3, 1) := by decide +kernel
theorem dX5_least_71 : decode cX5_least 71 = .ok (.iconst 1, 1) := by decide +kernel
theorem dX5_least_72 : decode cX5_least 72 = .ok (.if_icmp .ne 11, 3) := by decide +kernel
theorem dX5_least_75 : decode cX5_least 75 = .ok (.aload_n 0, 1) := by decide +kernel
theorem dX5_least_76 : decode cX5_least 76 = .ok (.getfield 163, 3) := by decide +kernel
theorem dX5_least_79 : decode cX5_least 79 = .ok (.i2l, 1) := by decide +kernel
theorem dX5_least_80 : decode cX5_least 80 = .ok (.goto 21, 3) := by decide +kernel
theorem dX5_least_83 : decode cX5_least 83 = .ok (.iload_n 3, 1) := by decide +kernel
theorem dX5_least_84 : decode cX5_least 84 = .ok (.iconst 2, 1) := by decide +kernel
theorem dX5_least_85 : decode cX5_least 85 = .ok (.if_icmp .ne 11, 3) := by decide +kernel
theorem dX5_least_88 : decode cX5_least 88 = .ok (.aload_n 0, 1) := by decide +kernel
theorem dX5_least_89 : decode cX5_least 89 = .ok (.getfield 166, 3) := by decide +kernel
theorem dX5_least_92 : decode cX5_least 92 = .ok (.i2l, 1) := by decide +kernel
theorem dX5_least_93 : decode cX5_least 93 = .ok (.goto 8, 3) := by decide +kernel
theorem dX5_least_96 : decode cX5_least 96 = .ok (.aload_n 0, 1) := by decide +kernel
theorem dX5_least_97 : decode cX5_least 97 = .ok (.getfield 157, 3) := by decide +kernel
theorem dX5_least_100 : decode cX5_least 100 = .ok (.i2l, 1) := by decide +kernel
theorem dX5_least_101 : decode cX5_least 101 = .ok (.lreturn, 1) := by decide +kernel
theorem dX5_many_0 : decode cX5_many 0 = .ok (.aload_n 0, 1) := by decide +kernel
theorem dX5_many_1 : decode cX5_many 1 = .ok (.iconst 0, 1) := by decide +kernel
theorem dX5_many_2 : decode cX5_many 2 = .ok (.putfield 16, 3) := by decide +kernel
theorem dX5_many_5 : decode cX5_many 5 = .ok (.aload_n 0, 1) := by decide +kernel
theorem dX5_many_6 : decode cX5_many 6 = .ok (.iload_n 1, 1) := by decide +kernel
theorem dX5_many_7 : decode cX5_many 7 = .ok (.invokevirtual 107, 3) := by decide +kernel
theorem dX5_many_10 : decode cX5_many 10 = .ok (.ifCond .ne 6, 3) := by decide +kernel
theorem dX5_many_13 : decode cX5_many 13 = .ok (.bipush (-3), 2) := by decide +kernel
theorem dX5_many_15 : decode cX5_many 15 = .ok (.ireturn, 1) := by decide +kernel
theorem dX5_many_16 : decode cX5_many 16 = .ok (.aload_n 0, 1) := by decide +kernel
theorem dX5_many_17 : decode cX5_many 17 = .ok (.iload_n 1, 1) := by decide +kernel
theorem dX5_many_18 : decode cX5_many 18 = .ok (.iconst 0, 1) := by decide +kernel
theorem dX5_many_19 : decode cX5_many 19 = .ok (.invokevirtual 169, 3) := by decide +kernel
theorem dX5_many_22 : decode cX5_many 22 = .ok (.aload_n 0, 1) := by decide +kernel
theorem dX5_many_23 : decode cX5_many 23 = .ok (.getfield 150, 3) := by decide +kernel
theorem dX5_many_26 : decode cX5_many 26 = .ok (.ireturn, 1) := by decide +kernel
theorem dX5_line_0 : decode cX5_line 0 = .ok (.aload_n 0, 1) := by decide +kernel
theorem dX5_line_1 : decode cX5_line 1 = .ok (.iconst 0, 1) := by decide +kernel
theorem dX5_line_2 : decode cX5_line 2 = .ok (.putfield 16, 3) := by decide +kernel
theorem dX5_line_5 : decode cX5_line 5 = .ok (.aload_n 0, 1) := by decide +kernel
theorem dX5_line_6 : decode cX5_line 6 = .ok (.iload_n 1, 1) := by decide +kernel
theorem dX5_line_7 : decode cX5_line 7 = .ok (.invokevirtual 107, 3) := by decide +kernel
theorem dX5_line_10 : decode cX5_line 10 = .ok (.ifCond .eq 65, 3) := by decide +kernel
theorem dX5_line_13 : decode cX5_line 13 = .ok (.iload 8, 2) := by decide +kernel
theorem dX5_line_15 : decode cX5_line 15 = .ok (.i2l, 1) := by decide +kernel
theorem dX5_line_16 : decode cX5_line 16 = .ok (.lconst 0, 1) := by decide +kernel
theorem dX5_line_17 : decode cX5_line 17 = .ok (.ldc2_w 20, 3) := by decide +kernel
theorem dX5_line_20 : decode cX5_line 20 = .ok (.invokestatic 24, 3) := by decide +kernel
theorem dX5_line_23 : decode cX5_line 23 = .ok (.ifCond .eq 52, 3) := by decide +kernel
theorem dX5_line_26 : decode cX5_line 26 = .ok (.iload_n 2, 1) := by decide +kernel
theorem dX5_line_27 : decode cX5_line 27 = .ok (.iload_n 3, 1) := by decide +kernel
theorem dX5_line_28 : decode cX5_line 28 = .ok (.iload 4, 2) := by decide +kernel
theorem dX5_line_30 : decode cX5_line 30 = .ok (.invokestatic 128, 3) := by decide +kernel
theorem dX5_line_33 : decode cX5_line 33 = .ok (.ifCond .eq 42, 3) := by decide +kernel
theorem dX5_line_36 : decode cX5_line 36 = .ok (.iload 5, 2) := by decide +kernel
theorem dX5_line_38 : decode cX5_line 38 = .ok (.iload 6, 2) := by decide +kernel
theorem dX5_line_40 : decode cX5_line 40 = .ok (.iload 7, 2) := by decide +kernel
theorem dX5_line_42 : decode cX5_line 42 = .ok (.invokestatic 128, 3) := by decide +kernel
theorem dX5_line_45 : decode cX5_line 45 = .ok (.ifCond .eq 30, 3) := by decide +kernel
theorem dX5_line_48 : decode cX5_line 48 = .ok (.iload 5, 2) := by decide +kernel
theorem dX5_line_50 : decode cX5_line 50 = .ok (.ifCond .ne 13, 3) := by decide +kernel
theorem dX5_line_53 : decode cX5_line 53 = .ok (.iload 6, 2) := by decide +kernel
theorem dX5_line_55 : decode cX5_line 55 = .ok (.ifCond .ne 8, 3) := by decide +kernel
theorem dX5_line_58 : decode cX5_line 58 = .ok (.iload 7, 2) := by decide +kernel
theorem dX5_line_60 : decode cX5_line 60 = .ok (.ifCond .eq 15, 3) := by decide +kernel
theorem dX5_line_63 : decode cX5_line 63 = .ok (.aload_n 0, 1) := by decide +kernel
theorem dX5_line_64 : decode cX5_line 64 = .ok (.iload_n 1, 1) := by decide +kernel
theorem dX5_line_65 : decode cX5_line 65 = .ok (.iload_n 2, 1) := by decide +kernel
theorem dX5_line_66 : decode cX5_line 66 = .ok (.iload_n 3, 1) := by decide +kernel
theorem dX5_line_67 : decode cX5_line 67 = .ok (.iload 4, 2) := by decide +kernel
theorem dX5_line_69 : decode cX5_line 69 = .ok (.invokevirtual 153, 3) := by decide +kernel
theorem dX5_line_72 : decode cX5_line 72 = .ok (.ifCond .ne 7, 3) := by decide +kernel
theorem dX5_line_75 : decode cX5_line 75 = .ok (.ldc2_w 118, 3) := by decide +kernel
theorem dX5_line_78 : decode cX5_line 78 = .ok (.lreturn, 1) := by decide +kernel
theorem dX5_line_79 : decode cX5_line 79 = .ok (.aload_n 0, 1) := by decide +kernel
theorem dX5_line_80 : decode cX5_line 80 = .ok (.iload_n 1, 1) := by decide +kernel
theorem dX5_line_81 : decode cX5_line 81 = .ok (.iload 5, 2) := by decide +kernel
theorem dX5_line_83 : decode cX5_line 83 = .ok (.i2l, 1) := by decide +kernel
theorem dX5_line_84 : decode cX5_line 84 = .ok (.iload 6, 2) := by decide +kernel
theorem dX5_line_86 : decode cX5_line 86 = .ok (.i2l, 1) := by decide +kernel
theorem dX5_line_87 : decode cX5_line 87 = .ok (.iload 7, 2) := by decide +kernel
theorem dX5_line_89 : decode cX5_line 89 = .ok (.i2l, 1) := by decide +kernel
theorem dX5_line_90 : decode cX5_line 90 = .ok (.invokevirtual 114, 3) := by decide +kernel
theorem dX5_line_93 : decode cX5_line 93 = .ok (.lstore 9, 2) := by decide +kernel
theorem dX5_line_95 : decode cX5_line 95 = .ok (.aload_n 0, 1) := by decide +kernel
theorem dX5_line_96 : decode cX5_line 96 = .ok (.getfield 13, 3) := by decide +kernel
theorem dX5_line_99 : decode cX5_line 99 = .ok (.bipush 6, 2) := by decide +kernel
theorem dX5_line_101 : decode cX5_line 101 = .ok (.iload_n 1, 1) := by decide +kernel
theorem dX5_line_102 : decode cX5_line 102 = .ok (.imul, 1) := by decide +kernel
theorem dX5_line_103 : decode cX5_line 103 = .ok (.iaload, 1) := by decide +kernel
theorem dX5_line_104 : decode cX5_line 104 = .ok (.i2l, 1) := by decide +kernel
theorem dX5_line_105 : decode cX5_line 105 = .ok (.iload_n 2, 1) := by decide +kernel
theorem dX5_line_106 : decode cX5_line 106 = .ok (.i2l, 1) := by decide +kernel
theorem dX5_line_107 : decode cX5_line 107 = .ok (.lmul, 1) := by decide +kernel
theorem dX5_line_108 : decode cX5_line 108 = .ok (.iload 5, 2) := by decide +kernel
theorem dX5_line_110 : decode cX5_line 110 = .ok (.i2l, 1) := by decide +kernel
theorem dX5_line_111 : decode cX5_line 111 = .ok (.lmul, 1) := by decide +kernel
theorem dX5_line_112 : decode cX5_line 112 = .ok (.aload_n 0, 1) := by decide +kernel
theorem dX5_line_113 : decode cX5_line 113 = .ok (.getfield 13, 3) := by decide +kernel
theorem dX5_line_116 : decode cX5_line 116 = .ok (.bipush 6, 2) := by decide +kernel
theorem dX5_line_118 : decode cX5_line 118 = .ok (.iload_n 1, 1) := by decide +kernel
theorem dX5_line_119 : decode cX5_line 119 = .ok (.imul, 1) := by decide +kernel
theorem dX5_line_120 : decode cX5_line 120 = .ok (.iconst 1, 1) := by decide +kernel
theorem dX5_line_121 : decode cX5_line 121 = .ok (.iadd, 1) := by decide +kernel
theorem dX5_line_122 : decode cX5_line 122 = .ok (.iaload, 1) := by decide +kernel
theorem dX5_line_123 : decode cX5_line 123 = .ok (.i2l, 1) := by decide +kernel
theorem dX5_line_124 : decode cX5_line 124 = .ok (.iload_n 3, 1) := by decide +kernel
theorem dX5_line_125 : decode cX5_line 125 = .ok (.i2l, 1) := by decide +kernel
theorem dX5_line_126 : decode cX5_line 126 = .ok (.lmul, 1) := by decide +kernel
theorem dX5_line_127 : decode cX5_line 127 = .ok (.iload 6, 2) := by decide +kernel
theorem dX5_line_129 : decode cX5_line 129 = .ok (.i2l, 1) := by decide +kernel
theorem dX5_line_130 : decode cX5_line 130 = .ok (.lmul, 1) := by decide +kernel
theorem dX5_line_131 : decode cX5_line 131 = .ok (.ladd, 1) := by decide +kernel
theorem dX5_line_132 : decode cX5_line 132 = .ok (.aload_n 0, 1) := by decide +kernel
theorem dX5_line_133 : decode cX5_line 133 = .ok (.getfield 13, 3) := by decide +kernel
theorem dX5_line_136 : decode cX5_line 136 = .ok (.bipush 6, 2) := by decide +kernel
theorem dX5_line_138 : decode cX5_line 138 = .ok (.iload_n 1, 1) := by decide +kernel
theorem dX5_line_139 : decode cX5_line 139 = .ok (.imul, 1) := by decide +kernel
theorem dX5_line_140 : decode cX5_line 140 = .ok (.iconst 2, 1) := by decide +kernel
theorem dX5_line_141 : decode cX5_line 141 = .ok (.iadd, 1) := by decide +kernel
theorem dX5_line_142 : decode cX5_line 142 = .ok (.iaload, 1) := by decide +kernel
theorem dX5_line_143 : decode cX5_line 143 = .ok (.i2l, 1) := by decide +kernel
theorem dX5_line_144 : decode cX5_line 144 = .ok (.iload 4, 2) := by decide +kernel
theorem dX5_line_146 : decode cX5_line 146 = .ok (.i2l, 1) := by decide +kernel
theorem dX5_line_147 : decode cX5_line 147 = .ok (.lmul, 1) := by decide +kernel
theorem dX5_line_148 : decode cX5_line 148 = .ok (.iload 7, 2) := by decide +kernel
theorem dX5_line_150 : decode cX5_line 150 = .ok (.i2l, 1) := by decide +kernel
theorem dX5_line_151 : decode cX5_line 151 = .ok (.lmul, 1) := by decide +kernel
theorem dX5_line_152 : decode cX5_line 152 = .ok (.ladd, 1) := by decide +kernel
theorem dX5_line_153 : decode cX5_line 153 = .ok (.lstore 11, 2) := by decide +kernel
theorem dX5_line_155 : decode cX5_line 155 = .ok (.lload 9, 2) := by decide +kernel
theorem dX5_line_157 : decode cX5_line 157 = .ok (.iload_n 2, 1) := by decide +kernel
theorem dX5_line_158 : decode cX5_line 158 = .ok (.i2l, 1) := by decide +kernel
theorem dX5_line_159 : decode cX5_line 159 = .ok (.lmul, 1) := by decide +kernel
theorem dX5_line_160 : decode cX5_line 160 = .ok (.ldc2_w 20, 3) := by decide +kernel
theorem dX5_line_163 : decode cX5_line 163 = .ok (.lload 11, 2) := by decide +kernel
theorem dX5_line_165 : decode cX5_line 165 = .ok (.lmul, 1) := by decide +kernel
theorem dX5_line_166 : decode cX5_line 166 = .ok (.iload 5, 2) := by decide +kernel
theorem dX5_line_168 : decode cX5_line 168 = .ok (.i2l, 1) := by decide +kernel
theorem dX5_line_169 : decode cX5_line 169 = .ok (.lmul, 1) := by decide +kernel
theorem dX5_line_170 : decode cX5_line 170 = .ok (.lsub, 1) := by decide +kernel
theorem dX5_line_171 : decode cX5_line 171 = .ok (.lstore 13, 2) := by decide +kernel
theorem dX5_line_173 : decode cX5_line 173 = .ok (.lload 9, 2) := by decide +kernel
theorem dX5_line_175 : decode cX5_line 175 = .ok (.iload_n 3, 1) := by decide +kernel
theorem dX5_line_176 : decode cX5_line 176 = .ok (.i2l, 1) := by decide +kernel
theorem dX5_line_177 : decode cX5_line 177 = .ok (.lmul, 1) := by decide +kernel
theorem dX5_line_178 : decode cX5_line 178 = .ok (.ldc2_w 20, 3) := by decide +kernel
theorem dX5_line_181 : decode cX5_line 181 = .ok (.lload 11, 2) := by decide +kernel
theorem dX5_line_183 : decode cX5_line 183 = .ok (.lmul, 1) := by decide +kernel
theorem dX5_line_184 : decode cX5_line 184 = .ok (.iload 6, 2) := by decide +kernel
theorem dX5_line_186 : decode cX5_line 186 = .ok (.i2l, 1) := by decide +kernel
theorem dX5_line_187 : decode cX5_line 187 = .ok (.lmul, 1) := by decide +kernel
theorem dX5_line_188 : decode cX5_line 188 = .ok (.lsub, 1) := by decide +kernel
theorem dX5_line_189 : decode cX5_line 189 = .ok (.lstore 15, 2) := by decide +kernel
theorem dX5_line_191 : decode cX5_line 191 = .ok (.lload 9, 2) := by decide +kernel
theorem dX5_line_193 : decode cX5_line 193 = .ok (.iload 4, 2) := by decide +kernel
theorem dX5_line_195 : decode cX5_line 195 = .ok (.i2l, 1) := by decide +kernel
theorem dX5_line_196 : decode cX5_line 196 = .ok (.lmul, 1) := by decide +kernel
theorem dX5_line_197 : decode cX5_line 197 = .ok (.ldc2_w 20, 3) := by decide +kernel
theorem dX5_line_200 : decode cX5_line 200 = .ok (.lload 11, 2) := by decide +kernel
theorem dX5_line_202 : decode cX5_line 202 = .ok (.lmul, 1) := by decide +kernel
theorem dX5_line_203 : decode cX5_line 203 = .ok (.iload 7, 2) := by decide +kernel
theorem dX5_line_205 : decode cX5_line 205 = .ok (.i2l, 1) := by decide +kernel
theorem dX5_line_206 : decode cX5_line 206 = .ok (.lmul, 1) := by decide +kernel
theorem dX5_line_207 : decode cX5_line 207 = .ok (.lsub, 1) := by decide +kernel
theorem dX5_line_208 : decode cX5_line 208 = .ok (.lstore 17, 2) := by decide +kernel
theorem dX5_line_210 : decode cX5_line 210 = .ok (.lload 13, 2) := by decide +kernel
theorem dX5_line_212 : decode cX5_line 212 = .ok (.lload 15, 2) := by decide +kernel
theorem dX5_line_214 : decode cX5_line 214 = .ok (.invokestatic 146, 3) := by decide +kernel
theorem dX5_line_217 : decode cX5_line 217 = .ok (.lload 17, 2) := by decide +kernel
theorem dX5_line_219 : decode cX5_line 219 = .ok (.invokestatic 146, 3) := by decide +kernel
theorem dX5_line_222 : decode cX5_line 222 = .ok (.lstore 19, 2) := by decide +kernel
theorem dX5_line_224 : decode cX5_line 224 = .ok (.lload 19, 2) := by decide +kernel
theorem dX5_line_226 : decode cX5_line 226 = .ok (.lconst 0, 1) := by decide +kernel
theorem dX5_line_227 : decode cX5_line 227 = .ok (.lcmp, 1) := by decide +kernel
theorem dX5_line_228 : decode cX5_line 228 = .ok (.ifCond .ne 28, 3) := by decide +kernel
theorem dX5_line_231 : decode cX5_line 231 = .ok (.iload 8, 2) := by decide +kernel
theorem dX5_line_233 : decode cX5_line 233 = .ok (.ifCond .ne 8, 3) := by decide +kernel
theorem dX5_line_236 : decode cX5_line 236 = .ok (.iload_n 2, 1) := by decide +kernel
theorem dX5_line_237 : decode cX5_line 237 = .ok (.i2l, 1) := by decide +kernel
theorem dX5_line_238 : decode cX5_line 238 = .ok (.goto 17, 3) := by decide +kernel
theorem dX5_line_241 : decode cX5_line 241 = .ok (.iload 8, 2) := by decide +kernel
theorem dX5_line_243 : decode cX5_line 243 = .ok (.iconst 1, 1) := by decide +kernel
theorem dX5_line_244 : decode cX5_line 244 = .ok (.if_icmp .ne 8, 3) := by decide +kernel
theorem dX5_line_247 : decode cX5_line 247 = .ok (.iload_n 3, 1) := by decide +kernel
theorem dX5_line_248 : decode cX5_line 248 = .ok (.i2l, 1) := by decide +kernel
theorem dX5_line_249 : decode cX5_line 249 = .ok (.goto 6, 3) := by decide +kernel
theorem dX5_line_252 : decode cX5_line 252 = .ok (.iload 4, 2) := by decide +kernel
theorem dX5_line_254 : decode cX5_line 254 = .ok (.i2l, 1) := by decide +kernel
theorem dX5_line_255 : decode cX5_line 255 = .ok (.lreturn, 1) := by decide +kernel
theorem dX5_line_256 : decode cX5_line 256 = .ok (.lload 13, 2) := by decide +kernel
theorem dX5_line_258 : decode cX5_line 258 = .ok (.lload 15, 2) := by decide +kernel
theorem dX5_line_260 : decode cX5_line 260 = .ok (.lload 17, 2) := by decide +kernel
theorem dX5_line_262 : decode cX5_line 262 = .ok (.invokestatic 143, 3) := by decide +kernel
theorem dX5_line_265 : decode cX5_line 265 = .ok (.ifCond .eq 8, 3) := by decide +kernel
theorem dX5_line_268 : decode cX5_line 268 = .ok (.lload 19, 2) := by decide +kernel
theorem dX5_line_270 : decode cX5_line 270 = .ok (.goto 6, 3) := by decide +kernel
theorem dX5_line_273 : decode cX5_line 273 = .ok (.lload 19, 2) := by decide +kernel
theorem dX5_line_275 : decode cX5_line 275 = .ok (.lneg, 1) := by decide +kernel
theorem dX5_line_276 : decode cX5_line 276 = .ok (.lstore 19, 2) := by decide +kernel
theorem dX5_line_278 : decode cX5_line 278 = .ok (.iload 8, 2) := by decide +kernel
theorem dX5_line_280 : decode cX5_line 280 = .ok (.ifCond .ne 11, 3) := by decide +kernel
theorem dX5_line_283 : decode cX5_line 283 = .ok (.lload 13, 2) := by decide +kernel
theorem dX5_line_285 : decode cX5_line 285 = .ok (.lload 19, 2) := by decide +kernel
theorem dX5_line_287 : decode cX5_line 287 = .ok (.ldiv, 1) := by decide +kernel
theorem dX5_line_288 : decode cX5_line 288 = .ok (.goto 22, 3) := by decide +kernel
theorem dX5_line_291 : decode cX5_line 291 = .ok (.iload 8, 2) := by decide +kernel
theorem dX5_line_293 : decode cX5_line 293 = .ok (.iconst 1, 1) := by decide +kernel
theorem dX5_line_294 : decode cX5_line 294 = .ok (.if_icmp .ne 11, 3) := by decide +kernel
theorem dX5_line_297 : decode cX5_line 297 = .ok (.lload 15, 2) := by decide +kernel
theorem dX5_line_299 : decode cX5_line 299 = .ok (.lload 19, 2) := by decide +kernel
theorem dX5_line_301 : decode cX5_line 301 = .ok (.ldiv, 1) := by decide +kernel
theorem dX5_line_302 : decode cX5_line 302 = .ok (.goto 8, 3) := by decide +kernel
theorem dX5_line_305 : decode cX5_line 305 = .ok (.lload 17, 2) := by decide +kernel
theorem dX5_line_307 : decode cX5_line 307 = .ok (.lload 19, 2) := by decide +kernel
theorem dX5_line_309 : decode cX5_line 309 = .ok (.ldiv, 1) := by decide +kernel
theorem dX5_line_310 : decode cX5_line 310 = .ok (.lreturn, 1) := by decide +kernel
theorem dX5_count_0 : decode cX5_count 0 = .ok (.aload_n 0, 1) := by decide +kernel
theorem dX5_count_1 : decode cX5_count 1 = .ok (.iconst 0, 1) := by decide +kernel
theorem dX5_count_2 : decode cX5_count 2 = .ok (.putfield 16, 3) := by decide +kernel
theorem dX5_count_5 : decode cX5_count 5 = .ok (.iload_n 1, 1) := by decide +kernel
theorem dX5_count_6 : decode cX5_count 6 = .ok (.invokestatic 63, 3) := by decide +kernel
theorem dX5_count_9 : decode cX5_count 9 = .ok (.ifCond .eq 13, 3) := by decide +kernel
theorem dX5_count_12 : decode cX5_count 12 = .ok (.iload_n 2, 1) := by decide +kernel
theorem dX5_count_13 : decode cX5_count 13 = .ok (.i2l, 1) := by decide +kernel
theorem dX5_count_14 : decode cX5_count 14 = .ok (.lconst 0, 1) := by decide +kernel
theorem dX5_count_15 : decode cX5_count 15 = .ok (.lconst 1, 1) := by decide +kernel
theorem dX5_count_16 : decode cX5_count 16 = .ok (.invokestatic 24, 3) := by decide +kernel
theorem dX5_count_19 : decode cX5_count 19 = .ok (.ifCond .ne 6, 3) := by decide +kernel
theorem dX5_count_22 : decode cX5_count 22 = .ok (.bipush (-3), 2) := by decide +kernel
theorem dX5_count_24 : decode cX5_count 24 = .ok (.ireturn, 1) := by decide +kernel
theorem dX5_count_25 : decode cX5_count 25 = .ok (.iload_n 2, 1) := by decide +kernel
theorem dX5_count_26 : decode cX5_count 26 = .ok (.ifCond .ne 12, 3) := by decide +kernel
theorem dX5_count_29 : decode cX5_count 29 = .ok (.aload_n 0, 1) := by decide +kernel
theorem dX5_count_30 : decode cX5_count 30 = .ok (.getfield 7, 3) := by decide +kernel
theorem dX5_count_33 : decode cX5_count 33 = .ok (.iload_n 1, 1) := by decide +kernel
theorem dX5_count_34 : decode cX5_count 34 = .ok (.iaload, 1) := by decide +kernel
theorem dX5_count_35 : decode cX5_count 35 = .ok (.goto 14, 3) := by decide +kernel
theorem dX5_count_38 : decode cX5_count 38 = .ok (.aload_n 0, 1) := by decide +kernel
theorem dX5_count_39 : decode cX5_count 39 = .ok (.iload_n 1, 1) := by decide +kernel
theorem dX5_count_40 : decode cX5_count 40 = .ok (.aload_n 0, 1) := by decide +kernel
theorem dX5_count_41 : decode cX5_count 41 = .ok (.getfield 7, 3) := by decide +kernel
theorem dX5_count_44 : decode cX5_count 44 = .ok (.iload_n 1, 1) := by decide +kernel
theorem dX5_count_45 : decode cX5_count 45 = .ok (.iaload, 1) := by decide +kernel
theorem dX5_count_46 : decode cX5_count 46 = .ok (.invokevirtual 80, 3) := by decide +kernel
theorem dX5_count_49 : decode cX5_count 49 = .ok (.ireturn, 1) := by decide +kernel
theorem dX5_trace_0 : decode cX5_trace 0 = .ok (.aload_n 0, 1) := by decide +kernel
theorem dX5_trace_1 : decode cX5_trace 1 = .ok (.iconst 0, 1) := by decide +kernel
theorem dX5_trace_2 : decode cX5_trace 2 = .ok (.putfield 16, 3) := by decide +kernel
theorem dX5_trace_5 : decode cX5_trace 5 = .ok (.aload_n 0, 1) := by decide +kernel
theorem dX5_trace_6 : decode cX5_trace 6 = .ok (.getfield 131, 3) := by decide +kernel
theorem dX5_trace_9 : decode cX5_trace 9 = .ok (.lreturn, 1) := by decide +kernel
theorem dJ9_floorMod_1978a_0 : decode cJ9_floorMod_1978a 0 = .ok (.lload_n 0, 1) := by decide +kernel
theorem dJ9_floorMod_1978a_1 : decode cJ9_floorMod_1978a 1 = .ok (.iload_n 2, 1) := by decide +kernel
theorem dJ9_floorMod_1978a_2 : decode cJ9_floorMod_1978a 2 = .ok (.i2l, 1) := by decide +kernel
theorem dJ9_floorMod_1978a_3 : decode cJ9_floorMod_1978a 3 = .ok (.invokestatic 146, 3) := by decide +kernel
theorem dJ9_floorMod_1978a_6 : decode cJ9_floorMod_1978a 6 = .ok (.l2i, 1) := by decide +kernel
theorem dJ9_floorMod_1978a_7 : decode cJ9_floorMod_1978a 7 = .ok (.ireturn, 1) := by decide +kernel
theorem dJ9_floorMod_f86c9_0 : decode cJ9_floorMod_f86c9 0 = .ok (.lload_n 0, 1) := by decide +kernel
theorem dJ9_floorMod_f86c9_1 : decode cJ9_floorMod_f86c9 1 = .ok (.lload_n 2, 1) := by decide +kernel
theorem dJ9_floorMod_f86c9_2 : decode cJ9_floorMod_f86c9 2 = .ok (.lrem, 1) := by decide +kernel
theorem dJ9_floorMod_f86c9_3 : decode cJ9_floorMod_f86c9 3 = .ok (.lstore 4, 2) := by decide +kernel
theorem dJ9_floorMod_f86c9_5 : decode cJ9_floorMod_f86c9 5 = .ok (.lload_n 0, 1) := by decide +kernel
theorem dJ9_floorMod_f86c9_6 : decode cJ9_floorMod_f86c9 6 = .ok (.lload_n 2, 1) := by decide +kernel
theorem dJ9_floorMod_f86c9_7 : decode cJ9_floorMod_f86c9 7 = .ok (.lxor, 1) := by decide +kernel
theorem dJ9_floorMod_f86c9_8 : decode cJ9_floorMod_f86c9 8 = .ok (.lconst 0, 1) := by decide +kernel
theorem dJ9_floorMod_f86c9_9 : decode cJ9_floorMod_f86c9 9 = .ok (.lcmp, 1) := by decide +kernel
theorem dJ9_floorMod_f86c9_10 : decode cJ9_floorMod_f86c9 10 = .ok (.ifCond .ge 15, 3) := by decide +kernel
theorem dJ9_floorMod_f86c9_13 : decode cJ9_floorMod_f86c9 13 = .ok (.lload 4, 2) := by decide +kernel
theorem dJ9_floorMod_f86c9_15 : decode cJ9_floorMod_f86c9 15 = .ok (.lconst 0, 1) := by decide +kernel
theorem dJ9_floorMod_f86c9_16 : decode cJ9_floorMod_f86c9 16 = .ok (.lcmp, 1) := by decide +kernel
theorem dJ9_floorMod_f86c9_17 : decode cJ9_floorMod_f86c9 17 = .ok (.ifCond .eq 8, 3) := by decide +kernel
theorem dJ9_floorMod_f86c9_20 : decode cJ9_floorMod_f86c9 20 = .ok (.lload 4, 2) := by decide +kernel
theorem dJ9_floorMod_f86c9_22 : decode cJ9_floorMod_f86c9 22 = .ok (.lload_n 2, 1) := by decide +kernel
theorem dJ9_floorMod_f86c9_23 : decode cJ9_floorMod_f86c9 23 = .ok (.ladd, 1) := by decide +kernel
theorem dJ9_floorMod_f86c9_24 : decode cJ9_floorMod_f86c9 24 = .ok (.lreturn, 1) := by decide +kernel
theorem dJ9_floorMod_f86c9_25 : decode cJ9_floorMod_f86c9 25 = .ok (.lload 4, 2) := by decide +kernel
theorem dJ9_floorMod_f86c9_27 : decode cJ9_floorMod_f86c9 27 = .ok (.lreturn, 1) := by decide +kernel
theorem dJ9_abs_0f7a4_0 : decode cJ9_abs_0f7a4 0 = .ok (.iload_n 0, 1) := by decide +kernel
theorem dJ9_abs_0f7a4_1 : decode cJ9_abs_0f7a4 1 = .ok (.ifCond .ge 8, 3) := by decide +kernel
theorem dJ9_abs_0f7a4_4 : decode cJ9_abs_0f7a4 4 = .ok (.iload_n 0, 1) := by decide +kernel
theorem dJ9_abs_0f7a4_5 : decode cJ9_abs_0f7a4 5 = .ok (.ineg, 1) := by decide +kernel
theorem dJ9_abs_0f7a4_6 : decode cJ9_abs_0f7a4 6 = .ok (.goto 4, 3) := by decide +kernel
theorem dJ9_abs_0f7a4_9 : decode cJ9_abs_0f7a4 9 = .ok (.iload_n 0, 1) := by decide +kernel
theorem dJ9_abs_0f7a4_10 : decode cJ9_abs_0f7a4 10 = .ok (.ireturn, 1) := by decide +kernel
theorem dJ9_abs_067f4_0 : decode cJ9_abs_067f4 0 = .ok (.lload_n 0, 1) := by decide +kernel
theorem dJ9_abs_067f4_1 : decode cJ9_abs_067f4 1 = .ok (.lconst 0, 1) := by decide +kernel
theorem dJ9_abs_067f4_2 : decode cJ9_abs_067f4 2 = .ok (.lcmp, 1) := by decide +kernel
theorem dJ9_abs_067f4_3 : decode cJ9_abs_067f4 3 = .ok (.ifCond .ge 8, 3) := by decide +kernel
theorem dJ9_abs_067f4_6 : decode cJ9_abs_067f4 6 = .ok (.lload_n 0, 1) := by decide +kernel
theorem dJ9_abs_067f4_7 : decode cJ9_abs_067f4 7 = .ok (.lneg, 1) := by decide +kernel
theorem dJ9_abs_067f4_8 : decode cJ9_abs_067f4 8 = .ok (.goto 4, 3) := by decide +kernel
theorem dJ9_abs_067f4_11 : decode cJ9_abs_067f4 11 = .ok (.lload_n 0, 1) := by decide +kernel
theorem dJ9_abs_067f4_12 : decode cJ9_abs_067f4 12 = .ok (.lreturn, 1) := by decide +kernel
theorem dJ9_max_7cf53_0 : decode cJ9_max_7cf53 0 = .ok (.iload_n 0, 1) := by decide +kernel
theorem dJ9_max_7cf53_1 : decode cJ9_max_7cf53 1 = .ok (.iload_n 1, 1) := by decide +kernel
theorem dJ9_max_7cf53_2 : decode cJ9_max_7cf53 2 = .ok (.if_icmp .lt 7, 3) := by decide +kernel
theorem dJ9_max_7cf53_5 : decode cJ9_max_7cf53 5 = .ok (.iload_n 0, 1) := by decide +kernel
theorem dJ9_max_7cf53_6 : decode cJ9_max_7cf53 6 = .ok (.goto 4, 3) := by decide +kernel
theorem dJ9_max_7cf53_9 : decode cJ9_max_7cf53 9 = .ok (.iload_n 1, 1) := by decide +kernel
theorem dJ9_max_7cf53_10 : decode cJ9_max_7cf53 10 = .ok (.ireturn, 1) := by decide +kernel
theorem dL_law_0 : decode cL_law 0 = .ok (.new 7, 3) := by decide +kernel
theorem dL_law_3 : decode cL_law 3 = .ok (.dup, 1) := by decide +kernel
theorem dL_law_4 : decode cL_law 4 = .ok (.invokespecial 9, 3) := by decide +kernel
theorem dL_law_7 : decode cL_law 7 = .ok (.astore_n 1, 1) := by decide +kernel
theorem dL_law_8 : decode cL_law 8 = .ok (.new 10, 3) := by decide +kernel
theorem dL_law_11 : decode cL_law 11 = .ok (.dup, 1) := by decide +kernel
theorem dL_law_12 : decode cL_law 12 = .ok (.invokespecial 12, 3) := by decide +kernel
theorem dL_law_15 : decode cL_law 15 = .ok (.astore_n 2, 1) := by decide +kernel
theorem dL_law_16 : decode cL_law 16 = .ok (.iconst 0, 1) := by decide +kernel
theorem dL_law_17 : decode cL_law 17 = .ok (.istore_n 3, 1) := by decide +kernel
theorem dL_law_18 : decode cL_law 18 = .ok (.iload_n 3, 1) := by decide +kernel
theorem dL_law_19 : decode cL_law 19 = .ok (.aload_n 0, 1) := by decide +kernel
theorem dL_law_20 : decode cL_law 20 = .ok (.arraylength, 1) := by decide +kernel
theorem dL_law_21 : decode cL_law 21 = .ok (.bipush 9, 2) := by decide +kernel
theorem dL_law_23 : decode cL_law 23 = .ok (.isub, 1) := by decide +kernel
theorem dL_law_24 : decode cL_law 24 = .ok (.if_icmp .gt 895, 3) := by decide +kernel
theorem dL_law_27 : decode cL_law 27 = .ok (.aload_n 0, 1) := by decide +kernel
theorem dL_law_28 : decode cL_law 28 = .ok (.iload_n 3, 1) := by decide +kernel
theorem dL_law_29 : decode cL_law 29 = .ok (.iaload, 1) := by decide +kernel
theorem dL_law_30 : decode cL_law 30 = .ok (.bipush 31, 2) := by decide +kernel
theorem dL_law_32 : decode cL_law 32 = .ok (.iand, 1) := by decide +kernel
theorem dL_law_33 : decode cL_law 33 = .ok (.tableswitch 880 0 19 #[95, 118, 161, 194, 281, 314, 348, 381, 414, 437, 460, 493, 526, 559, 613, 666, 710, 733, 833, 866], 95) := by decide +kernel
theorem dL_law_128 : decode cL_law 128 = .ok (.aload_n 1, 1) := by decide +kernel
theorem dL_law_129 : decode cL_law 129 = .ok (.aload_n 0, 1) := by decide +kernel
theorem dL_law_130 : decode cL_law 130 = .ok (.iload_n 3, 1) := by decide +kernel
theorem dL_law_131 : decode cL_law 131 = .ok (.iconst 1, 1) := by decide +kernel
theorem dL_law_132 : decode cL_law 132 = .ok (.iadd, 1) := by decide +kernel
theorem dL_law_133 : decode cL_law 133 = .ok (.iaload, 1) := by decide +kernel
theorem dL_law_134 : decode cL_law 134 = .ok (.invokevirtual 13, 3) := by decide +kernel
theorem dL_law_137 : decode cL_law 137 = .ok (.aload_n 2, 1) := by decide +kernel
theorem dL_law_138 : decode cL_law 138 = .ok (.aload_n 0, 1) := by decide +kernel
theorem dL_law_139 : decode cL_law 139 = .ok (.iload_n 3, 1) := by decide +kernel
theorem dL_law_140 : decode cL_law 140 = .ok (.iconst 1, 1) := by decide +kernel
theorem dL_law_141 : decode cL_law 141 = .ok (.iadd, 1) := by decide +kernel
theorem dL_law_142 : decode cL_law 142 = .ok (.iaload, 1) := by decide +kernel
theorem dL_law_143 : decode cL_law 143 = .ok (.invokevirtual 17, 3) := by decide +kernel
theorem dL_law_146 : decode cL_law 146 = .ok (.if_icmp .eq 767, 3) := by decide +kernel
theorem dL_law_149 : decode cL_law 149 = .ok (.iconst 0, 1) := by decide +kernel
theorem dL_law_150 : decode cL_law 150 = .ok (.ireturn, 1) := by decide +kernel
theorem dL_law_151 : decode cL_law 151 = .ok (.aload_n 1, 1) := by decide +kernel
theorem dL_law_152 : decode cL_law 152 = .ok (.aload_n 0, 1) := by decide +kernel
theorem dL_law_153 : decode cL_law 153 = .ok (.iload_n 3, 1) := by decide +kernel
theorem dL_law_154 : decode cL_law 154 = .ok (.iconst 1, 1) := by decide +kernel
theorem dL_law_155 : decode cL_law 155 = .ok (.iadd, 1) := by decide +kernel
theorem dL_law_156 : decode cL_law 156 = .ok (.iaload, 1) := by decide +kernel
theorem dL_law_157 : decode cL_law 157 = .ok (.aload_n 0, 1) := by decide +kernel
theorem dL_law_158 : decode cL_law 158 = .ok (.iload_n 3, 1) := by decide +kernel
theorem dL_law_159 : decode cL_law 159 = .ok (.iconst 2, 1) := by decide +kernel
theorem dL_law_160 : decode cL_law 160 = .ok (.iadd, 1) := by decide +kernel
theorem dL_law_161 : decode cL_law 161 = .ok (.iaload, 1) := by decide +kernel
theorem dL_law_162 : decode cL_law 162 = .ok (.aload_n 0, 1) := by decide +kernel
theorem dL_law_163 : decode cL_law 163 = .ok (.iload_n 3, 1) := by decide +kernel
theorem dL_law_164 : decode cL_law 164 = .ok (.iconst 3, 1) := by decide +kernel
theorem dL_law_165 : decode cL_law 165 = .ok (.iadd, 1) := by decide +kernel
theorem dL_law_166 : decode cL_law 166 = .ok (.iaload, 1) := by decide +kernel
theorem dL_law_167 : decode cL_law 167 = .ok (.invokevirtual 18, 3) := by decide +kernel
theorem dL_law_170 : decode cL_law 170 = .ok (.aload_n 2, 1) := by decide +kernel
theorem dL_law_171 : decode cL_law 171 = .ok (.aload_n 0, 1) := by decide +kernel
theorem dL_law_172 : decode cL_law 172 = .ok (.iload_n 3, 1) := by decide +kernel
theorem dL_law_173 : decode cL_law 173 = .ok (.iconst 1, 1) := by decide +kernel
theorem dL_law_174 : decode cL_law 174 = .ok (.iadd, 1) := by decide +kernel
theorem dL_law_175 : decode cL_law 175 = .ok (.iaload, 1) := by decide +kernel
theorem dL_law_176 : decode cL_law 176 = .ok (.aload_n 0, 1) := by decide +kernel
theorem dL_law_177 : decode cL_law 177 = .ok (.iload_n 3, 1) := by decide +kernel
theorem dL_law_178 : decode cL_law 178 = .ok (.iconst 2, 1) := by decide +kernel
theorem dL_law_179 : decode cL_law 179 = .ok (.iadd, 1) := by decide +kernel
theorem dL_law_180 : decode cL_law 180 = .ok (.iaload, 1) := by decide +kernel
theorem dL_law_181 : decode cL_law 181 = .ok (.aload_n 0, 1) := by decide +kernel
theorem dL_law_182 : decode cL_law 182 = .ok (.iload_n 3, 1) := by decide +kernel
theorem dL_law_183 : decode cL_law 183 = .ok (.iconst 3, 1) := by decide +kernel
theorem dL_law_184 : decode cL_law 184 = .ok (.iadd, 1) := by decide +kernel
theorem dL_law_185 : decode cL_law 185 = .ok (.iaload, 1) := by decide +kernel
theorem dL_law_186 : decode cL_law 186 = .ok (.invokevirtual 22, 3) := by decide +kernel
theorem dL_law_189 : decode cL_law 189 = .ok (.if_icmp .eq 724, 3) := by decide +kernel
theorem dL_law_192 : decode cL_law 192 = .ok (.iconst 0, 1) := by decide +kernel
theorem dL_law_193 : decode cL_law 193 = .ok (.ireturn, 1) := by decide +kernel
theorem dL_law_194 : decode cL_law 194 = .ok (.aload_n 1, 1) := by decide +kernel
theorem dL_law_195 : decode cL_law 195 = .ok (.aload_n 0, 1) := by decide +kernel
theorem dL_law_196 : decode cL_law 196 = .ok (.iload_n 3, 1) := by decide +kernel
theorem dL_law_197 : decode cL_law 197 = .ok (.iconst 1, 1) := by decide +kernel
theorem dL_law_198 : decode cL_law 198 = .ok (.iadd, 1) := by decide +kernel
theorem dL_law_199 : decode cL_law 199 = .ok (.iaload, 1) := by decide +kernel
theorem dL_law_200 : decode cL_law 200 = .ok (.aload_n 0, 1) := by decide +kernel
theorem dL_law_201 : decode cL_law 201 = .ok (.iload_n 3, 1) := by decide +kernel
theorem dL_law_202 : decode cL_law 202 = .ok (.iconst 2, 1) := by decide +kernel
theorem dL_law_203 : decode cL_law 203 = .ok (.iadd, 1) := by decide +kernel
theorem dL_law_204 : decode cL_law 204 = .ok (.iaload, 1) := by decide +kernel
theorem dL_law_205 : decode cL_law 205 = .ok (.invokevirtual 23, 3) := by decide +kernel
theorem dL_law_208 : decode cL_law 208 = .ok (.aload_n 2, 1) := by decide +kernel
theorem dL_law_209 : decode cL_law 209 = .ok (.aload_n 0, 1) := by decide +kernel
theorem dL_law_210 : decode cL_law 210 = .ok (.iload_n 3, 1) := by decide +kernel
theorem dL_law_211 : decode cL_law 211 = .ok (.iconst 1, 1) := by decide +kernel
theorem dL_law_212 : decode cL_law 212 = .ok (.iadd, 1) := by decide +kernel
theorem dL_law_213 : decode cL_law 213 = .ok (.iaload, 1) := by decide +kernel
theorem dL_law_214 : decode cL_law 214 = .ok (.aload_n 0, 1) := by decide +kernel
theorem dL_law_215 : decode cL_law 215 = .ok (.iload_n 3, 1) := by decide +kernel
theorem dL_law_216 : decode cL_law 216 = .ok (.iconst 2, 1) := by decide +kernel
theorem dL_law_217 : decode cL_law 217 = .ok (.iadd, 1) := by decide +kernel
theorem dL_law_218 : decode cL_law 218 = .ok (.iaload, 1) := by decide +kernel
theorem dL_law_219 : decode cL_law 219 = .ok (.invokevirtual 27, 3) := by decide +kernel
theorem dL_law_222 : decode cL_law 222 = .ok (.if_icmp .eq 691, 3) := by decide +kernel
theorem dL_law_225 : decode cL_law 225 = .ok (.iconst 0, 1) := by decide +kernel
theorem dL_law_226 : decode cL_law 226 = .ok (.ireturn, 1) := by decide +kernel
theorem dL_law_227 : decode cL_law 227 = .ok (.aload_n 1, 1) := by decide +kernel
theorem dL_law_228 : decode cL_law 228 = .ok (.aload_n 0, 1) := by decide +kernel
theorem dL_law_229 : decode cL_law 229 = .ok (.iload_n 3, 1) := by decide +kernel
theorem dL_law_230 : decode cL_law 230 = .ok (.iconst 1, 1) := by decide +kernel
theorem dL_law_231 : decode cL_law 231 = .ok (.iadd, 1) := by decide +kernel
theorem dL_law_232 : decode cL_law 232 = .ok (.iaload, 1) := by decide +kernel
theorem dL_law_233 : decode cL_law 233 = .ok (.aload_n 0, 1) := by decide +kernel
theorem dL_law_234 : decode cL_law 234 = .ok (.iload_n 3, 1) := by decide +kernel
theorem dL_law_235 : decode cL_law 235 = .ok (.iconst 2, 1) := by decide +kernel
theorem dL_law_236 : decode cL_law 236 = .ok (.iadd, 1) := by decide +kernel
theorem dL_law_237 : decode cL_law 237 = .ok (.iaload, 1) := by decide +kernel
theorem dL_law_238 : decode cL_law 238 = .ok (.aload_n 0, 1) := by decide +kernel
theorem dL_law_239 : decode cL_law 239 = .ok (.iload_n 3, 1) := by decide +kernel
theorem dL_law_240 : decode cL_law 240 = .ok (.iconst 3, 1) := by decide +kernel
theorem dL_law_241 : decode cL_law 241 = .ok (.iadd, 1) := by decide +kernel
theorem dL_law_242 : decode cL_law 242 = .ok (.iaload, 1) := by decide +kernel
theorem dL_law_243 : decode cL_law 243 = .ok (.aload_n 0, 1) := by decide +kernel
theorem dL_law_244 : decode cL_law 244 = .ok (.iload_n 3, 1) := by decide +kernel
theorem dL_law_245 : decode cL_law 245 = .ok (.iconst 4, 1) := by decide +kernel
theorem dL_law_246 : decode cL_law 246 = .ok (.iadd, 1) := by decide +kernel
theorem dL_law_247 : decode cL_law 247 = .ok (.iaload, 1) := by decide +kernel
theorem dL_law_248 : decode cL_law 248 = .ok (.aload_n 0, 1) := by decide +kernel
theorem dL_law_249 : decode cL_law 249 = .ok (.iload_n 3, 1) := by decide +kernel
theorem dL_law_250 : decode cL_law 250 = .ok (.iconst 5, 1) := by decide +kernel
theorem dL_law_251 : decode cL_law 251 = .ok (.iadd, 1) := by decide +kernel
theorem dL_law_252 : decode cL_law 252 = .ok (.iaload, 1) := by decide +kernel
theorem dL_law_253 : decode cL_law 253 = .ok (.aload_n 0, 1) := by decide +kernel
theorem dL_law_254 : decode cL_law 254 = .ok (.iload_n 3, 1) := by decide +kernel
theorem dL_law_255 : decode cL_law 255 = .ok (.bipush 6, 2) := by decide +kernel
theorem dL_law_257 : decode cL_law 257 = .ok (.iadd, 1) := by decide +kernel
theorem dL_law_258 : decode cL_law 258 = .ok (.iaload, 1) := by decide +kernel
theorem dL_law_259 : decode cL_law 259 = .ok (.aload_n 0, 1) := by decide +kernel
theorem dL_law_260 : decode cL_law 260 = .ok (.iload_n 3, 1) := by decide +kernel
theorem dL_law_261 : decode cL_law 261 = .ok (.bipush 7, 2) := by decide +kernel
theorem dL_law_263 : decode cL_law 263 = .ok (.iadd, 1) := by decide +kernel
theorem dL_law_264 : decode cL_law 264 = .ok (.iaload, 1) := by decide +kernel
theorem dL_law_265 : decode cL_law 265 = .ok (.invokevirtual 28, 3) := by decide +kernel
theorem dL_law_268 : decode cL_law 268 = .ok (.aload_n 2, 1) := by decide +kernel
theorem dL_law_269 : decode cL_law 269 = .ok (.aload_n 0, 1) := by decide +kernel
theorem dL_law_270 : decode cL_law 270 = .ok (.iload_n 3, 1) := by decide +kernel
theorem dL_law_271 : decode cL_law 271 = .ok (.iconst 1, 1) := by decide +kernel
theorem dL_law_272 : decode cL_law 272 = .ok (.iadd, 1) := by decide +kernel
theorem dL_law_273 : decode cL_law 273 = .ok (.iaload, 1) := by decide +kernel
theorem dL_law_274 : decode cL_law 274 = .ok (.aload_n 0, 1) := by decide +kernel
theorem dL_law_275 : decode cL_law 275 = .ok (.iload_n 3, 1) := by decide +kernel
theorem dL_law_276 : decode cL_law 276 = .ok (.iconst 2, 1) := by decide +kernel
theorem dL_law_277 : decode cL_law 277 = .ok (.iadd, 1) := by decide +kernel
theorem dL_law_278 : decode cL_law 278 = .ok (.iaload, 1) := by decide +kernel
theorem dL_law_279 : decode cL_law 279 = .ok (.aload_n 0, 1) := by decide +kernel
theorem dL_law_280 : decode cL_law 280 = .ok (.iload_n 3, 1) := by decide +kernel
theorem dL_law_281 : decode cL_law 281 = .ok (.iconst 3, 1) := by decide +kernel
theorem dL_law_282 : decode cL_law 282 = .ok (.iadd, 1) := by decide +kernel
theorem dL_law_283 : decode cL_law 283 = .ok (.iaload, 1) := by decide +kernel
theorem dL_law_284 : decode cL_law 284 = .ok (.aload_n 0, 1) := by decide +kernel
theorem dL_law_285 : decode cL_law 285 = .ok (.iload_n 3, 1) := by decide +kernel
theorem dL_law_286 : decode cL_law 286 = .ok (.iconst 4, 1) := by decide +kernel
theorem dL_law_287 : decode cL_law 287 = .ok (.iadd, 1) := by decide +kernel
theorem dL_law_288 : decode cL_law 288 = .ok (.iaload, 1) := by decide +kernel
theorem dL_law_289 : decode cL_law 289 = .ok (.aload_n 0, 1) := by decide +kernel
theorem dL_law_290 : decode cL_law 290 = .ok (.iload_n 3, 1) := by decide +kernel
theorem dL_law_291 : decode cL_law 291 = .ok (.iconst 5, 1) := by decide +kernel
theorem dL_law_292 : decode cL_law 292 = .ok (.iadd, 1) := by decide +kernel
theorem dL_law_293 : decode cL_law 293 = .ok (.iaload, 1) := by decide +kernel
theorem dL_law_294 : decode cL_law 294 = .ok (.aload_n 0, 1) := by decide +kernel
theorem dL_law_295 : decode cL_law 295 = .ok (.iload_n 3, 1) := by decide +kernel
theorem dL_law_296 : decode cL_law 296 = .ok (.bipush 6, 2) := by decide +kernel
theorem dL_law_298 : decode cL_law 298 = .ok (.iadd, 1) := by decide +kernel
theorem dL_law_299 : decode cL_law 299 = .ok (.iaload, 1) := by decide +kernel
theorem dL_law_300 : decode cL_law 300 = .ok (.aload_n 0, 1) := by decide +kernel
theorem dL_law_301 : decode cL_law 301 = .ok (.iload_n 3, 1) := by decide +kernel
theorem dL_law_302 : decode cL_law 302 = .ok (.bipush 7, 2) := by decide +kernel
theorem dL_law_304 : decode cL_law 304 = .ok (.iadd, 1) := by decide +kernel
theorem dL_law_305 : decode cL_law 305 = .ok (.iaload, 1) := by decide +kernel
theorem dL_law_306 : decode cL_law 306 = .ok (.invokevirtual 32, 3) := by decide +kernel
theorem dL_law_309 : decode cL_law 309 = .ok (.if_icmp .eq 604, 3) := by decide +kernel
theorem dL_law_312 : decode cL_law 312 = .ok (.iconst 0, 1) := by decide +kernel
theorem dL_law_313 : decode cL_law 313 = .ok (.ireturn, 1) := by decide +kernel
theorem dL_law_314 : decode cL_law 314 = .ok (.aload_n 1, 1) := by decide +kernel
theorem dL_law_315 : decode cL_law 315 = .ok (.aload_n 0, 1) := by decide +kernel
theorem dL_law_316 : decode cL_law 316 = .ok (.iload_n 3, 1) := by decide +kernel
theorem dL_law_317 : decode cL_law 317 = .ok (.iconst 1, 1) := by decide +kernel
theorem dL_law_318 : decode cL_law 318 = .ok (.iadd, 1) := by decide +kernel
theorem dL_law_319 : decode cL_law 319 = .ok (.iaload, 1) := by decide +kernel
theorem dL_law_320 : decode cL_law 320 = .ok (.aload_n 0, 1) := by decide +kernel
theorem dL_law_321 : decode cL_law 321 = .ok (.iload_n 3, 1) := by decide +kernel
theorem dL_law_322 : decode cL_law 322 = .ok (.iconst 2, 1) := by decide +kernel
theorem dL_law_323 : decode cL_law 323 = .ok (.iadd, 1) := by decide +kernel
theorem dL_law_324 : decode cL_law 324 = .ok (.iaload, 1) := by decide +kernel
theorem dL_law_325 : decode cL_law 325 = .ok (.invokevirtual 33, 3) := by decide +kernel
theorem dL_law_328 : decode cL_law 328 = .ok (.aload_n 2, 1) := by decide +kernel
theorem dL_law_329 : decode cL_law 329 = .ok (.aload_n 0, 1) := by decide +kernel
theorem dL_law_330 : decode cL_law 330 = .ok (.iload_n 3, 1) := by decide +kernel
theorem dL_law_331 : decode cL_law 331 = .ok (.iconst 1, 1) := by decide +kernel
theorem dL_law_332 : decode cL_law 332 = .ok (.iadd, 1) := by decide +kernel
theorem dL_law_333 : decode cL_law 333 = .ok (.iaload, 1) := by decide +kernel
theorem dL_law_334 : decode cL_law 334 = .ok (.aload_n 0, 1) := by decide +kernel
theorem dL_law_335 : decode cL_law 335 = .ok (.iload_n 3, 1) := by decide +kernel
theorem dL_law_336 : decode cL_law 336 = .ok (.iconst 2, 1) := by decide +kernel
theorem dL_law_337 : decode cL_law 337 = .ok (.iadd, 1) := by decide +kernel
theorem dL_law_338 : decode cL_law 338 = .ok (.iaload, 1) := by decide +kernel
theorem dL_law_339 : decode cL_law 339 = .ok (.invokevirtual 36, 3) := by decide +kernel
theorem dL_law_342 : decode cL_law 342 = .ok (.if_icmp .eq 571, 3) := by decide +kernel
theorem dL_law_345 : decode cL_law 345 = .ok (.iconst 0, 1) := by decide +kernel
theorem dL_law_346 : decode cL_law 346 = .ok (.ireturn, 1) := by decide +kernel
theorem dL_law_347 : decode cL_law 347 = .ok (.aload_n 1, 1) := by decide +kernel
theorem dL_law_348 : decode cL_law 348 = .ok (.aload_n 0, 1) := by decide +kernel
theorem dL_law_349 : decode cL_law 349 = .ok (.iload_n 3, 1) := by decide +kernel
theorem dL_law_350 : decode cL_law 350 = .ok (.iconst 1, 1) := by decide +kernel
theorem dL_law_351 : decode cL_law 351 = .ok (.iadd, 1) := by decide +kernel
theorem dL_law_352 : decode cL_law 352 = .ok (.iaload, 1) := by decide +kernel
theorem dL_law_353 : decode cL_law 353 = .ok (.aload_n 0, 1) := by decide +kernel
theorem dL_law_354 : decode cL_law 354 = .ok (.iload_n 3, 1) := by decide +kernel
theorem dL_law_355 : decode cL_law 355 = .ok (.iconst 2, 1) := by decide +kernel
theorem dL_law_356 : decode cL_law 356 = .ok (.iadd, 1) := by decide +kernel
theorem dL_law_357 : decode cL_law 357 = .ok (.iaload, 1) := by decide +kernel
theorem dL_law_358 : decode cL_law 358 = .ok (.invokevirtual 37, 3) := by decide +kernel
theorem dL_law_361 : decode cL_law 361 = .ok (.aload_n 2, 1) := by decide +kernel
theorem dL_law_362 : decode cL_law 362 = .ok (.aload_n 0, 1) := by decide +kernel
theorem dL_law_363 : decode cL_law 363 = .ok (.iload_n 3, 1) := by decide +kernel
theorem dL_law_364 : decode cL_law 364 = .ok (.iconst 1, 1) := by decide +kernel
theorem dL_law_365 : decode cL_law 365 = .ok (.iadd, 1) := by decide +kernel
theorem dL_law_366 : decode cL_law 366 = .ok (.iaload, 1) := by decide +kernel
theorem dL_law_367 : decode cL_law 367 = .ok (.aload_n 0, 1) := by decide +kernel
theorem dL_law_368 : decode cL_law 368 = .ok (.iload_n 3, 1) := by decide +kernel
theorem dL_law_369 : decode cL_law 369 = .ok (.iconst 2, 1) := by decide +kernel
theorem dL_law_370 : decode cL_law 370 = .ok (.iadd, 1) := by decide +kernel
theorem dL_law_371 : decode cL_law 371 = .ok (.iaload, 1) := by decide +kernel
theorem dL_law_372 : decode cL_law 372 = .ok (.invokevirtual 41, 3) := by decide +kernel
theorem dL_law_375 : decode cL_law 375 = .ok (.lcmp, 1) := by decide +kernel
theorem dL_law_376 : decode cL_law 376 = .ok (.ifCond .eq 537, 3) := by decide +kernel
theorem dL_law_379 : decode cL_law 379 = .ok (.iconst 0, 1) := by decide +kernel
theorem dL_law_380 : decode cL_law 380 = .ok (.ireturn, 1) := by decide +kernel
theorem dL_law_381 : decode cL_law 381 = .ok (.aload_n 1, 1) := by decide +kernel
theorem dL_law_382 : decode cL_law 382 = .ok (.aload_n 0, 1) := by decide +kernel
theorem dL_law_383 : decode cL_law 383 = .ok (.iload_n 3, 1) := by decide +kernel
theorem dL_law_384 : decode cL_law 384 = .ok (.iconst 1, 1) := by decide +kernel
theorem dL_law_385 : decode cL_law 385 = .ok (.iadd, 1) := by decide +kernel
theorem dL_law_386 : decode cL_law 386 = .ok (.iaload, 1) := by decide +kernel
theorem dL_law_387 : decode cL_law 387 = .ok (.aload_n 0, 1) := by decide +kernel
theorem dL_law_388 : decode cL_law 388 = .ok (.iload_n 3, 1) := by decide +kernel
theorem dL_law_389 : decode cL_law 389 = .ok (.iconst 2, 1) := by decide +kernel
theorem dL_law_390 : decode cL_law 390 = .ok (.iadd, 1) := by decide +kernel
theorem dL_law_391 : decode cL_law 391 = .ok (.iaload, 1) := by decide +kernel
theorem dL_law_392 : decode cL_law 392 = .ok (.invokevirtual 42, 3) := by decide +kernel
theorem dL_law_395 : decode cL_law 395 = .ok (.aload_n 2, 1) := by decide +kernel
theorem dL_law_396 : decode cL_law 396 = .ok (.aload_n 0, 1) := by decide +kernel
theorem dL_law_397 : decode cL_law 397 = .ok (.iload_n 3, 1) := by decide +kernel
theorem dL_law_398 : decode cL_law 398 = .ok (.iconst 1, 1) := by decide +kernel
theorem dL_law_399 : decode cL_law 399 = .ok (.iadd, 1) := by decide +kernel
theorem dL_law_400 : decode cL_law 400 = .ok (.iaload, 1) := by decide +kernel
theorem dL_law_401 : decode cL_law 401 = .ok (.aload_n 0, 1) := by decide +kernel
theorem dL_law_402 : decode cL_law 402 = .ok (.iload_n 3, 1) := by decide +kernel
theorem dL_law_403 : decode cL_law 403 = .ok (.iconst 2, 1) := by decide +kernel
theorem dL_law_404 : decode cL_law 404 = .ok (.iadd, 1) := by decide +kernel
theorem dL_law_405 : decode cL_law 405 = .ok (.iaload, 1) := by decide +kernel
theorem dL_law_406 : decode cL_law 406 = .ok (.invokevirtual 45, 3) := by decide +kernel
theorem dL_law_409 : decode cL_law 409 = .ok (.if_icmp .eq 504, 3) := by decide +kernel
theorem dL_law_412 : decode cL_law 412 = .ok (.iconst 0, 1) := by decide +kernel
theorem dL_law_413 : decode cL_law 413 = .ok (.ireturn, 1) := by decide +kernel
theorem dL_law_414 : decode cL_law 414 = .ok (.aload_n 1, 1) := by decide +kernel
theorem dL_law_415 : decode cL_law 415 = .ok (.aload_n 0, 1) := by decide +kernel
theorem dL_law_416 : decode cL_law 416 = .ok (.iload_n 3, 1) := by decide +kernel
theorem dL_law_417 : decode cL_law 417 = .ok (.iconst 1, 1) := by decide +kernel
theorem dL_law_418 : decode cL_law 418 = .ok (.iadd, 1) := by decide +kernel
theorem dL_law_419 : decode cL_law 419 = .ok (.iaload, 1) := by decide +kernel
theorem dL_law_420 : decode cL_law 420 = .ok (.aload_n 0, 1) := by decide +kernel
theorem dL_law_421 : decode cL_law 421 = .ok (.iload_n 3, 1) := by decide +kernel
theorem dL_law_422 : decode cL_law 422 = .ok (.iconst 2, 1) := by decide +kernel
theorem dL_law_423 : decode cL_law 423 = .ok (.iadd, 1) := by decide +kernel
theorem dL_law_424 : decode cL_law 424 = .ok (.iaload, 1) := by decide +kernel
theorem dL_law_425 : decode cL_law 425 = .ok (.invokevirtual 46, 3) := by decide +kernel
theorem dL_law_428 : decode cL_law 428 = .ok (.aload_n 2, 1) := by decide +kernel
theorem dL_law_429 : decode cL_law 429 = .ok (.aload_n 0, 1) := by decide +kernel
theorem dL_law_430 : decode cL_law 430 = .ok (.iload_n 3, 1) := by decide +kernel
theorem dL_law_431 : decode cL_law 431 = .ok (.iconst 1, 1) := by decide +kernel
theorem dL_law_432 : decode cL_law 432 = .ok (.iadd, 1) := by decide +kernel
theorem dL_law_433 : decode cL_law 433 = .ok (.iaload, 1) := by decide +kernel
theorem dL_law_434 : decode cL_law 434 = .ok (.aload_n 0, 1) := by decide +kernel
theorem dL_law_435 : decode cL_law 435 = .ok (.iload_n 3, 1) := by decide +kernel
theorem dL_law_436 : decode cL_law 436 = .ok (.iconst 2, 1) := by decide +kernel
theorem dL_law_437 : decode cL_law 437 = .ok (.iadd, 1) := by decide +kernel
theorem dL_law_438 : decode cL_law 438 = .ok (.iaload, 1) := by decide +kernel
theorem dL_law_439 : decode cL_law 439 = .ok (.invokevirtual 49, 3) := by decide +kernel
theorem dL_law_442 : decode cL_law 442 = .ok (.if_icmp .eq 471, 3) := by decide +kernel
theorem dL_law_445 : decode cL_law 445 = .ok (.iconst 0, 1) := by decide +kernel
theorem dL_law_446 : decode cL_law 446 = .ok (.ireturn, 1) := by decide +kernel
theorem dL_law_447 : decode cL_law 447 = .ok (.aload_n 1, 1) := by decide +kernel
theorem dL_law_448 : decode cL_law 448 = .ok (.aload_n 0, 1) := by decide +kernel
theorem dL_law_449 : decode cL_law 449 = .ok (.iload_n 3, 1) := by decide +kernel
theorem dL_law_450 : decode cL_law 450 = .ok (.iconst 1, 1) := by decide +kernel
theorem dL_law_451 : decode cL_law 451 = .ok (.iadd, 1) := by decide +kernel
theorem dL_law_452 : decode cL_law 452 = .ok (.iaload, 1) := by decide +kernel
theorem dL_law_453 : decode cL_law 453 = .ok (.invokevirtual 50, 3) := by decide +kernel
theorem dL_law_456 : decode cL_law 456 = .ok (.aload_n 2, 1) := by decide +kernel
theorem dL_law_457 : decode cL_law 457 = .ok (.aload_n 0, 1) := by decide +kernel
theorem dL_law_458 : decode cL_law 458 = .ok (.iload_n 3, 1) := by decide +kernel
theorem dL_law_459 : decode cL_law 459 = .ok (.iconst 1, 1) := by decide +kernel
theorem dL_law_460 : decode cL_law 460 = .ok (.iadd, 1) := by decide +kernel
theorem dL_law_461 : decode cL_law 461 = .ok (.iaload, 1) := by decide +kernel
theorem dL_law_462 : decode cL_law 462 = .ok (.invokevirtual 53, 3) := by decide +kernel
theorem dL_law_465 : decode cL_law 465 = .ok (.if_icmp .eq 448, 3) := by decide +kernel
theorem dL_law_468 : decode cL_law 468 = .ok (.iconst 0, 1) := by decide +kernel
theorem dL_law_469 : decode cL_law 469 = .ok (.ireturn, 1) := by decide +kernel
theorem dL_law_470 : decode cL_law 470 = .ok (.aload_n 1, 1) := by decide +kernel
theorem dL_law_471 : decode cL_law 471 = .ok (.aload_n 0, 1) := by decide +kernel
theorem dL_law_472 : decode cL_law 472 = .ok (.iload_n 3, 1) := by decide +kernel
theorem dL_law_473 : decode cL_law 473 = .ok (.iconst 1, 1) := by decide +kernel
theorem dL_law_474 : decode cL_law 474 = .ok (.iadd, 1) := by decide +kernel
theorem dL_law_475 : decode cL_law 475 = .ok (.iaload, 1) := by decide +kernel
theorem dL_law_476 : decode cL_law 476 = .ok (.invokevirtual 54, 3) := by decide +kernel
theorem dL_law_479 : decode cL_law 479 = .ok (.aload_n 2, 1) := by decide +kernel
theorem dL_law_480 : decode cL_law 480 = .ok (.aload_n 0, 1) := by decide +kernel
theorem dL_law_481 : decode cL_law 481 = .ok (.iload_n 3, 1) := by decide +kernel
theorem dL_law_482 : decode cL_law 482 = .ok (.iconst 1, 1) := by decide +kernel
theorem dL_law_483 : decode cL_law 483 = .ok (.iadd, 1) := by decide +kernel
theorem dL_law_484 : decode cL_law 484 = .ok (.iaload, 1) := by decide +kernel
theorem dL_law_485 : decode cL_law 485 = .ok (.invokevirtual 57, 3) := by decide +kernel
theorem dL_law_488 : decode cL_law 488 = .ok (.if_icmp .eq 425, 3) := by decide +kernel
theorem dL_law_491 : decode cL_law 491 = .ok (.iconst 0, 1) := by decide +kernel
theorem dL_law_492 : decode cL_law 492 = .ok (.ireturn, 1) := by decide +kernel
theorem dL_law_493 : decode cL_law 493 = .ok (.aload_n 1, 1) := by decide +kernel
theorem dL_law_494 : decode cL_law 494 = .ok (.aload_n 0, 1) := by decide +kernel
theorem dL_law_495 : decode cL_law 495 = .ok (.iload_n 3, 1) := by decide +kernel
theorem dL_law_496 : decode cL_law 496 = .ok (.iconst 1, 1) := by decide +kernel
theorem dL_law_497 : decode cL_law 497 = .ok (.iadd, 1) := by decide +kernel
theorem dL_law_498 : decode cL_law 498 = .ok (.iaload, 1) := by decide +kernel
theorem dL_law_499 : decode cL_law 499 = .ok (.aload_n 0, 1) := by decide +kernel
theorem dL_law_500 : decode cL_law 500 = .ok (.iload_n 3, 1) := by decide +kernel
theorem dL_law_501 : decode cL_law 501 = .ok (.iconst 2, 1) := by decide +kernel
theorem dL_law_502 : decode cL_law 502 = .ok (.iadd, 1) := by decide +kernel
theorem dL_law_503 : decode cL_law 503 = .ok (.iaload, 1) := by decide +kernel
theorem dL_law_504 : decode cL_law 504 = .ok (.invokevirtual 58, 3) := by decide +kernel
theorem dL_law_507 : decode cL_law 507 = .ok (.aload_n 2, 1) := by decide +kernel
theorem dL_law_508 : decode cL_law 508 = .ok (.aload_n 0, 1) := by decide +kernel
theorem dL_law_509 : decode cL_law 509 = .ok (.iload_n 3, 1) := by decide +kernel
theorem dL_law_510 : decode cL_law 510 = .ok (.iconst 1, 1) := by decide +kernel
theorem dL_law_511 : decode cL_law 511 = .ok (.iadd, 1) := by decide +kernel
theorem dL_law_512 : decode cL_law 512 = .ok (.iaload, 1) := by decide +kernel
theorem dL_law_513 : decode cL_law 513 = .ok (.aload_n 0, 1) := by decide +kernel
theorem dL_law_514 : decode cL_law 514 = .ok (.iload_n 3, 1) := by decide +kernel
theorem dL_law_515 : decode cL_law 515 = .ok (.iconst 2, 1) := by decide +kernel
theorem dL_law_516 : decode cL_law 516 = .ok (.iadd, 1) := by decide +kernel
theorem dL_law_517 : decode cL_law 517 = .ok (.iaload, 1) := by decide +kernel
theorem dL_law_518 : decode cL_law 518 = .ok (.invokevirtual 61, 3) := by decide +kernel
theorem dL_law_521 : decode cL_law 521 = .ok (.if_icmp .eq 392, 3) := by decide +kernel
theorem dL_law_524 : decode cL_law 524 = .ok (.iconst 0, 1) := by decide +kernel
theorem dL_law_525 : decode cL_law 525 = .ok (.ireturn, 1) := by decide +kernel
theorem dL_law_526 : decode cL_law 526 = .ok (.aload_n 1, 1) := by decide +kernel
theorem dL_law_527 : decode cL_law 527 = .ok (.aload_n 0, 1) := by decide +kernel
theorem dL_law_528 : decode cL_law 528 = .ok (.iload_n 3, 1) := by decide +kernel
theorem dL_law_529 : decode cL_law 529 = .ok (.iconst 1, 1) := by decide +kernel
theorem dL_law_530 : decode cL_law 530 = .ok (.iadd, 1) := by decide +kernel
theorem dL_law_531 : decode cL_law 531 = .ok (.iaload, 1) := by decide +kernel
theorem dL_law_532 : decode cL_law 532 = .ok (.aload_n 0, 1) := by decide +kernel
theorem dL_law_533 : decode cL_law 533 = .ok (.iload_n 3, 1) := by decide +kernel
theorem dL_law_534 : decode cL_law 534 = .ok (.iconst 2, 1) := by decide +kernel
theorem dL_law_535 : decode cL_law 535 = .ok (.iadd, 1) := by decide +kernel
theorem dL_law_536 : decode cL_law 536 = .ok (.iaload, 1) := by decide +kernel
theorem dL_law_537 : decode cL_law 537 = .ok (.invokevirtual 62, 3) := by decide +kernel
theorem dL_law_540 : decode cL_law 540 = .ok (.aload_n 2, 1) := by decide +kernel
theorem dL_law_541 : decode cL_law 541 = .ok (.aload_n 0, 1) := by decide +kernel
theorem dL_law_542 : decode cL_law 542 = .ok (.iload_n 3, 1) := by decide +kernel
theorem dL_law_543 : decode cL_law 543 = .ok (.iconst 1, 1) := by decide +kernel
theorem dL_law_544 : decode cL_law 544 = .ok (.iadd, 1) := by decide +kernel
theorem dL_law_545 : decode cL_law 545 = .ok (.iaload, 1) := by decide +kernel
theorem dL_law_546 : decode cL_law 546 = .ok (.aload_n 0, 1) := by decide +kernel
theorem dL_law_547 : decode cL_law 547 = .ok (.iload_n 3, 1) := by decide +kernel
theorem dL_law_548 : decode cL_law 548 = .ok (.iconst 2, 1) := by decide +kernel
theorem dL_law_549 : decode cL_law 549 = .ok (.iadd, 1) := by decide +kernel
theorem dL_law_550 : decode cL_law 550 = .ok (.iaload, 1) := by decide +kernel
theorem dL_law_551 : decode cL_law 551 = .ok (.invokevirtual 65, 3) := by decide +kernel
theorem dL_law_554 : decode cL_law 554 = .ok (.if_icmp .eq 359, 3) := by decide +kernel
theorem dL_law_557 : decode cL_law 557 = .ok (.iconst 0, 1) := by decide +kernel
theorem dL_law_558 : decode cL_law 558 = .ok (.ireturn, 1) := by decide +kernel
theorem dL_law_559 : decode cL_law 559 = .ok (.aload_n 1, 1) := by decide +kernel
theorem dL_law_560 : decode cL_law 560 = .ok (.aload_n 0, 1) := by decide +kernel
theorem dL_law_561 : decode cL_law 561 = .ok (.iload_n 3, 1) := by decide +kernel
theorem dL_law_562 : decode cL_law 562 = .ok (.iconst 1, 1) := by decide +kernel
theorem dL_law_563 : decode cL_law 563 = .ok (.iadd, 1) := by decide +kernel
theorem dL_law_564 : decode cL_law 564 = .ok (.iaload, 1) := by decide +kernel
theorem dL_law_565 : decode cL_law 565 = .ok (.aload_n 0, 1) := by decide +kernel
theorem dL_law_566 : decode cL_law 566 = .ok (.iload_n 3, 1) := by decide +kernel
theorem dL_law_567 : decode cL_law 567 = .ok (.iconst 2, 1) := by decide +kernel
theorem dL_law_568 : decode cL_law 568 = .ok (.iadd, 1) := by decide +kernel
theorem dL_law_569 : decode cL_law 569 = .ok (.iaload, 1) := by decide +kernel
theorem dL_law_570 : decode cL_law 570 = .ok (.invokevirtual 66, 3) := by decide +kernel
theorem dL_law_573 : decode cL_law 573 = .ok (.aload_n 2, 1) := by decide +kernel
theorem dL_law_574 : decode cL_law 574 = .ok (.aload_n 0, 1) := by decide +kernel
theorem dL_law_575 : decode cL_law 575 = .ok (.iload_n 3, 1) := by decide +kernel
theorem dL_law_576 : decode cL_law 576 = .ok (.iconst 1, 1) := by decide +kernel
theorem dL_law_577 : decode cL_law 577 = .ok (.iadd, 1) := by decide +kernel
theorem dL_law_578 : decode cL_law 578 = .ok (.iaload, 1) := by decide +kernel
theorem dL_law_579 : decode cL_law 579 = .ok (.aload_n 0, 1) := by decide +kernel
theorem dL_law_580 : decode cL_law 580 = .ok (.iload_n 3, 1) := by decide +kernel
theorem dL_law_581 : decode cL_law 581 = .ok (.iconst 2, 1) := by decide +kernel
theorem dL_law_582 : decode cL_law 582 = .ok (.iadd, 1) := by decide +kernel
theorem dL_law_583 : decode cL_law 583 = .ok (.iaload, 1) := by decide +kernel
theorem dL_law_584 : decode cL_law 584 = .ok (.invokevirtual 69, 3) := by decide +kernel
theorem dL_law_587 : decode cL_law 587 = .ok (.if_icmp .eq 326, 3) := by decide +kernel
theorem dL_law_590 : decode cL_law 590 = .ok (.iconst 0, 1) := by decide +kernel
theorem dL_law_591 : decode cL_law 591 = .ok (.ireturn, 1) := by decide +kernel
theorem dL_law_592 : decode cL_law 592 = .ok (.aload_n 1, 1) := by decide +kernel
theorem dL_law_593 : decode cL_law 593 = .ok (.aload_n 0, 1) := by decide +kernel
theorem dL_law_594 : decode cL_law 594 = .ok (.iload_n 3, 1) := by decide +kernel
theorem dL_law_595 : decode cL_law 595 = .ok (.iconst 1, 1) := by decide +kernel
theorem dL_law_596 : decode cL_law 596 = .ok (.iadd, 1) := by decide +kernel
theorem dL_law_597 : decode cL_law 597 = .ok (.iaload, 1) := by decide +kernel
theorem dL_law_598 : decode cL_law 598 = .ok (.aload_n 0, 1) := by decide +kernel
theorem dL_law_599 : decode cL_law 599 = .ok (.iload_n 3, 1) := by decide +kernel
theorem dL_law_600 : decode cL_law 600 = .ok (.iconst 2, 1) := by decide +kernel
theorem dL_law_601 : decode cL_law 601 = .ok (.iadd, 1) := by decide +kernel
theorem dL_law_602 : decode cL_law 602 = .ok (.iaload, 1) := by decide +kernel
theorem dL_law_603 : decode cL_law 603 = .ok (.aload_n 0, 1) := by decide +kernel
theorem dL_law_604 : decode cL_law 604 = .ok (.iload_n 3, 1) := by decide +kernel
theorem dL_law_605 : decode cL_law 605 = .ok (.iconst 3, 1) := by decide +kernel
theorem dL_law_606 : decode cL_law 606 = .ok (.iadd, 1) := by decide +kernel
theorem dL_law_607 : decode cL_law 607 = .ok (.iaload, 1) := by decide +kernel
theorem dL_law_608 : decode cL_law 608 = .ok (.aload_n 0, 1) := by decide +kernel
theorem dL_law_609 : decode cL_law 609 = .ok (.iload_n 3, 1) := by decide +kernel
theorem dL_law_610 : decode cL_law 610 = .ok (.iconst 4, 1) := by decide +kernel
theorem dL_law_611 : decode cL_law 611 = .ok (.iadd, 1) := by decide +kernel
theorem dL_law_612 : decode cL_law 612 = .ok (.iaload, 1) := by decide +kernel
theorem dL_law_613 : decode cL_law 613 = .ok (.invokevirtual 70, 3) := by decide +kernel
theorem dL_law_616 : decode cL_law 616 = .ok (.aload_n 2, 1) := by decide +kernel
theorem dL_law_617 : decode cL_law 617 = .ok (.aload_n 0, 1) := by decide +kernel
theorem dL_law_618 : decode cL_law 618 = .ok (.iload_n 3, 1) := by decide +kernel
theorem dL_law_619 : decode cL_law 619 = .ok (.iconst 1, 1) := by decide +kernel
theorem dL_law_620 : decode cL_law 620 = .ok (.iadd, 1) := by decide +kernel
theorem dL_law_621 : decode cL_law 621 = .ok (.iaload, 1) := by decide +kernel
theorem dL_law_622 : decode cL_law 622 = .ok (.aload_n 0, 1) := by decide +kernel
theorem dL_law_623 : decode cL_law 623 = .ok (.iload_n 3, 1) := by decide +kernel
theorem dL_law_624 : decode cL_law 624 = .ok (.iconst 2, 1) := by decide +kernel
theorem dL_law_625 : decode cL_law 625 = .ok (.iadd, 1) := by decide +kernel
theorem dL_law_626 : decode cL_law 626 = .ok (.iaload, 1) := by decide +kernel
theorem dL_law_627 : decode cL_law 627 = .ok (.aload_n 0, 1) := by decide +kernel
theorem dL_law_628 : decode cL_law 628 = .ok (.iload_n 3, 1) := by decide +kernel
theorem dL_law_629 : decode cL_law 629 = .ok (.iconst 3, 1) := by decide +kernel
theorem dL_law_630 : decode cL_law 630 = .ok (.iadd, 1) := by decide +kernel
theorem dL_law_631 : decode cL_law 631 = .ok (.iaload, 1) := by decide +kernel
theorem dL_law_632 : decode cL_law 632 = .ok (.aload_n 0, 1) := by decide +kernel
theorem dL_law_633 : decode cL_law 633 = .ok (.iload_n 3, 1) := by decide +kernel
theorem dL_law_634 : decode cL_law 634 = .ok (.iconst 4, 1) := by decide +kernel
theorem dL_law_635 : decode cL_law 635 = .ok (.iadd, 1) := by decide +kernel
theorem dL_law_636 : decode cL_law 636 = .ok (.iaload, 1) := by decide +kernel
theorem dL_law_637 : decode cL_law 637 = .ok (.invokevirtual 74, 3) := by decide +kernel
theorem dL_law_640 : decode cL_law 640 = .ok (.lcmp, 1) := by decide +kernel
theorem dL_law_641 : decode cL_law 641 = .ok (.ifCond .eq 272, 3) := by decide +kernel
theorem dL_law_644 : decode cL_law 644 = .ok (.iconst 0, 1) := by decide +kernel
theorem dL_law_645 : decode cL_law 645 = .ok (.ireturn, 1) := by decide +kernel
theorem dL_law_646 : decode cL_law 646 = .ok (.aload_n 1, 1) := by decide +kernel
theorem dL_law_647 : decode cL_law 647 = .ok (.aload_n 0, 1) := by decide +kernel
theorem dL_law_648 : decode cL_law 648 = .ok (.iload_n 3, 1) := by decide +kernel
theorem dL_law_649 : decode cL_law 649 = .ok (.iconst 1, 1) := by decide +kernel
theorem dL_law_650 : decode cL_law 650 = .ok (.iadd, 1) := by decide +kernel
theorem dL_law_651 : decode cL_law 651 = .ok (.iaload, 1) := by decide +kernel
theorem dL_law_652 : decode cL_law 652 = .ok (.aload_n 0, 1) := by decide +kernel
theorem dL_law_653 : decode cL_law 653 = .ok (.iload_n 3, 1) := by decide +kernel
theorem dL_law_654 : decode cL_law 654 = .ok (.iconst 2, 1) := by decide +kernel
theorem dL_law_655 : decode cL_law 655 = .ok (.iadd, 1) := by decide +kernel
theorem dL_law_656 : decode cL_law 656 = .ok (.iaload, 1) := by decide +kernel
theorem dL_law_657 : decode cL_law 657 = .ok (.aload_n 0, 1) := by decide +kernel
theorem dL_law_658 : decode cL_law 658 = .ok (.iload_n 3, 1) := by decide +kernel
theorem dL_law_659 : decode cL_law 659 = .ok (.iconst 3, 1) := by decide +kernel
theorem dL_law_660 : decode cL_law 660 = .ok (.iadd, 1) := by decide +kernel
theorem dL_law_661 : decode cL_law 661 = .ok (.iaload, 1) := by decide +kernel
theorem dL_law_662 : decode cL_law 662 = .ok (.aload_n 0, 1) := by decide +kernel
theorem dL_law_663 : decode cL_law 663 = .ok (.iload_n 3, 1) := by decide +kernel
theorem dL_law_664 : decode cL_law 664 = .ok (.iconst 4, 1) := by decide +kernel
theorem dL_law_665 : decode cL_law 665 = .ok (.iadd, 1) := by decide +kernel
theorem dL_law_666 : decode cL_law 666 = .ok (.iaload, 1) := by decide +kernel
theorem dL_law_667 : decode cL_law 667 = .ok (.invokevirtual 75, 3) := by decide +kernel
theorem dL_law_670 : decode cL_law 670 = .ok (.aload_n 2, 1) := by decide +kernel
theorem dL_law_671 : decode cL_law 671 = .ok (.aload_n 0, 1) := by decide +kernel
theorem dL_law_672 : decode cL_law 672 = .ok (.iload_n 3, 1) := by decide +kernel
theorem dL_law_673 : decode cL_law 673 = .ok (.iconst 1, 1) := by decide +kernel
theorem dL_law_674 : decode cL_law 674 = .ok (.iadd, 1) := by decide +kernel
theorem dL_law_675 : decode cL_law 675 = .ok (.iaload, 1) := by decide +kernel
theorem dL_law_676 : decode cL_law 676 = .ok (.aload_n 0, 1) := by decide +kernel
theorem dL_law_677 : decode cL_law 677 = .ok (.iload_n 3, 1) := by decide +kernel
theorem dL_law_678 : decode cL_law 678 = .ok (.iconst 2, 1) := by decide +kernel
theorem dL_law_679 : decode cL_law 679 = .ok (.iadd, 1) := by decide +kernel
theorem dL_law_680 : decode cL_law 680 = .ok (.iaload, 1) := by decide +kernel
theorem dL_law_681 : decode cL_law 681 = .ok (.aload_n 0, 1) := by decide +kernel
theorem dL_law_682 : decode cL_law 682 = .ok (.iload_n 3, 1) := by decide +kernel
theorem dL_law_683 : decode cL_law 683 = .ok (.iconst 3, 1) := by decide +kernel
theorem dL_law_684 : decode cL_law 684 = .ok (.iadd, 1) := by decide +kernel
theorem dL_law_685 : decode cL_law 685 = .ok (.iaload, 1) := by decide +kernel
theorem dL_law_686 : decode cL_law 686 = .ok (.aload_n 0, 1) := by decide +kernel
theorem dL_law_687 : decode cL_law 687 = .ok (.iload_n 3, 1) := by decide +kernel
theorem dL_law_688 : decode cL_law 688 = .ok (.iconst 4, 1) := by decide +kernel
theorem dL_law_689 : decode cL_law 689 = .ok (.iadd, 1) := by decide +kernel
theorem dL_law_690 : decode cL_law 690 = .ok (.iaload, 1) := by decide +kernel
theorem dL_law_691 : decode cL_law 691 = .ok (.invokevirtual 79, 3) := by decide +kernel
theorem dL_law_694 : decode cL_law 694 = .ok (.if_icmp .eq 219, 3) := by decide +kernel
theorem dL_law_697 : decode cL_law 697 = .ok (.iconst 0, 1) := by decide +kernel
theorem dL_law_698 : decode cL_law 698 = .ok (.ireturn, 1) := by decide +kernel
theorem dL_law_699 : decode cL_law 699 = .ok (.aload_n 1, 1) := by decide +kernel
theorem dL_law_700 : decode cL_law 700 = .ok (.aload_n 0, 1) := by decide +kernel
theorem dL_law_701 : decode cL_law 701 = .ok (.iload_n 3, 1) := by decide +kernel
theorem dL_law_702 : decode cL_law 702 = .ok (.iconst 1, 1) := by decide +kernel
theorem dL_law_703 : decode cL_law 703 = .ok (.iadd, 1) := by decide +kernel
theorem dL_law_704 : decode cL_law 704 = .ok (.iaload, 1) := by decide +kernel
theorem dL_law_705 : decode cL_law 705 = .ok (.aload_n 0, 1) := by decide +kernel
theorem dL_law_706 : decode cL_law 706 = .ok (.iload_n 3, 1) := by decide +kernel
theorem dL_law_707 : decode cL_law 707 = .ok (.iconst 2, 1) := by decide +kernel
theorem dL_law_708 : decode cL_law 708 = .ok (.iadd, 1) := by decide +kernel
theorem dL_law_709 : decode cL_law 709 = .ok (.iaload, 1) := by decide +kernel
theorem dL_law_710 : decode cL_law 710 = .ok (.aload_n 0, 1) := by decide +kernel
theorem dL_law_711 : decode cL_law 711 = .ok (.iload_n 3, 1) := by decide +kernel
theorem dL_law_712 : decode cL_law 712 = .ok (.iconst 3, 1) := by decide +kernel
theorem dL_law_713 : decode cL_law 713 = .ok (.iadd, 1) := by decide +kernel
theorem dL_law_714 : decode cL_law 714 = .ok (.iaload, 1) := by decide +kernel
theorem dL_law_715 : decode cL_law 715 = .ok (.invokevirtual 80, 3) := by decide +kernel
theorem dL_law_718 : decode cL_law 718 = .ok (.aload_n 2, 1) := by decide +kernel
theorem dL_law_719 : decode cL_law 719 = .ok (.aload_n 0, 1) := by decide +kernel
theorem dL_law_720 : decode cL_law 720 = .ok (.iload_n 3, 1) := by decide +kernel
theorem dL_law_721 : decode cL_law 721 = .ok (.iconst 1, 1) := by decide +kernel
theorem dL_law_722 : decode cL_law 722 = .ok (.iadd, 1) := by decide +kernel
theorem dL_law_723 : decode cL_law 723 = .ok (.iaload, 1) := by decide +kernel
theorem dL_law_724 : decode cL_law 724 = .ok (.aload_n 0, 1) := by decide +kernel
theorem dL_law_725 : decode cL_law 725 = .ok (.iload_n 3, 1) := by decide +kernel
theorem dL_law_726 : decode cL_law 726 = .ok (.iconst 2, 1) := by decide +kernel
theorem dL_law_727 : decode cL_law 727 = .ok (.iadd, 1) := by decide +kernel
theorem dL_law_728 : decode cL_law 728 = .ok (.iaload, 1) := by decide +kernel
theorem dL_law_729 : decode cL_law 729 = .ok (.aload_n 0, 1) := by decide +kernel
theorem dL_law_730 : decode cL_law 730 = .ok (.iload_n 3, 1) := by decide +kernel
theorem dL_law_731 : decode cL_law 731 = .ok (.iconst 3, 1) := by decide +kernel
theorem dL_law_732 : decode cL_law 732 = .ok (.iadd, 1) := by decide +kernel
theorem dL_law_733 : decode cL_law 733 = .ok (.iaload, 1) := by decide +kernel
theorem dL_law_734 : decode cL_law 734 = .ok (.invokevirtual 84, 3) := by decide +kernel
theorem dL_law_737 : decode cL_law 737 = .ok (.lcmp, 1) := by decide +kernel
theorem dL_law_738 : decode cL_law 738 = .ok (.ifCond .eq 175, 3) := by decide +kernel
theorem dL_law_741 : decode cL_law 741 = .ok (.iconst 0, 1) := by decide +kernel
theorem dL_law_742 : decode cL_law 742 = .ok (.ireturn, 1) := by decide +kernel
theorem dL_law_743 : decode cL_law 743 = .ok (.aload_n 1, 1) := by decide +kernel
theorem dL_law_744 : decode cL_law 744 = .ok (.aload_n 0, 1) := by decide +kernel
theorem dL_law_745 : decode cL_law 745 = .ok (.iload_n 3, 1) := by decide +kernel
theorem dL_law_746 : decode cL_law 746 = .ok (.iconst 1, 1) := by decide +kernel
theorem dL_law_747 : decode cL_law 747 = .ok (.iadd, 1) := by decide +kernel
theorem dL_law_748 : decode cL_law 748 = .ok (.iaload, 1) := by decide +kernel
theorem dL_law_749 : decode cL_law 749 = .ok (.invokevirtual 85, 3) := by decide +kernel
theorem dL_law_752 : decode cL_law 752 = .ok (.aload_n 2, 1) := by decide +kernel
theorem dL_law_753 : decode cL_law 753 = .ok (.aload_n 0, 1) := by decide +kernel
theorem dL_law_754 : decode cL_law 754 = .ok (.iload_n 3, 1) := by decide +kernel
theorem dL_law_755 : decode cL_law 755 = .ok (.iconst 1, 1) := by decide +kernel
theorem dL_law_756 : decode cL_law 756 = .ok (.iadd, 1) := by decide +kernel
theorem dL_law_757 : decode cL_law 757 = .ok (.iaload, 1) := by decide +kernel
theorem dL_law_758 : decode cL_law 758 = .ok (.invokevirtual 88, 3) := by decide +kernel
theorem dL_law_761 : decode cL_law 761 = .ok (.if_icmp .eq 152, 3) := by decide +kernel
theorem dL_law_764 : decode cL_law 764 = .ok (.iconst 0, 1) := by decide +kernel
theorem dL_law_765 : decode cL_law 765 = .ok (.ireturn, 1) := by decide +kernel
theorem dL_law_766 : decode cL_law 766 = .ok (.aload_n 1, 1) := by decide +kernel
theorem dL_law_767 : decode cL_law 767 = .ok (.aload_n 0, 1) := by decide +kernel
theorem dL_law_768 : decode cL_law 768 = .ok (.iload_n 3, 1) := by decide +kernel
theorem dL_law_769 : decode cL_law 769 = .ok (.iconst 1, 1) := by decide +kernel
theorem dL_law_770 : decode cL_law 770 = .ok (.iadd, 1) := by decide +kernel
theorem dL_law_771 : decode cL_law 771 = .ok (.iaload, 1) := by decide +kernel
theorem dL_law_772 : decode cL_law 772 = .ok (.aload_n 0, 1) := by decide +kernel
theorem dL_law_773 : decode cL_law 773 = .ok (.iload_n 3, 1) := by decide +kernel
theorem dL_law_774 : decode cL_law 774 = .ok (.iconst 2, 1) := by decide +kernel
theorem dL_law_775 : decode cL_law 775 = .ok (.iadd, 1) := by decide +kernel
theorem dL_law_776 : decode cL_law 776 = .ok (.iaload, 1) := by decide +kernel
theorem dL_law_777 : decode cL_law 777 = .ok (.aload_n 0, 1) := by decide +kernel
theorem dL_law_778 : decode cL_law 778 = .ok (.iload_n 3, 1) := by decide +kernel
theorem dL_law_779 : decode cL_law 779 = .ok (.iconst 3, 1) := by decide +kernel
theorem dL_law_780 : decode cL_law 780 = .ok (.iadd, 1) := by decide +kernel
theorem dL_law_781 : decode cL_law 781 = .ok (.iaload, 1) := by decide +kernel
theorem dL_law_782 : decode cL_law 782 = .ok (.aload_n 0, 1) := by decide +kernel
theorem dL_law_783 : decode cL_law 783 = .ok (.iload_n 3, 1) := by decide +kernel
theorem dL_law_784 : decode cL_law 784 = .ok (.iconst 4, 1) := by decide +kernel
theorem dL_law_785 : decode cL_law 785 = .ok (.iadd, 1) := by decide +kernel
theorem dL_law_786 : decode cL_law 786 = .ok (.iaload, 1) := by decide +kernel
theorem dL_law_787 : decode cL_law 787 = .ok (.aload_n 0, 1) := by decide +kernel
theorem dL_law_788 : decode cL_law 788 = .ok (.iload_n 3, 1) := by decide +kernel
theorem dL_law_789 : decode cL_law 789 = .ok (.iconst 5, 1) := by decide +kernel
theorem dL_law_790 : decode cL_law 790 = .ok (.iadd, 1) := by decide +kernel
theorem dL_law_791 : decode cL_law 791 = .ok (.iaload, 1) := by decide +kernel
theorem dL_law_792 : decode cL_law 792 = .ok (.aload_n 0, 1) := by decide +kernel
theorem dL_law_793 : decode cL_law 793 = .ok (.iload_n 3, 1) := by decide +kernel
theorem dL_law_794 : decode cL_law 794 = .ok (.bipush 6, 2) := by decide +kernel
theorem dL_law_796 : decode cL_law 796 = .ok (.iadd, 1) := by decide +kernel
theorem dL_law_797 : decode cL_law 797 = .ok (.iaload, 1) := by decide +kernel
theorem dL_law_798 : decode cL_law 798 = .ok (.aload_n 0, 1) := by decide +kernel
theorem dL_law_799 : decode cL_law 799 = .ok (.iload_n 3, 1) := by decide +kernel
theorem dL_law_800 : decode cL_law 800 = .ok (.bipush 7, 2) := by decide +kernel
theorem dL_law_802 : decode cL_law 802 = .ok (.iadd, 1) := by decide +kernel
theorem dL_law_803 : decode cL_law 803 = .ok (.iaload, 1) := by decide +kernel
theorem dL_law_804 : decode cL_law 804 = .ok (.aload_n 0, 1) := by decide +kernel
theorem dL_law_805 : decode cL_law 805 = .ok (.iload_n 3, 1) := by decide +kernel
theorem dL_law_806 : decode cL_law 806 = .ok (.bipush 8, 2) := by decide +kernel
theorem dL_law_808 : decode cL_law 808 = .ok (.iadd, 1) := by decide +kernel
theorem dL_law_809 : decode cL_law 809 = .ok (.iaload, 1) := by decide +kernel
theorem dL_law_810 : decode cL_law 810 = .ok (.invokevirtual 89, 3) := by decide +kernel
theorem dL_law_813 : decode cL_law 813 = .ok (.aload_n 2, 1) := by decide +kernel
theorem dL_law_814 : decode cL_law 814 = .ok (.aload_n 0, 1) := by decide +kernel
theorem dL_law_815 : decode cL_law 815 = .ok (.iload_n 3, 1) := by decide +kernel
theorem dL_law_816 : decode cL_law 816 = .ok (.iconst 1, 1) := by decide +kernel
theorem dL_law_817 : decode cL_law 817 = .ok (.iadd, 1) := by decide +kernel
theorem dL_law_818 : decode cL_law 818 = .ok (.iaload, 1) := by decide +kernel
theorem dL_law_819 : decode cL_law 819 = .ok (.aload_n 0, 1) := by decide +kernel
theorem dL_law_820 : decode cL_law 820 = .ok (.iload_n 3, 1) := by decide +kernel
theorem dL_law_821 : decode cL_law 821 = .ok (.iconst 2, 1) := by decide +kernel
theorem dL_law_822 : decode cL_law 822 = .ok (.iadd, 1) := by decide +kernel
theorem dL_law_823 : decode cL_law 823 = .ok (.iaload, 1) := by decide +kernel
theorem dL_law_824 : decode cL_law 824 = .ok (.aload_n 0, 1) := by decide +kernel
theorem dL_law_825 : decode cL_law 825 = .ok (.iload_n 3, 1) := by decide +kernel
theorem dL_law_826 : decode cL_law 826 = .ok (.iconst 3, 1) := by decide +kernel
theorem dL_law_827 : decode cL_law 827 = .ok (.iadd, 1) := by decide +kernel
theorem dL_law_828 : decode cL_law 828 = .ok (.iaload, 1) := by decide +kernel
theorem dL_law_829 : decode cL_law 829 = .ok (.aload_n 0, 1) := by decide +kernel
theorem dL_law_830 : decode cL_law 830 = .ok (.iload_n 3, 1) := by decide +kernel
theorem dL_law_831 : decode cL_law 831 = .ok (.iconst 4, 1) := by decide +kernel
theorem dL_law_832 : decode cL_law 832 = .ok (.iadd, 1) := by decide +kernel
theorem dL_law_833 : decode cL_law 833 = .ok (.iaload, 1) := by decide +kernel
theorem dL_law_834 : decode cL_law 834 = .ok (.aload_n 0, 1) := by decide +kernel
theorem dL_law_835 : decode cL_law 835 = .ok (.iload_n 3, 1) := by decide +kernel
theorem dL_law_836 : decode cL_law 836 = .ok (.iconst 5, 1) := by decide +kernel
theorem dL_law_837 : decode cL_law 837 = .ok (.iadd, 1) := by decide +kernel
theorem dL_law_838 : decode cL_law 838 = .ok (.iaload, 1) := by decide +kernel
theorem dL_law_839 : decode cL_law 839 = .ok (.aload_n 0, 1) := by decide +kernel
theorem dL_law_840 : decode cL_law 840 = .ok (.iload_n 3, 1) := by decide +kernel
theorem dL_law_841 : decode cL_law 841 = .ok (.bipush 6, 2) := by decide +kernel
theorem dL_law_843 : decode cL_law 843 = .ok (.iadd, 1) := by decide +kernel
theorem dL_law_844 : decode cL_law 844 = .ok (.iaload, 1) := by decide +kernel
theorem dL_law_845 : decode cL_law 845 = .ok (.aload_n 0, 1) := by decide +kernel
theorem dL_law_846 : decode cL_law 846 = .ok (.iload_n 3, 1) := by decide +kernel
theorem dL_law_847 : decode cL_law 847 = .ok (.bipush 7, 2) := by decide +kernel
theorem dL_law_849 : decode cL_law 849 = .ok (.iadd, 1) := by decide +kernel
theorem dL_law_850 : decode cL_law 850 = .ok (.iaload, 1) := by decide +kernel
theorem dL_law_851 : decode cL_law 851 = .ok (.aload_n 0, 1) := by decide +kernel
theorem dL_law_852 : decode cL_law 852 = .ok (.iload_n 3, 1) := by decide +kernel
theorem dL_law_853 : decode cL_law 853 = .ok (.bipush 8, 2) := by decide +kernel
theorem dL_law_855 : decode cL_law 855 = .ok (.iadd, 1) := by decide +kernel
theorem dL_law_856 : decode cL_law 856 = .ok (.iaload, 1) := by decide +kernel
theorem dL_law_857 : decode cL_law 857 = .ok (.invokevirtual 93, 3) := by decide +kernel
theorem dL_law_860 : decode cL_law 860 = .ok (.lcmp, 1) := by decide +kernel
theorem dL_law_861 : decode cL_law 861 = .ok (.ifCond .eq 52, 3) := by decide +kernel
theorem dL_law_864 : decode cL_law 864 = .ok (.iconst 0, 1) := by decide +kernel
theorem dL_law_865 : decode cL_law 865 = .ok (.ireturn, 1) := by decide +kernel
theorem dL_law_866 : decode cL_law 866 = .ok (.aload_n 1, 1) := by decide +kernel
theorem dL_law_867 : decode cL_law 867 = .ok (.aload_n 0, 1) := by decide +kernel
theorem dL_law_868 : decode cL_law 868 = .ok (.iload_n 3, 1) := by decide +kernel
theorem dL_law_869 : decode cL_law 869 = .ok (.iconst 1, 1) := by decide +kernel
theorem dL_law_870 : decode cL_law 870 = .ok (.iadd, 1) := by decide +kernel
theorem dL_law_871 : decode cL_law 871 = .ok (.iaload, 1) := by decide +kernel
theorem dL_law_872 : decode cL_law 872 = .ok (.aload_n 0, 1) := by decide +kernel
theorem dL_law_873 : decode cL_law 873 = .ok (.iload_n 3, 1) := by decide +kernel
theorem dL_law_874 : decode cL_law 874 = .ok (.iconst 2, 1) := by decide +kernel
theorem dL_law_875 : decode cL_law 875 = .ok (.iadd, 1) := by decide +kernel
theorem dL_law_876 : decode cL_law 876 = .ok (.iaload, 1) := by decide +kernel
theorem dL_law_877 : decode cL_law 877 = .ok (.invokevirtual 94, 3) := by decide +kernel
theorem dL_law_880 : decode cL_law 880 = .ok (.aload_n 2, 1) := by decide +kernel
theorem dL_law_881 : decode cL_law 881 = .ok (.aload_n 0, 1) := by decide +kernel
theorem dL_law_882 : decode cL_law 882 = .ok (.iload_n 3, 1) := by decide +kernel
theorem dL_law_883 : decode cL_law 883 = .ok (.iconst 1, 1) := by decide +kernel
theorem dL_law_884 : decode cL_law 884 = .ok (.iadd, 1) := by decide +kernel
theorem dL_law_885 : decode cL_law 885 = .ok (.iaload, 1) := by decide +kernel
theorem dL_law_886 : decode cL_law 886 = .ok (.aload_n 0, 1) := by decide +kernel
theorem dL_law_887 : decode cL_law 887 = .ok (.iload_n 3, 1) := by decide +kernel
theorem dL_law_888 : decode cL_law 888 = .ok (.iconst 2, 1) := by decide +kernel
theorem dL_law_889 : decode cL_law 889 = .ok (.iadd, 1) := by decide +kernel
theorem dL_law_890 : decode cL_law 890 = .ok (.iaload, 1) := by decide +kernel
theorem dL_law_891 : decode cL_law 891 = .ok (.invokevirtual 97, 3) := by decide +kernel
theorem dL_law_894 : decode cL_law 894 = .ok (.if_icmp .eq 19, 3) := by decide +kernel
theorem dL_law_897 : decode cL_law 897 = .ok (.iconst 0, 1) := by decide +kernel
theorem dL_law_898 : decode cL_law 898 = .ok (.ireturn, 1) := by decide +kernel
theorem dL_law_899 : decode cL_law 899 = .ok (.aload_n 1, 1) := by decide +kernel
theorem dL_law_900 : decode cL_law 900 = .ok (.invokevirtual 98, 3) := by decide +kernel
theorem dL_law_903 : decode cL_law 903 = .ok (.aload_n 2, 1) := by decide +kernel
theorem dL_law_904 : decode cL_law 904 = .ok (.invokevirtual 102, 3) := by decide +kernel
theorem dL_law_907 : decode cL_law 907 = .ok (.lcmp, 1) := by decide +kernel
theorem dL_law_908 : decode cL_law 908 = .ok (.ifCond .eq 5, 3) := by decide +kernel
theorem dL_law_911 : decode cL_law 911 = .ok (.iconst 0, 1) := by decide +kernel
theorem dL_law_912 : decode cL_law 912 = .ok (.ireturn, 1) := by decide +kernel
theorem dL_law_913 : decode cL_law 913 = .ok (.iinc 3 9, 3) := by decide +kernel
theorem dL_law_916 : decode cL_law 916 = .ok (.goto (-898), 3) := by decide +kernel
theorem dL_law_919 : decode cL_law 919 = .ok (.iconst 1, 1) := by decide +kernel
theorem dL_law_920 : decode cL_law 920 = .ok (.ireturn, 1) := by decide +kernel
end
section
/-! guards, branches, binds of the pure functions -/
theorem pg {α : Type} {c : Prop} [Decidable c] {A : Option α} {r : α} (h : (if c then A else none) = some r) : c ∧ A = some r := by
  by_cases hc : c
  · rw [if_pos hc] at h; exact ⟨hc, h⟩
  · rw [if_neg hc] at h; cases h
theorem pt {α : Type} {c : Prop} [Decidable c] {A B r : α} (hc : c) (h : (if c then A else B) = r) : A = r := by rw [if_pos hc] at h; exact h
theorem pf {α : Type} {c : Prop} [Decidable c] {A B r : α} (hc : ¬ c) (h : (if c then A else B) = r) : B = r := by rw [if_neg hc] at h; exact h
/-- a branch on 'not' : the true side first -/
theorem pnt {α : Type} {c : Prop} [Decidable c] {A B r : α} (hc : c) (h : (if ¬ c then A else B) = r) : B = r := by rw [if_neg (fun q => q hc)] at h; exact h
theorem pb {α β : Type} {x : Option β} {K : β → Option α} {r : α} (h : x.bind K = some r) : ∃ v, x = some v ∧ K v = some r := Option.bind_eq_some_iff.mp h
theorem pe {α : Type} {v r : α} (h : some v = some r) : v = r := Option.some.inj h
theorem nbool {v : Int32} (h : v &&& 1 = v) : narrow .boolean (.int v) = .int v := by
  show Value.int _ = _
  first | exact congrArg Value.int h | (simp only [Value.int.injEq]; exact h)
/-- what the tables and the heap hold, whatever the tables' warmth -/
def Mv (B : State → Heap → Prop) : Prop := ∀ (u U : State) (H : Heap), u.vm.Alike U.vm → B u H → B U H
def rmk (fr lo : Nat) : Room := { frames := fr, cells := 0, slots := 0, locals := lo }
/-- a method that changes nothing -/
def Ro (l : Launch) (y : MethodName) (c : ByteArray) (n : Nat) (rt : Option FieldType) (fr lo : Nat) (As : List Value) (B : State → Heap → Prop) (v : Value) : Prop :=
  Met l y (wl y c n rt) (rmk fr lo) (fun a U => a = As.toArray ∧ B U U.heap) (fun _ st o t => o = .returned (some v) ∧ t.heap = st.heap) 0 0 (fun _ => False)
/-- a method that changes cells of A alone and makes none -/
def Mu (l : Launch) (y : MethodName) (c : ByteArray) (n : Nat) (rt : Option FieldType) (fr lo : Nat) (As : List Value) (A : Nat → Prop) (B B' : State → Heap → Prop) (ov : Option Value) : Prop :=
  Met l y (wl y c n rt) (rmk fr lo) (fun a U => a = As.toArray ∧ B U U.heap) (fun _ st o t => o = .returned ov ∧ B' t t.heap ∧ va_F A st t) 0 0 A
abbrev Sy (y : MethodName) (c : ByteArray) (n : Nat) (rt : Option FieldType) (k : Nat) : Prop :=
  Cond.code y c n rt ∈ tb ∧ Cond.static y ∈ tb ∧ Cond.initialized y.cls ∈ tb ∧ (y.cls ≠ "java/lang/invoke/MethodHandle" ∧ y.cls ≠ "java/lang/invoke/VarHandle" ∧ (parseMethodDescriptor y.desc).map (fun d => d.parameters.length) = some k)
abbrev Vy (y : MethodName) (c : ByteArray) (n : Nat) (rt : Option FieldType) (k : Nat) : Prop :=
  Cond.code y c n rt ∈ tb ∧ (Cond.instanceMethod y ∈ tb ∧ Cond.selects y.cls y y ∈ tb) ∧ Cond.initialized y.cls ∈ tb ∧ (y.cls ≠ "java/lang/invoke/MethodHandle" ∧ y.cls ≠ "java/lang/invoke/VarHandle" ∧ (parseMethodDescriptor y.desc).map (fun d => d.parameters.length) = some k)
section BASE
variable {p : Program} {l : Launch} {e : Env} {R : Room} {s : State} {m : MethodId} {args : Array Value} {below : List Frame} {meth : Method} {cd : Code} {H : Heap} {locs : List Loc} {cells slots : Nat} {Q : State → Prop}
variable {y : MethodName} {bytes cc : ByteArray} {maxL nL k index fr lo pc : Nat} {rt : Option FieldType} {Ts : List Cond} {own : String} {As rest st0 : List Value} {B B' : State → Heap → Prop} {v : Value} {ls : Array Slot} {b : Nat} {A A0 : Nat → Prop} {H0 : Heap} {ov : Option Value}
theorem ro_run (hr : va_Run p l e R s m args below meth cd H locs cells slots 0 0 (F0 m pc ls st0) rest (fun st o t => o = .returned (some v) ∧ t.heap = st.heap) (fun _ => False))
    (kk : W p l e R s m args below meth cd H locs cells slots Q (F0 m (pc + 3) ls (v :: rest))) : W p l e R s m args below meth cd H locs cells slots Q (F0 m pc ls st0) := by
  intro T hT X
  obtain ⟨v', st₀, t, T', L, h0, X', hL, e1, e2, ⟨hv, hh⟩, st⟩ := hr T hT X
  cases hv
  have hL0 : L = [] := by
    cases L with
    | nil => rfl
    | cons a L => exact absurd (hL a List.mem_cons_self) id
  subst hL0
  rw [List.append_nil] at X'
  obtain ⟨t2, a1, b1⟩ := kk T' (by rw [e1, hh, h0]) X'
  exact ⟨t2, st t2 a1, b1⟩
theorem mu_run (hr : va_Run p l e R s m args below meth cd H locs cells slots 0 0 (F0 m pc ls st0) rest (fun st o t => o = .returned ov ∧ B' t t.heap ∧ va_F A st t) A)
    (hmv : Mv B') (hS : va_S A0 H0 H locs) (hA : ∀ q, A q → A0 q)
    (kk : ∀ (H1 : Heap) (locs1 : List Loc), B' s H1 → H.size ≤ H1.size → (∀ q : Nat, q < H.size → ¬ A q → H1[q]? = H[q]?) → va_S A0 H0 H1 locs1 → W p l e R s m args below meth cd H1 locs1 cells slots Q (F0 m (pc + 3) ls (ov.toList ++ rest))) : W p l e R s m args below meth cd H locs cells slots Q (F0 m pc ls st0) := by
  intro T hT X
  obtain ⟨v', st₀, t, T', L, h0, X', hL, e1, e2, ⟨hv, hB, hz, hk⟩, st⟩ := hr T hT X
  cases hv
  rw [h0] at hz hk
  have hal : s.vm.Alike t.vm := by rw [← e2]; exact X'.warmed.alike
  obtain ⟨t2, a1, b1⟩ := kk T'.heap (locs ++ L) (by rw [e1]; exact hmv _ _ _ hal.symm hB) (by rw [e1]; exact hz) (fun q h1 h2 => by rw [e1]; exact hk q h1 h2)
    ⟨Nat.le_trans hS.1 (by rw [e1]; exact hz), fun q h1 h2 => by rw [e1, hk q (Nat.lt_of_lt_of_le h1 hS.1) (fun z => h2 (hA q z))]; exact hS.2.1 q h1 h2, fun q hq => by
      rcases List.mem_append.mp hq with h | h
      · exact hS.2.2 q h
      · exact hA _ (hL q h)⟩ T' rfl X'
  exact ⟨t2, st t2 a1, b1⟩
theorem pre_S (hmv : Mv B) (hB : B s H) : PreS s H (fun a U => a = As.toArray ∧ B U U.heap) As :=
  ⟨fun a U g mk q => ⟨q.1, hmv U (U.calling g mk a) U.heap (Vm.Alike.refl U.vm) q.2⟩, fun U hU hW => ⟨rfl, hmv s U U.heap hW.alike (by rw [hU]; exact hB)⟩⟩
theorem pre_V {C : String} (hmv : Mv B) (hB : B s H) (hc : ∃ cellB : Cell, H[b]? = some cellB ∧ cellB.vm.isStatics = false ∧ s.vm.findClass C = some cellB.cls) : PreV s H C b (fun a U => a = (Value.ref b :: As).toArray ∧ B U U.heap) As :=
  ⟨fun a U g mk q => ⟨q.1, hmv U (U.calling g mk a) U.heap (Vm.Alike.refl U.vm) q.2⟩, hc, fun U hU hW => ⟨rfl, hmv s U U.heap hW.alike (by rw [hU]; exact hB)⟩⟩
/-- a call of a static method that changes nothing -/
theorem ro_S (S : CallFix p m cd cc nL s args Ts own) (hTs : ∀ w ∈ tb, w ∈ Ts) (hM : Ro l y bytes maxL rt fr lo As B v) (hy : Sy y bytes maxL rt k) (hl : Cond.methodLink own index y ∈ tb)
    (hR : fr + 1 ≤ R.frames ∧ 8 + (maxL + 11) + lo ≤ R.locals) (hmv : Mv B) (hB : B s H) (hn : As.length = k) (hsize : ls.size = nL) (hst : st0 = As.reverse ++ rest) (hW : (rest.map fun v => v.category).sum ≤ 8) (hdg : decode cc pc = .ok (.invokestatic index, 3)) (hf : cells ≤ R.cells ∧ slots ≤ R.slots)
    (kk : W p l e R s m args below meth cd H locs cells slots Q (F0 m (pc + 3) ls (v :: rest))) : W p l e R s m args below meth cd H locs cells slots Q (F0 m pc ls st0) := by
  have hts := S.2.2.2.2
  exact ro_run (va_runS S hM ⟨callB_of k hts (wl_good hTs hy.1) rfl rfl rfl (hts _ (hTs _ hy.2.2.1)) (hts _ (hTs _ hl)) hy.2.2.2 hR, hts _ (hTs _ hy.2.1)⟩ (pre_S hmv hB) rfl hn hsize hst (lv_room hW) hdg hf) kk
/-- a call of an instance method that changes nothing -/
theorem ro_V (S : CallFix p m cd cc nL s args Ts own) (hTs : ∀ w ∈ tb, w ∈ Ts) (hM : Ro l y bytes maxL rt fr lo (.ref b :: As) B v) (hy : Vy y bytes maxL rt k) (hl : Cond.methodLink own index y ∈ tb)
    (hR : fr + 1 ≤ R.frames ∧ 8 + (maxL + 11) + lo ≤ R.locals) (hmv : Mv B) (hB : B s H) (hc : ∃ cellB : Cell, H[b]? = some cellB ∧ cellB.vm.isStatics = false ∧ s.vm.findClass y.cls = some cellB.cls) (hn : As.length = k) (hsize : ls.size = nL) (hst : st0 = As.reverse ++ .ref b :: rest) (hW : (rest.map fun v => v.category).sum ≤ 8) (hdg : decode cc pc = .ok (.invokevirtual index, 3)) (hf : cells ≤ R.cells ∧ slots ≤ R.slots)
    (kk : W p l e R s m args below meth cd H locs cells slots Q (F0 m (pc + 3) ls (v :: rest))) : W p l e R s m args below meth cd H locs cells slots Q (F0 m pc ls st0) := by
  have hts := S.2.2.2.2
  exact ro_run (va_runV S hM ⟨callB_of k hts (wl_good hTs hy.1) rfl rfl rfl (hts _ (hTs _ hy.2.2.1)) (hts _ (hTs _ hl)) hy.2.2.2 hR, hts _ (hTs _ hy.2.1.1), hts _ (hTs _ hy.2.1.2)⟩ (pre_V hmv hB hc) rfl hn hsize hst (lv_room hW) hdg hf) kk
/-- a call of an instance method that changes cells of A -/
theorem mu_V (S : CallFix p m cd cc nL s args Ts own) (hTs : ∀ w ∈ tb, w ∈ Ts) (hM : Mu l y bytes maxL rt fr lo (.ref b :: As) A B B' ov) (hy : Vy y bytes maxL rt k) (hl : Cond.methodLink own index y ∈ tb)
    (hR : fr + 1 ≤ R.frames ∧ 8 + (maxL + 11) + lo ≤ R.locals) (hmv : Mv B) (hmv' : Mv B') (hB : B s H) (hc : ∃ cellB : Cell, H[b]? = some cellB ∧ cellB.vm.isStatics = false ∧ s.vm.findClass y.cls = some cellB.cls) (hS : va_S A0 H0 H locs) (hA : ∀ q, A q → A0 q) (hn : As.length = k) (hsize : ls.size = nL) (hst : st0 = As.reverse ++ .ref b :: rest) (hW : (rest.map fun v => v.category).sum ≤ 8) (hdg : decode cc pc = .ok (.invokevirtual index, 3)) (hf : cells ≤ R.cells ∧ slots ≤ R.slots)
    (kk : ∀ (H1 : Heap) (locs1 : List Loc), B' s H1 → H.size ≤ H1.size → (∀ q : Nat, q < H.size → ¬ A q → H1[q]? = H[q]?) → va_S A0 H0 H1 locs1 → W p l e R s m args below meth cd H1 locs1 cells slots Q (F0 m (pc + 3) ls (ov.toList ++ rest))) : W p l e R s m args below meth cd H locs cells slots Q (F0 m pc ls st0) := by
  have hts := S.2.2.2.2
  exact mu_run (va_runV S hM ⟨callB_of k hts (wl_good hTs hy.1) rfl rfl rfl (hts _ (hTs _ hy.2.2.1)) (hts _ (hTs _ hl)) hy.2.2.2 hR, hts _ (hTs _ hy.2.1.1), hts _ (hTs _ hy.2.1.2)⟩ (pre_V hmv hB hc) rfl hn hsize hst (lv_room hW) hdg hf) hmv' hS hA kk
end BASE
/-- as Met.ofW, for methods of java.lang.Math too that no native stands for -/
theorem met_ofW {l : Launch} {y : MethodName} {ws ws' : List Cond} {rm : Room} {Pc : Array Value → State → Prop} {Qc : Array Value → State → Outcome → State → Prop} {mc ms : Nat} {free : Addr → Prop} {cc : ByteArray} {maxL : Nat} {ret : Option FieldType}
    (hy : plainFor y = true) (hw : ws = Cond.code y cc maxL ret :: ws')
    (body : ∀ p e s m args below meth c s₁, BodyLoose p l y (headSpec ws rm) cc maxL ret e s m args below meth c s₁ → c.maxLocals = maxL → Pc args s →
      W p l e (headSpec ws rm).room s m args below meth c s.heap [] 0 0 (MQ below Qc args s mc ms free) (entryFrame m args maxL)) : Met l y ws rm Pc Qc mc ms free := by
  refine MetFree.of_bodySF (code := cc) (maxLocals := maxL) (ret := ret) hy ?_ ?_
  · intro args s m h hn
    obtain ⟨meth, c, h1, h2, h3, h4, h5, h6, -, -⟩ := Cond.code_spec hn (atoms_spec (ws := ws) h _ (by rw [hw]; exact List.mem_cons_self))
    exact ⟨meth, c, h1, h2, h3, h4, h5, h6⟩
  · intro p e s m args below meth c s₁ B hml hP _
    have hh0 : s₁.heap = s.heap := by rw [B.state]; rfl
    obtain ⟨t, a1, o, b1, b2, b3⟩ := body p e s m args below meth c s₁ B hml hP s₁ hh0 (Stand.of_body B)
    exact ⟨t, o, a1, b1, b2, ⟨b3.1, b3.2⟩⟩
/-! entries -/
abbrev RoBody (l : Launch) (y : MethodName) (c : ByteArray) (n : Nat) (rt : Option FieldType) (fr lo : Nat) (As : List Value) (B : State → Heap → Prop) (E : (Nat → Array Slot → Value → Prop) → Prop) : Prop :=
  ∀ (p : Program) (e : Env) (s : State) (m : MethodId) (args : Array Value) (below : List Frame) (meth : Method) (cd : Code) (Q : State → Prop) (ls : Array Slot), CallFix p m cd c n s args (wl y c n rt) y.cls → B s s.heap → lv_has ls n (lv_args 0 As) →
    E (fun pc ls x => W p l e (rmk fr lo) s m args below meth cd s.heap [] 0 0 Q (F0 m pc ls [x])) → W p l e (rmk fr lo) s m args below meth cd s.heap [] 0 0 Q (F0 m 0 ls [])
theorem ro_i {l : Launch} {y : MethodName} {c : ByteArray} {n fr lo : Nat} {As : List Value} {B : State → Heap → Prop} {v : Int32} (hy : plainFor y = true) (hn : (lg_sl As).length ≤ n)
    (body : RoBody l y c n (some .int) fr lo As B (fun E => ∀ (pc : Nat) (ls : Array Slot) (x : Int32), x = v → decode c pc = .ok (.ireturn, 1) → E pc ls (.int x))) : Ro l y c n (some .int) fr lo As B (.int v) := by
  refine met_ofW (cc := c) (maxL := n) (ret := some .int) hy rfl ?_
  intro p e s m args below meth cd s₁ Bd hml hv
  obtain ⟨rfl, hB⟩ := hv
  have hx := Bd.exec
  have hb := Bd.bytes
  have hr := Bd.returns
  have hts := atoms_spec (ws := wl y c n (some .int)) Bd.pre
  have hown : s.vm.findClass y.cls = some m.cls := findClass_of_methodNamed Bd.named
  have hlocks := Bd.notSynchronized
  have hl := lv_entry As (n := n) hn
  rw [lg_entry_eq]
  exact body p e s m _ below meth cd _ _ ⟨hx, hb, hml, hown, hts⟩ hB hl (fun pc ls x hxv hd => W.iret hx hb hr (fun t ht _ => ⟨by rw [hxv], ht⟩) (fun q hq => by cases hq) hd)
theorem ro_z {l : Launch} {y : MethodName} {c : ByteArray} {n fr lo : Nat} {As : List Value} {B : State → Heap → Prop} {v : Int32} (hy : plainFor y = true) (hn : (lg_sl As).length ≤ n)
    (body : RoBody l y c n (some .boolean) fr lo As B (fun E => ∀ (pc : Nat) (ls : Array Slot) (x : Int32), x = v → narrow .boolean (.int x) = .int x → decode c pc = .ok (.ireturn, 1) → E pc ls (.int x))) : Ro l y c n (some .boolean) fr lo As B (.int v) := by
  refine met_ofW (cc := c) (maxL := n) (ret := some .boolean) hy rfl ?_
  intro p e s m args below meth cd s₁ Bd hml hv
  obtain ⟨rfl, hB⟩ := hv
  have hx := Bd.exec
  have hb := Bd.bytes
  have hr := Bd.returns
  have hts := atoms_spec (ws := wl y c n (some .boolean)) Bd.pre
  have hown : s.vm.findClass y.cls = some m.cls := findClass_of_methodNamed Bd.named
  have hlocks := Bd.notSynchronized
  have hl := lv_entry As (n := n) hn
  rw [lg_entry_eq]
  exact body p e s m _ below meth cd _ _ ⟨hx, hb, hml, hown, hts⟩ hB hl (fun pc ls x hxv hnr hd => W.zret hx hb hr hnr (fun t ht _ => ⟨by rw [hxv], ht⟩) (fun q hq => by cases hq) hd)
theorem ro_l {l : Launch} {y : MethodName} {c : ByteArray} {n fr lo : Nat} {As : List Value} {B : State → Heap → Prop} {v : Int64} (hy : plainFor y = true) (hn : (lg_sl As).length ≤ n)
    (body : RoBody l y c n (some .long) fr lo As B (fun E => ∀ (pc : Nat) (ls : Array Slot) (x : Int64), x = v → decode c pc = .ok (.lreturn, 1) → E pc ls (.long x))) : Ro l y c n (some .long) fr lo As B (.long v) := by
  refine met_ofW (cc := c) (maxL := n) (ret := some .long) hy rfl ?_
  intro p e s m args below meth cd s₁ Bd hml hv
  obtain ⟨rfl, hB⟩ := hv
  have hx := Bd.exec
  have hb := Bd.bytes
  have hr := Bd.returns
  have hts := atoms_spec (ws := wl y c n (some .long)) Bd.pre
  have hown : s.vm.findClass y.cls = some m.cls := findClass_of_methodNamed Bd.named
  have hlocks := Bd.notSynchronized
  have hl := lv_entry As (n := n) hn
  rw [lg_entry_eq]
  exact body p e s m _ below meth cd _ _ ⟨hx, hb, hml, hown, hts⟩ hB hl (fun pc ls x hxv hd => W.lret hx hb hr (fun t ht _ => ⟨by rw [hxv], ht⟩) (fun q hq => by cases hq) hd)
abbrev MuBody (l : Launch) (y : MethodName) (c : ByteArray) (n : Nat) (rt : Option FieldType) (fr lo : Nat) (As : List Value) (A : Nat → Prop) (B B' : State → Heap → Prop) (E : (Heap → List Loc → Nat → Array Slot → List Value → State → Prop) → Prop) : Prop :=
  ∀ (p : Program) (e : Env) (s : State) (m : MethodId) (args : Array Value) (below : List Frame) (meth : Method) (cd : Code) (Q : State → Prop) (ls : Array Slot), CallFix p m cd c n s args (wl y c n rt) y.cls → B s s.heap → lv_has ls n (lv_args 0 As) →
    E (fun H locs pc ls st s' => s' = s → B' s H → va_S A s.heap H locs → W p l e (rmk fr lo) s m args below meth cd H locs 0 0 Q (F0 m pc ls st)) → W p l e (rmk fr lo) s m args below meth cd s.heap [] 0 0 Q (F0 m 0 ls [])
theorem mu_i {l : Launch} {y : MethodName} {c : ByteArray} {n fr lo : Nat} {As : List Value} {A : Nat → Prop} {B B' : State → Heap → Prop} {v : Int32} (hy : plainFor y = true) (hn : (lg_sl As).length ≤ n) (hmv : Mv B')
    (body : MuBody l y c n (some .int) fr lo As A B B' (fun E => ∀ (H : Heap) (locs : List Loc) (pc : Nat) (ls : Array Slot) (s : State) (x : Int32), x = v → decode c pc = .ok (.ireturn, 1) → E H locs pc ls [.int x] s)) : Mu l y c n (some .int) fr lo As A B B' (some (.int v)) := by
  refine met_ofW (cc := c) (maxL := n) (ret := some .int) hy rfl ?_
  intro p e s m args below meth cd s₁ Bd hml hv
  obtain ⟨rfl, hB⟩ := hv
  have hx := Bd.exec
  have hb := Bd.bytes
  have hr := Bd.returns
  have hts := atoms_spec (ws := wl y c n (some .int)) Bd.pre
  have hown : s.vm.findClass y.cls = some m.cls := findClass_of_methodNamed Bd.named
  have hlocks := Bd.notSynchronized
  have hl := lv_entry As (n := n) hn
  rw [lg_entry_eq]
  exact body p e s m _ below meth cd _ _ ⟨hx, hb, hml, hown, hts⟩ hB hl (fun H locs pc ls s' x hxv hd _ hB' hS => W.iret hx hb hr (fun t ht hW => ⟨by rw [hxv], hmv _ _ _ hW.alike (by rw [ht]; exact hB'), hS.F ht⟩) hS.2.2 hd)
theorem mu_z {l : Launch} {y : MethodName} {c : ByteArray} {n fr lo : Nat} {As : List Value} {A : Nat → Prop} {B B' : State → Heap → Prop} {v : Int32} (hy : plainFor y = true) (hn : (lg_sl As).length ≤ n) (hmv : Mv B')
    (body : MuBody l y c n (some .boolean) fr lo As A B B' (fun E => ∀ (H : Heap) (locs : List Loc) (pc : Nat) (ls : Array Slot) (s : State) (x : Int32), x = v → narrow .boolean (.int x) = .int x → decode c pc = .ok (.ireturn, 1) → E H locs pc ls [.int x] s)) : Mu l y c n (some .boolean) fr lo As A B B' (some (.int v)) := by
  refine met_ofW (cc := c) (maxL := n) (ret := some .boolean) hy rfl ?_
  intro p e s m args below meth cd s₁ Bd hml hv
  obtain ⟨rfl, hB⟩ := hv
  have hx := Bd.exec
  have hb := Bd.bytes
  have hr := Bd.returns
  have hts := atoms_spec (ws := wl y c n (some .boolean)) Bd.pre
  have hown : s.vm.findClass y.cls = some m.cls := findClass_of_methodNamed Bd.named
  have hlocks := Bd.notSynchronized
  have hl := lv_entry As (n := n) hn
  rw [lg_entry_eq]
  exact body p e s m _ below meth cd _ _ ⟨hx, hb, hml, hown, hts⟩ hB hl (fun H locs pc ls s' x hxv hnr hd _ hB' hS => W.zret hx hb hr hnr (fun t ht hW => ⟨by rw [hxv], hmv _ _ _ hW.alike (by rw [ht]; exact hB'), hS.F ht⟩) hS.2.2 hd)
theorem mu_l {l : Launch} {y : MethodName} {c : ByteArray} {n fr lo : Nat} {As : List Value} {A : Nat → Prop} {B B' : State → Heap → Prop} {v : Int64} (hy : plainFor y = true) (hn : (lg_sl As).length ≤ n) (hmv : Mv B')
    (body : MuBody l y c n (some .long) fr lo As A B B' (fun E => ∀ (H : Heap) (locs : List Loc) (pc : Nat) (ls : Array Slot) (s : State) (x : Int64), x = v → decode c pc = .ok (.lreturn, 1) → E H locs pc ls [.long x] s)) : Mu l y c n (some .long) fr lo As A B B' (some (.long v)) := by
  refine met_ofW (cc := c) (maxL := n) (ret := some .long) hy rfl ?_
  intro p e s m args below meth cd s₁ Bd hml hv
  obtain ⟨rfl, hB⟩ := hv
  have hx := Bd.exec
  have hb := Bd.bytes
  have hr := Bd.returns
  have hts := atoms_spec (ws := wl y c n (some .long)) Bd.pre
  have hown : s.vm.findClass y.cls = some m.cls := findClass_of_methodNamed Bd.named
  have hlocks := Bd.notSynchronized
  have hl := lv_entry As (n := n) hn
  rw [lg_entry_eq]
  exact body p e s m _ below meth cd _ _ ⟨hx, hb, hml, hown, hts⟩ hB hl (fun H locs pc ls s' x hxv hd _ hB' hS => W.lret hx hb hr (fun t ht hW => ⟨by rw [hxv], hmv _ _ _ hW.alike (by rw [ht]; exact hB'), hS.F ht⟩) hS.2.2 hd)
theorem mu_v {l : Launch} {y : MethodName} {c : ByteArray} {n fr lo : Nat} {As : List Value} {A : Nat → Prop} {B B' : State → Heap → Prop} (hy : plainFor y = true) (hn : (lg_sl As).length ≤ n) (hmv : Mv B')
    (body : MuBody l y c n none fr lo As A B B' (fun E => ∀ (H : Heap) (locs : List Loc) (pc : Nat) (ls : Array Slot) (s : State), decode c pc = .ok (.return_, 1) → E H locs pc ls [] s)) : Mu l y c n none fr lo As A B B' none := by
  refine met_ofW (cc := c) (maxL := n) (ret := none) hy rfl ?_
  intro p e s m args below meth cd s₁ Bd hml hv
  obtain ⟨rfl, hB⟩ := hv
  have hx := Bd.exec
  have hb := Bd.bytes
  have hr := Bd.returns
  have hts := atoms_spec (ws := wl y c n none) Bd.pre
  have hown : s.vm.findClass y.cls = some m.cls := findClass_of_methodNamed Bd.named
  have hlocks := Bd.notSynchronized
  have hl := lv_entry As (n := n) hn
  rw [lg_entry_eq]
  exact body p e s m _ below meth cd _ _ ⟨hx, hb, hml, hown, hts⟩ hB hl (fun H locs pc ls s' hd _ hB' hS => W.vret hx hb hr (fun t ht hW => ⟨rfl, hmv _ _ _ hW.alike (by rw [ht]; exact hB'), hS.F ht⟩) hS.2.2 hd)
end
section
/-! rows of the kit under short names for their values -/
def irm (x y : Int32) : Int32 := x - x / y * y
def lrm (x y : Int64) : Int64 := x - x / y * y
def iabs (x : Int32) : Int32 := if 0 ≤ x then x else 0 - x
def imax (x y : Int32) : Int32 := if x < y then y else x
def labs (x : Int64) : Int64 := if 0 < x then x else -x
theorem sw_ne {x k : Int32} (h : ¬ x = k) : x.toInt ≠ k.toInt := fun q => h (Int32.toInt_inj.mp q)
section WRAP
variable {p : Program} {l : Launch} {e : Env} {R : Room} {s : State} {m : MethodId} {args : Array Value} {below : List Frame} {meth : Method} {c : Code} {H : Heap} {locs : List Loc} {cells slots : Nat} {Q : State → Prop}
variable {cc : ByteArray} {pc : Nat} {ls : Array Slot} {rest : List Value}
theorem lq_irem (hexec : p.tables.exec = Jvm.exec) (hb : c.code = cc) {x y : Int32} (hdg : decode cc pc = .ok (.irem, 1)) (hne : ¬ y = 0)
    (k : W p l e R s m args below meth c H locs cells slots Q (F0 m (pc + 1) ls (.int (irm x y) :: rest))) : W p l e R s m args below meth c H locs cells slots Q (F0 m pc ls (.int y :: .int x :: rest)) := lv_irem hexec hb hdg hne k
theorem lq_lrem (hexec : p.tables.exec = Jvm.exec) (hb : c.code = cc) {x y : Int64} (hdg : decode cc pc = .ok (.lrem, 1)) (hne : ¬ y = 0)
    (k : W p l e R s m args below meth c H locs cells slots Q (F0 m (pc + 1) ls (.long (lrm x y) :: rest))) : W p l e R s m args below meth c H locs cells slots Q (F0 m pc ls (.long y :: .long x :: rest)) := lv_lrem hexec hb hdg hne k
theorem lq_max (hexec : p.tables.exec = Jvm.exec) (hb : c.code = cc) (hml : c.maxLocals = ls.size) {own : String} {index : Nat} (hown : s.vm.findClass own = some m.cls) (hlink : (Cond.methodLink own index Lib.Math.max.name).before args s = true) (hstat : (Cond.static Lib.Math.max.name).before args s = true) (hini : (Cond.initialized "java/lang/Math").before args s = true) (hcode : (Cond.code Lib.Math.max.name Lib.Math.max.code 2 (some .int)).before args s = true)
    (hframes : 1 ≤ R.frames) (hlocals : (rest.map fun v => v.category).sum + 13 ≤ R.locals) (hc : cells ≤ R.cells) (hs : slots ≤ R.slots) {x y : Int32} (hdg : decode cc pc = .ok (.invokestatic index, 3))
    (kk : W p l e R s m args below meth c H locs cells slots Q (F0 m (pc + 3) ls (.int (imax x y) :: rest))) : W p l e R s m args below meth c H locs cells slots Q (F0 m pc ls (.int y :: .int x :: rest)) := va_mmax hexec hb hml hown hlink hstat hini hcode hframes hlocals hc hs hdg kk
theorem lq_abs (hexec : p.tables.exec = Jvm.exec) (hb : c.code = cc) (hml : c.maxLocals = ls.size) {own : String} {index : Nat} (hown : s.vm.findClass own = some m.cls) (hlink : (Cond.methodLink own index Lib.Math.abs.name).before args s = true) (hstat : (Cond.static Lib.Math.abs.name).before args s = true) (hini : (Cond.initialized "java/lang/Math").before args s = true) (hcode : (Cond.code Lib.Math.abs.name Lib.Math.abs.code 1 (some .int)).before args s = true)
    (hframes : 1 ≤ R.frames) (hlocals : (rest.map fun v => v.category).sum + 13 ≤ R.locals) (hc : cells ≤ R.cells) (hs : slots ≤ R.slots) {x : Int32} (hdg : decode cc pc = .ok (.invokestatic index, 3))
    (kk : W p l e R s m args below meth c H locs cells slots Q (F0 m (pc + 3) ls (.int (iabs x) :: rest))) : W p l e R s m args below meth c H locs cells slots Q (F0 m pc ls (.int x :: rest)) := va_mabs hexec hb hml hown hlink hstat hini hcode hframes hlocals hc hs hdg kk
theorem lq_labs (hexec : p.tables.exec = Jvm.exec) (hb : c.code = cc) (hml : c.maxLocals = ls.size) {own : String} {index : Nat} (hown : s.vm.findClass own = some m.cls) (hlink : (Cond.methodLink own index Lib.MathLoose.abs_long.x).before args s = true) (hstat : (Cond.static Lib.MathLoose.abs_long.x).before args s = true) (hini : (Cond.initialized "java/lang/Math").before args s = true) (hcode : (Cond.code Lib.MathLoose.abs_long.x Lib.MathLoose.abs_long.code 2 (some .long)).before args s = true)
    (hframes : 1 ≤ R.frames) (hlocals : (rest.map fun v => v.category).sum + 13 ≤ R.locals) (hc : cells ≤ R.cells) (hs : slots ≤ R.slots) {x : Int64} (hdg : decode cc pc = .ok (.invokestatic index, 3))
    (kk : W p l e R s m args below meth c H locs cells slots Q (F0 m (pc + 3) ls (.long (labs x) :: rest))) : W p l e R s m args below meth c H locs cells slots Q (F0 m pc ls (.long x :: rest)) := va_mabs_long hexec hb hml hown hlink hstat hini hcode hframes hlocals hc hs hdg kk
end WRAP
/-! the worlds -/
def B0 (_ : State) (_ : Heap) : Prop := True
theorem mv0 : Mv B0 := fun _ _ _ _ _ => trivial
def allv (j : Nat) : Int32 := ([0, 2, 3, 5, 7, 11, 13, 17, 19, 23, 29, 31, 37, 41, 43, 47, 53, 59, 61, 67, 71, 73, 79, 83, 89, 97, 101, 103, 107, 109, 113, 127, 131, 137, 139, 149, 151, 157, 163, 167, 173, 179, 181, 191, 193, 197, 199, 211, 223, 227, 229, 233, 239, 241, 251, 257, 263, 269, 271, 277, 281, 283, 293, 307, 311, 313, 317, 331, 337, 347, 349, 353, 359, 367, 373, 379, 383, 389, 397] : List Int32).getD j 0
def trcv (j : Nat) : Int32 := ([1, 11, 111] : List Int32).getD j 0
/-- the classes, the arrays' classes, the two static arrays, apart from A -/
def eB (A : Nat → Prop) (G : va_G) (cI cF : ClassId) (tA tT : Nat) (U : State) (H : Heap) : Prop :=
  va_K G vwCl [(cI, .int), (cF, .object "RingForms$Form")] U ∧ (va_Z "RingForms$Places" "ALL" "[I" (.ref tA) A U H ∧ va_T .int tA 79 (fun j => .int (allv j)) A U H) ∧ (va_Z "RingForms" "TRACES" "[I" (.ref tT) A U H ∧ va_T .int tT 3 (fun j => .int (trcv j)) A U H)
theorem eB_mv {A : Nat → Prop} {G : va_G} {cI cF : ClassId} {tA tT : Nat} : Mv (eB A G cI cF tA tT) := fun _ _ _ hv h => ⟨va_K.moved hv h.1, ⟨h.2.1.1.moved hv, h.2.1.2.moved hv⟩, ⟨h.2.2.1.moved hv, h.2.2.2.moved hv⟩⟩
theorem eB_kept {A : Nat → Prop} {G : va_G} {cI cF : ClassId} {tA tT : Nat} {U : State} {H H1 : Heap} (h : eB A G cI cF tA tT U H) (hq : ∀ a : Nat, a < H.size → ¬ A a → H1[a]? = H[a]?) : eB A G cI cF tA tT U H1 := ⟨h.1, ⟨h.2.1.1.kept hq, h.2.1.2.kept hq⟩, ⟨h.2.2.1.kept hq, h.2.2.2.kept hq⟩⟩
/-- a Form: its object and its coefficients -/
abbrev fW (q qc : Nat) (cI : ClassId) (n : Int32) (f : Nat → Int32) : va_W := [(q, .inr (0, [.int n, .ref qc])), (qc, .inl (cI, 6, .inl f))]
def fB (A : Nat → Prop) (G : va_G) (cI cF : ClassId) (tA tT : Nat) (q qc : Nat) (n : Int32) (f : Nat → Int32) (U : State) (H : Heap) : Prop := eB A G cI cF tA tT U H ∧ va_P G vwCl (fW q qc cI n f) H
theorem fB_mv {A : Nat → Prop} {G : va_G} {cI cF : ClassId} {tA tT q qc : Nat} {n : Int32} {f : Nat → Int32} : Mv (fB A G cI cF tA tT q qc n f) := fun _ _ _ hv h => ⟨eB_mv _ _ _ hv h.1, h.2⟩
/-- two Forms, perhaps one -/
def f2B (A : Nat → Prop) (G : va_G) (cI cF : ClassId) (tA tT : Nat) (q qc : Nat) (n : Int32) (f : Nat → Int32) (q2 qc2 : Nat) (n2 : Int32) (f2 : Nat → Int32) (U : State) (H : Heap) : Prop := eB A G cI cF tA tT U H ∧ va_P G vwCl (fW q qc cI n f) H ∧ va_P G vwCl (fW q2 qc2 cI n2 f2) H
theorem f2B_mv {A : Nat → Prop} {G : va_G} {cI cF : ClassId} {tA tT q qc : Nat} {n : Int32} {f : Nat → Int32} {q2 qc2 : Nat} {n2 : Int32} {f2 : Nat → Int32} : Mv (f2B A G cI cF tA tT q qc n f q2 qc2 n2 f2) := fun _ _ _ hv h => ⟨eB_mv _ _ _ hv h.1, h.2⟩
/-- the whole object -/
def cW (cI cF : ClassId) (o sh xx xc gv se : Nat) (fa ca : Nat → Nat) (n : Nat → Int32) (f : Nat → Nat → Int32) (xn : Int32) (xf gf : Nat → Int32) (s0 s1 s2 s3 s4 : Int32) (tr : Int64) : va_W :=
  [(o, .inr (2, [.ref sh, .ref xx, .ref gv, .ref se, .long tr])), (sh, .inl (cF, 4, .inr (.inr (.inr (.inr (fun j => some (fa j))))))), (xx, .inr (0, [.int xn, .ref xc])), (xc, .inl (cI, 6, .inl xf)), (gv, .inl (cI, 5, .inl gf)), (se, .inr (1, [.int s0, .int s1, .int s2, .int s3, .int s4])),
   (fa 0, .inr (0, [.int (n 0), .ref (ca 0)])), (ca 0, .inl (cI, 6, .inl (f 0))), (fa 1, .inr (0, [.int (n 1), .ref (ca 1)])), (ca 1, .inl (cI, 6, .inl (f 1))), (fa 2, .inr (0, [.int (n 2), .ref (ca 2)])), (ca 2, .inl (cI, 6, .inl (f 2))), (fa 3, .inr (0, [.int (n 3), .ref (ca 3)])), (ca 3, .inl (cI, 6, .inl (f 3)))]
def cB (A : Nat → Prop) (G : va_G) (cI cF : ClassId) (tA tT : Nat) (o sh xx xc gv se : Nat) (fa ca : Nat → Nat) (n : Nat → Int32) (f : Nat → Nat → Int32) (xn : Int32) (xf gf : Nat → Int32) (s0 s1 s2 s3 s4 : Int32) (tr : Int64) (U : State) (H : Heap) : Prop :=
  eB A G cI cF tA tT U H ∧ va_P G vwCl (cW cI cF o sh xx xc gv se fa ca n f xn xf gf s0 s1 s2 s3 s4 tr) H
theorem cB_mv {A : Nat → Prop} {G : va_G} {cI cF : ClassId} {tA tT o sh xx xc gv se : Nat} {fa ca : Nat → Nat} {n : Nat → Int32} {f : Nat → Nat → Int32} {xn : Int32} {xf gf : Nat → Int32} {s0 s1 s2 s3 s4 : Int32} {tr : Int64} : Mv (cB A G cI cF tA tT o sh xx xc gv se fa ca n f xn xf gf s0 s1 s2 s3 s4 tr) := fun _ _ _ hv h => ⟨eB_mv _ _ _ hv h.1, h.2⟩
theorem vin_lt {i : Int32} {k : Nat} (h : ¬ (i < 0 ∨ k ≤ i.toNatClampNeg)) : i.toNatClampNeg < k := Nat.not_le.mp fun q => h (Or.inr q)
theorem cP_form {G : va_G} {cI cF : ClassId} {o sh xx xc gv se : Nat} {fa ca : Nat → Nat} {n : Nat → Int32} {f : Nat → Nat → Int32} {xn : Int32} {xf gf : Nat → Int32} {s0 s1 s2 s3 s4 : Int32} {tr : Int64} {H : Heap} (hP : va_P G vwCl (cW cI cF o sh xx xc gv se fa ca n f xn xf gf s0 s1 s2 s3 s4 tr) H) {j : Nat} (hj : j < 4) : va_P G vwCl (fW (fa j) (ca j) cI (n j) (f j)) H := by
  rcases (show j = 0 ∨ j = 1 ∨ j = 2 ∨ j = 3 by omega) with rfl | rfl | rfl | rfl
  · exact hP.sub [6, 7] rfl
  · exact hP.sub [8, 9] rfl
  · exact hP.sub [10, 11] rfl
  · exact hP.sub [12, 13] rfl
section CAALD
variable {p : Program} {l : Launch} {e : Env} {R : Room} {s : State} {m : MethodId} {args : Array Value} {below : List Frame} {meth : Method} {c : Code} {H : Heap} {locs : List Loc} {cells slots : Nat} {Q : State → Prop}
variable {cc : ByteArray} {pc : Nat} {ls : Array Slot} {rest : List Value}
theorem c_aald {G : va_G} {cI cF : ClassId} {o sh xx xc gv se : Nat} {fa ca : Nat → Nat} {n : Nat → Int32} {f : Nat → Nat → Int32} {xn : Int32} {xf gf : Nat → Int32} {s0 s1 s2 s3 s4 : Int32} {tr : Int64} (hexec : p.tables.exec = Jvm.exec) (hb : c.code = cc) (hK : va_K G vwCl [(cI, .int), (cF, .object "RingForms$Form")] s) (hP : va_P G vwCl (cW cI cF o sh xx xc gv se fa ca n f xn xf gf s0 s1 s2 s3 s4 tr) H) {i : Int32} (hin : vp_in i 4) (hdg : decode cc pc = .ok (.aaload, 1))
    (kk : W p l e R s m args below meth c H locs cells slots Q (F0 m (pc + 1) ls (.ref (fa i.toNatClampNeg) :: rest))) : W p l e R s m args below meth c H locs cells slots Q (F0 m pc ls (.int i :: .ref sh :: rest)) :=
  va_aldq hexec hb hK hP 1 1 rfl rfl hin hdg kk
end CAALD
/-- the reference: its object, its sizes, its rows; what it threw and the last exponent are nobody's business -/
def mW (h0 hs hr : Nat) (cI : ClassId) (th : Int32) (tr : Int64) (sz rw : Nat → Int32) (bx by_ bz bm so ex : Int32) : va_W :=
  [(h0, .inr (3, [.int th, .long tr, .ref hs, .ref hr, .int bx, .int by_, .int bz, .int bm, .int so, .int ex])), (hs, .inl (cI, 4, .inl sz)), (hr, .inl (cI, 24, .inl rw))]
def mB (G : va_G) (h0 hs hr : Nat) (cI cF : ClassId) (tr : Int64) (sz rw : Nat → Int32) (bx by_ bz bm so : Int32) (U : State) (H : Heap) : Prop :=
  (∃ th ex : Int32, va_P G vwCl (mW h0 hs hr cI th tr sz rw bx by_ bz bm so ex) H) ∧ va_K G vwCl [(cI, .int), (cF, .object "RingForms$Form")] U
theorem mB_mv {G : va_G} {h0 hs hr : Nat} {cI cF : ClassId} {tr : Int64} {sz rw : Nat → Int32} {bx by_ bz bm so : Int32} : Mv (mB G h0 hs hr cI cF tr sz rw bx by_ bz bm so) := fun _ _ _ hv h => ⟨h.1, va_K.moved hv h.2⟩
def mBe (G : va_G) (h0 hs hr : Nat) (cI cF : ClassId) (tr : Int64) (sz rw : Nat → Int32) (bx by_ bz bm so : Int32) (ex : Int32) (U : State) (H : Heap) : Prop :=
  (∃ th : Int32, va_P G vwCl (mW h0 hs hr cI th tr sz rw bx by_ bz bm so ex) H) ∧ va_K G vwCl [(cI, .int), (cF, .object "RingForms$Form")] U
theorem mBe_mv {G : va_G} {h0 hs hr : Nat} {cI cF : ClassId} {tr : Int64} {sz rw : Nat → Int32} {bx by_ bz bm so ex : Int32} : Mv (mBe G h0 hs hr cI cF tr sz rw bx by_ bz bm so ex) := fun _ _ _ hv h => ⟨h.1, va_K.moved hv h.2⟩
def mA (h0 hs hr : Nat) (q : Nat) : Prop := q = h0 ∨ q = hs ∨ q = hr
def mAp (h0 hs hr : Nat) : Prop := h0 ≠ hs ∧ h0 ≠ hr ∧ hs ≠ hr
theorem mD {h0 hs hr : Nat} (hap : mAp h0 hs hr) {cI : ClassId} {th : Int32} {tr : Int64} {sz rw : Nat → Int32} {bx by_ bz bm so ex : Int32} : va_D (mA h0 hs hr) (mW h0 hs hr cI th tr sz rw bx by_ bz bm so ex) := by
  obtain ⟨h1, h2, h3⟩ := hap
  refine ⟨fun i j p q hi hj hpq => ?_, fun k q hk => ?_⟩
  · match i, j, hi, hj with
    | 0, 0, _, _ => rfl
    | 1, 1, _, _ => rfl
    | 2, 2, _, _ => rfl
    | 0, 1, hi, hj => cases hi; cases hj; exact absurd hpq h1
    | 0, 2, hi, hj => cases hi; cases hj; exact absurd hpq h2
    | 1, 0, hi, hj => cases hi; cases hj; exact absurd hpq.symm h1
    | 1, 2, hi, hj => cases hi; cases hj; exact absurd hpq h3
    | 2, 0, hi, hj => cases hi; cases hj; exact absurd hpq.symm h2
    | 2, 1, hi, hj => cases hi; cases hj; exact absurd hpq.symm h3
    | i + 3, _, hi, _ => simp [mW] at hi
    | _, j + 3, _, hj => simp [mW] at hj
  · match k, hk with
    | 0, hk => cases hk; exact Or.inl rfl
    | 1, hk => cases hk; exact Or.inr (Or.inl rfl)
    | 2, hk => cases hk; exact Or.inr (Or.inr rfl)
    | k + 3, hk => simp [mW] at hk
end
section
def fJ9_floorMod_f86c9 (a0 : Int64) (a1 : Int64) : Option (Int64) :=
    (if ¬ a1 = 0 then (if 0 ≤ (lg_cmp (a0 ^^^ a1) (0 : Int64)) then some (lrm a0 a1) else
    (if (lg_cmp (lrm a0 a1) (0 : Int64)) = 0 then some (lrm a0 a1) else
    some ((lrm a0 a1) + a1))) else none)
def fJ9_floorMod_1978a (a0 : Int64) (a1 : Int32) : Option (Int32) :=
    (fJ9_floorMod_f86c9 a0 a1.toInt64).bind fun (r1 : Int64) =>
    some r1.toInt32
def kX2_hasOddPower_8 (a1 : Int32) : Nat → Int32 → Int64 → Int32 → Option (Int32)
  | 0, _, _, _ => none
  | fu + 1, x3_8, x4_8, x6_8 =>
    (if (64 : Int32) ≤ x6_8 then (if x3_8 &&& 1 = x3_8 then some x3_8 else none) else
    (if a1 ≤ (1 : Int32) then (if x3_8 &&& 1 = x3_8 then some x3_8 else none) else
    (if (lg_cmp x4_8 (0 : Int64)) = 0 then (if x3_8 &&& 1 = x3_8 then some x3_8 else none) else
    (if ¬ a1.toInt64 = 0 then (if (lg_cmp (lrm x4_8 a1.toInt64) (0 : Int64)) = 0 then (if ¬ a1.toInt64 = 0 then (if x3_8 = 0 then (kX2_hasOddPower_8 a1 fu) (1 : Int32) (x4_8 / a1.toInt64) (x6_8 + (1 : Int32)) else
    (kX2_hasOddPower_8 a1 fu) (0 : Int32) (x4_8 / a1.toInt64) (x6_8 + (1 : Int32))) else none) else
    (if x3_8 &&& 1 = x3_8 then some x3_8 else none)) else none))))
def fX2_hasOddPower (a0 : Int64) (a1 : Int32) : Option (Int32) :=
    kX2_hasOddPower_8 a1 1100 (0 : Int32) a0 (0 : Int32)
def kX2_unit_5 (a1 : Int32) : Nat → Int64 → Int32 → Option (Int64)
  | 0, _, _ => none
  | fu + 1, x3_5, x5_5 =>
    (if (64 : Int32) ≤ x5_5 then some x3_5 else
    (if a1 ≤ (1 : Int32) then some x3_5 else
    (if (lg_cmp x3_5 (0 : Int64)) = 0 then some x3_5 else
    (if ¬ a1.toInt64 = 0 then (if (lg_cmp (lrm x3_5 a1.toInt64) (0 : Int64)) = 0 then (if ¬ a1.toInt64 = 0 then (kX2_unit_5 a1 fu) (x3_5 / a1.toInt64) (x5_5 + (1 : Int32)) else none) else
    some x3_5) else none))))
def fX2_unit (a0 : Int64) (a1 : Int32) : Option (Int64) :=
    kX2_unit_5 a1 1100 a0 (0 : Int32)
def fX2_isThreeOfFour (a0 : Int64) : Option (Int32) :=
    (if (lg_cmp (a0 &&& (3 : Int64)) (3 : Int64)) = 0 then some (1 : Int32) else
    some (0 : Int32))
def kX2_isResidue_44 (a1 : Int32) (K23 : Int32 → Int32 → Int32 → Option (Int32)) (x3_44 : Int32) (x4_44 : Int32) (x5_44 : Int32) : Option (Int32) :=
    (if ¬ a1 = 0 then K23 (irm (x3_44 * x3_44) a1) x4_44 (x5_44 >>> ((1 : Int32) &&& 31)) else none)
def kX2_isResidue_23 (a1 : Int32) : Nat → Int32 → Int32 → Int32 → Option (Int32)
  | 0, _, _, _ => none
  | fu + 1, x3_23, x4_23, x5_23 =>
    (if x5_23 ≤ 0 then (if x4_23 = (1 : Int32) then some (1 : Int32) else
    some (0 : Int32)) else
    (if (x5_23 &&& (1 : Int32)) = (1 : Int32) then (if ¬ a1 = 0 then kX2_isResidue_44 a1 (kX2_isResidue_23 a1 fu) x3_23 (irm (x4_23 * x3_23) a1) x5_23 else none) else
    kX2_isResidue_44 a1 (kX2_isResidue_23 a1 fu) x3_23 x4_23 x5_23))
def fX2_isResidue (a0 : Int64) (a1 : Int32) : Option (Int32) :=
    (if (3 : Int32) ≤ a1 then (fJ9_floorMod_1978a a0 a1).bind fun (r1 : Int32) =>
    kX2_isResidue_23 a1 1100 r1 (1 : Int32) ((a1 - (1 : Int32)) / (2 : Int32)) else
    some (1 : Int32))
def fX2_isTurning (a0 : Int64) (a1 : Int32) : Option (Int32) :=
    (if a1 = (2 : Int32) then (if (lg_cmp (a0 &&& (7 : Int64)) (3 : Int64)) = 0 then some (1 : Int32) else
    (if (lg_cmp (a0 &&& (7 : Int64)) (5 : Int64)) = 0 then some (1 : Int32) else
    some (0 : Int32))) else
    (fX2_isResidue a0 a1).bind fun (r1 : Int32) =>
    (if r1 = 0 then some (1 : Int32) else
    some (0 : Int32)))
def fX2_isSquareAtPrime (a0 : Int64) (a1 : Int32) : Option (Int32) :=
    (fX2_hasOddPower a0 a1).bind fun (r1 : Int32) =>
    (if r1 = 0 then (fX2_unit a0 a1).bind fun (r3 : Int64) =>
    (if a1 = (2 : Int32) then (if (lg_cmp (r3 &&& (7 : Int64)) (1 : Int64)) = 0 then some (1 : Int32) else
    some (0 : Int32)) else
    (fX2_isResidue r3 a1).bind fun (r5 : Int32) =>
    (if r5 &&& 1 = r5 then some r5 else none)) else
    some (0 : Int32))
def kX2_signAt_165 (x11_165 : Int32) : Option (Int32) :=
    (if x11_165 = 0 then some (1 : Int32) else
    some (-1 : Int32))
def kX2_signAt_138 (a2 : Int32) (r3 : Int32) (r5 : Int64) (x11_138 : Int32) : Option (Int32) :=
    (if r3 = 0 then kX2_signAt_165 x11_138 else
    (fX2_isTurning r5 a2).bind fun (r9 : Int32) =>
    (if r9 = 0 then kX2_signAt_165 x11_138 else
    (if x11_138 = 0 then kX2_signAt_165 (1 : Int32) else
    kX2_signAt_165 (0 : Int32))))
def kX2_signAt_109 (a2 : Int32) (r1 : Int32) (r3 : Int32) (r5 : Int64) (r7 : Int64) (t0_109 : Int32) : Option (Int32) :=
    (if r1 = 0 then kX2_signAt_138 a2 r3 r5 t0_109 else
    (fX2_isTurning r7 a2).bind fun (r11 : Int32) =>
    (if r11 = 0 then kX2_signAt_138 a2 r3 r5 t0_109 else
    (if t0_109 = 0 then kX2_signAt_138 a2 r3 r5 (1 : Int32) else
    kX2_signAt_138 a2 r3 r5 (0 : Int32))))
def fX2_signAt (a0 : Int64) (a1 : Int64) (a2 : Int32) : Option (Int32) :=
    (if a2 = 0 then (if 0 ≤ (lg_cmp a0 (0 : Int64)) then some (1 : Int32) else
    (if 0 ≤ (lg_cmp a1 (0 : Int64)) then some (1 : Int32) else
    some (-1 : Int32))) else
    (fX2_hasOddPower a0 a2).bind fun (r1 : Int32) =>
    (fX2_hasOddPower a1 a2).bind fun (r3 : Int32) =>
    (fX2_unit a0 a2).bind fun (r5 : Int64) =>
    (fX2_unit a1 a2).bind fun (r7 : Int64) =>
    (if a2 = (2 : Int32) then (fX2_isThreeOfFour r5).bind fun (r15 : Int32) =>
    (if r15 = 0 then kX2_signAt_109 a2 r1 r3 r5 r7 (0 : Int32) else
    (fX2_isThreeOfFour r7).bind fun (r17 : Int32) =>
    (if r17 = 0 then kX2_signAt_109 a2 r1 r3 r5 r7 (0 : Int32) else
    kX2_signAt_109 a2 r1 r3 r5 r7 (1 : Int32))) else
    (if r1 = 0 then kX2_signAt_109 a2 r1 r3 r5 r7 (0 : Int32) else
    (if r3 = 0 then kX2_signAt_109 a2 r1 r3 r5 r7 (0 : Int32) else
    (fX2_isThreeOfFour a2.toInt64).bind fun (r13 : Int32) =>
    (if r13 = 0 then kX2_signAt_109 a2 r1 r3 r5 r7 (0 : Int32) else
    kX2_signAt_109 a2 r1 r3 r5 r7 (1 : Int32))))))
def kX2_isPlace_9 (a0 : Int32) : Nat → Int32 → Option (Int32)
  | 0, _ => none
  | fu + 1, x3_9 =>
    (if (79 : Int32) ≤ x3_9 then some (0 : Int32) else
    (if ¬ (x3_9 < 0 ∨ 79 ≤ x3_9.toNatClampNeg) then (if (allv x3_9.toNatClampNeg) = a0 then some (1 : Int32) else
    (kX2_isPlace_9 a0 fu) (x3_9 + (1 : Int32))) else none))
def fX2_isPlace (a0 : Int32) : Option (Int32) :=
    kX2_isPlace_9 a0 1100 (0 : Int32)
theorem syJ9_floorMod_f86c9 : Sy yJ9_floorMod_f86c9 cJ9_floorMod_f86c9 6 (some .long) 2 := ⟨w_122, w_121, w_6, by decide +kernel⟩
set_option maxHeartbeats 4000000 in
set_option maxRecDepth 100000 in
theorem cnJ9_floorMod_f86c9 (l : Launch) {a0 : Int64} {a1 : Int64} {r : Int64} (h : fJ9_floorMod_f86c9 a0 a1 = some r) : Ro l yJ9_floorMod_f86c9 cJ9_floorMod_f86c9 6 (some .long) 0 0 [.long a0, .long a1] B0 (.long r) := by
  refine ro_l (by decide +kernel) (Nat.le_of_ble_eq_true rfl) ?_
  intro p e s m args below meth cd Q ls hF hB hl END
  have hF : CallFix p m cd cJ9_floorMod_f86c9 6 s args (wl yJ9_floorMod_f86c9 cJ9_floorMod_f86c9 6 (some .long)) RJ9 := hF
  obtain ⟨hx, hb, hml, hown, hts⟩ := id hF
  have hl : lv_has ls 6 [(0, .long a0), (2, .long a1)] := hl
  rw [fJ9_floorMod_f86c9] at h
  refine lv_lload_n hx hb dJ9_floorMod_f86c9_0 rfl (lv_at hl 0 rfl) ?_
  refine lv_lload_n hx hb dJ9_floorMod_f86c9_1 rfl (lv_at hl 1 rfl) ?_
  obtain ⟨g1, h⟩ := pg h
  refine lq_lrem hx hb dJ9_floorMod_f86c9_2 g1 ?_
  refine lv_lstore (lv' := [(4, .long (lrm a0 a1)), (0, .long a0), (2, .long a1)]) hx hb dJ9_floorMod_f86c9_3 hl (by decide) rfl (fun ls hl => ?_)
  refine lv_lload_n hx hb dJ9_floorMod_f86c9_5 rfl (lv_at hl 1 rfl) ?_
  refine lv_lload_n hx hb dJ9_floorMod_f86c9_6 rfl (lv_at hl 2 rfl) ?_
  refine lv_lxor hx hb dJ9_floorMod_f86c9_7 ?_
  refine lv_lconst (v := (0 : Int64)) hx hb dJ9_floorMod_f86c9_8 (by decide) ?_
  refine W.lcmp hx hb dJ9_floorMod_f86c9_9 ?_
  refine lv_if_ge (tgt := 25) hx hb dJ9_floorMod_f86c9_10 (by decide) (fun c10 => ?_) (fun c10 => ?_)
  · have h := pt c10 h
    refine lv_lload hx hb dJ9_floorMod_f86c9_25 (lv_at hl 0 rfl) ?_
    exact END 27 ls _ (pe h) dJ9_floorMod_f86c9_27
  · have h := pf c10 h
    refine lv_lload hx hb dJ9_floorMod_f86c9_13 (lv_at hl 0 rfl) ?_
    refine lv_lconst (v := (0 : Int64)) hx hb dJ9_floorMod_f86c9_15 (by decide) ?_
    refine W.lcmp hx hb dJ9_floorMod_f86c9_16 ?_
    refine lv_if_eq (tgt := 25) hx hb dJ9_floorMod_f86c9_17 (by decide) (fun c17 => ?_) (fun c17 => ?_)
    · have h := pt c17 h
      refine lv_lload hx hb dJ9_floorMod_f86c9_25 (lv_at hl 0 rfl) ?_
      exact END 27 ls _ (pe h) dJ9_floorMod_f86c9_27
    · have h := pf c17 h
      refine lv_lload hx hb dJ9_floorMod_f86c9_20 (lv_at hl 0 rfl) ?_
      refine lv_lload_n hx hb dJ9_floorMod_f86c9_22 rfl (lv_at hl 2 rfl) ?_
      refine lv_ladd hx hb dJ9_floorMod_f86c9_23 ?_
      exact END 24 ls _ (pe h) dJ9_floorMod_f86c9_24

theorem syJ9_floorMod_1978a : Sy yJ9_floorMod_1978a cJ9_floorMod_1978a 3 (some .int) 2 := ⟨w_119, w_118, w_6, by decide +kernel⟩
set_option maxHeartbeats 4000000 in
set_option maxRecDepth 100000 in
theorem cnJ9_floorMod_1978a (l : Launch) {a0 : Int64} {a1 : Int32} {r : Int32} (h : fJ9_floorMod_1978a a0 a1 = some r) : Ro l yJ9_floorMod_1978a cJ9_floorMod_1978a 3 (some .int) 1 25 [.long a0, .int a1] B0 (.int r) := by
  refine ro_i (by decide +kernel) (Nat.le_of_ble_eq_true rfl) ?_
  intro p e s m args below meth cd Q ls hF hB hl END
  have hF : CallFix p m cd cJ9_floorMod_1978a 3 s args (wl yJ9_floorMod_1978a cJ9_floorMod_1978a 3 (some .int)) RJ9 := hF
  obtain ⟨hx, hb, hml, hown, hts⟩ := id hF
  have hl : lv_has ls 3 [(0, .long a0), (2, .int a1)] := hl
  rw [fJ9_floorMod_1978a] at h
  refine lv_lload_n hx hb dJ9_floorMod_1978a_0 rfl (lv_at hl 0 rfl) ?_
  refine lv_iload_n hx hb dJ9_floorMod_1978a_1 rfl (lv_at hl 1 rfl) ?_
  refine lv_i2l (v := a1.toInt64) hx hb dJ9_floorMod_1978a_2 rfl ?_
  obtain ⟨r1, e2, h⟩ := pb h
  refine ro_S (As := [.long a0, .long a1.toInt64]) (rest := []) hF (fun _ h => wl_in h) (cnJ9_floorMod_f86c9 l e2) syJ9_floorMod_f86c9 w_120 ⟨Nat.le_of_ble_eq_true rfl, Nat.le_of_ble_eq_true rfl⟩ mv0 trivial rfl hl.1 rfl (Nat.le_of_ble_eq_true rfl) dJ9_floorMod_1978a_3 ⟨Nat.zero_le _, Nat.zero_le _⟩ ?_
  refine lv_l2i (v := r1.toInt32) hx hb dJ9_floorMod_1978a_6 rfl ?_
  exact END 7 ls _ (pe h) dJ9_floorMod_1978a_7

theorem syX2_hasOddPower : Sy yX2_hasOddPower cX2_hasOddPower 7 (some .boolean) 2 := ⟨w_101, w_100, w_5, by decide +kernel⟩
set_option maxHeartbeats 4000000 in
set_option maxRecDepth 100000 in
theorem cnX2_hasOddPower (l : Launch) {a0 : Int64} {a1 : Int32} {r : Int32} (h : fX2_hasOddPower a0 a1 = some r) : Ro l yX2_hasOddPower cX2_hasOddPower 7 (some .boolean) 0 0 [.long a0, .int a1] B0 (.int r) := by
  refine ro_z (plainFor_of_name (by decide)) (Nat.le_of_ble_eq_true rfl) ?_
  intro p e s m args below meth cd Q ls hF hB hl END
  have hF : CallFix p m cd cX2_hasOddPower 7 s args (wl yX2_hasOddPower cX2_hasOddPower 7 (some .boolean)) RX2 := hF
  obtain ⟨hx, hb, hml, hown, hts⟩ := id hF
  have hl : lv_has ls 7 [(0, .long a0), (2, .int a1)] := hl
  rw [fX2_hasOddPower] at h
  refine lv_iconst (v := (0 : Int32)) hx hb dX2_hasOddPower_0 (by decide) ?_
  refine lv_istore_n (lv' := [(3, .int (0 : Int32)), (0, .long a0), (2, .int a1)]) hx hb dX2_hasOddPower_1 rfl hl (by decide) rfl (fun ls hl => ?_)
  refine lv_lload_n hx hb dX2_hasOddPower_2 rfl (lv_at hl 1 rfl) ?_
  refine lv_lstore (lv' := [(4, .long a0), (3, .int (0 : Int32)), (0, .long a0), (2, .int a1)]) hx hb dX2_hasOddPower_3 hl (by decide) rfl (fun ls hl => ?_)
  refine lv_iconst (v := (0 : Int32)) hx hb dX2_hasOddPower_5 (by decide) ?_
  refine lv_istore (lv' := [(6, .int (0 : Int32)), (4, .long a0), (3, .int (0 : Int32)), (0, .long a0), (2, .int a1)]) hx hb dX2_hasOddPower_6 hl (by decide) rfl (fun ls hl => ?_)
  have J8 : ∀ (n8 : Nat) (x3_8 : Int32) (x4_8 : Int64) (x6_8 : Int32), kX2_hasOddPower_8 a1 n8 x3_8 x4_8 x6_8 = some r → ∀ (ls : Array Slot), lv_has ls 7 [(2, .int a1), (3, .int x3_8), (4, .long x4_8), (6, .int x6_8)] → W p l e (rmk 0 0) s m args below meth cd s.heap [] 0 0 Q (F0 m 8 ls []) := by
    intro n8
    induction n8 with
    | zero =>
      intro x3_8 x4_8 x6_8 h
      rw [kX2_hasOddPower_8] at h
      cases h
    | succ n8 ih8 =>
      intro x3_8 x4_8 x6_8 h  ls hl
      rw [kX2_hasOddPower_8] at h
      refine lv_iload hx hb dX2_hasOddPower_8 (lv_at hl 3 rfl) ?_
      refine lv_bipush (v := (64 : Int32)) hx hb dX2_hasOddPower_10 (by decide) ?_
      refine lv_icmp_ge (tgt := 60) hx hb dX2_hasOddPower_12 (by decide) (fun c12 => ?_) (fun c12 => ?_)
      · have h := pt c12 h
        refine lv_iload_n hx hb dX2_hasOddPower_60 rfl (lv_at hl 1 rfl) ?_
        obtain ⟨g1, h⟩ := pg h
        exact END 61 ls _ (pe h) (nbool g1) dX2_hasOddPower_61
      · have h := pf c12 h
        refine lv_iload_n hx hb dX2_hasOddPower_15 rfl (lv_at hl 0 rfl) ?_
        refine lv_iconst (v := (1 : Int32)) hx hb dX2_hasOddPower_16 (by decide) ?_
        refine lv_icmp_le (tgt := 60) hx hb dX2_hasOddPower_17 (by decide) (fun c17 => ?_) (fun c17 => ?_)
        · have h := pt c17 h
          refine lv_iload_n hx hb dX2_hasOddPower_60 rfl (lv_at hl 1 rfl) ?_
          obtain ⟨g2, h⟩ := pg h
          exact END 61 ls _ (pe h) (nbool g2) dX2_hasOddPower_61
        · have h := pf c17 h
          refine lv_lload hx hb dX2_hasOddPower_20 (lv_at hl 2 rfl) ?_
          refine lv_lconst (v := (0 : Int64)) hx hb dX2_hasOddPower_22 (by decide) ?_
          refine W.lcmp hx hb dX2_hasOddPower_23 ?_
          refine lv_if_eq (tgt := 60) hx hb dX2_hasOddPower_24 (by decide) (fun c24 => ?_) (fun c24 => ?_)
          · have h := pt c24 h
            refine lv_iload_n hx hb dX2_hasOddPower_60 rfl (lv_at hl 1 rfl) ?_
            obtain ⟨g3, h⟩ := pg h
            exact END 61 ls _ (pe h) (nbool g3) dX2_hasOddPower_61
          · have h := pf c24 h
            refine lv_lload hx hb dX2_hasOddPower_27 (lv_at hl 2 rfl) ?_
            refine lv_iload_n hx hb dX2_hasOddPower_29 rfl (lv_at hl 0 rfl) ?_
            refine lv_i2l (v := a1.toInt64) hx hb dX2_hasOddPower_30 rfl ?_
            obtain ⟨g4, h⟩ := pg h
            refine lq_lrem hx hb dX2_hasOddPower_31 g4 ?_
            refine lv_lconst (v := (0 : Int64)) hx hb dX2_hasOddPower_32 (by decide) ?_
            refine W.lcmp hx hb dX2_hasOddPower_33 ?_
            refine lv_if_ne (tgt := 60) hx hb dX2_hasOddPower_34 (by decide) (fun c34 => ?_) (fun c34 => ?_)
            · have h := pf c34 h
              refine lv_iload_n hx hb dX2_hasOddPower_60 rfl (lv_at hl 1 rfl) ?_
              obtain ⟨g5, h⟩ := pg h
              exact END 61 ls _ (pe h) (nbool g5) dX2_hasOddPower_61
            · have h := pt c34 h
              refine lv_lload hx hb dX2_hasOddPower_37 (lv_at hl 2 rfl) ?_
              refine lv_iload_n hx hb dX2_hasOddPower_39 rfl (lv_at hl 0 rfl) ?_
              refine lv_i2l (v := a1.toInt64) hx hb dX2_hasOddPower_40 rfl ?_
              obtain ⟨g6, h⟩ := pg h
              refine lv_ldiv hx hb dX2_hasOddPower_41 g6 ?_
              refine lv_lstore (lv' := [(4, .long (x4_8 / a1.toInt64)), (2, .int a1), (3, .int x3_8), (6, .int x6_8)]) hx hb dX2_hasOddPower_42 hl (by decide) rfl (fun ls hl => ?_)
              refine lv_iload_n hx hb dX2_hasOddPower_44 rfl (lv_at hl 2 rfl) ?_
              refine lv_if_ne (tgt := 52) hx hb dX2_hasOddPower_45 (by decide) (fun c45 => ?_) (fun c45 => ?_)
              · have h := pf c45 h
                refine lv_iconst (v := (0 : Int32)) hx hb dX2_hasOddPower_52 (by decide) ?_
                refine lv_istore_n (lv' := [(3, .int (0 : Int32)), (4, .long (x4_8 / a1.toInt64)), (2, .int a1), (6, .int x6_8)]) hx hb dX2_hasOddPower_53 rfl hl (by decide) rfl (fun ls hl => ?_)
                refine lv_iinc (v := x6_8 + (1 : Int32)) (lv' := [(6, .int (x6_8 + (1 : Int32))), (3, .int (0 : Int32)), (4, .long (x4_8 / a1.toInt64)), (2, .int a1)]) hx hb dX2_hasOddPower_54 hl (k := 3) rfl rfl (by decide) rfl (fun ls hl => ?_)
                refine lv_goto (tgt := 8) hx hb dX2_hasOddPower_57 (by decide) ?_
                exact ih8 _ _ _ h  _ (lv_sub hl [3, 1, 2, 0] rfl)
              · have h := pt c45 h
                refine lv_iconst (v := (1 : Int32)) hx hb dX2_hasOddPower_48 (by decide) ?_
                refine lv_goto (tgt := 53) hx hb dX2_hasOddPower_49 (by decide) ?_
                refine lv_istore_n (lv' := [(3, .int (1 : Int32)), (4, .long (x4_8 / a1.toInt64)), (2, .int a1), (6, .int x6_8)]) hx hb dX2_hasOddPower_53 rfl hl (by decide) rfl (fun ls hl => ?_)
                refine lv_iinc (v := x6_8 + (1 : Int32)) (lv' := [(6, .int (x6_8 + (1 : Int32))), (3, .int (1 : Int32)), (4, .long (x4_8 / a1.toInt64)), (2, .int a1)]) hx hb dX2_hasOddPower_54 hl (k := 3) rfl rfl (by decide) rfl (fun ls hl => ?_)
                refine lv_goto (tgt := 8) hx hb dX2_hasOddPower_57 (by decide) ?_
                exact ih8 _ _ _ h  _ (lv_sub hl [3, 1, 2, 0] rfl)
  exact J8 _ _ _ _ h  _ (lv_sub hl [4, 2, 1, 0] rfl)

theorem syX2_unit : Sy yX2_unit cX2_unit 6 (some .long) 2 := ⟨w_104, w_103, w_5, by decide +kernel⟩
set_option maxHeartbeats 4000000 in
set_option maxRecDepth 100000 in
theorem cnX2_unit (l : Launch) {a0 : Int64} {a1 : Int32} {r : Int64} (h : fX2_unit a0 a1 = some r) : Ro l yX2_unit cX2_unit 6 (some .long) 0 0 [.long a0, .int a1] B0 (.long r) := by
  refine ro_l (plainFor_of_name (by decide)) (Nat.le_of_ble_eq_true rfl) ?_
  intro p e s m args below meth cd Q ls hF hB hl END
  have hF : CallFix p m cd cX2_unit 6 s args (wl yX2_unit cX2_unit 6 (some .long)) RX2 := hF
  obtain ⟨hx, hb, hml, hown, hts⟩ := id hF
  have hl : lv_has ls 6 [(0, .long a0), (2, .int a1)] := hl
  rw [fX2_unit] at h
  refine lv_lload_n hx hb dX2_unit_0 rfl (lv_at hl 0 rfl) ?_
  refine lv_lstore_n (lv' := [(3, .long a0), (0, .long a0), (2, .int a1)]) hx hb dX2_unit_1 rfl hl (by decide) rfl (fun ls hl => ?_)
  refine lv_iconst (v := (0 : Int32)) hx hb dX2_unit_2 (by decide) ?_
  refine lv_istore (lv' := [(5, .int (0 : Int32)), (3, .long a0), (0, .long a0), (2, .int a1)]) hx hb dX2_unit_3 hl (by decide) rfl (fun ls hl => ?_)
  have J5 : ∀ (n5 : Nat) (x3_5 : Int64) (x5_5 : Int32), kX2_unit_5 a1 n5 x3_5 x5_5 = some r → ∀ (ls : Array Slot), lv_has ls 6 [(2, .int a1), (3, .long x3_5), (5, .int x5_5)] → W p l e (rmk 0 0) s m args below meth cd s.heap [] 0 0 Q (F0 m 5 ls []) := by
    intro n5
    induction n5 with
    | zero =>
      intro x3_5 x5_5 h
      rw [kX2_unit_5] at h
      cases h
    | succ n5 ih5 =>
      intro x3_5 x5_5 h  ls hl
      rw [kX2_unit_5] at h
      refine lv_iload hx hb dX2_unit_5 (lv_at hl 2 rfl) ?_
      refine lv_bipush (v := (64 : Int32)) hx hb dX2_unit_7 (by decide) ?_
      refine lv_icmp_ge (tgt := 43) hx hb dX2_unit_9 (by decide) (fun c9 => ?_) (fun c9 => ?_)
      · have h := pt c9 h
        refine lv_lload_n hx hb dX2_unit_43 rfl (lv_at hl 1 rfl) ?_
        exact END 44 ls _ (pe h) dX2_unit_44
      · have h := pf c9 h
        refine lv_iload_n hx hb dX2_unit_12 rfl (lv_at hl 0 rfl) ?_
        refine lv_iconst (v := (1 : Int32)) hx hb dX2_unit_13 (by decide) ?_
        refine lv_icmp_le (tgt := 43) hx hb dX2_unit_14 (by decide) (fun c14 => ?_) (fun c14 => ?_)
        · have h := pt c14 h
          refine lv_lload_n hx hb dX2_unit_43 rfl (lv_at hl 1 rfl) ?_
          exact END 44 ls _ (pe h) dX2_unit_44
        · have h := pf c14 h
          refine lv_lload_n hx hb dX2_unit_17 rfl (lv_at hl 1 rfl) ?_
          refine lv_lconst (v := (0 : Int64)) hx hb dX2_unit_18 (by decide) ?_
          refine W.lcmp hx hb dX2_unit_19 ?_
          refine lv_if_eq (tgt := 43) hx hb dX2_unit_20 (by decide) (fun c20 => ?_) (fun c20 => ?_)
          · have h := pt c20 h
            refine lv_lload_n hx hb dX2_unit_43 rfl (lv_at hl 1 rfl) ?_
            exact END 44 ls _ (pe h) dX2_unit_44
          · have h := pf c20 h
            refine lv_lload_n hx hb dX2_unit_23 rfl (lv_at hl 1 rfl) ?_
            refine lv_iload_n hx hb dX2_unit_24 rfl (lv_at hl 0 rfl) ?_
            refine lv_i2l (v := a1.toInt64) hx hb dX2_unit_25 rfl ?_
            obtain ⟨g1, h⟩ := pg h
            refine lq_lrem hx hb dX2_unit_26 g1 ?_
            refine lv_lconst (v := (0 : Int64)) hx hb dX2_unit_27 (by decide) ?_
            refine W.lcmp hx hb dX2_unit_28 ?_
            refine lv_if_ne (tgt := 43) hx hb dX2_unit_29 (by decide) (fun c29 => ?_) (fun c29 => ?_)
            · have h := pf c29 h
              refine lv_lload_n hx hb dX2_unit_43 rfl (lv_at hl 1 rfl) ?_
              exact END 44 ls _ (pe h) dX2_unit_44
            · have h := pt c29 h
              refine lv_lload_n hx hb dX2_unit_32 rfl (lv_at hl 1 rfl) ?_
              refine lv_iload_n hx hb dX2_unit_33 rfl (lv_at hl 0 rfl) ?_
              refine lv_i2l (v := a1.toInt64) hx hb dX2_unit_34 rfl ?_
              obtain ⟨g2, h⟩ := pg h
              refine lv_ldiv hx hb dX2_unit_35 g2 ?_
              refine lv_lstore_n (lv' := [(3, .long (x3_5 / a1.toInt64)), (2, .int a1), (5, .int x5_5)]) hx hb dX2_unit_36 rfl hl (by decide) rfl (fun ls hl => ?_)
              refine lv_iinc (v := x5_5 + (1 : Int32)) (lv' := [(5, .int (x5_5 + (1 : Int32))), (3, .long (x3_5 / a1.toInt64)), (2, .int a1)]) hx hb dX2_unit_37 hl (k := 2) rfl rfl (by decide) rfl (fun ls hl => ?_)
              refine lv_goto (tgt := 5) hx hb dX2_unit_40 (by decide) ?_
              exact ih5 _ _ h  _ (lv_sub hl [2, 1, 0] rfl)
  exact J5 _ _ _ h  _ (lv_sub hl [3, 1, 0] rfl)

theorem syX2_isThreeOfFour : Sy yX2_isThreeOfFour cX2_isThreeOfFour 2 (some .boolean) 1 := ⟨w_107, w_106, w_5, by decide +kernel⟩
set_option maxHeartbeats 4000000 in
set_option maxRecDepth 100000 in
theorem cnX2_isThreeOfFour (l : Launch) {a0 : Int64} {r : Int32} (h : fX2_isThreeOfFour a0 = some r) : Ro l yX2_isThreeOfFour cX2_isThreeOfFour 2 (some .boolean) 0 0 [.long a0] B0 (.int r) := by
  refine ro_z (plainFor_of_name (by decide)) (Nat.le_of_ble_eq_true rfl) ?_
  intro p e s m args below meth cd Q ls hF hB hl END
  have hF : CallFix p m cd cX2_isThreeOfFour 2 s args (wl yX2_isThreeOfFour cX2_isThreeOfFour 2 (some .boolean)) RX2 := hF
  obtain ⟨hx, hb, hml, hown, hts⟩ := id hF
  have hl : lv_has ls 2 [(0, .long a0)] := hl
  rw [fX2_isThreeOfFour] at h
  refine lv_lload_n hx hb dX2_isThreeOfFour_0 rfl (lv_at hl 0 rfl) ?_
  refine lv_ldc2 (v := (3 : Int64)) hx hb hown (hts _ (wl_in w_108)) dX2_isThreeOfFour_1 ?_
  refine lv_land hx hb dX2_isThreeOfFour_4 ?_
  refine lv_ldc2 (v := (3 : Int64)) hx hb hown (hts _ (wl_in w_108)) dX2_isThreeOfFour_5 ?_
  refine W.lcmp hx hb dX2_isThreeOfFour_8 ?_
  refine lv_if_ne (tgt := 16) hx hb dX2_isThreeOfFour_9 (by decide) (fun c9 => ?_) (fun c9 => ?_)
  · have h := pf c9 h
    refine lv_iconst (v := (0 : Int32)) hx hb dX2_isThreeOfFour_16 (by decide) ?_
    exact END 17 ls _ (pe h) (by rfl) dX2_isThreeOfFour_17
  · have h := pt c9 h
    refine lv_iconst (v := (1 : Int32)) hx hb dX2_isThreeOfFour_12 (by decide) ?_
    refine lv_goto (tgt := 17) hx hb dX2_isThreeOfFour_13 (by decide) ?_
    exact END 17 ls _ (pe h) (by rfl) dX2_isThreeOfFour_17

theorem syX2_isResidue : Sy yX2_isResidue cX2_isResidue 6 (some .boolean) 2 := ⟨w_116, w_115, w_5, by decide +kernel⟩
set_option maxHeartbeats 4000000 in
set_option maxRecDepth 100000 in
theorem cnX2_isResidue (l : Launch) {a0 : Int64} {a1 : Int32} {r : Int32} (h : fX2_isResidue a0 a1 = some r) : Ro l yX2_isResidue cX2_isResidue 6 (some .boolean) 2 47 [.long a0, .int a1] B0 (.int r) := by
  refine ro_z (plainFor_of_name (by decide)) (Nat.le_of_ble_eq_true rfl) ?_
  intro p e s m args below meth cd Q ls hF hB hl END
  have hF : CallFix p m cd cX2_isResidue 6 s args (wl yX2_isResidue cX2_isResidue 6 (some .boolean)) RX2 := hF
  obtain ⟨hx, hb, hml, hown, hts⟩ := id hF
  have hl : lv_has ls 6 [(0, .long a0), (2, .int a1)] := hl
  rw [fX2_isResidue] at h
  refine lv_iload_n hx hb dX2_isResidue_0 rfl (lv_at hl 1 rfl) ?_
  refine lv_iconst (v := (3 : Int32)) hx hb dX2_isResidue_1 (by decide) ?_
  refine lv_icmp_ge (tgt := 7) hx hb dX2_isResidue_2 (by decide) (fun c2 => ?_) (fun c2 => ?_)
  · have h := pt c2 h
    refine lv_lload_n hx hb dX2_isResidue_7 rfl (lv_at hl 0 rfl) ?_
    refine lv_iload_n hx hb dX2_isResidue_8 rfl (lv_at hl 1 rfl) ?_
    obtain ⟨r1, e2, h⟩ := pb h
    refine ro_S (As := [.long a0, .int a1]) (rest := []) hF (fun _ h => wl_in h) (cnJ9_floorMod_1978a l e2) syJ9_floorMod_1978a w_117 ⟨Nat.le_of_ble_eq_true rfl, Nat.le_of_ble_eq_true rfl⟩ mv0 trivial rfl hl.1 rfl (Nat.le_of_ble_eq_true rfl) dX2_isResidue_9 ⟨Nat.zero_le _, Nat.zero_le _⟩ ?_
    refine lv_istore_n (lv' := [(3, .int r1), (0, .long a0), (2, .int a1)]) hx hb dX2_isResidue_12 rfl hl (by decide) rfl (fun ls hl => ?_)
    refine lv_iconst (v := (1 : Int32)) hx hb dX2_isResidue_13 (by decide) ?_
    refine lv_istore (lv' := [(4, .int (1 : Int32)), (3, .int r1), (0, .long a0), (2, .int a1)]) hx hb dX2_isResidue_14 hl (by decide) rfl (fun ls hl => ?_)
    refine lv_iload_n hx hb dX2_isResidue_16 rfl (lv_at hl 3 rfl) ?_
    refine lv_iconst (v := (1 : Int32)) hx hb dX2_isResidue_17 (by decide) ?_
    refine lv_isub hx hb dX2_isResidue_18 ?_
    refine lv_iconst (v := (2 : Int32)) hx hb dX2_isResidue_19 (by decide) ?_
    refine lv_idiv hx hb dX2_isResidue_20 (by decide) ?_
    refine lv_istore (lv' := [(5, .int ((a1 - (1 : Int32)) / (2 : Int32))), (4, .int (1 : Int32)), (3, .int r1), (0, .long a0), (2, .int a1)]) hx hb dX2_isResidue_21 hl (by decide) rfl (fun ls hl => ?_)
    have J23 : ∀ (n23 : Nat) (x3_23 : Int32) (x4_23 : Int32) (x5_23 : Int32), kX2_isResidue_23 a1 n23 x3_23 x4_23 x5_23 = some r → ∀ (ls : Array Slot), lv_has ls 6 [(2, .int a1), (3, .int x3_23), (4, .int x4_23), (5, .int x5_23)] → W p l e (rmk 2 47) s m args below meth cd s.heap [] 0 0 Q (F0 m 23 ls []) := by
      intro n23
      induction n23 with
      | zero =>
        intro x3_23 x4_23 x5_23 h
        rw [kX2_isResidue_23] at h
        cases h
      | succ n23 ih23 =>
        intro x3_23 x4_23 x5_23 h  ls hl
        rw [kX2_isResidue_23] at h
        refine lv_iload hx hb dX2_isResidue_23 (lv_at hl 3 rfl) ?_
        refine lv_if_le (tgt := 59) hx hb dX2_isResidue_25 (by decide) (fun c25 => ?_) (fun c25 => ?_)
        · have h := pt c25 h
          refine lv_iload hx hb dX2_isResidue_59 (lv_at hl 2 rfl) ?_
          refine lv_iconst (v := (1 : Int32)) hx hb dX2_isResidue_61 (by decide) ?_
          refine lv_icmp_ne (tgt := 69) hx hb dX2_isResidue_62 (by decide) (fun c62 => ?_) (fun c62 => ?_)
          · have h := pf c62 h
            refine lv_iconst (v := (0 : Int32)) hx hb dX2_isResidue_69 (by decide) ?_
            exact END 70 ls _ (pe h) (by rfl) dX2_isResidue_70
          · have h := pt c62 h
            refine lv_iconst (v := (1 : Int32)) hx hb dX2_isResidue_65 (by decide) ?_
            refine lv_goto (tgt := 70) hx hb dX2_isResidue_66 (by decide) ?_
            exact END 70 ls _ (pe h) (by rfl) dX2_isResidue_70
        · have h := pf c25 h
          refine lv_iload hx hb dX2_isResidue_28 (lv_at hl 3 rfl) ?_
          refine lv_iconst (v := (1 : Int32)) hx hb dX2_isResidue_30 (by decide) ?_
          refine lv_iand hx hb dX2_isResidue_31 ?_
          refine lv_iconst (v := (1 : Int32)) hx hb dX2_isResidue_32 (by decide) ?_
          have J44 : ∀ (x3_44 : Int32) (x4_44 : Int32) (x5_44 : Int32), kX2_isResidue_44 a1 (kX2_isResidue_23 a1 n23) x3_44 x4_44 x5_44 = some r → ∀ (ls : Array Slot), lv_has ls 6 [(2, .int a1), (3, .int x3_44), (4, .int x4_44), (5, .int x5_44)] → W p l e (rmk 2 47) s m args below meth cd s.heap [] 0 0 Q (F0 m 44 ls []) := by
            intro x3_44 x4_44 x5_44 h  ls hl
            rw [kX2_isResidue_44] at h
            refine lv_iload_n hx hb dX2_isResidue_44 rfl (lv_at hl 1 rfl) ?_
            refine lv_iload_n hx hb dX2_isResidue_45 rfl (lv_at hl 1 rfl) ?_
            refine lv_imul hx hb dX2_isResidue_46 ?_
            refine lv_iload_n hx hb dX2_isResidue_47 rfl (lv_at hl 0 rfl) ?_
            obtain ⟨g3, h⟩ := pg h
            refine lq_irem hx hb dX2_isResidue_48 g3 ?_
            refine lv_istore_n (lv' := [(3, .int (irm (x3_44 * x3_44) a1)), (2, .int a1), (4, .int x4_44), (5, .int x5_44)]) hx hb dX2_isResidue_49 rfl hl (by decide) rfl (fun ls hl => ?_)
            refine lv_iload hx hb dX2_isResidue_50 (lv_at hl 3 rfl) ?_
            refine lv_iconst (v := (1 : Int32)) hx hb dX2_isResidue_52 (by decide) ?_
            refine lv_ishr hx hb dX2_isResidue_53 ?_
            refine lv_istore (lv' := [(5, .int (x5_44 >>> ((1 : Int32) &&& 31))), (3, .int (irm (x3_44 * x3_44) a1)), (2, .int a1), (4, .int x4_44)]) hx hb dX2_isResidue_54 hl (by decide) rfl (fun ls hl => ?_)
            refine lv_goto (tgt := 23) hx hb dX2_isResidue_56 (by decide) ?_
            exact ih23 _ _ _ h  _ (lv_sub hl [2, 1, 3, 0] rfl)
          refine lv_icmp_ne (tgt := 44) hx hb dX2_isResidue_33 (by decide) (fun c33 => ?_) (fun c33 => ?_)
          · have h := pf c33 h
            exact J44 _ _ _ h  _ hl
          · have h := pt c33 h
            refine lv_iload hx hb dX2_isResidue_36 (lv_at hl 2 rfl) ?_
            refine lv_iload_n hx hb dX2_isResidue_38 rfl (lv_at hl 1 rfl) ?_
            refine lv_imul hx hb dX2_isResidue_39 ?_
            refine lv_iload_n hx hb dX2_isResidue_40 rfl (lv_at hl 0 rfl) ?_
            obtain ⟨g4, h⟩ := pg h
            refine lq_irem hx hb dX2_isResidue_41 g4 ?_
            refine lv_istore (lv' := [(4, .int (irm (x4_23 * x3_23) a1)), (2, .int a1), (3, .int x3_23), (5, .int x5_23)]) hx hb dX2_isResidue_42 hl (by decide) rfl (fun ls hl => ?_)
            exact J44 _ _ _ h  _ (lv_sub hl [1, 2, 0, 3] rfl)
    exact J23 _ _ _ _ h  _ (lv_sub hl [4, 2, 1, 0] rfl)
  · have h := pf c2 h
    refine lv_iconst (v := (1 : Int32)) hx hb dX2_isResidue_5 (by decide) ?_
    exact END 6 ls _ (pe h) (by rfl) dX2_isResidue_6

theorem syX2_isTurning : Sy yX2_isTurning cX2_isTurning 3 (some .boolean) 2 := ⟨w_111, w_110, w_5, by decide +kernel⟩
set_option maxHeartbeats 4000000 in
set_option maxRecDepth 100000 in
theorem cnX2_isTurning (l : Launch) {a0 : Int64} {a1 : Int32} {r : Int32} (h : fX2_isTurning a0 a1 = some r) : Ro l yX2_isTurning cX2_isTurning 3 (some .boolean) 3 72 [.long a0, .int a1] B0 (.int r) := by
  refine ro_z (plainFor_of_name (by decide)) (Nat.le_of_ble_eq_true rfl) ?_
  intro p e s m args below meth cd Q ls hF hB hl END
  have hF : CallFix p m cd cX2_isTurning 3 s args (wl yX2_isTurning cX2_isTurning 3 (some .boolean)) RX2 := hF
  obtain ⟨hx, hb, hml, hown, hts⟩ := id hF
  have hl : lv_has ls 3 [(0, .long a0), (2, .int a1)] := hl
  rw [fX2_isTurning] at h
  refine lv_iload_n hx hb dX2_isTurning_0 rfl (lv_at hl 1 rfl) ?_
  refine lv_iconst (v := (2 : Int32)) hx hb dX2_isTurning_1 (by decide) ?_
  refine lv_icmp_ne (tgt := 35) hx hb dX2_isTurning_2 (by decide) (fun c2 => ?_) (fun c2 => ?_)
  · have h := pf c2 h
    refine lv_lload_n hx hb dX2_isTurning_35 rfl (lv_at hl 0 rfl) ?_
    refine lv_iload_n hx hb dX2_isTurning_36 rfl (lv_at hl 1 rfl) ?_
    obtain ⟨r1, e2, h⟩ := pb h
    refine ro_S (As := [.long a0, .int a1]) (rest := []) hF (fun _ h => wl_in h) (cnX2_isResidue l e2) syX2_isResidue w_114 ⟨Nat.le_of_ble_eq_true rfl, Nat.le_of_ble_eq_true rfl⟩ mv0 trivial rfl hl.1 rfl (Nat.le_of_ble_eq_true rfl) dX2_isTurning_37 ⟨Nat.zero_le _, Nat.zero_le _⟩ ?_
    refine lv_if_ne (tgt := 47) hx hb dX2_isTurning_40 (by decide) (fun c40 => ?_) (fun c40 => ?_)
    · have h := pf c40 h
      refine lv_iconst (v := (0 : Int32)) hx hb dX2_isTurning_47 (by decide) ?_
      exact END 48 ls _ (pe h) (by rfl) dX2_isTurning_48
    · have h := pt c40 h
      refine lv_iconst (v := (1 : Int32)) hx hb dX2_isTurning_43 (by decide) ?_
      refine lv_goto (tgt := 48) hx hb dX2_isTurning_44 (by decide) ?_
      exact END 48 ls _ (pe h) (by rfl) dX2_isTurning_48
  · have h := pt c2 h
    refine lv_lload_n hx hb dX2_isTurning_5 rfl (lv_at hl 0 rfl) ?_
    refine lv_ldc2 (v := (7 : Int64)) hx hb hown (hts _ (wl_in w_112)) dX2_isTurning_6 ?_
    refine lv_land hx hb dX2_isTurning_9 ?_
    refine lv_ldc2 (v := (3 : Int64)) hx hb hown (hts _ (wl_in w_108)) dX2_isTurning_10 ?_
    refine W.lcmp hx hb dX2_isTurning_13 ?_
    refine lv_if_eq (tgt := 29) hx hb dX2_isTurning_14 (by decide) (fun c14 => ?_) (fun c14 => ?_)
    · have h := pt c14 h
      refine lv_iconst (v := (1 : Int32)) hx hb dX2_isTurning_29 (by decide) ?_
      refine lv_goto (tgt := 34) hx hb dX2_isTurning_30 (by decide) ?_
      exact END 34 ls _ (pe h) (by rfl) dX2_isTurning_34
    · have h := pf c14 h
      refine lv_lload_n hx hb dX2_isTurning_17 rfl (lv_at hl 0 rfl) ?_
      refine lv_ldc2 (v := (7 : Int64)) hx hb hown (hts _ (wl_in w_112)) dX2_isTurning_18 ?_
      refine lv_land hx hb dX2_isTurning_21 ?_
      refine lv_ldc2 (v := (5 : Int64)) hx hb hown (hts _ (wl_in w_113)) dX2_isTurning_22 ?_
      refine W.lcmp hx hb dX2_isTurning_25 ?_
      refine lv_if_ne (tgt := 33) hx hb dX2_isTurning_26 (by decide) (fun c26 => ?_) (fun c26 => ?_)
      · have h := pf c26 h
        refine lv_iconst (v := (0 : Int32)) hx hb dX2_isTurning_33 (by decide) ?_
        exact END 34 ls _ (pe h) (by rfl) dX2_isTurning_34
      · have h := pt c26 h
        refine lv_iconst (v := (1 : Int32)) hx hb dX2_isTurning_29 (by decide) ?_
        refine lv_goto (tgt := 34) hx hb dX2_isTurning_30 (by decide) ?_
        exact END 34 ls _ (pe h) (by rfl) dX2_isTurning_34

theorem syX2_isSquareAtPrime : Sy yX2_isSquareAtPrime cX2_isSquareAtPrime 5 (some .boolean) 2 := ⟨w_180, w_179, w_5, by decide +kernel⟩
set_option maxHeartbeats 4000000 in
set_option maxRecDepth 100000 in
theorem cnX2_isSquareAtPrime (l : Launch) {a0 : Int64} {a1 : Int32} {r : Int32} (h : fX2_isSquareAtPrime a0 a1 = some r) : Ro l yX2_isSquareAtPrime cX2_isSquareAtPrime 5 (some .boolean) 3 72 [.long a0, .int a1] B0 (.int r) := by
  refine ro_z (plainFor_of_name (by decide)) (Nat.le_of_ble_eq_true rfl) ?_
  intro p e s m args below meth cd Q ls hF hB hl END
  have hF : CallFix p m cd cX2_isSquareAtPrime 5 s args (wl yX2_isSquareAtPrime cX2_isSquareAtPrime 5 (some .boolean)) RX2 := hF
  obtain ⟨hx, hb, hml, hown, hts⟩ := id hF
  have hl : lv_has ls 5 [(0, .long a0), (2, .int a1)] := hl
  rw [fX2_isSquareAtPrime] at h
  refine lv_lload_n hx hb dX2_isSquareAtPrime_0 rfl (lv_at hl 0 rfl) ?_
  refine lv_iload_n hx hb dX2_isSquareAtPrime_1 rfl (lv_at hl 1 rfl) ?_
  obtain ⟨r1, e2, h⟩ := pb h
  refine ro_S (As := [.long a0, .int a1]) (rest := []) hF (fun _ h => wl_in h) (cnX2_hasOddPower l e2) syX2_hasOddPower w_99 ⟨Nat.le_of_ble_eq_true rfl, Nat.le_of_ble_eq_true rfl⟩ mv0 trivial rfl hl.1 rfl (Nat.le_of_ble_eq_true rfl) dX2_isSquareAtPrime_2 ⟨Nat.zero_le _, Nat.zero_le _⟩ ?_
  refine lv_if_eq (tgt := 10) hx hb dX2_isSquareAtPrime_5 (by decide) (fun c5 => ?_) (fun c5 => ?_)
  · have h := pt c5 h
    refine lv_lload_n hx hb dX2_isSquareAtPrime_10 rfl (lv_at hl 0 rfl) ?_
    refine lv_iload_n hx hb dX2_isSquareAtPrime_11 rfl (lv_at hl 1 rfl) ?_
    obtain ⟨r3, e4, h⟩ := pb h
    refine ro_S (As := [.long a0, .int a1]) (rest := []) hF (fun _ h => wl_in h) (cnX2_unit l e4) syX2_unit w_102 ⟨Nat.le_of_ble_eq_true rfl, Nat.le_of_ble_eq_true rfl⟩ mv0 trivial rfl hl.1 rfl (Nat.le_of_ble_eq_true rfl) dX2_isSquareAtPrime_12 ⟨Nat.zero_le _, Nat.zero_le _⟩ ?_
    refine lv_lstore_n (lv' := [(3, .long r3), (0, .long a0), (2, .int a1)]) hx hb dX2_isSquareAtPrime_15 rfl hl (by decide) rfl (fun ls hl => ?_)
    refine lv_iload_n hx hb dX2_isSquareAtPrime_16 rfl (lv_at hl 2 rfl) ?_
    refine lv_iconst (v := (2 : Int32)) hx hb dX2_isSquareAtPrime_17 (by decide) ?_
    refine lv_icmp_ne (tgt := 39) hx hb dX2_isSquareAtPrime_18 (by decide) (fun c18 => ?_) (fun c18 => ?_)
    · have h := pf c18 h
      refine lv_lload_n hx hb dX2_isSquareAtPrime_39 rfl (lv_at hl 0 rfl) ?_
      refine lv_iload_n hx hb dX2_isSquareAtPrime_40 rfl (lv_at hl 2 rfl) ?_
      obtain ⟨r5, e6, h⟩ := pb h
      refine ro_S (As := [.long r3, .int a1]) (rest := []) hF (fun _ h => wl_in h) (cnX2_isResidue l e6) syX2_isResidue w_114 ⟨Nat.le_of_ble_eq_true rfl, Nat.le_of_ble_eq_true rfl⟩ mv0 trivial rfl hl.1 rfl (Nat.le_of_ble_eq_true rfl) dX2_isSquareAtPrime_41 ⟨Nat.zero_le _, Nat.zero_le _⟩ ?_
      obtain ⟨g7, h⟩ := pg h
      exact END 44 ls _ (pe h) (nbool g7) dX2_isSquareAtPrime_44
    · have h := pt c18 h
      refine lv_lload_n hx hb dX2_isSquareAtPrime_21 rfl (lv_at hl 0 rfl) ?_
      refine lv_ldc2 (v := (7 : Int64)) hx hb hown (hts _ (wl_in w_112)) dX2_isSquareAtPrime_22 ?_
      refine lv_land hx hb dX2_isSquareAtPrime_25 ?_
      refine lv_lconst (v := (1 : Int64)) hx hb dX2_isSquareAtPrime_26 (by decide) ?_
      refine W.lcmp hx hb dX2_isSquareAtPrime_27 ?_
      refine lv_if_ne (tgt := 35) hx hb dX2_isSquareAtPrime_28 (by decide) (fun c28 => ?_) (fun c28 => ?_)
      · have h := pf c28 h
        refine lv_iconst (v := (0 : Int32)) hx hb dX2_isSquareAtPrime_35 (by decide) ?_
        refine lv_goto (tgt := 44) hx hb dX2_isSquareAtPrime_36 (by decide) ?_
        exact END 44 ls _ (pe h) (by rfl) dX2_isSquareAtPrime_44
      · have h := pt c28 h
        refine lv_iconst (v := (1 : Int32)) hx hb dX2_isSquareAtPrime_31 (by decide) ?_
        refine lv_goto (tgt := 44) hx hb dX2_isSquareAtPrime_32 (by decide) ?_
        exact END 44 ls _ (pe h) (by rfl) dX2_isSquareAtPrime_44
  · have h := pf c5 h
    refine lv_iconst (v := (0 : Int32)) hx hb dX2_isSquareAtPrime_8 (by decide) ?_
    exact END 9 ls _ (pe h) (by rfl) dX2_isSquareAtPrime_9

theorem syX2_signAt : Sy yX2_signAt cX2_signAt 12 (some .int) 3 := ⟨w_98, w_97, w_5, by decide +kernel⟩
set_option maxHeartbeats 4000000 in
set_option maxRecDepth 100000 in
theorem cnX2_signAt (l : Launch) {a0 : Int64} {a1 : Int64} {a2 : Int32} {r : Int32} (h : fX2_signAt a0 a1 a2 = some r) : Ro l yX2_signAt cX2_signAt 12 (some .int) 4 94 [.long a0, .long a1, .int a2] B0 (.int r) := by
  refine ro_i (plainFor_of_name (by decide)) (Nat.le_of_ble_eq_true rfl) ?_
  intro p e s m args below meth cd Q ls hF hB hl END
  have hF : CallFix p m cd cX2_signAt 12 s args (wl yX2_signAt cX2_signAt 12 (some .int)) RX2 := hF
  obtain ⟨hx, hb, hml, hown, hts⟩ := id hF
  have hl : lv_has ls 12 [(0, .long a0), (2, .long a1), (4, .int a2)] := hl
  rw [fX2_signAt] at h
  refine lv_iload hx hb dX2_signAt_0 (lv_at hl 2 rfl) ?_
  refine lv_if_ne (tgt := 23) hx hb dX2_signAt_2 (by decide) (fun c2 => ?_) (fun c2 => ?_)
  · have h := pf c2 h
    refine lv_lload_n hx hb dX2_signAt_23 rfl (lv_at hl 0 rfl) ?_
    refine lv_iload hx hb dX2_signAt_24 (lv_at hl 2 rfl) ?_
    obtain ⟨r1, e2, h⟩ := pb h
    refine ro_S (As := [.long a0, .int a2]) (rest := []) hF (fun _ h => wl_in h) (cnX2_hasOddPower l e2) syX2_hasOddPower w_99 ⟨Nat.le_of_ble_eq_true rfl, Nat.le_of_ble_eq_true rfl⟩ mv0 trivial rfl hl.1 rfl (Nat.le_of_ble_eq_true rfl) dX2_signAt_26 ⟨Nat.zero_le _, Nat.zero_le _⟩ ?_
    refine lv_istore (lv' := [(5, .int r1), (0, .long a0), (2, .long a1), (4, .int a2)]) hx hb dX2_signAt_29 hl (by decide) rfl (fun ls hl => ?_)
    refine lv_lload_n hx hb dX2_signAt_31 rfl (lv_at hl 2 rfl) ?_
    refine lv_iload hx hb dX2_signAt_32 (lv_at hl 3 rfl) ?_
    obtain ⟨r3, e4, h⟩ := pb h
    refine ro_S (As := [.long a1, .int a2]) (rest := []) hF (fun _ h => wl_in h) (cnX2_hasOddPower l e4) syX2_hasOddPower w_99 ⟨Nat.le_of_ble_eq_true rfl, Nat.le_of_ble_eq_true rfl⟩ mv0 trivial rfl hl.1 rfl (Nat.le_of_ble_eq_true rfl) dX2_signAt_34 ⟨Nat.zero_le _, Nat.zero_le _⟩ ?_
    refine lv_istore (lv' := [(6, .int r3), (5, .int r1), (0, .long a0), (2, .long a1), (4, .int a2)]) hx hb dX2_signAt_37 hl (by decide) rfl (fun ls hl => ?_)
    refine lv_lload_n hx hb dX2_signAt_39 rfl (lv_at hl 2 rfl) ?_
    refine lv_iload hx hb dX2_signAt_40 (lv_at hl 4 rfl) ?_
    obtain ⟨r5, e6, h⟩ := pb h
    refine ro_S (As := [.long a0, .int a2]) (rest := []) hF (fun _ h => wl_in h) (cnX2_unit l e6) syX2_unit w_102 ⟨Nat.le_of_ble_eq_true rfl, Nat.le_of_ble_eq_true rfl⟩ mv0 trivial rfl hl.1 rfl (Nat.le_of_ble_eq_true rfl) dX2_signAt_42 ⟨Nat.zero_le _, Nat.zero_le _⟩ ?_
    refine lv_lstore (lv' := [(7, .long r5), (6, .int r3), (5, .int r1), (0, .long a0), (2, .long a1), (4, .int a2)]) hx hb dX2_signAt_45 hl (by decide) rfl (fun ls hl => ?_)
    refine lv_lload_n hx hb dX2_signAt_47 rfl (lv_at hl 4 rfl) ?_
    refine lv_iload hx hb dX2_signAt_48 (lv_at hl 5 rfl) ?_
    obtain ⟨r7, e8, h⟩ := pb h
    refine ro_S (As := [.long a1, .int a2]) (rest := []) hF (fun _ h => wl_in h) (cnX2_unit l e8) syX2_unit w_102 ⟨Nat.le_of_ble_eq_true rfl, Nat.le_of_ble_eq_true rfl⟩ mv0 trivial rfl hl.1 rfl (Nat.le_of_ble_eq_true rfl) dX2_signAt_50 ⟨Nat.zero_le _, Nat.zero_le _⟩ ?_
    refine lv_lstore (lv' := [(9, .long r7), (7, .long r5), (6, .int r3), (5, .int r1), (0, .long a0), (2, .long a1), (4, .int a2)]) hx hb dX2_signAt_53 hl (by decide) rfl (fun ls hl => ?_)
    refine lv_iload hx hb dX2_signAt_55 (lv_at hl 6 rfl) ?_
    refine lv_iconst (v := (2 : Int32)) hx hb dX2_signAt_57 (by decide) ?_
    have J109 : ∀ (t0_109 : Int32), kX2_signAt_109 a2 r1 r3 r5 r7 t0_109 = some r → ∀ (ls : Array Slot), lv_has ls 12 [(9, .long r7), (7, .long r5), (6, .int r3), (5, .int r1), (4, .int a2)] → W p l e (rmk 4 94) s m args below meth cd s.heap [] 0 0 Q (F0 m 109 ls [.int t0_109]) := by
      intro t0_109 h  ls hl
      rw [kX2_signAt_109] at h
      refine lv_istore (lv' := [(11, .int t0_109), (9, .long r7), (7, .long r5), (6, .int r3), (5, .int r1), (4, .int a2)]) hx hb dX2_signAt_109 hl (by decide) rfl (fun ls hl => ?_)
      refine lv_iload hx hb dX2_signAt_111 (lv_at hl 4 rfl) ?_
      have J138 : ∀ (x11_138 : Int32), kX2_signAt_138 a2 r3 r5 x11_138 = some r → ∀ (ls : Array Slot), lv_has ls 12 [(7, .long r5), (6, .int r3), (4, .int a2), (11, .int x11_138)] → W p l e (rmk 4 94) s m args below meth cd s.heap [] 0 0 Q (F0 m 138 ls []) := by
        intro x11_138 h  ls hl
        rw [kX2_signAt_138] at h
        refine lv_iload hx hb dX2_signAt_138 (lv_at hl 1 rfl) ?_
        have J165 : ∀ (x11_165 : Int32), kX2_signAt_165 x11_165 = some r → ∀ (ls : Array Slot), lv_has ls 12 [(11, .int x11_165)] → W p l e (rmk 4 94) s m args below meth cd s.heap [] 0 0 Q (F0 m 165 ls []) := by
          intro x11_165 h  ls hl
          rw [kX2_signAt_165] at h
          refine lv_iload hx hb dX2_signAt_165 (lv_at hl 0 rfl) ?_
          refine lv_if_eq (tgt := 174) hx hb dX2_signAt_167 (by decide) (fun c167 => ?_) (fun c167 => ?_)
          · have h := pt c167 h
            refine lv_iconst (v := (1 : Int32)) hx hb dX2_signAt_174 (by decide) ?_
            exact END 175 ls _ (pe h) dX2_signAt_175
          · have h := pf c167 h
            refine lv_iconst (v := (-1 : Int32)) hx hb dX2_signAt_170 (by decide) ?_
            refine lv_goto (tgt := 175) hx hb dX2_signAt_171 (by decide) ?_
            exact END 175 ls _ (pe h) dX2_signAt_175
        refine lv_if_eq (tgt := 165) hx hb dX2_signAt_140 (by decide) (fun c140 => ?_) (fun c140 => ?_)
        · have h := pt c140 h
          exact J165 _ h  _ (lv_sub hl [3] rfl)
        · have h := pf c140 h
          refine lv_lload hx hb dX2_signAt_143 (lv_at hl 0 rfl) ?_
          refine lv_iload hx hb dX2_signAt_145 (lv_at hl 2 rfl) ?_
          obtain ⟨r9, e10, h⟩ := pb h
          refine ro_S (As := [.long r5, .int a2]) (rest := []) hF (fun _ h => wl_in h) (cnX2_isTurning l e10) syX2_isTurning w_109 ⟨Nat.le_of_ble_eq_true rfl, Nat.le_of_ble_eq_true rfl⟩ mv0 trivial rfl hl.1 rfl (Nat.le_of_ble_eq_true rfl) dX2_signAt_147 ⟨Nat.zero_le _, Nat.zero_le _⟩ ?_
          refine lv_if_eq (tgt := 165) hx hb dX2_signAt_150 (by decide) (fun c150 => ?_) (fun c150 => ?_)
          · have h := pt c150 h
            exact J165 _ h  _ (lv_sub hl [3] rfl)
          · have h := pf c150 h
            refine lv_iload hx hb dX2_signAt_153 (lv_at hl 3 rfl) ?_
            refine lv_if_ne (tgt := 162) hx hb dX2_signAt_155 (by decide) (fun c155 => ?_) (fun c155 => ?_)
            · have h := pf c155 h
              refine lv_iconst (v := (0 : Int32)) hx hb dX2_signAt_162 (by decide) ?_
              refine lv_istore (lv' := [(11, .int (0 : Int32)), (7, .long r5), (6, .int r3), (4, .int a2)]) hx hb dX2_signAt_163 hl (by decide) rfl (fun ls hl => ?_)
              exact J165 _ h  _ (lv_sub hl [0] rfl)
            · have h := pt c155 h
              refine lv_iconst (v := (1 : Int32)) hx hb dX2_signAt_158 (by decide) ?_
              refine lv_goto (tgt := 163) hx hb dX2_signAt_159 (by decide) ?_
              refine lv_istore (lv' := [(11, .int (1 : Int32)), (7, .long r5), (6, .int r3), (4, .int a2)]) hx hb dX2_signAt_163 hl (by decide) rfl (fun ls hl => ?_)
              exact J165 _ h  _ (lv_sub hl [0] rfl)
      refine lv_if_eq (tgt := 138) hx hb dX2_signAt_113 (by decide) (fun c113 => ?_) (fun c113 => ?_)
      · have h := pt c113 h
        exact J138 _ h  _ (lv_sub hl [2, 3, 5, 0] rfl)
      · have h := pf c113 h
        refine lv_lload hx hb dX2_signAt_116 (lv_at hl 1 rfl) ?_
        refine lv_iload hx hb dX2_signAt_118 (lv_at hl 5 rfl) ?_
        obtain ⟨r11, e12, h⟩ := pb h
        refine ro_S (As := [.long r7, .int a2]) (rest := []) hF (fun _ h => wl_in h) (cnX2_isTurning l e12) syX2_isTurning w_109 ⟨Nat.le_of_ble_eq_true rfl, Nat.le_of_ble_eq_true rfl⟩ mv0 trivial rfl hl.1 rfl (Nat.le_of_ble_eq_true rfl) dX2_signAt_120 ⟨Nat.zero_le _, Nat.zero_le _⟩ ?_
        refine lv_if_eq (tgt := 138) hx hb dX2_signAt_123 (by decide) (fun c123 => ?_) (fun c123 => ?_)
        · have h := pt c123 h
          exact J138 _ h  _ (lv_sub hl [2, 3, 5, 0] rfl)
        · have h := pf c123 h
          refine lv_iload hx hb dX2_signAt_126 (lv_at hl 0 rfl) ?_
          refine lv_if_ne (tgt := 135) hx hb dX2_signAt_128 (by decide) (fun c128 => ?_) (fun c128 => ?_)
          · have h := pf c128 h
            refine lv_iconst (v := (0 : Int32)) hx hb dX2_signAt_135 (by decide) ?_
            refine lv_istore (lv' := [(11, .int (0 : Int32)), (9, .long r7), (7, .long r5), (6, .int r3), (5, .int r1), (4, .int a2)]) hx hb dX2_signAt_136 hl (by decide) rfl (fun ls hl => ?_)
            exact J138 _ h  _ (lv_sub hl [2, 3, 5, 0] rfl)
          · have h := pt c128 h
            refine lv_iconst (v := (1 : Int32)) hx hb dX2_signAt_131 (by decide) ?_
            refine lv_goto (tgt := 136) hx hb dX2_signAt_132 (by decide) ?_
            refine lv_istore (lv' := [(11, .int (1 : Int32)), (9, .long r7), (7, .long r5), (6, .int r3), (5, .int r1), (4, .int a2)]) hx hb dX2_signAt_136 hl (by decide) rfl (fun ls hl => ?_)
            exact J138 _ h  _ (lv_sub hl [2, 3, 5, 0] rfl)
    refine lv_icmp_ne (tgt := 85) hx hb dX2_signAt_58 (by decide) (fun c58 => ?_) (fun c58 => ?_)
    · have h := pf c58 h
      refine lv_iload hx hb dX2_signAt_85 (lv_at hl 3 rfl) ?_
      refine lv_if_eq (tgt := 108) hx hb dX2_signAt_87 (by decide) (fun c87 => ?_) (fun c87 => ?_)
      · have h := pt c87 h
        refine lv_iconst (v := (0 : Int32)) hx hb dX2_signAt_108 (by decide) ?_
        exact J109 _ h  _ (lv_sub hl [0, 1, 2, 3, 6] rfl)
      · have h := pf c87 h
        refine lv_iload hx hb dX2_signAt_90 (lv_at hl 2 rfl) ?_
        refine lv_if_eq (tgt := 108) hx hb dX2_signAt_92 (by decide) (fun c92 => ?_) (fun c92 => ?_)
        · have h := pt c92 h
          refine lv_iconst (v := (0 : Int32)) hx hb dX2_signAt_108 (by decide) ?_
          exact J109 _ h  _ (lv_sub hl [0, 1, 2, 3, 6] rfl)
        · have h := pf c92 h
          refine lv_iload hx hb dX2_signAt_95 (lv_at hl 6 rfl) ?_
          refine lv_i2l (v := a2.toInt64) hx hb dX2_signAt_97 rfl ?_
          obtain ⟨r13, e14, h⟩ := pb h
          refine ro_S (As := [.long a2.toInt64]) (rest := []) hF (fun _ h => wl_in h) (cnX2_isThreeOfFour l e14) syX2_isThreeOfFour w_105 ⟨Nat.le_of_ble_eq_true rfl, Nat.le_of_ble_eq_true rfl⟩ mv0 trivial rfl hl.1 rfl (Nat.le_of_ble_eq_true rfl) dX2_signAt_98 ⟨Nat.zero_le _, Nat.zero_le _⟩ ?_
          refine lv_if_eq (tgt := 108) hx hb dX2_signAt_101 (by decide) (fun c101 => ?_) (fun c101 => ?_)
          · have h := pt c101 h
            refine lv_iconst (v := (0 : Int32)) hx hb dX2_signAt_108 (by decide) ?_
            exact J109 _ h  _ (lv_sub hl [0, 1, 2, 3, 6] rfl)
          · have h := pf c101 h
            refine lv_iconst (v := (1 : Int32)) hx hb dX2_signAt_104 (by decide) ?_
            refine lv_goto (tgt := 109) hx hb dX2_signAt_105 (by decide) ?_
            exact J109 _ h  _ (lv_sub hl [0, 1, 2, 3, 6] rfl)
    · have h := pt c58 h
      refine lv_lload hx hb dX2_signAt_61 (lv_at hl 1 rfl) ?_
      obtain ⟨r15, e16, h⟩ := pb h
      refine ro_S (As := [.long r5]) (rest := []) hF (fun _ h => wl_in h) (cnX2_isThreeOfFour l e16) syX2_isThreeOfFour w_105 ⟨Nat.le_of_ble_eq_true rfl, Nat.le_of_ble_eq_true rfl⟩ mv0 trivial rfl hl.1 rfl (Nat.le_of_ble_eq_true rfl) dX2_signAt_63 ⟨Nat.zero_le _, Nat.zero_le _⟩ ?_
      refine lv_if_eq (tgt := 81) hx hb dX2_signAt_66 (by decide) (fun c66 => ?_) (fun c66 => ?_)
      · have h := pt c66 h
        refine lv_iconst (v := (0 : Int32)) hx hb dX2_signAt_81 (by decide) ?_
        refine lv_goto (tgt := 109) hx hb dX2_signAt_82 (by decide) ?_
        exact J109 _ h  _ (lv_sub hl [0, 1, 2, 3, 6] rfl)
      · have h := pf c66 h
        refine lv_lload hx hb dX2_signAt_69 (lv_at hl 0 rfl) ?_
        obtain ⟨r17, e18, h⟩ := pb h
        refine ro_S (As := [.long r7]) (rest := []) hF (fun _ h => wl_in h) (cnX2_isThreeOfFour l e18) syX2_isThreeOfFour w_105 ⟨Nat.le_of_ble_eq_true rfl, Nat.le_of_ble_eq_true rfl⟩ mv0 trivial rfl hl.1 rfl (Nat.le_of_ble_eq_true rfl) dX2_signAt_71 ⟨Nat.zero_le _, Nat.zero_le _⟩ ?_
        refine lv_if_eq (tgt := 81) hx hb dX2_signAt_74 (by decide) (fun c74 => ?_) (fun c74 => ?_)
        · have h := pt c74 h
          refine lv_iconst (v := (0 : Int32)) hx hb dX2_signAt_81 (by decide) ?_
          refine lv_goto (tgt := 109) hx hb dX2_signAt_82 (by decide) ?_
          exact J109 _ h  _ (lv_sub hl [0, 1, 2, 3, 6] rfl)
        · have h := pf c74 h
          refine lv_iconst (v := (1 : Int32)) hx hb dX2_signAt_77 (by decide) ?_
          refine lv_goto (tgt := 109) hx hb dX2_signAt_78 (by decide) ?_
          exact J109 _ h  _ (lv_sub hl [0, 1, 2, 3, 6] rfl)
  · have h := pt c2 h
    refine lv_lload_n hx hb dX2_signAt_5 rfl (lv_at hl 0 rfl) ?_
    refine lv_lconst (v := (0 : Int64)) hx hb dX2_signAt_6 (by decide) ?_
    refine W.lcmp hx hb dX2_signAt_7 ?_
    refine lv_if_ge (tgt := 21) hx hb dX2_signAt_8 (by decide) (fun c8 => ?_) (fun c8 => ?_)
    · have h := pt c8 h
      refine lv_iconst (v := (1 : Int32)) hx hb dX2_signAt_21 (by decide) ?_
      exact END 22 ls _ (pe h) dX2_signAt_22
    · have h := pf c8 h
      refine lv_lload_n hx hb dX2_signAt_11 rfl (lv_at hl 1 rfl) ?_
      refine lv_lconst (v := (0 : Int64)) hx hb dX2_signAt_12 (by decide) ?_
      refine W.lcmp hx hb dX2_signAt_13 ?_
      refine lv_if_ge (tgt := 21) hx hb dX2_signAt_14 (by decide) (fun c14 => ?_) (fun c14 => ?_)
      · have h := pt c14 h
        refine lv_iconst (v := (1 : Int32)) hx hb dX2_signAt_21 (by decide) ?_
        exact END 22 ls _ (pe h) dX2_signAt_22
      · have h := pf c14 h
        refine lv_iconst (v := (-1 : Int32)) hx hb dX2_signAt_17 (by decide) ?_
        refine lv_goto (tgt := 22) hx hb dX2_signAt_18 (by decide) ?_
        exact END 22 ls _ (pe h) dX2_signAt_22

theorem syX2_isPlace : Sy yX2_isPlace cX2_isPlace 5 (some .boolean) 1 := ⟨w_93, w_92, w_5, by decide +kernel⟩
set_option maxHeartbeats 4000000 in
set_option maxRecDepth 100000 in
theorem cnX2_isPlace (l : Launch) (A : Nat → Prop) (G : va_G) (cI cF : ClassId) (tA tT : Nat) {a0 : Int32} {r : Int32} (h : fX2_isPlace a0 = some r) : Ro l yX2_isPlace cX2_isPlace 5 (some .boolean) 0 0 [.int a0] (eB A G cI cF tA tT) (.int r) := by
  refine ro_z (plainFor_of_name (by decide)) (Nat.le_of_ble_eq_true rfl) ?_
  intro p e s m args below meth cd Q ls hF hB hl END
  have hF : CallFix p m cd cX2_isPlace 5 s args (wl yX2_isPlace cX2_isPlace 5 (some .boolean)) RX2 := hF
  obtain ⟨hx, hb, hml, hown, hts⟩ := id hF
  have hl : lv_has ls 5 [(0, .int a0)] := hl
  have hE := hB
  obtain ⟨hK, ⟨hZ, hT⟩, ⟨hZ2, hT2⟩⟩ := hB
  have hS : va_S A s.heap s.heap [] := va_S.rf
  rw [fX2_isPlace] at h
  refine va_gets hx hb hZ hS hown (hts _ (wl_in w_94)) (fun _ h9 => h9) dX2_isPlace_0 ?_
  refine lv_astore_n (lv' := [(1, .ref tA), (0, .int a0)]) hx hb dX2_isPlace_3 rfl hl (by decide) rfl (fun ls hl => ?_)
  refine lv_aload_n hx hb dX2_isPlace_4 rfl (lv_at hl 0 rfl) ?_
  refine va_tlen (v := (79 : Int32)) hx hb hT hS rfl dX2_isPlace_5 ?_
  refine lv_istore_n (lv' := [(2, .int (79 : Int32)), (1, .ref tA), (0, .int a0)]) hx hb dX2_isPlace_6 rfl hl (by decide) rfl (fun ls hl => ?_)
  refine lv_iconst (v := (0 : Int32)) hx hb dX2_isPlace_7 (by decide) ?_
  refine lv_istore_n (lv' := [(3, .int (0 : Int32)), (2, .int (79 : Int32)), (1, .ref tA), (0, .int a0)]) hx hb dX2_isPlace_8 rfl hl (by decide) rfl (fun ls hl => ?_)
  have J9 : ∀ (n9 : Nat) (x3_9 : Int32), kX2_isPlace_9 a0 n9 x3_9 = some r → ∀ (ls : Array Slot), lv_has ls 5 [(2, .int (79 : Int32)), (1, .ref tA), (0, .int a0), (3, .int x3_9)] → W p l e (rmk 0 0) s m args below meth cd s.heap [] 0 0 Q (F0 m 9 ls []) := by
    intro n9
    induction n9 with
    | zero =>
      intro x3_9 h
      rw [kX2_isPlace_9] at h
      cases h
    | succ n9 ih9 =>
      intro x3_9 h  ls hl
      rw [kX2_isPlace_9] at h
      refine lv_iload_n hx hb dX2_isPlace_9 rfl (lv_at hl 3 rfl) ?_
      refine lv_iload_n hx hb dX2_isPlace_10 rfl (lv_at hl 0 rfl) ?_
      refine lv_icmp_ge (tgt := 33) hx hb dX2_isPlace_11 (by decide) (fun c11 => ?_) (fun c11 => ?_)
      · have h := pt c11 h
        refine lv_iconst (v := (0 : Int32)) hx hb dX2_isPlace_33 (by decide) ?_
        exact END 34 ls _ (pe h) (by rfl) dX2_isPlace_34
      · have h := pf c11 h
        refine lv_aload_n hx hb dX2_isPlace_14 rfl (lv_at hl 1 rfl) ?_
        refine lv_iload_n hx hb dX2_isPlace_15 rfl (lv_at hl 3 rfl) ?_
        obtain ⟨g1, h⟩ := pg h
        refine va_ti (v := .int (allv x3_9.toNatClampNeg)) hx hb hT hS g1 rfl dX2_isPlace_16 ?_
        refine lv_istore (lv' := [(4, .int (allv x3_9.toNatClampNeg)), (2, .int (79 : Int32)), (1, .ref tA), (0, .int a0), (3, .int x3_9)]) hx hb dX2_isPlace_17 hl (by decide) rfl (fun ls hl => ?_)
        refine lv_iload hx hb dX2_isPlace_19 (lv_at hl 0 rfl) ?_
        refine lv_iload_n hx hb dX2_isPlace_21 rfl (lv_at hl 3 rfl) ?_
        refine lv_icmp_ne (tgt := 27) hx hb dX2_isPlace_22 (by decide) (fun c22 => ?_) (fun c22 => ?_)
        · have h := pf c22 h
          refine lv_iinc (v := x3_9 + (1 : Int32)) (lv' := [(3, .int (x3_9 + (1 : Int32))), (4, .int (allv x3_9.toNatClampNeg)), (2, .int (79 : Int32)), (1, .ref tA), (0, .int a0)]) hx hb dX2_isPlace_27 hl (k := 4) rfl rfl (by decide) rfl (fun ls hl => ?_)
          refine lv_goto (tgt := 9) hx hb dX2_isPlace_30 (by decide) ?_
          exact ih9 _ h  _ (lv_sub hl [2, 3, 4, 0] rfl)
        · have h := pt c22 h
          refine lv_iconst (v := (1 : Int32)) hx hb dX2_isPlace_25 (by decide) ?_
          exact END 26 ls _ (pe h) (by rfl) dX2_isPlace_26
  exact J9 _ _ h  _ (lv_sub hl [1, 2, 3, 0] rfl)
end
section
def fX1_great (a0 : Int32) (a1 : Int32) (a2 : Int32) : Option (Int32) :=
    some (imax (iabs a0) (imax (iabs a1) (iabs a2)))
def fX1_wide (a0 : Int32) (a1 : Int32) (a2 : Int32) : Option (Int32) :=
    (fX1_great a0 a1 a2).bind fun (r1 : Int32) =>
    some (((r1 + (iabs a0)) + (iabs a1)) + (iabs a2))
def fX1_odd (a0 : Int32) (a1 : Int32) (a2 : Int32) : Option (Int32) :=
    (fX1_wide a0 a1 a2).bind fun (r1 : Int32) =>
    some (r1 + ((7 : Int32) * (((a0 &&& (1 : Int32)) + (a1 &&& (1 : Int32))) + (a2 &&& (1 : Int32)))))
def fX1_byKind (a0 : Int32) (a1 : Int32) (a2 : Int32) (a3 : Int32) : Option (Int32) :=
    (if a0 = (0 : Int32) then (fX1_great a1 a2 a3).bind fun (r1 : Int32) =>
    some r1 else
    (if a0 = (1 : Int32) then (fX1_wide a1 a2 a3).bind fun (r3 : Int32) =>
    some r3 else
    (fX1_odd a1 a2 a3).bind fun (r5 : Int32) =>
    some r5))
def fX4_isShelf (a0 : Int32) : Option (Int32) :=
    (if a0 < 0 then some (0 : Int32) else
    (if (4 : Int32) ≤ a0 then some (0 : Int32) else
    some (1 : Int32)))
def fX4_isWithin (a0 : Int32) (a1 : Int32) : Option (Int32) :=
    (if a0 < (-a1) then some (0 : Int32) else
    (if a1 < a0 then some (0 : Int32) else
    some (1 : Int32)))
def fX4_isNumber (a0 : Int32) (a1 : Int32) : Option (Int32) :=
    (if a0 = 0 then some (0 : Int32) else
    (fX4_isWithin a0 a1).bind fun (r1 : Int32) =>
    (if r1 = 0 then some (0 : Int32) else
    some (1 : Int32)))
def fX4_areWithin (a0 : Int32) (a1 : Int32) (a2 : Int32) (a3 : Int32) : Option (Int32) :=
    (fX4_isWithin a0 a3).bind fun (r1 : Int32) =>
    (if r1 = 0 then some (0 : Int32) else
    (fX4_isWithin a1 a3).bind fun (r3 : Int32) =>
    (if r3 = 0 then some (0 : Int32) else
    (fX4_isWithin a2 a3).bind fun (r5 : Int32) =>
    (if r5 = 0 then some (0 : Int32) else
    some (1 : Int32))))
def fX4_pick (a0 : Int32) (a1 : Int64) (a2 : Int64) (a3 : Int64) : Option (Int64) :=
    (if a0 = 0 then some a1 else
    (if a0 = (1 : Int32) then some a2 else
    some a3))
def kX4_commonDivisor_15 : Nat → Int64 → Int64 → Int32 → Option (Int64)
  | 0, _, _, _ => none
  | fu + 1, x4_15, x6_15, x8_15 =>
    (if (100 : Int32) ≤ x8_15 then some x4_15 else
    (if (lg_cmp x6_15 (0 : Int64)) = 0 then some x4_15 else
    (if ¬ x6_15 = 0 then (kX4_commonDivisor_15 fu) x6_15 (lrm x4_15 x6_15) (x8_15 + (1 : Int32)) else none)))
def fX4_commonDivisor (a0 : Int64) (a1 : Int64) : Option (Int64) :=
    kX4_commonDivisor_15 1100 (labs a0) (labs a1) (0 : Int32)
def kX4_reducer_34 (r3 : Int64) (t0_34 : Int64) : Option (Int64) :=
    (if 0 ≤ (lg_cmp t0_34 (0 : Int64)) then some r3 else
    some (-r3))
def fX4_reducer (a0 : Int64) (a1 : Int64) (a2 : Int64) : Option (Int64) :=
    (fX4_commonDivisor a1 a2).bind fun (r1 : Int64) =>
    (fX4_commonDivisor a0 r1).bind fun (r3 : Int64) =>
    (if (lg_cmp a0 (0 : Int64)) = 0 then (if (lg_cmp a1 (0 : Int64)) = 0 then kX4_reducer_34 r3 a2 else
    kX4_reducer_34 r3 a1) else
    kX4_reducer_34 r3 a0)
def fX4_isReduced (a0 : Int32) (a1 : Int32) (a2 : Int32) : Option (Int32) :=
    (fX4_reducer a0.toInt64 a1.toInt64 a2.toInt64).bind fun (r1 : Int64) =>
    (if (lg_cmp r1 (1 : Int64)) = 0 then some (1 : Int32) else
    some (0 : Int32))
theorem syX1_great : Sy yX1_great cX1_great 3 (some .int) 3 := ⟨w_248, w_247, w_7, by decide +kernel⟩
set_option maxHeartbeats 4000000 in
set_option maxRecDepth 100000 in
theorem cnX1_great (l : Launch) {a0 : Int32} {a1 : Int32} {a2 : Int32} {r : Int32} (h : fX1_great a0 a1 a2 = some r) : Ro l yX1_great cX1_great 3 (some .int) 1 25 [.int a0, .int a1, .int a2] B0 (.int r) := by
  refine ro_i (plainFor_of_name (by decide)) (Nat.le_of_ble_eq_true rfl) ?_
  intro p e s m args below meth cd Q ls hF hB hl END
  have hF : CallFix p m cd cX1_great 3 s args (wl yX1_great cX1_great 3 (some .int)) RX1 := hF
  obtain ⟨hx, hb, hml, hown, hts⟩ := id hF
  have hl : lv_has ls 3 [(0, .int a0), (1, .int a1), (2, .int a2)] := hl
  rw [fX1_great] at h
  refine lv_iload_n hx hb dX1_great_0 rfl (lv_at hl 0 rfl) ?_
  refine lq_abs hx hb (hml.trans hl.1.symm) hown (hts _ (wl_in w_249)) (hts _ (wl_in w_250)) (hts _ (wl_in w_6)) (hts _ (wl_in w_251)) (Nat.le_of_ble_eq_true rfl) (Nat.le_of_ble_eq_true rfl) (Nat.zero_le _) (Nat.zero_le _) dX1_great_1 ?_
  refine lv_iload_n hx hb dX1_great_4 rfl (lv_at hl 1 rfl) ?_
  refine lq_abs hx hb (hml.trans hl.1.symm) hown (hts _ (wl_in w_249)) (hts _ (wl_in w_250)) (hts _ (wl_in w_6)) (hts _ (wl_in w_251)) (Nat.le_of_ble_eq_true rfl) (Nat.le_of_ble_eq_true rfl) (Nat.zero_le _) (Nat.zero_le _) dX1_great_5 ?_
  refine lv_iload_n hx hb dX1_great_8 rfl (lv_at hl 2 rfl) ?_
  refine lq_abs hx hb (hml.trans hl.1.symm) hown (hts _ (wl_in w_249)) (hts _ (wl_in w_250)) (hts _ (wl_in w_6)) (hts _ (wl_in w_251)) (Nat.le_of_ble_eq_true rfl) (Nat.le_of_ble_eq_true rfl) (Nat.zero_le _) (Nat.zero_le _) dX1_great_9 ?_
  refine lq_max hx hb (hml.trans hl.1.symm) hown (hts _ (wl_in w_252)) (hts _ (wl_in w_253)) (hts _ (wl_in w_6)) (hts _ (wl_in w_254)) (Nat.le_of_ble_eq_true rfl) (Nat.le_of_ble_eq_true rfl) (Nat.zero_le _) (Nat.zero_le _) dX1_great_12 ?_
  refine lq_max hx hb (hml.trans hl.1.symm) hown (hts _ (wl_in w_252)) (hts _ (wl_in w_253)) (hts _ (wl_in w_6)) (hts _ (wl_in w_254)) (Nat.le_of_ble_eq_true rfl) (Nat.le_of_ble_eq_true rfl) (Nat.zero_le _) (Nat.zero_le _) dX1_great_15 ?_
  exact END 18 ls _ (pe h) dX1_great_18

theorem syX1_wide : Sy yX1_wide cX1_wide 3 (some .int) 3 := ⟨w_257, w_256, w_7, by decide +kernel⟩
set_option maxHeartbeats 4000000 in
set_option maxRecDepth 100000 in
theorem cnX1_wide (l : Launch) {a0 : Int32} {a1 : Int32} {a2 : Int32} {r : Int32} (h : fX1_wide a0 a1 a2 = some r) : Ro l yX1_wide cX1_wide 3 (some .int) 2 47 [.int a0, .int a1, .int a2] B0 (.int r) := by
  refine ro_i (plainFor_of_name (by decide)) (Nat.le_of_ble_eq_true rfl) ?_
  intro p e s m args below meth cd Q ls hF hB hl END
  have hF : CallFix p m cd cX1_wide 3 s args (wl yX1_wide cX1_wide 3 (some .int)) RX1 := hF
  obtain ⟨hx, hb, hml, hown, hts⟩ := id hF
  have hl : lv_has ls 3 [(0, .int a0), (1, .int a1), (2, .int a2)] := hl
  rw [fX1_wide] at h
  refine lv_iload_n hx hb dX1_wide_0 rfl (lv_at hl 0 rfl) ?_
  refine lv_iload_n hx hb dX1_wide_1 rfl (lv_at hl 1 rfl) ?_
  refine lv_iload_n hx hb dX1_wide_2 rfl (lv_at hl 2 rfl) ?_
  obtain ⟨r1, e2, h⟩ := pb h
  refine ro_S (As := [.int a0, .int a1, .int a2]) (rest := []) hF (fun _ h => wl_in h) (cnX1_great l e2) syX1_great w_246 ⟨Nat.le_of_ble_eq_true rfl, Nat.le_of_ble_eq_true rfl⟩ mv0 trivial rfl hl.1 rfl (Nat.le_of_ble_eq_true rfl) dX1_wide_3 ⟨Nat.zero_le _, Nat.zero_le _⟩ ?_
  refine lv_iload_n hx hb dX1_wide_6 rfl (lv_at hl 0 rfl) ?_
  refine lq_abs hx hb (hml.trans hl.1.symm) hown (hts _ (wl_in w_249)) (hts _ (wl_in w_250)) (hts _ (wl_in w_6)) (hts _ (wl_in w_251)) (Nat.le_of_ble_eq_true rfl) (Nat.le_of_ble_eq_true rfl) (Nat.zero_le _) (Nat.zero_le _) dX1_wide_7 ?_
  refine lv_iadd hx hb dX1_wide_10 ?_
  refine lv_iload_n hx hb dX1_wide_11 rfl (lv_at hl 1 rfl) ?_
  refine lq_abs hx hb (hml.trans hl.1.symm) hown (hts _ (wl_in w_249)) (hts _ (wl_in w_250)) (hts _ (wl_in w_6)) (hts _ (wl_in w_251)) (Nat.le_of_ble_eq_true rfl) (Nat.le_of_ble_eq_true rfl) (Nat.zero_le _) (Nat.zero_le _) dX1_wide_12 ?_
  refine lv_iadd hx hb dX1_wide_15 ?_
  refine lv_iload_n hx hb dX1_wide_16 rfl (lv_at hl 2 rfl) ?_
  refine lq_abs hx hb (hml.trans hl.1.symm) hown (hts _ (wl_in w_249)) (hts _ (wl_in w_250)) (hts _ (wl_in w_6)) (hts _ (wl_in w_251)) (Nat.le_of_ble_eq_true rfl) (Nat.le_of_ble_eq_true rfl) (Nat.zero_le _) (Nat.zero_le _) dX1_wide_17 ?_
  refine lv_iadd hx hb dX1_wide_20 ?_
  exact END 21 ls _ (pe h) dX1_wide_21

theorem syX1_odd : Sy yX1_odd cX1_odd 3 (some .int) 3 := ⟨w_260, w_259, w_7, by decide +kernel⟩
set_option maxHeartbeats 4000000 in
set_option maxRecDepth 100000 in
theorem cnX1_odd (l : Launch) {a0 : Int32} {a1 : Int32} {a2 : Int32} {r : Int32} (h : fX1_odd a0 a1 a2 = some r) : Ro l yX1_odd cX1_odd 3 (some .int) 3 69 [.int a0, .int a1, .int a2] B0 (.int r) := by
  refine ro_i (plainFor_of_name (by decide)) (Nat.le_of_ble_eq_true rfl) ?_
  intro p e s m args below meth cd Q ls hF hB hl END
  have hF : CallFix p m cd cX1_odd 3 s args (wl yX1_odd cX1_odd 3 (some .int)) RX1 := hF
  obtain ⟨hx, hb, hml, hown, hts⟩ := id hF
  have hl : lv_has ls 3 [(0, .int a0), (1, .int a1), (2, .int a2)] := hl
  rw [fX1_odd] at h
  refine lv_iload_n hx hb dX1_odd_0 rfl (lv_at hl 0 rfl) ?_
  refine lv_iload_n hx hb dX1_odd_1 rfl (lv_at hl 1 rfl) ?_
  refine lv_iload_n hx hb dX1_odd_2 rfl (lv_at hl 2 rfl) ?_
  obtain ⟨r1, e2, h⟩ := pb h
  refine ro_S (As := [.int a0, .int a1, .int a2]) (rest := []) hF (fun _ h => wl_in h) (cnX1_wide l e2) syX1_wide w_255 ⟨Nat.le_of_ble_eq_true rfl, Nat.le_of_ble_eq_true rfl⟩ mv0 trivial rfl hl.1 rfl (Nat.le_of_ble_eq_true rfl) dX1_odd_3 ⟨Nat.zero_le _, Nat.zero_le _⟩ ?_
  refine lv_bipush (v := (7 : Int32)) hx hb dX1_odd_6 (by decide) ?_
  refine lv_iload_n hx hb dX1_odd_8 rfl (lv_at hl 0 rfl) ?_
  refine lv_iconst (v := (1 : Int32)) hx hb dX1_odd_9 (by decide) ?_
  refine lv_iand hx hb dX1_odd_10 ?_
  refine lv_iload_n hx hb dX1_odd_11 rfl (lv_at hl 1 rfl) ?_
  refine lv_iconst (v := (1 : Int32)) hx hb dX1_odd_12 (by decide) ?_
  refine lv_iand hx hb dX1_odd_13 ?_
  refine lv_iadd hx hb dX1_odd_14 ?_
  refine lv_iload_n hx hb dX1_odd_15 rfl (lv_at hl 2 rfl) ?_
  refine lv_iconst (v := (1 : Int32)) hx hb dX1_odd_16 (by decide) ?_
  refine lv_iand hx hb dX1_odd_17 ?_
  refine lv_iadd hx hb dX1_odd_18 ?_
  refine lv_imul hx hb dX1_odd_19 ?_
  refine lv_iadd hx hb dX1_odd_20 ?_
  exact END 21 ls _ (pe h) dX1_odd_21

theorem syX1_byKind : Sy yX1_byKind cX1_byKind 4 (some .int) 4 := ⟨w_245, w_244, w_7, by decide +kernel⟩
set_option maxHeartbeats 4000000 in
set_option maxRecDepth 100000 in
theorem cnX1_byKind (l : Launch) {a0 : Int32} {a1 : Int32} {a2 : Int32} {a3 : Int32} {r : Int32} (h : fX1_byKind a0 a1 a2 a3 = some r) : Ro l yX1_byKind cX1_byKind 4 (some .int) 4 91 [.int a0, .int a1, .int a2, .int a3] B0 (.int r) := by
  refine ro_i (plainFor_of_name (by decide)) (Nat.le_of_ble_eq_true rfl) ?_
  intro p e s m args below meth cd Q ls hF hB hl END
  have hF : CallFix p m cd cX1_byKind 4 s args (wl yX1_byKind cX1_byKind 4 (some .int)) RX1 := hF
  obtain ⟨hx, hb, hml, hown, hts⟩ := id hF
  have hl : lv_has ls 4 [(0, .int a0), (1, .int a1), (2, .int a2), (3, .int a3)] := hl
  rw [fX1_byKind] at h
  refine lv_iload_n hx hb dX1_byKind_0 rfl (lv_at hl 0 rfl) ?_
  by_cases c1_0 : a0 = (0 : Int32)
  · have h := pt c1_0 h
    refine lv_lookup (tgt := 28) (off := 27) hx hb dX1_byKind_1 (by decide) (by rw [c1_0]; first | done | rfl) (by decide) ?_
    refine lv_iload_n hx hb dX1_byKind_28 rfl (lv_at hl 1 rfl) ?_
    refine lv_iload_n hx hb dX1_byKind_29 rfl (lv_at hl 2 rfl) ?_
    refine lv_iload_n hx hb dX1_byKind_30 rfl (lv_at hl 3 rfl) ?_
    obtain ⟨r1, e2, h⟩ := pb h
    refine ro_S (As := [.int a1, .int a2, .int a3]) (rest := []) hF (fun _ h => wl_in h) (cnX1_great l e2) syX1_great w_246 ⟨Nat.le_of_ble_eq_true rfl, Nat.le_of_ble_eq_true rfl⟩ mv0 trivial rfl hl.1 rfl (Nat.le_of_ble_eq_true rfl) dX1_byKind_31 ⟨Nat.zero_le _, Nat.zero_le _⟩ ?_
    exact END 34 ls _ (pe h) dX1_byKind_34
  have h := pf c1_0 h
  by_cases c1_1 : a0 = (1 : Int32)
  · have h := pt c1_1 h
    refine lv_lookup (tgt := 35) (off := 34) hx hb dX1_byKind_1 (by decide) (by rw [c1_1]; first | done | rfl) (by decide) ?_
    refine lv_iload_n hx hb dX1_byKind_35 rfl (lv_at hl 1 rfl) ?_
    refine lv_iload_n hx hb dX1_byKind_36 rfl (lv_at hl 2 rfl) ?_
    refine lv_iload_n hx hb dX1_byKind_37 rfl (lv_at hl 3 rfl) ?_
    obtain ⟨r3, e4, h⟩ := pb h
    refine ro_S (As := [.int a1, .int a2, .int a3]) (rest := []) hF (fun _ h => wl_in h) (cnX1_wide l e4) syX1_wide w_255 ⟨Nat.le_of_ble_eq_true rfl, Nat.le_of_ble_eq_true rfl⟩ mv0 trivial rfl hl.1 rfl (Nat.le_of_ble_eq_true rfl) dX1_byKind_38 ⟨Nat.zero_le _, Nat.zero_le _⟩ ?_
    exact END 41 ls _ (pe h) dX1_byKind_41
  have h := pf c1_1 h
  refine lv_lookup (tgt := 42) (off := 41) hx hb dX1_byKind_1 (by decide) (by exact (lv_osw c1_0 (a := 0) rfl).trans ((lv_osw c1_1 (a := 1) rfl).trans (rfl))) (by decide) ?_
  refine lv_iload_n hx hb dX1_byKind_42 rfl (lv_at hl 1 rfl) ?_
  refine lv_iload_n hx hb dX1_byKind_43 rfl (lv_at hl 2 rfl) ?_
  refine lv_iload_n hx hb dX1_byKind_44 rfl (lv_at hl 3 rfl) ?_
  obtain ⟨r5, e6, h⟩ := pb h
  refine ro_S (As := [.int a1, .int a2, .int a3]) (rest := []) hF (fun _ h => wl_in h) (cnX1_odd l e6) syX1_odd w_258 ⟨Nat.le_of_ble_eq_true rfl, Nat.le_of_ble_eq_true rfl⟩ mv0 trivial rfl hl.1 rfl (Nat.le_of_ble_eq_true rfl) dX1_byKind_45 ⟨Nat.zero_le _, Nat.zero_le _⟩ ?_
  exact END 48 ls _ (pe h) dX1_byKind_48

theorem syX4_isShelf : Sy yX4_isShelf cX4_isShelf 1 (some .boolean) 1 := ⟨w_134, w_133, w_1, by decide +kernel⟩
set_option maxHeartbeats 4000000 in
set_option maxRecDepth 100000 in
theorem cnX4_isShelf (l : Launch) {a0 : Int32} {r : Int32} (h : fX4_isShelf a0 = some r) : Ro l yX4_isShelf cX4_isShelf 1 (some .boolean) 0 0 [.int a0] B0 (.int r) := by
  refine ro_z (plainFor_of_name (by decide)) (Nat.le_of_ble_eq_true rfl) ?_
  intro p e s m args below meth cd Q ls hF hB hl END
  have hF : CallFix p m cd cX4_isShelf 1 s args (wl yX4_isShelf cX4_isShelf 1 (some .boolean)) RX4 := hF
  obtain ⟨hx, hb, hml, hown, hts⟩ := id hF
  have hl : lv_has ls 1 [(0, .int a0)] := hl
  rw [fX4_isShelf] at h
  refine lv_iload_n hx hb dX4_isShelf_0 rfl (lv_at hl 0 rfl) ?_
  refine lv_if_lt (tgt := 13) hx hb dX4_isShelf_1 (by decide) (fun c1 => ?_) (fun c1 => ?_)
  · have h := pt c1 h
    refine lv_iconst (v := (0 : Int32)) hx hb dX4_isShelf_13 (by decide) ?_
    exact END 14 ls _ (pe h) (by rfl) dX4_isShelf_14
  · have h := pf c1 h
    refine lv_iload_n hx hb dX4_isShelf_4 rfl (lv_at hl 0 rfl) ?_
    refine lv_iconst (v := (4 : Int32)) hx hb dX4_isShelf_5 (by decide) ?_
    refine lv_icmp_ge (tgt := 13) hx hb dX4_isShelf_6 (by decide) (fun c6 => ?_) (fun c6 => ?_)
    · have h := pt c6 h
      refine lv_iconst (v := (0 : Int32)) hx hb dX4_isShelf_13 (by decide) ?_
      exact END 14 ls _ (pe h) (by rfl) dX4_isShelf_14
    · have h := pf c6 h
      refine lv_iconst (v := (1 : Int32)) hx hb dX4_isShelf_9 (by decide) ?_
      refine lv_goto (tgt := 14) hx hb dX4_isShelf_10 (by decide) ?_
      exact END 14 ls _ (pe h) (by rfl) dX4_isShelf_14

theorem syX4_isWithin : Sy yX4_isWithin cX4_isWithin 2 (some .boolean) 2 := ⟨w_86, w_85, w_1, by decide +kernel⟩
set_option maxHeartbeats 4000000 in
set_option maxRecDepth 100000 in
theorem cnX4_isWithin (l : Launch) {a0 : Int32} {a1 : Int32} {r : Int32} (h : fX4_isWithin a0 a1 = some r) : Ro l yX4_isWithin cX4_isWithin 2 (some .boolean) 0 0 [.int a0, .int a1] B0 (.int r) := by
  refine ro_z (plainFor_of_name (by decide)) (Nat.le_of_ble_eq_true rfl) ?_
  intro p e s m args below meth cd Q ls hF hB hl END
  have hF : CallFix p m cd cX4_isWithin 2 s args (wl yX4_isWithin cX4_isWithin 2 (some .boolean)) RX4 := hF
  obtain ⟨hx, hb, hml, hown, hts⟩ := id hF
  have hl : lv_has ls 2 [(0, .int a0), (1, .int a1)] := hl
  rw [fX4_isWithin] at h
  refine lv_iload_n hx hb dX4_isWithin_0 rfl (lv_at hl 0 rfl) ?_
  refine lv_iload_n hx hb dX4_isWithin_1 rfl (lv_at hl 1 rfl) ?_
  refine lv_ineg hx hb dX4_isWithin_2 ?_
  refine lv_icmp_lt (tgt := 15) hx hb dX4_isWithin_3 (by decide) (fun c3 => ?_) (fun c3 => ?_)
  · have h := pt c3 h
    refine lv_iconst (v := (0 : Int32)) hx hb dX4_isWithin_15 (by decide) ?_
    exact END 16 ls _ (pe h) (by rfl) dX4_isWithin_16
  · have h := pf c3 h
    refine lv_iload_n hx hb dX4_isWithin_6 rfl (lv_at hl 0 rfl) ?_
    refine lv_iload_n hx hb dX4_isWithin_7 rfl (lv_at hl 1 rfl) ?_
    refine lv_icmp_gt (tgt := 15) hx hb dX4_isWithin_8 (by decide) (fun c8 => ?_) (fun c8 => ?_)
    · have h := pt c8 h
      refine lv_iconst (v := (0 : Int32)) hx hb dX4_isWithin_15 (by decide) ?_
      exact END 16 ls _ (pe h) (by rfl) dX4_isWithin_16
    · have h := pf c8 h
      refine lv_iconst (v := (1 : Int32)) hx hb dX4_isWithin_11 (by decide) ?_
      refine lv_goto (tgt := 16) hx hb dX4_isWithin_12 (by decide) ?_
      exact END 16 ls _ (pe h) (by rfl) dX4_isWithin_16

theorem syX4_isNumber : Sy yX4_isNumber cX4_isNumber 2 (some .boolean) 2 := ⟨w_83, w_82, w_1, by decide +kernel⟩
set_option maxHeartbeats 4000000 in
set_option maxRecDepth 100000 in
theorem cnX4_isNumber (l : Launch) {a0 : Int32} {a1 : Int32} {r : Int32} (h : fX4_isNumber a0 a1 = some r) : Ro l yX4_isNumber cX4_isNumber 2 (some .boolean) 1 21 [.int a0, .int a1] B0 (.int r) := by
  refine ro_z (plainFor_of_name (by decide)) (Nat.le_of_ble_eq_true rfl) ?_
  intro p e s m args below meth cd Q ls hF hB hl END
  have hF : CallFix p m cd cX4_isNumber 2 s args (wl yX4_isNumber cX4_isNumber 2 (some .boolean)) RX4 := hF
  obtain ⟨hx, hb, hml, hown, hts⟩ := id hF
  have hl : lv_has ls 2 [(0, .int a0), (1, .int a1)] := hl
  rw [fX4_isNumber] at h
  refine lv_iload_n hx hb dX4_isNumber_0 rfl (lv_at hl 0 rfl) ?_
  refine lv_if_eq (tgt := 16) hx hb dX4_isNumber_1 (by decide) (fun c1 => ?_) (fun c1 => ?_)
  · have h := pt c1 h
    refine lv_iconst (v := (0 : Int32)) hx hb dX4_isNumber_16 (by decide) ?_
    exact END 17 ls _ (pe h) (by rfl) dX4_isNumber_17
  · have h := pf c1 h
    refine lv_iload_n hx hb dX4_isNumber_4 rfl (lv_at hl 0 rfl) ?_
    refine lv_iload_n hx hb dX4_isNumber_5 rfl (lv_at hl 1 rfl) ?_
    obtain ⟨r1, e2, h⟩ := pb h
    refine ro_S (As := [.int a0, .int a1]) (rest := []) hF (fun _ h => wl_in h) (cnX4_isWithin l e2) syX4_isWithin w_84 ⟨Nat.le_of_ble_eq_true rfl, Nat.le_of_ble_eq_true rfl⟩ mv0 trivial rfl hl.1 rfl (Nat.le_of_ble_eq_true rfl) dX4_isNumber_6 ⟨Nat.zero_le _, Nat.zero_le _⟩ ?_
    refine lv_if_eq (tgt := 16) hx hb dX4_isNumber_9 (by decide) (fun c9 => ?_) (fun c9 => ?_)
    · have h := pt c9 h
      refine lv_iconst (v := (0 : Int32)) hx hb dX4_isNumber_16 (by decide) ?_
      exact END 17 ls _ (pe h) (by rfl) dX4_isNumber_17
    · have h := pf c9 h
      refine lv_iconst (v := (1 : Int32)) hx hb dX4_isNumber_12 (by decide) ?_
      refine lv_goto (tgt := 17) hx hb dX4_isNumber_13 (by decide) ?_
      exact END 17 ls _ (pe h) (by rfl) dX4_isNumber_17

theorem syX4_areWithin : Sy yX4_areWithin cX4_areWithin 4 (some .boolean) 4 := ⟨w_231, w_230, w_1, by decide +kernel⟩
set_option maxHeartbeats 4000000 in
set_option maxRecDepth 100000 in
theorem cnX4_areWithin (l : Launch) {a0 : Int32} {a1 : Int32} {a2 : Int32} {a3 : Int32} {r : Int32} (h : fX4_areWithin a0 a1 a2 a3 = some r) : Ro l yX4_areWithin cX4_areWithin 4 (some .boolean) 1 21 [.int a0, .int a1, .int a2, .int a3] B0 (.int r) := by
  refine ro_z (plainFor_of_name (by decide)) (Nat.le_of_ble_eq_true rfl) ?_
  intro p e s m args below meth cd Q ls hF hB hl END
  have hF : CallFix p m cd cX4_areWithin 4 s args (wl yX4_areWithin cX4_areWithin 4 (some .boolean)) RX4 := hF
  obtain ⟨hx, hb, hml, hown, hts⟩ := id hF
  have hl : lv_has ls 4 [(0, .int a0), (1, .int a1), (2, .int a2), (3, .int a3)] := hl
  rw [fX4_areWithin] at h
  refine lv_iload_n hx hb dX4_areWithin_0 rfl (lv_at hl 0 rfl) ?_
  refine lv_iload_n hx hb dX4_areWithin_1 rfl (lv_at hl 3 rfl) ?_
  obtain ⟨r1, e2, h⟩ := pb h
  refine ro_S (As := [.int a0, .int a3]) (rest := []) hF (fun _ h => wl_in h) (cnX4_isWithin l e2) syX4_isWithin w_84 ⟨Nat.le_of_ble_eq_true rfl, Nat.le_of_ble_eq_true rfl⟩ mv0 trivial rfl hl.1 rfl (Nat.le_of_ble_eq_true rfl) dX4_areWithin_2 ⟨Nat.zero_le _, Nat.zero_le _⟩ ?_
  refine lv_if_eq (tgt := 28) hx hb dX4_areWithin_5 (by decide) (fun c5 => ?_) (fun c5 => ?_)
  · have h := pt c5 h
    refine lv_iconst (v := (0 : Int32)) hx hb dX4_areWithin_28 (by decide) ?_
    exact END 29 ls _ (pe h) (by rfl) dX4_areWithin_29
  · have h := pf c5 h
    refine lv_iload_n hx hb dX4_areWithin_8 rfl (lv_at hl 1 rfl) ?_
    refine lv_iload_n hx hb dX4_areWithin_9 rfl (lv_at hl 3 rfl) ?_
    obtain ⟨r3, e4, h⟩ := pb h
    refine ro_S (As := [.int a1, .int a3]) (rest := []) hF (fun _ h => wl_in h) (cnX4_isWithin l e4) syX4_isWithin w_84 ⟨Nat.le_of_ble_eq_true rfl, Nat.le_of_ble_eq_true rfl⟩ mv0 trivial rfl hl.1 rfl (Nat.le_of_ble_eq_true rfl) dX4_areWithin_10 ⟨Nat.zero_le _, Nat.zero_le _⟩ ?_
    refine lv_if_eq (tgt := 28) hx hb dX4_areWithin_13 (by decide) (fun c13 => ?_) (fun c13 => ?_)
    · have h := pt c13 h
      refine lv_iconst (v := (0 : Int32)) hx hb dX4_areWithin_28 (by decide) ?_
      exact END 29 ls _ (pe h) (by rfl) dX4_areWithin_29
    · have h := pf c13 h
      refine lv_iload_n hx hb dX4_areWithin_16 rfl (lv_at hl 2 rfl) ?_
      refine lv_iload_n hx hb dX4_areWithin_17 rfl (lv_at hl 3 rfl) ?_
      obtain ⟨r5, e6, h⟩ := pb h
      refine ro_S (As := [.int a2, .int a3]) (rest := []) hF (fun _ h => wl_in h) (cnX4_isWithin l e6) syX4_isWithin w_84 ⟨Nat.le_of_ble_eq_true rfl, Nat.le_of_ble_eq_true rfl⟩ mv0 trivial rfl hl.1 rfl (Nat.le_of_ble_eq_true rfl) dX4_areWithin_18 ⟨Nat.zero_le _, Nat.zero_le _⟩ ?_
      refine lv_if_eq (tgt := 28) hx hb dX4_areWithin_21 (by decide) (fun c21 => ?_) (fun c21 => ?_)
      · have h := pt c21 h
        refine lv_iconst (v := (0 : Int32)) hx hb dX4_areWithin_28 (by decide) ?_
        exact END 29 ls _ (pe h) (by rfl) dX4_areWithin_29
      · have h := pf c21 h
        refine lv_iconst (v := (1 : Int32)) hx hb dX4_areWithin_24 (by decide) ?_
        refine lv_goto (tgt := 29) hx hb dX4_areWithin_25 (by decide) ?_
        exact END 29 ls _ (pe h) (by rfl) dX4_areWithin_29

theorem syX4_pick : Sy yX4_pick cX4_pick 7 (some .long) 4 := ⟨w_293, w_292, w_1, by decide +kernel⟩
set_option maxHeartbeats 4000000 in
set_option maxRecDepth 100000 in
theorem cnX4_pick (l : Launch) {a0 : Int32} {a1 : Int64} {a2 : Int64} {a3 : Int64} {r : Int64} (h : fX4_pick a0 a1 a2 a3 = some r) : Ro l yX4_pick cX4_pick 7 (some .long) 0 0 [.int a0, .long a1, .long a2, .long a3] B0 (.long r) := by
  refine ro_l (plainFor_of_name (by decide)) (Nat.le_of_ble_eq_true rfl) ?_
  intro p e s m args below meth cd Q ls hF hB hl END
  have hF : CallFix p m cd cX4_pick 7 s args (wl yX4_pick cX4_pick 7 (some .long)) RX4 := hF
  obtain ⟨hx, hb, hml, hown, hts⟩ := id hF
  have hl : lv_has ls 7 [(0, .int a0), (1, .long a1), (3, .long a2), (5, .long a3)] := hl
  rw [fX4_pick] at h
  refine lv_iload_n hx hb dX4_pick_0 rfl (lv_at hl 0 rfl) ?_
  refine lv_if_ne (tgt := 8) hx hb dX4_pick_1 (by decide) (fun c1 => ?_) (fun c1 => ?_)
  · have h := pf c1 h
    refine lv_iload_n hx hb dX4_pick_8 rfl (lv_at hl 0 rfl) ?_
    refine lv_iconst (v := (1 : Int32)) hx hb dX4_pick_9 (by decide) ?_
    refine lv_icmp_ne (tgt := 17) hx hb dX4_pick_10 (by decide) (fun c10 => ?_) (fun c10 => ?_)
    · have h := pf c10 h
      refine lv_lload hx hb dX4_pick_17 (lv_at hl 3 rfl) ?_
      exact END 19 ls _ (pe h) dX4_pick_19
    · have h := pt c10 h
      refine lv_lload_n hx hb dX4_pick_13 rfl (lv_at hl 2 rfl) ?_
      refine lv_goto (tgt := 19) hx hb dX4_pick_14 (by decide) ?_
      exact END 19 ls _ (pe h) dX4_pick_19
  · have h := pt c1 h
    refine lv_lload_n hx hb dX4_pick_4 rfl (lv_at hl 1 rfl) ?_
    refine lv_goto (tgt := 19) hx hb dX4_pick_5 (by decide) ?_
    exact END 19 ls _ (pe h) dX4_pick_19

theorem syX4_commonDivisor : Sy yX4_commonDivisor cX4_commonDivisor 11 (some .long) 2 := ⟨w_285, w_284, w_1, by decide +kernel⟩
set_option maxHeartbeats 4000000 in
set_option maxRecDepth 100000 in
theorem cnX4_commonDivisor (l : Launch) {a0 : Int64} {a1 : Int64} {r : Int64} (h : fX4_commonDivisor a0 a1 = some r) : Ro l yX4_commonDivisor cX4_commonDivisor 11 (some .long) 1 25 [.long a0, .long a1] B0 (.long r) := by
  refine ro_l (plainFor_of_name (by decide)) (Nat.le_of_ble_eq_true rfl) ?_
  intro p e s m args below meth cd Q ls hF hB hl END
  have hF : CallFix p m cd cX4_commonDivisor 11 s args (wl yX4_commonDivisor cX4_commonDivisor 11 (some .long)) RX4 := hF
  obtain ⟨hx, hb, hml, hown, hts⟩ := id hF
  have hl : lv_has ls 11 [(0, .long a0), (2, .long a1)] := hl
  rw [fX4_commonDivisor] at h
  refine lv_lload_n hx hb dX4_commonDivisor_0 rfl (lv_at hl 0 rfl) ?_
  refine lq_labs hx hb (hml.trans hl.1.symm) hown (hts _ (wl_in w_286)) (hts _ (wl_in w_287)) (hts _ (wl_in w_6)) (hts _ (wl_in w_288)) (Nat.le_of_ble_eq_true rfl) (Nat.le_of_ble_eq_true rfl) (Nat.zero_le _) (Nat.zero_le _) dX4_commonDivisor_1 ?_
  refine lv_lstore (lv' := [(4, .long (labs a0)), (0, .long a0), (2, .long a1)]) hx hb dX4_commonDivisor_4 hl (by decide) rfl (fun ls hl => ?_)
  refine lv_lload_n hx hb dX4_commonDivisor_6 rfl (lv_at hl 2 rfl) ?_
  refine lq_labs hx hb (hml.trans hl.1.symm) hown (hts _ (wl_in w_286)) (hts _ (wl_in w_287)) (hts _ (wl_in w_6)) (hts _ (wl_in w_288)) (Nat.le_of_ble_eq_true rfl) (Nat.le_of_ble_eq_true rfl) (Nat.zero_le _) (Nat.zero_le _) dX4_commonDivisor_7 ?_
  refine lv_lstore (lv' := [(6, .long (labs a1)), (4, .long (labs a0)), (0, .long a0), (2, .long a1)]) hx hb dX4_commonDivisor_10 hl (by decide) rfl (fun ls hl => ?_)
  refine lv_iconst (v := (0 : Int32)) hx hb dX4_commonDivisor_12 (by decide) ?_
  refine lv_istore (lv' := [(8, .int (0 : Int32)), (6, .long (labs a1)), (4, .long (labs a0)), (0, .long a0), (2, .long a1)]) hx hb dX4_commonDivisor_13 hl (by decide) rfl (fun ls hl => ?_)
  have J15 : ∀ (n15 : Nat) (x4_15 : Int64) (x6_15 : Int64) (x8_15 : Int32), kX4_commonDivisor_15 n15 x4_15 x6_15 x8_15 = some r → ∀ (ls : Array Slot), lv_has ls 11 [(4, .long x4_15), (6, .long x6_15), (8, .int x8_15)] → W p l e (rmk 1 25) s m args below meth cd s.heap [] 0 0 Q (F0 m 15 ls []) := by
    intro n15
    induction n15 with
    | zero =>
      intro x4_15 x6_15 x8_15 h
      rw [kX4_commonDivisor_15] at h
      cases h
    | succ n15 ih15 =>
      intro x4_15 x6_15 x8_15 h  ls hl
      rw [kX4_commonDivisor_15] at h
      refine lv_iload hx hb dX4_commonDivisor_15 (lv_at hl 2 rfl) ?_
      refine lv_bipush (v := (100 : Int32)) hx hb dX4_commonDivisor_17 (by decide) ?_
      refine lv_icmp_ge (tgt := 50) hx hb dX4_commonDivisor_19 (by decide) (fun c19 => ?_) (fun c19 => ?_)
      · have h := pt c19 h
        refine lv_lload hx hb dX4_commonDivisor_50 (lv_at hl 0 rfl) ?_
        exact END 52 ls _ (pe h) dX4_commonDivisor_52
      · have h := pf c19 h
        refine lv_lload hx hb dX4_commonDivisor_22 (lv_at hl 1 rfl) ?_
        refine lv_lconst (v := (0 : Int64)) hx hb dX4_commonDivisor_24 (by decide) ?_
        refine W.lcmp hx hb dX4_commonDivisor_25 ?_
        refine lv_if_eq (tgt := 50) hx hb dX4_commonDivisor_26 (by decide) (fun c26 => ?_) (fun c26 => ?_)
        · have h := pt c26 h
          refine lv_lload hx hb dX4_commonDivisor_50 (lv_at hl 0 rfl) ?_
          exact END 52 ls _ (pe h) dX4_commonDivisor_52
        · have h := pf c26 h
          refine lv_lload hx hb dX4_commonDivisor_29 (lv_at hl 0 rfl) ?_
          refine lv_lload hx hb dX4_commonDivisor_31 (lv_at hl 1 rfl) ?_
          obtain ⟨g1, h⟩ := pg h
          refine lq_lrem hx hb dX4_commonDivisor_33 g1 ?_
          refine lv_lstore (lv' := [(9, .long (lrm x4_15 x6_15)), (4, .long x4_15), (6, .long x6_15), (8, .int x8_15)]) hx hb dX4_commonDivisor_34 hl (by decide) rfl (fun ls hl => ?_)
          refine lv_lload hx hb dX4_commonDivisor_36 (lv_at hl 2 rfl) ?_
          refine lv_lstore (lv' := [(4, .long x6_15), (9, .long (lrm x4_15 x6_15)), (6, .long x6_15), (8, .int x8_15)]) hx hb dX4_commonDivisor_38 hl (by decide) rfl (fun ls hl => ?_)
          refine lv_lload hx hb dX4_commonDivisor_40 (lv_at hl 1 rfl) ?_
          refine lv_lstore (lv' := [(6, .long (lrm x4_15 x6_15)), (4, .long x6_15), (9, .long (lrm x4_15 x6_15)), (8, .int x8_15)]) hx hb dX4_commonDivisor_42 hl (by decide) rfl (fun ls hl => ?_)
          refine lv_iinc (v := x8_15 + (1 : Int32)) (lv' := [(8, .int (x8_15 + (1 : Int32))), (6, .long (lrm x4_15 x6_15)), (4, .long x6_15), (9, .long (lrm x4_15 x6_15))]) hx hb dX4_commonDivisor_44 hl (k := 3) rfl rfl (by decide) rfl (fun ls hl => ?_)
          refine lv_goto (tgt := 15) hx hb dX4_commonDivisor_47 (by decide) ?_
          exact ih15 _ _ _ h  _ (lv_sub hl [2, 1, 0] rfl)
  exact J15 _ _ _ _ h  _ (lv_sub hl [2, 1, 0] rfl)

theorem syX4_reducer : Sy yX4_reducer cX4_reducer 10 (some .long) 3 := ⟨w_282, w_281, w_1, by decide +kernel⟩
set_option maxHeartbeats 4000000 in
set_option maxRecDepth 100000 in
theorem cnX4_reducer (l : Launch) {a0 : Int64} {a1 : Int64} {a2 : Int64} {r : Int64} (h : fX4_reducer a0 a1 a2 = some r) : Ro l yX4_reducer cX4_reducer 10 (some .long) 2 55 [.long a0, .long a1, .long a2] B0 (.long r) := by
  refine ro_l (plainFor_of_name (by decide)) (Nat.le_of_ble_eq_true rfl) ?_
  intro p e s m args below meth cd Q ls hF hB hl END
  have hF : CallFix p m cd cX4_reducer 10 s args (wl yX4_reducer cX4_reducer 10 (some .long)) RX4 := hF
  obtain ⟨hx, hb, hml, hown, hts⟩ := id hF
  have hl : lv_has ls 10 [(0, .long a0), (2, .long a1), (4, .long a2)] := hl
  rw [fX4_reducer] at h
  refine lv_lload_n hx hb dX4_reducer_0 rfl (lv_at hl 0 rfl) ?_
  refine lv_lload_n hx hb dX4_reducer_1 rfl (lv_at hl 1 rfl) ?_
  refine lv_lload hx hb dX4_reducer_2 (lv_at hl 2 rfl) ?_
  obtain ⟨r1, e2, h⟩ := pb h
  refine ro_S (As := [.long a1, .long a2]) (rest := [.long a0]) hF (fun _ h => wl_in h) (cnX4_commonDivisor l e2) syX4_commonDivisor w_283 ⟨Nat.le_of_ble_eq_true rfl, Nat.le_of_ble_eq_true rfl⟩ mv0 trivial rfl hl.1 rfl (Nat.le_of_ble_eq_true rfl) dX4_reducer_4 ⟨Nat.zero_le _, Nat.zero_le _⟩ ?_
  obtain ⟨r3, e4, h⟩ := pb h
  refine ro_S (As := [.long a0, .long r1]) (rest := []) hF (fun _ h => wl_in h) (cnX4_commonDivisor l e4) syX4_commonDivisor w_283 ⟨Nat.le_of_ble_eq_true rfl, Nat.le_of_ble_eq_true rfl⟩ mv0 trivial rfl hl.1 rfl (Nat.le_of_ble_eq_true rfl) dX4_reducer_7 ⟨Nat.zero_le _, Nat.zero_le _⟩ ?_
  refine lv_lstore (lv' := [(6, .long r3), (0, .long a0), (2, .long a1), (4, .long a2)]) hx hb dX4_reducer_10 hl (by decide) rfl (fun ls hl => ?_)
  refine lv_lload_n hx hb dX4_reducer_12 rfl (lv_at hl 1 rfl) ?_
  refine lv_lconst (v := (0 : Int64)) hx hb dX4_reducer_13 (by decide) ?_
  refine W.lcmp hx hb dX4_reducer_14 ?_
  have J34 : ∀ (t0_34 : Int64), kX4_reducer_34 r3 t0_34 = some r → ∀ (ls : Array Slot), lv_has ls 10 [(6, .long r3)] → W p l e (rmk 2 55) s m args below meth cd s.heap [] 0 0 Q (F0 m 34 ls [.long t0_34]) := by
    intro t0_34 h  ls hl
    rw [kX4_reducer_34] at h
    refine lv_lstore (lv' := [(8, .long t0_34), (6, .long r3)]) hx hb dX4_reducer_34 hl (by decide) rfl (fun ls hl => ?_)
    refine lv_lload hx hb dX4_reducer_36 (lv_at hl 0 rfl) ?_
    refine lv_lconst (v := (0 : Int64)) hx hb dX4_reducer_38 (by decide) ?_
    refine W.lcmp hx hb dX4_reducer_39 ?_
    refine lv_if_ge (tgt := 49) hx hb dX4_reducer_40 (by decide) (fun c40 => ?_) (fun c40 => ?_)
    · have h := pt c40 h
      refine lv_lload hx hb dX4_reducer_49 (lv_at hl 1 rfl) ?_
      exact END 51 ls _ (pe h) dX4_reducer_51
    · have h := pf c40 h
      refine lv_lload hx hb dX4_reducer_43 (lv_at hl 1 rfl) ?_
      refine lv_lneg hx hb dX4_reducer_45 ?_
      refine lv_goto (tgt := 51) hx hb dX4_reducer_46 (by decide) ?_
      exact END 51 ls _ (pe h) dX4_reducer_51
  refine lv_if_eq (tgt := 22) hx hb dX4_reducer_15 (by decide) (fun c15 => ?_) (fun c15 => ?_)
  · have h := pt c15 h
    refine lv_lload_n hx hb dX4_reducer_22 rfl (lv_at hl 2 rfl) ?_
    refine lv_lconst (v := (0 : Int64)) hx hb dX4_reducer_23 (by decide) ?_
    refine W.lcmp hx hb dX4_reducer_24 ?_
    refine lv_if_eq (tgt := 32) hx hb dX4_reducer_25 (by decide) (fun c25 => ?_) (fun c25 => ?_)
    · have h := pt c25 h
      refine lv_lload hx hb dX4_reducer_32 (lv_at hl 3 rfl) ?_
      exact J34 _ h  _ (lv_sub hl [0] rfl)
    · have h := pf c25 h
      refine lv_lload_n hx hb dX4_reducer_28 rfl (lv_at hl 2 rfl) ?_
      refine lv_goto (tgt := 34) hx hb dX4_reducer_29 (by decide) ?_
      exact J34 _ h  _ (lv_sub hl [0] rfl)
  · have h := pf c15 h
    refine lv_lload_n hx hb dX4_reducer_18 rfl (lv_at hl 1 rfl) ?_
    refine lv_goto (tgt := 34) hx hb dX4_reducer_19 (by decide) ?_
    exact J34 _ h  _ (lv_sub hl [0] rfl)

theorem syX4_isReduced : Sy yX4_isReduced cX4_isReduced 3 (some .boolean) 3 := ⟨w_279, w_278, w_1, by decide +kernel⟩
set_option maxHeartbeats 4000000 in
set_option maxRecDepth 100000 in
theorem cnX4_isReduced (l : Launch) {a0 : Int32} {a1 : Int32} {a2 : Int32} {r : Int32} (h : fX4_isReduced a0 a1 a2 = some r) : Ro l yX4_isReduced cX4_isReduced 3 (some .boolean) 3 84 [.int a0, .int a1, .int a2] B0 (.int r) := by
  refine ro_z (plainFor_of_name (by decide)) (Nat.le_of_ble_eq_true rfl) ?_
  intro p e s m args below meth cd Q ls hF hB hl END
  have hF : CallFix p m cd cX4_isReduced 3 s args (wl yX4_isReduced cX4_isReduced 3 (some .boolean)) RX4 := hF
  obtain ⟨hx, hb, hml, hown, hts⟩ := id hF
  have hl : lv_has ls 3 [(0, .int a0), (1, .int a1), (2, .int a2)] := hl
  rw [fX4_isReduced] at h
  refine lv_iload_n hx hb dX4_isReduced_0 rfl (lv_at hl 0 rfl) ?_
  refine lv_i2l (v := a0.toInt64) hx hb dX4_isReduced_1 rfl ?_
  refine lv_iload_n hx hb dX4_isReduced_2 rfl (lv_at hl 1 rfl) ?_
  refine lv_i2l (v := a1.toInt64) hx hb dX4_isReduced_3 rfl ?_
  refine lv_iload_n hx hb dX4_isReduced_4 rfl (lv_at hl 2 rfl) ?_
  refine lv_i2l (v := a2.toInt64) hx hb dX4_isReduced_5 rfl ?_
  obtain ⟨r1, e2, h⟩ := pb h
  refine ro_S (As := [.long a0.toInt64, .long a1.toInt64, .long a2.toInt64]) (rest := []) hF (fun _ h => wl_in h) (cnX4_reducer l e2) syX4_reducer w_280 ⟨Nat.le_of_ble_eq_true rfl, Nat.le_of_ble_eq_true rfl⟩ mv0 trivial rfl hl.1 rfl (Nat.le_of_ble_eq_true rfl) dX4_isReduced_6 ⟨Nat.zero_le _, Nat.zero_le _⟩ ?_
  refine lv_lconst (v := (1 : Int64)) hx hb dX4_isReduced_9 (by decide) ?_
  refine W.lcmp hx hb dX4_isReduced_10 ?_
  refine lv_if_ne (tgt := 18) hx hb dX4_isReduced_11 (by decide) (fun c11 => ?_) (fun c11 => ?_)
  · have h := pf c11 h
    refine lv_iconst (v := (0 : Int32)) hx hb dX4_isReduced_18 (by decide) ?_
    exact END 19 ls _ (pe h) (by rfl) dX4_isReduced_19
  · have h := pt c11 h
    refine lv_iconst (v := (1 : Int32)) hx hb dX4_isReduced_14 (by decide) ?_
    refine lv_goto (tgt := 19) hx hb dX4_isReduced_15 (by decide) ?_
    exact END 19 ls _ (pe h) (by rfl) dX4_isReduced_19
end
section
def kX0_product_4 (n : Int32) (f : Nat → Int32) : Nat → Int64 → Int32 → Option (Int64)
  | 0, _, _ => none
  | fu + 1, x1_4, x3_4 =>
    (if n ≤ x3_4 then some x1_4 else
    (if ¬ (x3_4 < 0 ∨ 6 ≤ x3_4.toNatClampNeg) then (kX0_product_4 n f fu) (x1_4 * ((f x3_4.toNatClampNeg).toInt64)) (x3_4 + (1 : Int32)) else none))
def fX0_product (n : Int32) (f : Nat → Int32) : Option (Int64) :=
    kX0_product_4 n f 1100 (1 : Int64) (0 : Int32)
def kX0_freeProduct_39 (x5_16 : Int32) (K16 : Int64 → Int32 → Option (Int64)) : Nat → Int64 → Int32 → Option (Int64)
  | 0, _, _ => none
  | fu + 1, x1_39, x8_39 =>
    (if (64 : Int32) ≤ x8_39 then K16 x1_39 (x5_16 + (1 : Int32)) else
    (if ((allv x5_16.toNatClampNeg) * (allv x5_16.toNatClampNeg)) ≤ (1 : Int32) then K16 x1_39 (x5_16 + (1 : Int32)) else
    (if ¬ (((allv x5_16.toNatClampNeg) * (allv x5_16.toNatClampNeg)).toInt64) = 0 then (if (lg_cmp (lrm x1_39 (((allv x5_16.toNatClampNeg) * (allv x5_16.toNatClampNeg)).toInt64)) (0 : Int64)) = 0 then (if ¬ (((allv x5_16.toNatClampNeg) * (allv x5_16.toNatClampNeg)).toInt64) = 0 then (kX0_freeProduct_39 x5_16 K16 fu) (x1_39 / (((allv x5_16.toNatClampNeg) * (allv x5_16.toNatClampNeg)).toInt64)) (x8_39 + (1 : Int32)) else none) else
    K16 x1_39 (x5_16 + (1 : Int32))) else none)))
def kX0_freeProduct_16 : Nat → Int64 → Int32 → Option (Int64)
  | 0, _, _ => none
  | fu + 1, x1_16, x5_16 =>
    (if (79 : Int32) ≤ x5_16 then some x1_16 else
    (if ¬ (x5_16 < 0 ∨ 79 ≤ x5_16.toNatClampNeg) then kX0_freeProduct_39 x5_16 (kX0_freeProduct_16 fu) 1100 x1_16 (0 : Int32) else none))
def fX0_freeProduct (n : Int32) (f : Nat → Int32) : Option (Int64) :=
    (fX0_product n f).bind fun (r1 : Int64) =>
    kX0_freeProduct_16 1100 r1 (0 : Int32)
def kX0_countAbove_4 (n : Int32) (f : Nat → Int32) : Nat → Int32 → Int32 → Option (Int32)
  | 0, _, _ => none
  | fu + 1, x1_4, x2_4 =>
    (if n ≤ x2_4 then some x1_4 else
    (if ¬ (x2_4 < 0 ∨ 6 ≤ x2_4.toNatClampNeg) then (if (f x2_4.toNatClampNeg) ≤ 0 then (kX0_countAbove_4 n f fu) x1_4 (x2_4 + (1 : Int32)) else
    (kX0_countAbove_4 n f fu) (x1_4 + (1 : Int32)) (x2_4 + (1 : Int32))) else none))
def fX0_countAbove (n : Int32) (f : Nat → Int32) : Option (Int32) :=
    kX0_countAbove_4 n f 1100 (0 : Int32) (0 : Int32)
def kX0_signsAt_17 (n : Int32) (f : Nat → Int32) (a0 : Int32) (x3_4 : Int32) (K4 : Int32 → Int32 → Option (Int32)) : Nat → Int32 → Int32 → Option (Int32)
  | 0, _, _ => none
  | fu + 1, x2_17, x4_17 =>
    (if n ≤ x4_17 then K4 x2_17 (x3_4 + (1 : Int32)) else
    (if ¬ (x3_4 < 0 ∨ 6 ≤ x3_4.toNatClampNeg) then (if ¬ (x4_17 < 0 ∨ 6 ≤ x4_17.toNatClampNeg) then (fX2_signAt ((f x3_4.toNatClampNeg).toInt64) ((f x4_17.toNatClampNeg).toInt64) a0).bind fun (r3 : Int32) =>
    (kX0_signsAt_17 n f a0 x3_4 K4 fu) (x2_17 * r3) (x4_17 + (1 : Int32)) else none) else none))
def kX0_signsAt_4 (n : Int32) (f : Nat → Int32) (a0 : Int32) : Nat → Int32 → Int32 → Option (Int32)
  | 0, _, _ => none
  | fu + 1, x2_4, x3_4 =>
    (if n ≤ x3_4 then some x2_4 else
    kX0_signsAt_17 n f a0 x3_4 (kX0_signsAt_4 n f a0 fu) 1100 x2_4 (x3_4 + (1 : Int32)))
def fX0_signsAt (n : Int32) (f : Nat → Int32) (a0 : Int32) : Option (Int32) :=
    kX0_signsAt_4 n f a0 1100 (1 : Int32) (0 : Int32)
def fX0_goesAt (n : Int32) (f : Nat → Int32) (a0 : Int32) : Option (Int32) :=
    (if a0 = 0 then (fX0_countAbove n f).bind fun (r20 : Int32) =>
    (if r20 ≤ 0 then some (0 : Int32) else
    (if n ≤ r20 then some (0 : Int32) else
    some (1 : Int32))) else
    (if n = (1 : Int32) then some (0 : Int32) else
    (if n = (2 : Int32) then (fX0_product n f).bind fun (r1 : Int64) =>
    (fX2_isSquareAtPrime (-r1) a0).bind fun (r3 : Int32) =>
    (if r3 &&& 1 = r3 then some r3 else none) else
    (if n = (3 : Int32) then (fX0_signsAt n f a0).bind fun (r6 : Int32) =>
    (fX0_product n f).bind fun (r8 : Int64) =>
    (fX2_signAt (-1 : Int64) (-r8) a0).bind fun (r10 : Int32) =>
    (if r6 = r10 then some (1 : Int32) else
    some (0 : Int32)) else
    (if n = (4 : Int32) then (fX0_product n f).bind fun (r12 : Int64) =>
    (fX2_isSquareAtPrime r12 a0).bind fun (r14 : Int32) =>
    (if r14 = 0 then some (1 : Int32) else
    (fX0_signsAt n f a0).bind fun (r16 : Int32) =>
    (fX2_signAt (-1 : Int64) (-1 : Int64) a0).bind fun (r18 : Int32) =>
    (if r16 = r18 then some (1 : Int32) else
    some (0 : Int32))) else
    some (1 : Int32))))))
def kX0_mayBar_13 (n : Int32) (f : Nat → Int32) (a0 : Int32) : Nat → Int32 → Option (Int32)
  | 0, _ => none
  | fu + 1, x2_13 =>
    (if n ≤ x2_13 then some (0 : Int32) else
    (if ¬ (x2_13 < 0 ∨ 6 ≤ x2_13.toNatClampNeg) then (if ¬ a0 = 0 then (if (irm (f x2_13.toNatClampNeg) a0) = 0 then some (1 : Int32) else
    (kX0_mayBar_13 n f a0 fu) (x2_13 + (1 : Int32))) else none) else none))
def fX0_mayBar (n : Int32) (f : Nat → Int32) (a0 : Int32) : Option (Int32) :=
    (if a0 = 0 then some (1 : Int32) else
    (if a0 = (2 : Int32) then some (1 : Int32) else
    kX0_mayBar_13 n f a0 1100 (0 : Int32)))
def kX0_countBars_12 (n : Int32) (f : Nat → Int32) : Nat → Int32 → Int32 → Option (Int32)
  | 0, _, _ => none
  | fu + 1, x1_12, x4_12 =>
    (if (79 : Int32) ≤ x4_12 then some x1_12 else
    (if ¬ (x4_12 < 0 ∨ 79 ≤ x4_12.toNatClampNeg) then (fX0_mayBar n f (allv x4_12.toNatClampNeg)).bind fun (r2 : Int32) =>
    (if r2 = 0 then (kX0_countBars_12 n f fu) x1_12 (x4_12 + (1 : Int32)) else
    (fX0_goesAt n f (allv x4_12.toNatClampNeg)).bind fun (r4 : Int32) =>
    (if r4 = 0 then (kX0_countBars_12 n f fu) (x1_12 + (1 : Int32)) (x4_12 + (1 : Int32)) else
    (kX0_countBars_12 n f fu) x1_12 (x4_12 + (1 : Int32)))) else none))
def fX0_countBars (n : Int32) (f : Nat → Int32) : Option (Int32) :=
    kX0_countBars_12 n f 1100 (0 : Int32) (0 : Int32)
def kX0_findBar_13 (n : Int32) (f : Nat → Int32) (a0 : Int32) : Nat → Int32 → Int32 → Option (Int32)
  | 0, _, _ => none
  | fu + 1, x2_13, x5_13 =>
    (if (79 : Int32) ≤ x5_13 then some (-1 : Int32) else
    (if ¬ (x5_13 < 0 ∨ 79 ≤ x5_13.toNatClampNeg) then (fX0_mayBar n f (allv x5_13.toNatClampNeg)).bind fun (r2 : Int32) =>
    (if r2 = 0 then (kX0_findBar_13 n f a0 fu) x2_13 (x5_13 + (1 : Int32)) else
    (fX0_goesAt n f (allv x5_13.toNatClampNeg)).bind fun (r4 : Int32) =>
    (if r4 = 0 then (if x2_13 = a0 then some (allv x5_13.toNatClampNeg) else
    (kX0_findBar_13 n f a0 fu) (x2_13 + (1 : Int32)) (x5_13 + (1 : Int32))) else
    (kX0_findBar_13 n f a0 fu) x2_13 (x5_13 + (1 : Int32)))) else none))
def fX0_findBar (n : Int32) (f : Nat → Int32) (a0 : Int32) : Option (Int32) :=
    kX0_findBar_13 n f a0 1100 (0 : Int32) (0 : Int32)
def fX0_pairing (n : Int32) (f : Nat → Int32) (a0 : Int32) (a1 : Int32) (a2 : Int32) (a3 : Int32) (a4 : Int32) (a5 : Int32) : Option (Int64) :=
    some ((((((f (0 : Int32).toNatClampNeg).toInt64) * a0.toInt64) * a3.toInt64) + ((((f (1 : Int32).toNatClampNeg).toInt64) * a1.toInt64) * a4.toInt64)) + ((((f (2 : Int32).toNatClampNeg).toInt64) * a2.toInt64) * a5.toInt64))
def kX0_thirdFor_68 (f : Nat → Int32) (a0 : Int32) (a1 : Int32) : Nat → Int32 → Option (Int32)
  | 0, _ => none
  | fu + 1, x6_68 =>
    (if (30 : Int32) < x6_68 then some (-1 : Int32) else
    (if (x6_68 * x6_68) = ((-((((f (0 : Int32).toNatClampNeg) * a0) * a0) + (((f (1 : Int32).toNatClampNeg) * a1) * a1))) / (f (2 : Int32).toNatClampNeg)) then some x6_68 else
    (kX0_thirdFor_68 f a0 a1 fu) (x6_68 + (1 : Int32))))
def fX0_thirdFor (n : Int32) (f : Nat → Int32) (a0 : Int32) (a1 : Int32) : Option (Int32) :=
    (if (f (2 : Int32).toNatClampNeg) = 0 then some (-1 : Int32) else
    (if ¬ (f (2 : Int32).toNatClampNeg) = 0 then (if (irm (-((((f (0 : Int32).toNatClampNeg) * a0) * a0) + (((f (1 : Int32).toNatClampNeg) * a1) * a1))) (f (2 : Int32).toNatClampNeg)) = 0 then (if ¬ (f (2 : Int32).toNatClampNeg) = 0 then (if ((-((((f (0 : Int32).toNatClampNeg) * a0) * a0) + (((f (1 : Int32).toNatClampNeg) * a1) * a1))) / (f (2 : Int32).toNatClampNeg)) < 0 then some (-1 : Int32) else
    (if ((-((((f (0 : Int32).toNatClampNeg) * a0) * a0) + (((f (1 : Int32).toNatClampNeg) * a1) * a1))) / (f (2 : Int32).toNatClampNeg)) ≤ (900 : Int32) then kX0_thirdFor_68 f a0 a1 1100 (0 : Int32) else
    some (-1 : Int32))) else none) else
    some (-1 : Int32)) else none))
theorem syX0_product : Vy yX0_product cX0_product 4 (some .long) 0 := ⟨w_150, ⟨w_148, w_149⟩, w_2, by decide +kernel⟩
set_option maxHeartbeats 4000000 in
set_option maxRecDepth 100000 in
theorem cnX0_product (l : Launch) (A : Nat → Prop) (G : va_G) (cI cF : ClassId) (tA tT : Nat) (q qc : Nat) (n : Int32) (f : Nat → Int32) {r : Int64} (h : fX0_product n f = some r) : Ro l yX0_product cX0_product 4 (some .long) 0 0 [.ref q] (fB A G cI cF tA tT q qc n f) (.long r) := by
  refine ro_l (plainFor_of_name (by decide)) (Nat.le_of_ble_eq_true rfl) ?_
  intro p e s m args below meth cd Q ls hF hB hl END
  have hF : CallFix p m cd cX0_product 4 s args (wl yX0_product cX0_product 4 (some .long)) RX0 := hF
  obtain ⟨hx, hb, hml, hown, hts⟩ := id hF
  have hl : lv_has ls 4 [(0, .ref q)] := hl
  obtain ⟨hE, hP⟩ := hB
  obtain ⟨hK, ⟨hZ, hT⟩, ⟨hZ2, hT2⟩⟩ := id hE
  have hS : va_S A s.heap s.heap [] := va_S.rf
  rw [fX0_product] at h
  refine lv_lconst (v := (1 : Int64)) hx hb dX0_product_0 (by decide) ?_
  refine lv_lstore_n (lv' := [(1, .long (1 : Int64)), (0, .ref q)]) hx hb dX0_product_1 rfl hl (by decide) rfl (fun ls hl => ?_)
  refine lv_iconst (v := (0 : Int32)) hx hb dX0_product_2 (by decide) ?_
  refine lv_istore_n (lv' := [(3, .int (0 : Int32)), (1, .long (1 : Int64)), (0, .ref q)]) hx hb dX0_product_3 rfl hl (by decide) rfl (fun ls hl => ?_)
  have J4 : ∀ (n4 : Nat) (x1_4 : Int64) (x3_4 : Int32), kX0_product_4 n f n4 x1_4 x3_4 = some r → ∀ (ls : Array Slot), lv_has ls 4 [(0, .ref q), (1, .long x1_4), (3, .int x3_4)] → W p l e (rmk 0 0) s m args below meth cd s.heap [] 0 0 Q (F0 m 4 ls []) := by
    intro n4
    induction n4 with
    | zero =>
      intro x1_4 x3_4 h
      rw [kX0_product_4] at h
      cases h
    | succ n4 ih4 =>
      intro x1_4 x3_4 h  ls hl
      rw [kX0_product_4] at h
      refine lv_iload_n hx hb dX0_product_4 rfl (lv_at hl 2 rfl) ?_
      refine lv_aload_n hx hb dX0_product_5 rfl (lv_at hl 0 rfl) ?_
      refine va_get (D := G) (ci := 0) (v := .int n) (C := RX0) (T := TX0) (N := 2) hx hb hts (fun w h => wl_in (inX0 w h)) hown hK hP 0 rfl rfl 0 (by decide) (hts _ (wl_in w_23)) (fun _ h9 => h9) rfl dX0_product_6 ?_
      refine lv_icmp_ge (tgt := 28) hx hb dX0_product_9 (by decide) (fun c9 => ?_) (fun c9 => ?_)
      · have h := pt c9 h
        refine lv_lload_n hx hb dX0_product_28 rfl (lv_at hl 1 rfl) ?_
        exact END 29 ls _ (pe h) dX0_product_29
      · have h := pf c9 h
        refine lv_lload_n hx hb dX0_product_12 rfl (lv_at hl 1 rfl) ?_
        refine lv_aload_n hx hb dX0_product_13 rfl (lv_at hl 0 rfl) ?_
        refine va_get (D := G) (ci := 0) (v := .ref qc) (C := RX0) (T := TX0) (N := 2) hx hb hts (fun w h => wl_in (inX0 w h)) hown hK hP 0 rfl rfl 1 (by decide) (hts _ (wl_in w_25)) (fun _ h9 => h9) rfl dX0_product_14 ?_
        refine lv_iload_n hx hb dX0_product_17 rfl (lv_at hl 2 rfl) ?_
        obtain ⟨g1, h⟩ := pg h
        refine va_iald hx hb hK hP 1 0 rfl rfl g1 dX0_product_18 ?_
        refine lv_i2l (v := (f x3_4.toNatClampNeg).toInt64) hx hb dX0_product_19 rfl ?_
        refine lv_lmul hx hb dX0_product_20 ?_
        refine lv_lstore_n (lv' := [(1, .long (x1_4 * ((f x3_4.toNatClampNeg).toInt64))), (0, .ref q), (3, .int x3_4)]) hx hb dX0_product_21 rfl hl (by decide) rfl (fun ls hl => ?_)
        refine lv_iinc (v := x3_4 + (1 : Int32)) (lv' := [(3, .int (x3_4 + (1 : Int32))), (1, .long (x1_4 * ((f x3_4.toNatClampNeg).toInt64))), (0, .ref q)]) hx hb dX0_product_22 hl (k := 2) rfl rfl (by decide) rfl (fun ls hl => ?_)
        refine lv_goto (tgt := 4) hx hb dX0_product_25 (by decide) ?_
        exact ih4 _ _ h  _ (lv_sub hl [2, 1, 0] rfl)
  exact J4 _ _ _ h  _ (lv_sub hl [2, 1, 0] rfl)

theorem syX0_freeProduct : Vy yX0_freeProduct cX0_freeProduct 9 (some .long) 0 := ⟨w_154, ⟨w_152, w_153⟩, w_2, by decide +kernel⟩
set_option maxHeartbeats 4000000 in
set_option maxRecDepth 100000 in
theorem cnX0_freeProduct (l : Launch) (A : Nat → Prop) (G : va_G) (cI cF : ClassId) (tA tT : Nat) (q qc : Nat) (n : Int32) (f : Nat → Int32) {r : Int64} (h : fX0_freeProduct n f = some r) : Ro l yX0_freeProduct cX0_freeProduct 9 (some .long) 1 23 [.ref q] (fB A G cI cF tA tT q qc n f) (.long r) := by
  refine ro_l (plainFor_of_name (by decide)) (Nat.le_of_ble_eq_true rfl) ?_
  intro p e s m args below meth cd Q ls hF hB hl END
  have hF : CallFix p m cd cX0_freeProduct 9 s args (wl yX0_freeProduct cX0_freeProduct 9 (some .long)) RX0 := hF
  obtain ⟨hx, hb, hml, hown, hts⟩ := id hF
  have hl : lv_has ls 9 [(0, .ref q)] := hl
  obtain ⟨hE, hP⟩ := hB
  obtain ⟨hK, ⟨hZ, hT⟩, ⟨hZ2, hT2⟩⟩ := id hE
  have hS : va_S A s.heap s.heap [] := va_S.rf
  rw [fX0_freeProduct] at h
  refine lv_aload_n hx hb dX0_freeProduct_0 rfl (lv_at hl 0 rfl) ?_
  obtain ⟨r1, e2, h⟩ := pb h
  refine ro_V (As := []) (rest := []) hF (fun _ h => wl_in h) (cnX0_product l A G cI cF tA tT q qc n f e2) syX0_product w_155 ⟨Nat.le_of_ble_eq_true rfl, Nat.le_of_ble_eq_true rfl⟩ fB_mv ⟨hE, hP⟩ (va_recv hK hP (ci := 0) (q0 := 0) rfl rfl) rfl hl.1 rfl (Nat.le_of_ble_eq_true rfl) dX0_freeProduct_1 ⟨Nat.zero_le _, Nat.zero_le _⟩ ?_
  refine lv_lstore_n (lv' := [(1, .long r1), (0, .ref q)]) hx hb dX0_freeProduct_4 rfl hl (by decide) rfl (fun ls hl => ?_)
  refine va_gets hx hb hZ hS hown (hts _ (wl_in w_156)) (fun _ h9 => h9) dX0_freeProduct_5 ?_
  refine lv_astore_n (lv' := [(3, .ref tA), (1, .long r1), (0, .ref q)]) hx hb dX0_freeProduct_8 rfl hl (by decide) rfl (fun ls hl => ?_)
  refine lv_aload_n hx hb dX0_freeProduct_9 rfl (lv_at hl 0 rfl) ?_
  refine va_tlen (v := (79 : Int32)) hx hb hT hS rfl dX0_freeProduct_10 ?_
  refine lv_istore (lv' := [(4, .int (79 : Int32)), (3, .ref tA), (1, .long r1), (0, .ref q)]) hx hb dX0_freeProduct_11 hl (by decide) rfl (fun ls hl => ?_)
  refine lv_iconst (v := (0 : Int32)) hx hb dX0_freeProduct_13 (by decide) ?_
  refine lv_istore (lv' := [(5, .int (0 : Int32)), (4, .int (79 : Int32)), (3, .ref tA), (1, .long r1), (0, .ref q)]) hx hb dX0_freeProduct_14 hl (by decide) rfl (fun ls hl => ?_)
  have J16 : ∀ (n16 : Nat) (x1_16 : Int64) (x5_16 : Int32), kX0_freeProduct_16 n16 x1_16 x5_16 = some r → ∀ (ls : Array Slot), lv_has ls 9 [(4, .int (79 : Int32)), (3, .ref tA), (1, .long x1_16), (5, .int x5_16)] → W p l e (rmk 1 23) s m args below meth cd s.heap [] 0 0 Q (F0 m 16 ls []) := by
    intro n16
    induction n16 with
    | zero =>
      intro x1_16 x5_16 h
      rw [kX0_freeProduct_16] at h
      cases h
    | succ n16 ih16 =>
      intro x1_16 x5_16 h  ls hl
      rw [kX0_freeProduct_16] at h
      refine lv_iload hx hb dX0_freeProduct_16 (lv_at hl 3 rfl) ?_
      refine lv_iload hx hb dX0_freeProduct_18 (lv_at hl 0 rfl) ?_
      refine lv_icmp_ge (tgt := 80) hx hb dX0_freeProduct_20 (by decide) (fun c20 => ?_) (fun c20 => ?_)
      · have h := pt c20 h
        refine lv_lload_n hx hb dX0_freeProduct_80 rfl (lv_at hl 2 rfl) ?_
        exact END 81 ls _ (pe h) dX0_freeProduct_81
      · have h := pf c20 h
        refine lv_aload_n hx hb dX0_freeProduct_23 rfl (lv_at hl 1 rfl) ?_
        refine lv_iload hx hb dX0_freeProduct_24 (lv_at hl 3 rfl) ?_
        obtain ⟨g3, h⟩ := pg h
        refine va_ti (v := .int (allv x5_16.toNatClampNeg)) hx hb hT hS g3 rfl dX0_freeProduct_26 ?_
        refine lv_istore (lv' := [(6, .int (allv x5_16.toNatClampNeg)), (4, .int (79 : Int32)), (3, .ref tA), (1, .long x1_16), (5, .int x5_16)]) hx hb dX0_freeProduct_27 hl (by decide) rfl (fun ls hl => ?_)
        refine lv_iload hx hb dX0_freeProduct_29 (lv_at hl 0 rfl) ?_
        refine lv_iload hx hb dX0_freeProduct_31 (lv_at hl 0 rfl) ?_
        refine lv_imul hx hb dX0_freeProduct_33 ?_
        refine lv_istore (lv' := [(7, .int ((allv x5_16.toNatClampNeg) * (allv x5_16.toNatClampNeg))), (6, .int (allv x5_16.toNatClampNeg)), (4, .int (79 : Int32)), (3, .ref tA), (1, .long x1_16), (5, .int x5_16)]) hx hb dX0_freeProduct_34 hl (by decide) rfl (fun ls hl => ?_)
        refine lv_iconst (v := (0 : Int32)) hx hb dX0_freeProduct_36 (by decide) ?_
        refine lv_istore (lv' := [(8, .int (0 : Int32)), (7, .int ((allv x5_16.toNatClampNeg) * (allv x5_16.toNatClampNeg))), (6, .int (allv x5_16.toNatClampNeg)), (4, .int (79 : Int32)), (3, .ref tA), (1, .long x1_16), (5, .int x5_16)]) hx hb dX0_freeProduct_37 hl (by decide) rfl (fun ls hl => ?_)
        have J39 : ∀ (n39 : Nat) (x1_39 : Int64) (x8_39 : Int32), kX0_freeProduct_39 x5_16 (kX0_freeProduct_16 n16) n39 x1_39 x8_39 = some r → ∀ (ls : Array Slot), lv_has ls 9 [(7, .int ((allv x5_16.toNatClampNeg) * (allv x5_16.toNatClampNeg))), (4, .int (79 : Int32)), (3, .ref tA), (5, .int x5_16), (1, .long x1_39), (8, .int x8_39)] → W p l e (rmk 1 23) s m args below meth cd s.heap [] 0 0 Q (F0 m 39 ls []) := by
          intro n39
          induction n39 with
          | zero =>
            intro x1_39 x8_39 h
            rw [kX0_freeProduct_39] at h
            cases h
          | succ n39 ih39 =>
            intro x1_39 x8_39 h  ls hl
            rw [kX0_freeProduct_39] at h
            refine lv_iload hx hb dX0_freeProduct_39 (lv_at hl 5 rfl) ?_
            refine lv_bipush (v := (64 : Int32)) hx hb dX0_freeProduct_41 (by decide) ?_
            refine lv_icmp_ge (tgt := 74) hx hb dX0_freeProduct_43 (by decide) (fun c43 => ?_) (fun c43 => ?_)
            · have h := pt c43 h
              refine lv_iinc (v := x5_16 + (1 : Int32)) (lv' := [(5, .int (x5_16 + (1 : Int32))), (7, .int ((allv x5_16.toNatClampNeg) * (allv x5_16.toNatClampNeg))), (4, .int (79 : Int32)), (3, .ref tA), (1, .long x1_39), (8, .int x8_39)]) hx hb dX0_freeProduct_74 hl (k := 3) rfl rfl (by decide) rfl (fun ls hl => ?_)
              refine lv_goto (tgt := 16) hx hb dX0_freeProduct_77 (by decide) ?_
              exact ih16 _ _ h  _ (lv_sub hl [2, 3, 4, 0] rfl)
            · have h := pf c43 h
              refine lv_iload hx hb dX0_freeProduct_46 (lv_at hl 0 rfl) ?_
              refine lv_iconst (v := (1 : Int32)) hx hb dX0_freeProduct_48 (by decide) ?_
              refine lv_icmp_le (tgt := 74) hx hb dX0_freeProduct_49 (by decide) (fun c49 => ?_) (fun c49 => ?_)
              · have h := pt c49 h
                refine lv_iinc (v := x5_16 + (1 : Int32)) (lv' := [(5, .int (x5_16 + (1 : Int32))), (7, .int ((allv x5_16.toNatClampNeg) * (allv x5_16.toNatClampNeg))), (4, .int (79 : Int32)), (3, .ref tA), (1, .long x1_39), (8, .int x8_39)]) hx hb dX0_freeProduct_74 hl (k := 3) rfl rfl (by decide) rfl (fun ls hl => ?_)
                refine lv_goto (tgt := 16) hx hb dX0_freeProduct_77 (by decide) ?_
                exact ih16 _ _ h  _ (lv_sub hl [2, 3, 4, 0] rfl)
              · have h := pf c49 h
                refine lv_lload_n hx hb dX0_freeProduct_52 rfl (lv_at hl 4 rfl) ?_
                refine lv_iload hx hb dX0_freeProduct_53 (lv_at hl 0 rfl) ?_
                refine lv_i2l (v := ((allv x5_16.toNatClampNeg) * (allv x5_16.toNatClampNeg)).toInt64) hx hb dX0_freeProduct_55 rfl ?_
                obtain ⟨g4, h⟩ := pg h
                refine lq_lrem hx hb dX0_freeProduct_56 g4 ?_
                refine lv_lconst (v := (0 : Int64)) hx hb dX0_freeProduct_57 (by decide) ?_
                refine W.lcmp hx hb dX0_freeProduct_58 ?_
                refine lv_if_ne (tgt := 74) hx hb dX0_freeProduct_59 (by decide) (fun c59 => ?_) (fun c59 => ?_)
                · have h := pf c59 h
                  refine lv_iinc (v := x5_16 + (1 : Int32)) (lv' := [(5, .int (x5_16 + (1 : Int32))), (7, .int ((allv x5_16.toNatClampNeg) * (allv x5_16.toNatClampNeg))), (4, .int (79 : Int32)), (3, .ref tA), (1, .long x1_39), (8, .int x8_39)]) hx hb dX0_freeProduct_74 hl (k := 3) rfl rfl (by decide) rfl (fun ls hl => ?_)
                  refine lv_goto (tgt := 16) hx hb dX0_freeProduct_77 (by decide) ?_
                  exact ih16 _ _ h  _ (lv_sub hl [2, 3, 4, 0] rfl)
                · have h := pt c59 h
                  refine lv_lload_n hx hb dX0_freeProduct_62 rfl (lv_at hl 4 rfl) ?_
                  refine lv_iload hx hb dX0_freeProduct_63 (lv_at hl 0 rfl) ?_
                  refine lv_i2l (v := ((allv x5_16.toNatClampNeg) * (allv x5_16.toNatClampNeg)).toInt64) hx hb dX0_freeProduct_65 rfl ?_
                  obtain ⟨g5, h⟩ := pg h
                  refine lv_ldiv hx hb dX0_freeProduct_66 g5 ?_
                  refine lv_lstore_n (lv' := [(1, .long (x1_39 / (((allv x5_16.toNatClampNeg) * (allv x5_16.toNatClampNeg)).toInt64))), (7, .int ((allv x5_16.toNatClampNeg) * (allv x5_16.toNatClampNeg))), (4, .int (79 : Int32)), (3, .ref tA), (5, .int x5_16), (8, .int x8_39)]) hx hb dX0_freeProduct_67 rfl hl (by decide) rfl (fun ls hl => ?_)
                  refine lv_iinc (v := x8_39 + (1 : Int32)) (lv' := [(8, .int (x8_39 + (1 : Int32))), (1, .long (x1_39 / (((allv x5_16.toNatClampNeg) * (allv x5_16.toNatClampNeg)).toInt64))), (7, .int ((allv x5_16.toNatClampNeg) * (allv x5_16.toNatClampNeg))), (4, .int (79 : Int32)), (3, .ref tA), (5, .int x5_16)]) hx hb dX0_freeProduct_68 hl (k := 5) rfl rfl (by decide) rfl (fun ls hl => ?_)
                  refine lv_goto (tgt := 39) hx hb dX0_freeProduct_71 (by decide) ?_
                  exact ih39 _ _ h  _ (lv_sub hl [2, 3, 4, 5, 1, 0] rfl)
        exact J39 _ _ _ h  _ (lv_sub hl [1, 3, 4, 6, 5, 0] rfl)
  exact J16 _ _ _ h  _ (lv_sub hl [1, 2, 3, 0] rfl)

theorem syX0_countAbove : Vy yX0_countAbove cX0_countAbove 3 (some .int) 0 := ⟨w_177, ⟨w_175, w_176⟩, w_2, by decide +kernel⟩
set_option maxHeartbeats 4000000 in
set_option maxRecDepth 100000 in
theorem cnX0_countAbove (l : Launch) (A : Nat → Prop) (G : va_G) (cI cF : ClassId) (tA tT : Nat) (q qc : Nat) (n : Int32) (f : Nat → Int32) {r : Int32} (h : fX0_countAbove n f = some r) : Ro l yX0_countAbove cX0_countAbove 3 (some .int) 0 0 [.ref q] (fB A G cI cF tA tT q qc n f) (.int r) := by
  refine ro_i (plainFor_of_name (by decide)) (Nat.le_of_ble_eq_true rfl) ?_
  intro p e s m args below meth cd Q ls hF hB hl END
  have hF : CallFix p m cd cX0_countAbove 3 s args (wl yX0_countAbove cX0_countAbove 3 (some .int)) RX0 := hF
  obtain ⟨hx, hb, hml, hown, hts⟩ := id hF
  have hl : lv_has ls 3 [(0, .ref q)] := hl
  obtain ⟨hE, hP⟩ := hB
  obtain ⟨hK, ⟨hZ, hT⟩, ⟨hZ2, hT2⟩⟩ := id hE
  have hS : va_S A s.heap s.heap [] := va_S.rf
  rw [fX0_countAbove] at h
  refine lv_iconst (v := (0 : Int32)) hx hb dX0_countAbove_0 (by decide) ?_
  refine lv_istore_n (lv' := [(1, .int (0 : Int32)), (0, .ref q)]) hx hb dX0_countAbove_1 rfl hl (by decide) rfl (fun ls hl => ?_)
  refine lv_iconst (v := (0 : Int32)) hx hb dX0_countAbove_2 (by decide) ?_
  refine lv_istore_n (lv' := [(2, .int (0 : Int32)), (1, .int (0 : Int32)), (0, .ref q)]) hx hb dX0_countAbove_3 rfl hl (by decide) rfl (fun ls hl => ?_)
  have J4 : ∀ (n4 : Nat) (x1_4 : Int32) (x2_4 : Int32), kX0_countAbove_4 n f n4 x1_4 x2_4 = some r → ∀ (ls : Array Slot), lv_has ls 3 [(0, .ref q), (1, .int x1_4), (2, .int x2_4)] → W p l e (rmk 0 0) s m args below meth cd s.heap [] 0 0 Q (F0 m 4 ls []) := by
    intro n4
    induction n4 with
    | zero =>
      intro x1_4 x2_4 h
      rw [kX0_countAbove_4] at h
      cases h
    | succ n4 ih4 =>
      intro x1_4 x2_4 h  ls hl
      rw [kX0_countAbove_4] at h
      refine lv_iload_n hx hb dX0_countAbove_4 rfl (lv_at hl 2 rfl) ?_
      refine lv_aload_n hx hb dX0_countAbove_5 rfl (lv_at hl 0 rfl) ?_
      refine va_get (D := G) (ci := 0) (v := .int n) (C := RX0) (T := TX0) (N := 2) hx hb hts (fun w h => wl_in (inX0 w h)) hown hK hP 0 rfl rfl 0 (by decide) (hts _ (wl_in w_23)) (fun _ h9 => h9) rfl dX0_countAbove_6 ?_
      refine lv_icmp_ge (tgt := 30) hx hb dX0_countAbove_9 (by decide) (fun c9 => ?_) (fun c9 => ?_)
      · have h := pt c9 h
        refine lv_iload_n hx hb dX0_countAbove_30 rfl (lv_at hl 1 rfl) ?_
        exact END 31 ls _ (pe h) dX0_countAbove_31
      · have h := pf c9 h
        refine lv_aload_n hx hb dX0_countAbove_12 rfl (lv_at hl 0 rfl) ?_
        refine va_get (D := G) (ci := 0) (v := .ref qc) (C := RX0) (T := TX0) (N := 2) hx hb hts (fun w h => wl_in (inX0 w h)) hown hK hP 0 rfl rfl 1 (by decide) (hts _ (wl_in w_25)) (fun _ h9 => h9) rfl dX0_countAbove_13 ?_
        refine lv_iload_n hx hb dX0_countAbove_16 rfl (lv_at hl 2 rfl) ?_
        obtain ⟨g1, h⟩ := pg h
        refine va_iald hx hb hK hP 1 0 rfl rfl g1 dX0_countAbove_17 ?_
        refine lv_if_le (tgt := 24) hx hb dX0_countAbove_18 (by decide) (fun c18 => ?_) (fun c18 => ?_)
        · have h := pt c18 h
          refine lv_iinc (v := x2_4 + (1 : Int32)) (lv' := [(2, .int (x2_4 + (1 : Int32))), (0, .ref q), (1, .int x1_4)]) hx hb dX0_countAbove_24 hl (k := 2) rfl rfl (by decide) rfl (fun ls hl => ?_)
          refine lv_goto (tgt := 4) hx hb dX0_countAbove_27 (by decide) ?_
          exact ih4 _ _ h  _ (lv_sub hl [1, 2, 0] rfl)
        · have h := pf c18 h
          refine lv_iinc (v := x1_4 + (1 : Int32)) (lv' := [(1, .int (x1_4 + (1 : Int32))), (0, .ref q), (2, .int x2_4)]) hx hb dX0_countAbove_21 hl (k := 1) rfl rfl (by decide) rfl (fun ls hl => ?_)
          refine lv_iinc (v := x2_4 + (1 : Int32)) (lv' := [(2, .int (x2_4 + (1 : Int32))), (1, .int (x1_4 + (1 : Int32))), (0, .ref q)]) hx hb dX0_countAbove_24 hl (k := 2) rfl rfl (by decide) rfl (fun ls hl => ?_)
          refine lv_goto (tgt := 4) hx hb dX0_countAbove_27 (by decide) ?_
          exact ih4 _ _ h  _ (lv_sub hl [2, 1, 0] rfl)
  exact J4 _ _ _ h  _ (lv_sub hl [2, 1, 0] rfl)

theorem syX0_signsAt : Vy yX0_signsAt cX0_signsAt 5 (some .int) 1 := ⟨w_164, ⟨w_162, w_163⟩, w_2, by decide +kernel⟩
set_option maxHeartbeats 4000000 in
set_option maxRecDepth 100000 in
theorem cnX0_signsAt (l : Launch) (A : Nat → Prop) (G : va_G) (cI cF : ClassId) (tA tT : Nat) (q qc : Nat) (n : Int32) (f : Nat → Int32) {a0 : Int32} {r : Int32} (h : fX0_signsAt n f a0 = some r) : Ro l yX0_signsAt cX0_signsAt 5 (some .int) 5 125 [.ref q, .int a0] (fB A G cI cF tA tT q qc n f) (.int r) := by
  refine ro_i (plainFor_of_name (by decide)) (Nat.le_of_ble_eq_true rfl) ?_
  intro p e s m args below meth cd Q ls hF hB hl END
  have hF : CallFix p m cd cX0_signsAt 5 s args (wl yX0_signsAt cX0_signsAt 5 (some .int)) RX0 := hF
  obtain ⟨hx, hb, hml, hown, hts⟩ := id hF
  have hl : lv_has ls 5 [(0, .ref q), (1, .int a0)] := hl
  obtain ⟨hE, hP⟩ := hB
  obtain ⟨hK, ⟨hZ, hT⟩, ⟨hZ2, hT2⟩⟩ := id hE
  have hS : va_S A s.heap s.heap [] := va_S.rf
  rw [fX0_signsAt] at h
  refine lv_iconst (v := (1 : Int32)) hx hb dX0_signsAt_0 (by decide) ?_
  refine lv_istore_n (lv' := [(2, .int (1 : Int32)), (0, .ref q), (1, .int a0)]) hx hb dX0_signsAt_1 rfl hl (by decide) rfl (fun ls hl => ?_)
  refine lv_iconst (v := (0 : Int32)) hx hb dX0_signsAt_2 (by decide) ?_
  refine lv_istore_n (lv' := [(3, .int (0 : Int32)), (2, .int (1 : Int32)), (0, .ref q), (1, .int a0)]) hx hb dX0_signsAt_3 rfl hl (by decide) rfl (fun ls hl => ?_)
  have J4 : ∀ (n4 : Nat) (x2_4 : Int32) (x3_4 : Int32), kX0_signsAt_4 n f a0 n4 x2_4 x3_4 = some r → ∀ (ls : Array Slot), lv_has ls 5 [(0, .ref q), (1, .int a0), (2, .int x2_4), (3, .int x3_4)] → W p l e (rmk 5 125) s m args below meth cd s.heap [] 0 0 Q (F0 m 4 ls []) := by
    intro n4
    induction n4 with
    | zero =>
      intro x2_4 x3_4 h
      rw [kX0_signsAt_4] at h
      cases h
    | succ n4 ih4 =>
      intro x2_4 x3_4 h  ls hl
      rw [kX0_signsAt_4] at h
      refine lv_iload_n hx hb dX0_signsAt_4 rfl (lv_at hl 3 rfl) ?_
      refine lv_aload_n hx hb dX0_signsAt_5 rfl (lv_at hl 0 rfl) ?_
      refine va_get (D := G) (ci := 0) (v := .int n) (C := RX0) (T := TX0) (N := 2) hx hb hts (fun w h => wl_in (inX0 w h)) hown hK hP 0 rfl rfl 0 (by decide) (hts _ (wl_in w_23)) (fun _ h9 => h9) rfl dX0_signsAt_6 ?_
      refine lv_icmp_ge (tgt := 60) hx hb dX0_signsAt_9 (by decide) (fun c9 => ?_) (fun c9 => ?_)
      · have h := pt c9 h
        refine lv_iload_n hx hb dX0_signsAt_60 rfl (lv_at hl 2 rfl) ?_
        exact END 61 ls _ (pe h) dX0_signsAt_61
      · have h := pf c9 h
        refine lv_iload_n hx hb dX0_signsAt_12 rfl (lv_at hl 3 rfl) ?_
        refine lv_iconst (v := (1 : Int32)) hx hb dX0_signsAt_13 (by decide) ?_
        refine lv_iadd hx hb dX0_signsAt_14 ?_
        refine lv_istore (lv' := [(4, .int (x3_4 + (1 : Int32))), (0, .ref q), (1, .int a0), (2, .int x2_4), (3, .int x3_4)]) hx hb dX0_signsAt_15 hl (by decide) rfl (fun ls hl => ?_)
        have J17 : ∀ (n17 : Nat) (x2_17 : Int32) (x4_17 : Int32), kX0_signsAt_17 n f a0 x3_4 (kX0_signsAt_4 n f a0 n4) n17 x2_17 x4_17 = some r → ∀ (ls : Array Slot), lv_has ls 5 [(0, .ref q), (1, .int a0), (3, .int x3_4), (2, .int x2_17), (4, .int x4_17)] → W p l e (rmk 5 125) s m args below meth cd s.heap [] 0 0 Q (F0 m 17 ls []) := by
          intro n17
          induction n17 with
          | zero =>
            intro x2_17 x4_17 h
            rw [kX0_signsAt_17] at h
            cases h
          | succ n17 ih17 =>
            intro x2_17 x4_17 h  ls hl
            rw [kX0_signsAt_17] at h
            refine lv_iload hx hb dX0_signsAt_17 (lv_at hl 4 rfl) ?_
            refine lv_aload_n hx hb dX0_signsAt_19 rfl (lv_at hl 0 rfl) ?_
            refine va_get (D := G) (ci := 0) (v := .int n) (C := RX0) (T := TX0) (N := 2) hx hb hts (fun w h => wl_in (inX0 w h)) hown hK hP 0 rfl rfl 0 (by decide) (hts _ (wl_in w_23)) (fun _ h9 => h9) rfl dX0_signsAt_20 ?_
            refine lv_icmp_ge (tgt := 54) hx hb dX0_signsAt_23 (by decide) (fun c23 => ?_) (fun c23 => ?_)
            · have h := pt c23 h
              refine lv_iinc (v := x3_4 + (1 : Int32)) (lv' := [(3, .int (x3_4 + (1 : Int32))), (0, .ref q), (1, .int a0), (2, .int x2_17), (4, .int x4_17)]) hx hb dX0_signsAt_54 hl (k := 2) rfl rfl (by decide) rfl (fun ls hl => ?_)
              refine lv_goto (tgt := 4) hx hb dX0_signsAt_57 (by decide) ?_
              exact ih4 _ _ h  _ (lv_sub hl [1, 2, 3, 0] rfl)
            · have h := pf c23 h
              refine lv_iload_n hx hb dX0_signsAt_26 rfl (lv_at hl 3 rfl) ?_
              refine lv_aload_n hx hb dX0_signsAt_27 rfl (lv_at hl 0 rfl) ?_
              refine va_get (D := G) (ci := 0) (v := .ref qc) (C := RX0) (T := TX0) (N := 2) hx hb hts (fun w h => wl_in (inX0 w h)) hown hK hP 0 rfl rfl 1 (by decide) (hts _ (wl_in w_25)) (fun _ h9 => h9) rfl dX0_signsAt_28 ?_
              refine lv_iload_n hx hb dX0_signsAt_31 rfl (lv_at hl 2 rfl) ?_
              obtain ⟨g1, h⟩ := pg h
              refine va_iald hx hb hK hP 1 0 rfl rfl g1 dX0_signsAt_32 ?_
              refine lv_i2l (v := (f x3_4.toNatClampNeg).toInt64) hx hb dX0_signsAt_33 rfl ?_
              refine lv_aload_n hx hb dX0_signsAt_34 rfl (lv_at hl 0 rfl) ?_
              refine va_get (D := G) (ci := 0) (v := .ref qc) (C := RX0) (T := TX0) (N := 2) hx hb hts (fun w h => wl_in (inX0 w h)) hown hK hP 0 rfl rfl 1 (by decide) (hts _ (wl_in w_25)) (fun _ h9 => h9) rfl dX0_signsAt_35 ?_
              refine lv_iload hx hb dX0_signsAt_38 (lv_at hl 4 rfl) ?_
              obtain ⟨g2, h⟩ := pg h
              refine va_iald hx hb hK hP 1 0 rfl rfl g2 dX0_signsAt_40 ?_
              refine lv_i2l (v := (f x4_17.toNatClampNeg).toInt64) hx hb dX0_signsAt_41 rfl ?_
              refine lv_iload_n hx hb dX0_signsAt_42 rfl (lv_at hl 1 rfl) ?_
              obtain ⟨r3, e4, h⟩ := pb h
              refine ro_S (As := [.long ((f x3_4.toNatClampNeg).toInt64), .long ((f x4_17.toNatClampNeg).toInt64), .int a0]) (rest := [.int x2_17]) hF (fun _ h => wl_in h) (cnX2_signAt l e4) syX2_signAt w_165 ⟨Nat.le_of_ble_eq_true rfl, Nat.le_of_ble_eq_true rfl⟩ mv0 trivial rfl hl.1 rfl (Nat.le_of_ble_eq_true rfl) dX0_signsAt_43 ⟨Nat.zero_le _, Nat.zero_le _⟩ ?_
              refine lv_imul hx hb dX0_signsAt_46 ?_
              refine lv_istore_n (lv' := [(2, .int (x2_17 * r3)), (0, .ref q), (1, .int a0), (3, .int x3_4), (4, .int x4_17)]) hx hb dX0_signsAt_47 rfl hl (by decide) rfl (fun ls hl => ?_)
              refine lv_iinc (v := x4_17 + (1 : Int32)) (lv' := [(4, .int (x4_17 + (1 : Int32))), (2, .int (x2_17 * r3)), (0, .ref q), (1, .int a0), (3, .int x3_4)]) hx hb dX0_signsAt_48 hl (k := 4) rfl rfl (by decide) rfl (fun ls hl => ?_)
              refine lv_goto (tgt := 17) hx hb dX0_signsAt_51 (by decide) ?_
              exact ih17 _ _ h  _ (lv_sub hl [2, 3, 4, 1, 0] rfl)
        exact J17 _ _ _ h  _ (lv_sub hl [1, 2, 4, 3, 0] rfl)
  exact J4 _ _ _ h  _ (lv_sub hl [2, 3, 1, 0] rfl)

theorem syX0_goesAt : Vy yX0_goesAt cX0_goesAt 3 (some .boolean) 1 := ⟨w_173, ⟨w_171, w_172⟩, w_2, by decide +kernel⟩
set_option maxHeartbeats 4000000 in
set_option maxRecDepth 100000 in
theorem cnX0_goesAt (l : Launch) (A : Nat → Prop) (G : va_G) (cI cF : ClassId) (tA tT : Nat) (q qc : Nat) (n : Int32) (f : Nat → Int32) {a0 : Int32} {r : Int32} (h : fX0_goesAt n f a0 = some r) : Ro l yX0_goesAt cX0_goesAt 3 (some .boolean) 6 149 [.ref q, .int a0] (fB A G cI cF tA tT q qc n f) (.int r) := by
  refine ro_z (plainFor_of_name (by decide)) (Nat.le_of_ble_eq_true rfl) ?_
  intro p e s m args below meth cd Q ls hF hB hl END
  have hF : CallFix p m cd cX0_goesAt 3 s args (wl yX0_goesAt cX0_goesAt 3 (some .boolean)) RX0 := hF
  obtain ⟨hx, hb, hml, hown, hts⟩ := id hF
  have hl : lv_has ls 3 [(0, .ref q), (1, .int a0)] := hl
  obtain ⟨hE, hP⟩ := hB
  obtain ⟨hK, ⟨hZ, hT⟩, ⟨hZ2, hT2⟩⟩ := id hE
  have hS : va_S A s.heap s.heap [] := va_S.rf
  rw [fX0_goesAt] at h
  refine lv_iload_n hx hb dX0_goesAt_0 rfl (lv_at hl 1 rfl) ?_
  refine lv_if_ne (tgt := 27) hx hb dX0_goesAt_1 (by decide) (fun c1 => ?_) (fun c1 => ?_)
  · have h := pf c1 h
    refine lv_aload_n hx hb dX0_goesAt_27 rfl (lv_at hl 0 rfl) ?_
    refine va_get (D := G) (ci := 0) (v := .int n) (C := RX0) (T := TX0) (N := 2) hx hb hts (fun w h => wl_in (inX0 w h)) hown hK hP 0 rfl rfl 0 (by decide) (hts _ (wl_in w_23)) (fun _ h9 => h9) rfl dX0_goesAt_28 ?_
    by_cases c31_1 : n = (1 : Int32)
    · have h := pt c31_1 h
      refine lv_tableIn (tgt := 60) hx hb dX0_goesAt_31 (by rw [c31_1]; decide) (by rw [c31_1]; decide) (by rw [c31_1]; rfl) (by decide) ?_
      refine lv_iconst (v := (0 : Int32)) hx hb dX0_goesAt_60 (by decide) ?_
      exact END 61 ls _ (pe h) (by rfl) dX0_goesAt_61
    have h := pf c31_1 h
    by_cases c31_2 : n = (2 : Int32)
    · have h := pt c31_2 h
      refine lv_tableIn (tgt := 62) hx hb dX0_goesAt_31 (by rw [c31_2]; decide) (by rw [c31_2]; decide) (by rw [c31_2]; rfl) (by decide) ?_
      refine lv_aload_n hx hb dX0_goesAt_62 rfl (lv_at hl 0 rfl) ?_
      obtain ⟨r1, e2, h⟩ := pb h
      refine ro_V (As := []) (rest := []) hF (fun _ h => wl_in h) (cnX0_product l A G cI cF tA tT q qc n f e2) syX0_product w_155 ⟨Nat.le_of_ble_eq_true rfl, Nat.le_of_ble_eq_true rfl⟩ fB_mv ⟨hE, hP⟩ (va_recv hK hP (ci := 0) (q0 := 0) rfl rfl) rfl hl.1 rfl (Nat.le_of_ble_eq_true rfl) dX0_goesAt_63 ⟨Nat.zero_le _, Nat.zero_le _⟩ ?_
      refine lv_lneg hx hb dX0_goesAt_66 ?_
      refine lv_iload_n hx hb dX0_goesAt_67 rfl (lv_at hl 1 rfl) ?_
      obtain ⟨r3, e4, h⟩ := pb h
      refine ro_S (As := [.long (-r1), .int a0]) (rest := []) hF (fun _ h => wl_in h) (cnX2_isSquareAtPrime l e4) syX2_isSquareAtPrime w_178 ⟨Nat.le_of_ble_eq_true rfl, Nat.le_of_ble_eq_true rfl⟩ mv0 trivial rfl hl.1 rfl (Nat.le_of_ble_eq_true rfl) dX0_goesAt_68 ⟨Nat.zero_le _, Nat.zero_le _⟩ ?_
      obtain ⟨g5, h⟩ := pg h
      exact END 71 ls _ (pe h) (nbool g5) dX0_goesAt_71
    have h := pf c31_2 h
    by_cases c31_3 : n = (3 : Int32)
    · have h := pt c31_3 h
      refine lv_tableIn (tgt := 72) hx hb dX0_goesAt_31 (by rw [c31_3]; decide) (by rw [c31_3]; decide) (by rw [c31_3]; rfl) (by decide) ?_
      refine lv_aload_n hx hb dX0_goesAt_72 rfl (lv_at hl 0 rfl) ?_
      refine lv_iload_n hx hb dX0_goesAt_73 rfl (lv_at hl 1 rfl) ?_
      obtain ⟨r6, e7, h⟩ := pb h
      refine ro_V (As := [.int a0]) (rest := []) hF (fun _ h => wl_in h) (cnX0_signsAt l A G cI cF tA tT q qc n f e7) syX0_signsAt w_181 ⟨Nat.le_of_ble_eq_true rfl, Nat.le_of_ble_eq_true rfl⟩ fB_mv ⟨hE, hP⟩ (va_recv hK hP (ci := 0) (q0 := 0) rfl rfl) rfl hl.1 rfl (Nat.le_of_ble_eq_true rfl) dX0_goesAt_74 ⟨Nat.zero_le _, Nat.zero_le _⟩ ?_
      refine lv_ldc2 (v := (-1 : Int64)) hx hb hown (hts _ (wl_in w_182)) dX0_goesAt_77 ?_
      refine lv_aload_n hx hb dX0_goesAt_80 rfl (lv_at hl 0 rfl) ?_
      obtain ⟨r8, e9, h⟩ := pb h
      refine ro_V (As := []) (rest := [.long (-1 : Int64), .int r6]) hF (fun _ h => wl_in h) (cnX0_product l A G cI cF tA tT q qc n f e9) syX0_product w_155 ⟨Nat.le_of_ble_eq_true rfl, Nat.le_of_ble_eq_true rfl⟩ fB_mv ⟨hE, hP⟩ (va_recv hK hP (ci := 0) (q0 := 0) rfl rfl) rfl hl.1 rfl (Nat.le_of_ble_eq_true rfl) dX0_goesAt_81 ⟨Nat.zero_le _, Nat.zero_le _⟩ ?_
      refine lv_lneg hx hb dX0_goesAt_84 ?_
      refine lv_iload_n hx hb dX0_goesAt_85 rfl (lv_at hl 1 rfl) ?_
      obtain ⟨r10, e11, h⟩ := pb h
      refine ro_S (As := [.long (-1 : Int64), .long (-r8), .int a0]) (rest := [.int r6]) hF (fun _ h => wl_in h) (cnX2_signAt l e11) syX2_signAt w_165 ⟨Nat.le_of_ble_eq_true rfl, Nat.le_of_ble_eq_true rfl⟩ mv0 trivial rfl hl.1 rfl (Nat.le_of_ble_eq_true rfl) dX0_goesAt_86 ⟨Nat.zero_le _, Nat.zero_le _⟩ ?_
      refine lv_icmp_ne (tgt := 96) hx hb dX0_goesAt_89 (by decide) (fun c89 => ?_) (fun c89 => ?_)
      · have h := pf c89 h
        refine lv_iconst (v := (0 : Int32)) hx hb dX0_goesAt_96 (by decide) ?_
        exact END 97 ls _ (pe h) (by rfl) dX0_goesAt_97
      · have h := pt c89 h
        refine lv_iconst (v := (1 : Int32)) hx hb dX0_goesAt_92 (by decide) ?_
        refine lv_goto (tgt := 97) hx hb dX0_goesAt_93 (by decide) ?_
        exact END 97 ls _ (pe h) (by rfl) dX0_goesAt_97
    have h := pf c31_3 h
    by_cases c31_4 : n = (4 : Int32)
    · have h := pt c31_4 h
      refine lv_tableIn (tgt := 98) hx hb dX0_goesAt_31 (by rw [c31_4]; decide) (by rw [c31_4]; decide) (by rw [c31_4]; rfl) (by decide) ?_
      refine lv_aload_n hx hb dX0_goesAt_98 rfl (lv_at hl 0 rfl) ?_
      obtain ⟨r12, e13, h⟩ := pb h
      refine ro_V (As := []) (rest := []) hF (fun _ h => wl_in h) (cnX0_product l A G cI cF tA tT q qc n f e13) syX0_product w_155 ⟨Nat.le_of_ble_eq_true rfl, Nat.le_of_ble_eq_true rfl⟩ fB_mv ⟨hE, hP⟩ (va_recv hK hP (ci := 0) (q0 := 0) rfl rfl) rfl hl.1 rfl (Nat.le_of_ble_eq_true rfl) dX0_goesAt_99 ⟨Nat.zero_le _, Nat.zero_le _⟩ ?_
      refine lv_iload_n hx hb dX0_goesAt_102 rfl (lv_at hl 1 rfl) ?_
      obtain ⟨r14, e15, h⟩ := pb h
      refine ro_S (As := [.long r12, .int a0]) (rest := []) hF (fun _ h => wl_in h) (cnX2_isSquareAtPrime l e15) syX2_isSquareAtPrime w_178 ⟨Nat.le_of_ble_eq_true rfl, Nat.le_of_ble_eq_true rfl⟩ mv0 trivial rfl hl.1 rfl (Nat.le_of_ble_eq_true rfl) dX0_goesAt_103 ⟨Nat.zero_le _, Nat.zero_le _⟩ ?_
      refine lv_if_eq (tgt := 127) hx hb dX0_goesAt_106 (by decide) (fun c106 => ?_) (fun c106 => ?_)
      · have h := pt c106 h
        refine lv_iconst (v := (1 : Int32)) hx hb dX0_goesAt_127 (by decide) ?_
        refine lv_goto (tgt := 132) hx hb dX0_goesAt_128 (by decide) ?_
        exact END 132 ls _ (pe h) (by rfl) dX0_goesAt_132
      · have h := pf c106 h
        refine lv_aload_n hx hb dX0_goesAt_109 rfl (lv_at hl 0 rfl) ?_
        refine lv_iload_n hx hb dX0_goesAt_110 rfl (lv_at hl 1 rfl) ?_
        obtain ⟨r16, e17, h⟩ := pb h
        refine ro_V (As := [.int a0]) (rest := []) hF (fun _ h => wl_in h) (cnX0_signsAt l A G cI cF tA tT q qc n f e17) syX0_signsAt w_181 ⟨Nat.le_of_ble_eq_true rfl, Nat.le_of_ble_eq_true rfl⟩ fB_mv ⟨hE, hP⟩ (va_recv hK hP (ci := 0) (q0 := 0) rfl rfl) rfl hl.1 rfl (Nat.le_of_ble_eq_true rfl) dX0_goesAt_111 ⟨Nat.zero_le _, Nat.zero_le _⟩ ?_
        refine lv_ldc2 (v := (-1 : Int64)) hx hb hown (hts _ (wl_in w_182)) dX0_goesAt_114 ?_
        refine lv_ldc2 (v := (-1 : Int64)) hx hb hown (hts _ (wl_in w_182)) dX0_goesAt_117 ?_
        refine lv_iload_n hx hb dX0_goesAt_120 rfl (lv_at hl 1 rfl) ?_
        obtain ⟨r18, e19, h⟩ := pb h
        refine ro_S (As := [.long (-1 : Int64), .long (-1 : Int64), .int a0]) (rest := [.int r16]) hF (fun _ h => wl_in h) (cnX2_signAt l e19) syX2_signAt w_165 ⟨Nat.le_of_ble_eq_true rfl, Nat.le_of_ble_eq_true rfl⟩ mv0 trivial rfl hl.1 rfl (Nat.le_of_ble_eq_true rfl) dX0_goesAt_121 ⟨Nat.zero_le _, Nat.zero_le _⟩ ?_
        refine lv_icmp_ne (tgt := 131) hx hb dX0_goesAt_124 (by decide) (fun c124 => ?_) (fun c124 => ?_)
        · have h := pf c124 h
          refine lv_iconst (v := (0 : Int32)) hx hb dX0_goesAt_131 (by decide) ?_
          exact END 132 ls _ (pe h) (by rfl) dX0_goesAt_132
        · have h := pt c124 h
          refine lv_iconst (v := (1 : Int32)) hx hb dX0_goesAt_127 (by decide) ?_
          refine lv_goto (tgt := 132) hx hb dX0_goesAt_128 (by decide) ?_
          exact END 132 ls _ (pe h) (by rfl) dX0_goesAt_132
    have h := pf c31_4 h
    refine lv_tableOut (tgt := 133) hx hb dX0_goesAt_31 (by have q1 := sw_ne c31_1; have q2 := sw_ne c31_2; have q3 := sw_ne c31_3; have q4 := sw_ne c31_4; simp only [show ((1 : Int32)).toInt = 1 from rfl, show ((2 : Int32)).toInt = 2 from rfl, show ((3 : Int32)).toInt = 3 from rfl, show ((4 : Int32)).toInt = 4 from rfl] at *; omega) (by decide) ?_
    refine lv_iconst (v := (1 : Int32)) hx hb dX0_goesAt_133 (by decide) ?_
    exact END 134 ls _ (pe h) (by rfl) dX0_goesAt_134
  · have h := pt c1 h
    refine lv_aload_n hx hb dX0_goesAt_4 rfl (lv_at hl 0 rfl) ?_
    obtain ⟨r20, e21, h⟩ := pb h
    refine ro_V (As := []) (rest := []) hF (fun _ h => wl_in h) (cnX0_countAbove l A G cI cF tA tT q qc n f e21) syX0_countAbove w_174 ⟨Nat.le_of_ble_eq_true rfl, Nat.le_of_ble_eq_true rfl⟩ fB_mv ⟨hE, hP⟩ (va_recv hK hP (ci := 0) (q0 := 0) rfl rfl) rfl hl.1 rfl (Nat.le_of_ble_eq_true rfl) dX0_goesAt_5 ⟨Nat.zero_le _, Nat.zero_le _⟩ ?_
    refine lv_istore_n (lv' := [(2, .int r20), (0, .ref q), (1, .int a0)]) hx hb dX0_goesAt_8 rfl hl (by decide) rfl (fun ls hl => ?_)
    refine lv_iload_n hx hb dX0_goesAt_9 rfl (lv_at hl 0 rfl) ?_
    refine lv_if_le (tgt := 25) hx hb dX0_goesAt_10 (by decide) (fun c10 => ?_) (fun c10 => ?_)
    · have h := pt c10 h
      refine lv_iconst (v := (0 : Int32)) hx hb dX0_goesAt_25 (by decide) ?_
      exact END 26 ls _ (pe h) (by rfl) dX0_goesAt_26
    · have h := pf c10 h
      refine lv_iload_n hx hb dX0_goesAt_13 rfl (lv_at hl 0 rfl) ?_
      refine lv_aload_n hx hb dX0_goesAt_14 rfl (lv_at hl 1 rfl) ?_
      refine va_get (D := G) (ci := 0) (v := .int n) (C := RX0) (T := TX0) (N := 2) hx hb hts (fun w h => wl_in (inX0 w h)) hown hK hP 0 rfl rfl 0 (by decide) (hts _ (wl_in w_23)) (fun _ h9 => h9) rfl dX0_goesAt_15 ?_
      refine lv_icmp_ge (tgt := 25) hx hb dX0_goesAt_18 (by decide) (fun c18 => ?_) (fun c18 => ?_)
      · have h := pt c18 h
        refine lv_iconst (v := (0 : Int32)) hx hb dX0_goesAt_25 (by decide) ?_
        exact END 26 ls _ (pe h) (by rfl) dX0_goesAt_26
      · have h := pf c18 h
        refine lv_iconst (v := (1 : Int32)) hx hb dX0_goesAt_21 (by decide) ?_
        refine lv_goto (tgt := 26) hx hb dX0_goesAt_22 (by decide) ?_
        exact END 26 ls _ (pe h) (by rfl) dX0_goesAt_26

theorem syX0_mayBar : Vy yX0_mayBar cX0_mayBar 3 (some .boolean) 1 := ⟨w_194, ⟨w_193, w_s0⟩, w_2, by decide +kernel⟩
set_option maxHeartbeats 4000000 in
set_option maxRecDepth 100000 in
theorem cnX0_mayBar (l : Launch) (A : Nat → Prop) (G : va_G) (cI cF : ClassId) (tA tT : Nat) (q qc : Nat) (n : Int32) (f : Nat → Int32) {a0 : Int32} {r : Int32} (h : fX0_mayBar n f a0 = some r) : Ro l yX0_mayBar cX0_mayBar 3 (some .boolean) 0 0 [.ref q, .int a0] (fB A G cI cF tA tT q qc n f) (.int r) := by
  refine ro_z (plainFor_of_name (by decide)) (Nat.le_of_ble_eq_true rfl) ?_
  intro p e s m args below meth cd Q ls hF hB hl END
  have hF : CallFix p m cd cX0_mayBar 3 s args (wl yX0_mayBar cX0_mayBar 3 (some .boolean)) RX0 := hF
  obtain ⟨hx, hb, hml, hown, hts⟩ := id hF
  have hl : lv_has ls 3 [(0, .ref q), (1, .int a0)] := hl
  obtain ⟨hE, hP⟩ := hB
  obtain ⟨hK, ⟨hZ, hT⟩, ⟨hZ2, hT2⟩⟩ := id hE
  have hS : va_S A s.heap s.heap [] := va_S.rf
  rw [fX0_mayBar] at h
  refine lv_iload_n hx hb dX0_mayBar_0 rfl (lv_at hl 1 rfl) ?_
  refine lv_if_eq (tgt := 9) hx hb dX0_mayBar_1 (by decide) (fun c1 => ?_) (fun c1 => ?_)
  · have h := pt c1 h
    refine lv_iconst (v := (1 : Int32)) hx hb dX0_mayBar_9 (by decide) ?_
    exact END 10 ls _ (pe h) (by rfl) dX0_mayBar_10
  · have h := pf c1 h
    refine lv_iload_n hx hb dX0_mayBar_4 rfl (lv_at hl 1 rfl) ?_
    refine lv_iconst (v := (2 : Int32)) hx hb dX0_mayBar_5 (by decide) ?_
    refine lv_icmp_ne (tgt := 11) hx hb dX0_mayBar_6 (by decide) (fun c6 => ?_) (fun c6 => ?_)
    · have h := pf c6 h
      refine lv_iconst (v := (0 : Int32)) hx hb dX0_mayBar_11 (by decide) ?_
      refine lv_istore_n (lv' := [(2, .int (0 : Int32)), (0, .ref q), (1, .int a0)]) hx hb dX0_mayBar_12 rfl hl (by decide) rfl (fun ls hl => ?_)
      have J13 : ∀ (n13 : Nat) (x2_13 : Int32), kX0_mayBar_13 n f a0 n13 x2_13 = some r → ∀ (ls : Array Slot), lv_has ls 3 [(0, .ref q), (1, .int a0), (2, .int x2_13)] → W p l e (rmk 0 0) s m args below meth cd s.heap [] 0 0 Q (F0 m 13 ls []) := by
        intro n13
        induction n13 with
        | zero =>
          intro x2_13 h
          rw [kX0_mayBar_13] at h
          cases h
        | succ n13 ih13 =>
          intro x2_13 h  ls hl
          rw [kX0_mayBar_13] at h
          refine lv_iload_n hx hb dX0_mayBar_13 rfl (lv_at hl 2 rfl) ?_
          refine lv_aload_n hx hb dX0_mayBar_14 rfl (lv_at hl 0 rfl) ?_
          refine va_get (D := G) (ci := 0) (v := .int n) (C := RX0) (T := TX0) (N := 2) hx hb hts (fun w h => wl_in (inX0 w h)) hown hK hP 0 rfl rfl 0 (by decide) (hts _ (wl_in w_23)) (fun _ h9 => h9) rfl dX0_mayBar_15 ?_
          refine lv_icmp_ge (tgt := 40) hx hb dX0_mayBar_18 (by decide) (fun c18 => ?_) (fun c18 => ?_)
          · have h := pt c18 h
            refine lv_iconst (v := (0 : Int32)) hx hb dX0_mayBar_40 (by decide) ?_
            exact END 41 ls _ (pe h) (by rfl) dX0_mayBar_41
          · have h := pf c18 h
            refine lv_aload_n hx hb dX0_mayBar_21 rfl (lv_at hl 0 rfl) ?_
            refine va_get (D := G) (ci := 0) (v := .ref qc) (C := RX0) (T := TX0) (N := 2) hx hb hts (fun w h => wl_in (inX0 w h)) hown hK hP 0 rfl rfl 1 (by decide) (hts _ (wl_in w_25)) (fun _ h9 => h9) rfl dX0_mayBar_22 ?_
            refine lv_iload_n hx hb dX0_mayBar_25 rfl (lv_at hl 2 rfl) ?_
            obtain ⟨g1, h⟩ := pg h
            refine va_iald hx hb hK hP 1 0 rfl rfl g1 dX0_mayBar_26 ?_
            refine lv_iload_n hx hb dX0_mayBar_27 rfl (lv_at hl 1 rfl) ?_
            obtain ⟨g2, h⟩ := pg h
            refine lq_irem hx hb dX0_mayBar_28 g2 ?_
            refine lv_if_ne (tgt := 34) hx hb dX0_mayBar_29 (by decide) (fun c29 => ?_) (fun c29 => ?_)
            · have h := pf c29 h
              refine lv_iinc (v := x2_13 + (1 : Int32)) (lv' := [(2, .int (x2_13 + (1 : Int32))), (0, .ref q), (1, .int a0)]) hx hb dX0_mayBar_34 hl (k := 2) rfl rfl (by decide) rfl (fun ls hl => ?_)
              refine lv_goto (tgt := 13) hx hb dX0_mayBar_37 (by decide) ?_
              exact ih13 _ h  _ (lv_sub hl [1, 2, 0] rfl)
            · have h := pt c29 h
              refine lv_iconst (v := (1 : Int32)) hx hb dX0_mayBar_32 (by decide) ?_
              exact END 33 ls _ (pe h) (by rfl) dX0_mayBar_33
      exact J13 _ _ h  _ (lv_sub hl [1, 2, 0] rfl)
    · have h := pt c6 h
      refine lv_iconst (v := (1 : Int32)) hx hb dX0_mayBar_9 (by decide) ?_
      exact END 10 ls _ (pe h) (by rfl) dX0_mayBar_10

theorem syX0_countBars : Vy yX0_countBars cX0_countBars 6 (some .int) 0 := ⟨w_190, ⟨w_188, w_189⟩, w_2, by decide +kernel⟩
set_option maxHeartbeats 4000000 in
set_option maxRecDepth 100000 in
theorem cnX0_countBars (l : Launch) (A : Nat → Prop) (G : va_G) (cI cF : ClassId) (tA tT : Nat) (q qc : Nat) (n : Int32) (f : Nat → Int32) {r : Int32} (h : fX0_countBars n f = some r) : Ro l yX0_countBars cX0_countBars 6 (some .int) 7 171 [.ref q] (fB A G cI cF tA tT q qc n f) (.int r) := by
  refine ro_i (plainFor_of_name (by decide)) (Nat.le_of_ble_eq_true rfl) ?_
  intro p e s m args below meth cd Q ls hF hB hl END
  have hF : CallFix p m cd cX0_countBars 6 s args (wl yX0_countBars cX0_countBars 6 (some .int)) RX0 := hF
  obtain ⟨hx, hb, hml, hown, hts⟩ := id hF
  have hl : lv_has ls 6 [(0, .ref q)] := hl
  obtain ⟨hE, hP⟩ := hB
  obtain ⟨hK, ⟨hZ, hT⟩, ⟨hZ2, hT2⟩⟩ := id hE
  have hS : va_S A s.heap s.heap [] := va_S.rf
  rw [fX0_countBars] at h
  refine lv_iconst (v := (0 : Int32)) hx hb dX0_countBars_0 (by decide) ?_
  refine lv_istore_n (lv' := [(1, .int (0 : Int32)), (0, .ref q)]) hx hb dX0_countBars_1 rfl hl (by decide) rfl (fun ls hl => ?_)
  refine va_gets hx hb hZ hS hown (hts _ (wl_in w_156)) (fun _ h9 => h9) dX0_countBars_2 ?_
  refine lv_astore_n (lv' := [(2, .ref tA), (1, .int (0 : Int32)), (0, .ref q)]) hx hb dX0_countBars_5 rfl hl (by decide) rfl (fun ls hl => ?_)
  refine lv_aload_n hx hb dX0_countBars_6 rfl (lv_at hl 0 rfl) ?_
  refine va_tlen (v := (79 : Int32)) hx hb hT hS rfl dX0_countBars_7 ?_
  refine lv_istore_n (lv' := [(3, .int (79 : Int32)), (2, .ref tA), (1, .int (0 : Int32)), (0, .ref q)]) hx hb dX0_countBars_8 rfl hl (by decide) rfl (fun ls hl => ?_)
  refine lv_iconst (v := (0 : Int32)) hx hb dX0_countBars_9 (by decide) ?_
  refine lv_istore (lv' := [(4, .int (0 : Int32)), (3, .int (79 : Int32)), (2, .ref tA), (1, .int (0 : Int32)), (0, .ref q)]) hx hb dX0_countBars_10 hl (by decide) rfl (fun ls hl => ?_)
  have J12 : ∀ (n12 : Nat) (x1_12 : Int32) (x4_12 : Int32), kX0_countBars_12 n f n12 x1_12 x4_12 = some r → ∀ (ls : Array Slot), lv_has ls 6 [(3, .int (79 : Int32)), (2, .ref tA), (0, .ref q), (1, .int x1_12), (4, .int x4_12)] → W p l e (rmk 7 171) s m args below meth cd s.heap [] 0 0 Q (F0 m 12 ls []) := by
    intro n12
    induction n12 with
    | zero =>
      intro x1_12 x4_12 h
      rw [kX0_countBars_12] at h
      cases h
    | succ n12 ih12 =>
      intro x1_12 x4_12 h  ls hl
      rw [kX0_countBars_12] at h
      refine lv_iload hx hb dX0_countBars_12 (lv_at hl 4 rfl) ?_
      refine lv_iload_n hx hb dX0_countBars_14 rfl (lv_at hl 0 rfl) ?_
      refine lv_icmp_ge (tgt := 51) hx hb dX0_countBars_15 (by decide) (fun c15 => ?_) (fun c15 => ?_)
      · have h := pt c15 h
        refine lv_iload_n hx hb dX0_countBars_51 rfl (lv_at hl 3 rfl) ?_
        exact END 52 ls _ (pe h) dX0_countBars_52
      · have h := pf c15 h
        refine lv_aload_n hx hb dX0_countBars_18 rfl (lv_at hl 1 rfl) ?_
        refine lv_iload hx hb dX0_countBars_19 (lv_at hl 4 rfl) ?_
        obtain ⟨g1, h⟩ := pg h
        refine va_ti (v := .int (allv x4_12.toNatClampNeg)) hx hb hT hS g1 rfl dX0_countBars_21 ?_
        refine lv_istore (lv' := [(5, .int (allv x4_12.toNatClampNeg)), (3, .int (79 : Int32)), (2, .ref tA), (0, .ref q), (1, .int x1_12), (4, .int x4_12)]) hx hb dX0_countBars_22 hl (by decide) rfl (fun ls hl => ?_)
        refine lv_aload_n hx hb dX0_countBars_24 rfl (lv_at hl 3 rfl) ?_
        refine lv_iload hx hb dX0_countBars_25 (lv_at hl 0 rfl) ?_
        obtain ⟨r2, e3, h⟩ := pb h
        refine ro_V (As := [.int (allv x4_12.toNatClampNeg)]) (rest := []) hF (fun _ h => wl_in h) (cnX0_mayBar l A G cI cF tA tT q qc n f e3) syX0_mayBar w_191 ⟨Nat.le_of_ble_eq_true rfl, Nat.le_of_ble_eq_true rfl⟩ fB_mv ⟨hE, hP⟩ (va_recv hK hP (ci := 0) (q0 := 0) rfl rfl) rfl hl.1 rfl (Nat.le_of_ble_eq_true rfl) dX0_countBars_27 ⟨Nat.zero_le _, Nat.zero_le _⟩ ?_
        refine lv_if_eq (tgt := 45) hx hb dX0_countBars_30 (by decide) (fun c30 => ?_) (fun c30 => ?_)
        · have h := pt c30 h
          refine lv_iinc (v := x4_12 + (1 : Int32)) (lv' := [(4, .int (x4_12 + (1 : Int32))), (5, .int (allv x4_12.toNatClampNeg)), (3, .int (79 : Int32)), (2, .ref tA), (0, .ref q), (1, .int x1_12)]) hx hb dX0_countBars_45 hl (k := 5) rfl rfl (by decide) rfl (fun ls hl => ?_)
          refine lv_goto (tgt := 12) hx hb dX0_countBars_48 (by decide) ?_
          exact ih12 _ _ h  _ (lv_sub hl [2, 3, 4, 5, 0] rfl)
        · have h := pf c30 h
          refine lv_aload_n hx hb dX0_countBars_33 rfl (lv_at hl 3 rfl) ?_
          refine lv_iload hx hb dX0_countBars_34 (lv_at hl 0 rfl) ?_
          obtain ⟨r4, e5, h⟩ := pb h
          refine ro_V (As := [.int (allv x4_12.toNatClampNeg)]) (rest := []) hF (fun _ h => wl_in h) (cnX0_goesAt l A G cI cF tA tT q qc n f e5) syX0_goesAt w_195 ⟨Nat.le_of_ble_eq_true rfl, Nat.le_of_ble_eq_true rfl⟩ fB_mv ⟨hE, hP⟩ (va_recv hK hP (ci := 0) (q0 := 0) rfl rfl) rfl hl.1 rfl (Nat.le_of_ble_eq_true rfl) dX0_countBars_36 ⟨Nat.zero_le _, Nat.zero_le _⟩ ?_
          refine lv_if_ne (tgt := 45) hx hb dX0_countBars_39 (by decide) (fun c39 => ?_) (fun c39 => ?_)
          · have h := pf c39 h
            refine lv_iinc (v := x4_12 + (1 : Int32)) (lv' := [(4, .int (x4_12 + (1 : Int32))), (5, .int (allv x4_12.toNatClampNeg)), (3, .int (79 : Int32)), (2, .ref tA), (0, .ref q), (1, .int x1_12)]) hx hb dX0_countBars_45 hl (k := 5) rfl rfl (by decide) rfl (fun ls hl => ?_)
            refine lv_goto (tgt := 12) hx hb dX0_countBars_48 (by decide) ?_
            exact ih12 _ _ h  _ (lv_sub hl [2, 3, 4, 5, 0] rfl)
          · have h := pt c39 h
            refine lv_iinc (v := x1_12 + (1 : Int32)) (lv' := [(1, .int (x1_12 + (1 : Int32))), (5, .int (allv x4_12.toNatClampNeg)), (3, .int (79 : Int32)), (2, .ref tA), (0, .ref q), (4, .int x4_12)]) hx hb dX0_countBars_42 hl (k := 4) rfl rfl (by decide) rfl (fun ls hl => ?_)
            refine lv_iinc (v := x4_12 + (1 : Int32)) (lv' := [(4, .int (x4_12 + (1 : Int32))), (1, .int (x1_12 + (1 : Int32))), (5, .int (allv x4_12.toNatClampNeg)), (3, .int (79 : Int32)), (2, .ref tA), (0, .ref q)]) hx hb dX0_countBars_45 hl (k := 5) rfl rfl (by decide) rfl (fun ls hl => ?_)
            refine lv_goto (tgt := 12) hx hb dX0_countBars_48 (by decide) ?_
            exact ih12 _ _ h  _ (lv_sub hl [3, 4, 5, 1, 0] rfl)
  exact J12 _ _ _ h  _ (lv_sub hl [1, 2, 4, 3, 0] rfl)

theorem syX0_findBar : Vy yX0_findBar cX0_findBar 7 (some .int) 1 := ⟨w_207, ⟨w_205, w_206⟩, w_2, by decide +kernel⟩
set_option maxHeartbeats 4000000 in
set_option maxRecDepth 100000 in
theorem cnX0_findBar (l : Launch) (A : Nat → Prop) (G : va_G) (cI cF : ClassId) (tA tT : Nat) (q qc : Nat) (n : Int32) (f : Nat → Int32) {a0 : Int32} {r : Int32} (h : fX0_findBar n f a0 = some r) : Ro l yX0_findBar cX0_findBar 7 (some .int) 7 171 [.ref q, .int a0] (fB A G cI cF tA tT q qc n f) (.int r) := by
  refine ro_i (plainFor_of_name (by decide)) (Nat.le_of_ble_eq_true rfl) ?_
  intro p e s m args below meth cd Q ls hF hB hl END
  have hF : CallFix p m cd cX0_findBar 7 s args (wl yX0_findBar cX0_findBar 7 (some .int)) RX0 := hF
  obtain ⟨hx, hb, hml, hown, hts⟩ := id hF
  have hl : lv_has ls 7 [(0, .ref q), (1, .int a0)] := hl
  obtain ⟨hE, hP⟩ := hB
  obtain ⟨hK, ⟨hZ, hT⟩, ⟨hZ2, hT2⟩⟩ := id hE
  have hS : va_S A s.heap s.heap [] := va_S.rf
  rw [fX0_findBar] at h
  refine lv_iconst (v := (0 : Int32)) hx hb dX0_findBar_0 (by decide) ?_
  refine lv_istore_n (lv' := [(2, .int (0 : Int32)), (0, .ref q), (1, .int a0)]) hx hb dX0_findBar_1 rfl hl (by decide) rfl (fun ls hl => ?_)
  refine va_gets hx hb hZ hS hown (hts _ (wl_in w_156)) (fun _ h9 => h9) dX0_findBar_2 ?_
  refine lv_astore_n (lv' := [(3, .ref tA), (2, .int (0 : Int32)), (0, .ref q), (1, .int a0)]) hx hb dX0_findBar_5 rfl hl (by decide) rfl (fun ls hl => ?_)
  refine lv_aload_n hx hb dX0_findBar_6 rfl (lv_at hl 0 rfl) ?_
  refine va_tlen (v := (79 : Int32)) hx hb hT hS rfl dX0_findBar_7 ?_
  refine lv_istore (lv' := [(4, .int (79 : Int32)), (3, .ref tA), (2, .int (0 : Int32)), (0, .ref q), (1, .int a0)]) hx hb dX0_findBar_8 hl (by decide) rfl (fun ls hl => ?_)
  refine lv_iconst (v := (0 : Int32)) hx hb dX0_findBar_10 (by decide) ?_
  refine lv_istore (lv' := [(5, .int (0 : Int32)), (4, .int (79 : Int32)), (3, .ref tA), (2, .int (0 : Int32)), (0, .ref q), (1, .int a0)]) hx hb dX0_findBar_11 hl (by decide) rfl (fun ls hl => ?_)
  have J13 : ∀ (n13 : Nat) (x2_13 : Int32) (x5_13 : Int32), kX0_findBar_13 n f a0 n13 x2_13 x5_13 = some r → ∀ (ls : Array Slot), lv_has ls 7 [(4, .int (79 : Int32)), (3, .ref tA), (0, .ref q), (1, .int a0), (2, .int x2_13), (5, .int x5_13)] → W p l e (rmk 7 171) s m args below meth cd s.heap [] 0 0 Q (F0 m 13 ls []) := by
    intro n13
    induction n13 with
    | zero =>
      intro x2_13 x5_13 h
      rw [kX0_findBar_13] at h
      cases h
    | succ n13 ih13 =>
      intro x2_13 x5_13 h  ls hl
      rw [kX0_findBar_13] at h
      refine lv_iload hx hb dX0_findBar_13 (lv_at hl 5 rfl) ?_
      refine lv_iload hx hb dX0_findBar_15 (lv_at hl 0 rfl) ?_
      refine lv_icmp_ge (tgt := 61) hx hb dX0_findBar_17 (by decide) (fun c17 => ?_) (fun c17 => ?_)
      · have h := pt c17 h
        refine lv_iconst (v := (-1 : Int32)) hx hb dX0_findBar_61 (by decide) ?_
        exact END 62 ls _ (pe h) dX0_findBar_62
      · have h := pf c17 h
        refine lv_aload_n hx hb dX0_findBar_20 rfl (lv_at hl 1 rfl) ?_
        refine lv_iload hx hb dX0_findBar_21 (lv_at hl 5 rfl) ?_
        obtain ⟨g1, h⟩ := pg h
        refine va_ti (v := .int (allv x5_13.toNatClampNeg)) hx hb hT hS g1 rfl dX0_findBar_23 ?_
        refine lv_istore (lv' := [(6, .int (allv x5_13.toNatClampNeg)), (4, .int (79 : Int32)), (3, .ref tA), (0, .ref q), (1, .int a0), (2, .int x2_13), (5, .int x5_13)]) hx hb dX0_findBar_24 hl (by decide) rfl (fun ls hl => ?_)
        refine lv_aload_n hx hb dX0_findBar_26 rfl (lv_at hl 3 rfl) ?_
        refine lv_iload hx hb dX0_findBar_27 (lv_at hl 0 rfl) ?_
        obtain ⟨r2, e3, h⟩ := pb h
        refine ro_V (As := [.int (allv x5_13.toNatClampNeg)]) (rest := []) hF (fun _ h => wl_in h) (cnX0_mayBar l A G cI cF tA tT q qc n f e3) syX0_mayBar w_191 ⟨Nat.le_of_ble_eq_true rfl, Nat.le_of_ble_eq_true rfl⟩ fB_mv ⟨hE, hP⟩ (va_recv hK hP (ci := 0) (q0 := 0) rfl rfl) rfl hl.1 rfl (Nat.le_of_ble_eq_true rfl) dX0_findBar_29 ⟨Nat.zero_le _, Nat.zero_le _⟩ ?_
        refine lv_if_eq (tgt := 55) hx hb dX0_findBar_32 (by decide) (fun c32 => ?_) (fun c32 => ?_)
        · have h := pt c32 h
          refine lv_iinc (v := x5_13 + (1 : Int32)) (lv' := [(5, .int (x5_13 + (1 : Int32))), (6, .int (allv x5_13.toNatClampNeg)), (4, .int (79 : Int32)), (3, .ref tA), (0, .ref q), (1, .int a0), (2, .int x2_13)]) hx hb dX0_findBar_55 hl (k := 6) rfl rfl (by decide) rfl (fun ls hl => ?_)
          refine lv_goto (tgt := 13) hx hb dX0_findBar_58 (by decide) ?_
          exact ih13 _ _ h  _ (lv_sub hl [2, 3, 4, 5, 6, 0] rfl)
        · have h := pf c32 h
          refine lv_aload_n hx hb dX0_findBar_35 rfl (lv_at hl 3 rfl) ?_
          refine lv_iload hx hb dX0_findBar_36 (lv_at hl 0 rfl) ?_
          obtain ⟨r4, e5, h⟩ := pb h
          refine ro_V (As := [.int (allv x5_13.toNatClampNeg)]) (rest := []) hF (fun _ h => wl_in h) (cnX0_goesAt l A G cI cF tA tT q qc n f e5) syX0_goesAt w_195 ⟨Nat.le_of_ble_eq_true rfl, Nat.le_of_ble_eq_true rfl⟩ fB_mv ⟨hE, hP⟩ (va_recv hK hP (ci := 0) (q0 := 0) rfl rfl) rfl hl.1 rfl (Nat.le_of_ble_eq_true rfl) dX0_findBar_38 ⟨Nat.zero_le _, Nat.zero_le _⟩ ?_
          refine lv_if_ne (tgt := 55) hx hb dX0_findBar_41 (by decide) (fun c41 => ?_) (fun c41 => ?_)
          · have h := pf c41 h
            refine lv_iinc (v := x5_13 + (1 : Int32)) (lv' := [(5, .int (x5_13 + (1 : Int32))), (6, .int (allv x5_13.toNatClampNeg)), (4, .int (79 : Int32)), (3, .ref tA), (0, .ref q), (1, .int a0), (2, .int x2_13)]) hx hb dX0_findBar_55 hl (k := 6) rfl rfl (by decide) rfl (fun ls hl => ?_)
            refine lv_goto (tgt := 13) hx hb dX0_findBar_58 (by decide) ?_
            exact ih13 _ _ h  _ (lv_sub hl [2, 3, 4, 5, 6, 0] rfl)
          · have h := pt c41 h
            refine lv_iload_n hx hb dX0_findBar_44 rfl (lv_at hl 5 rfl) ?_
            refine lv_iload_n hx hb dX0_findBar_45 rfl (lv_at hl 4 rfl) ?_
            refine lv_icmp_ne (tgt := 52) hx hb dX0_findBar_46 (by decide) (fun c46 => ?_) (fun c46 => ?_)
            · have h := pf c46 h
              refine lv_iinc (v := x2_13 + (1 : Int32)) (lv' := [(2, .int (x2_13 + (1 : Int32))), (6, .int (allv x5_13.toNatClampNeg)), (4, .int (79 : Int32)), (3, .ref tA), (0, .ref q), (1, .int a0), (5, .int x5_13)]) hx hb dX0_findBar_52 hl (k := 5) rfl rfl (by decide) rfl (fun ls hl => ?_)
              refine lv_iinc (v := x5_13 + (1 : Int32)) (lv' := [(5, .int (x5_13 + (1 : Int32))), (2, .int (x2_13 + (1 : Int32))), (6, .int (allv x5_13.toNatClampNeg)), (4, .int (79 : Int32)), (3, .ref tA), (0, .ref q), (1, .int a0)]) hx hb dX0_findBar_55 hl (k := 6) rfl rfl (by decide) rfl (fun ls hl => ?_)
              refine lv_goto (tgt := 13) hx hb dX0_findBar_58 (by decide) ?_
              exact ih13 _ _ h  _ (lv_sub hl [3, 4, 5, 6, 1, 0] rfl)
            · have h := pt c46 h
              refine lv_iload hx hb dX0_findBar_49 (lv_at hl 0 rfl) ?_
              exact END 51 ls _ (pe h) dX0_findBar_51
  exact J13 _ _ _ h  _ (lv_sub hl [1, 2, 4, 5, 3, 0] rfl)

theorem syX0_pairing : Vy yX0_pairing cX0_pairing 7 (some .long) 6 := ⟨w_236, ⟨w_234, w_235⟩, w_2, by decide +kernel⟩
set_option maxHeartbeats 4000000 in
set_option maxRecDepth 100000 in
theorem cnX0_pairing (l : Launch) (A : Nat → Prop) (G : va_G) (cI cF : ClassId) (tA tT : Nat) (q qc : Nat) (n : Int32) (f : Nat → Int32) {a0 : Int32} {a1 : Int32} {a2 : Int32} {a3 : Int32} {a4 : Int32} {a5 : Int32} {r : Int64} (h : fX0_pairing n f a0 a1 a2 a3 a4 a5 = some r) : Ro l yX0_pairing cX0_pairing 7 (some .long) 0 0 [.ref q, .int a0, .int a1, .int a2, .int a3, .int a4, .int a5] (fB A G cI cF tA tT q qc n f) (.long r) := by
  refine ro_l (plainFor_of_name (by decide)) (Nat.le_of_ble_eq_true rfl) ?_
  intro p e s m args below meth cd Q ls hF hB hl END
  have hF : CallFix p m cd cX0_pairing 7 s args (wl yX0_pairing cX0_pairing 7 (some .long)) RX0 := hF
  obtain ⟨hx, hb, hml, hown, hts⟩ := id hF
  have hl : lv_has ls 7 [(0, .ref q), (1, .int a0), (2, .int a1), (3, .int a2), (4, .int a3), (5, .int a4), (6, .int a5)] := hl
  obtain ⟨hE, hP⟩ := hB
  obtain ⟨hK, ⟨hZ, hT⟩, ⟨hZ2, hT2⟩⟩ := id hE
  have hS : va_S A s.heap s.heap [] := va_S.rf
  rw [fX0_pairing] at h
  refine lv_aload_n hx hb dX0_pairing_0 rfl (lv_at hl 0 rfl) ?_
  refine va_get (D := G) (ci := 0) (v := .ref qc) (C := RX0) (T := TX0) (N := 2) hx hb hts (fun w h => wl_in (inX0 w h)) hown hK hP 0 rfl rfl 1 (by decide) (hts _ (wl_in w_25)) (fun _ h9 => h9) rfl dX0_pairing_1 ?_
  refine lv_iconst (v := (0 : Int32)) hx hb dX0_pairing_4 (by decide) ?_
  refine va_iald hx hb hK hP 1 0 rfl rfl (by unfold vp_in; decide) dX0_pairing_5 ?_
  refine lv_i2l (v := (f (0 : Int32).toNatClampNeg).toInt64) hx hb dX0_pairing_6 rfl ?_
  refine lv_iload_n hx hb dX0_pairing_7 rfl (lv_at hl 1 rfl) ?_
  refine lv_i2l (v := a0.toInt64) hx hb dX0_pairing_8 rfl ?_
  refine lv_lmul hx hb dX0_pairing_9 ?_
  refine lv_iload hx hb dX0_pairing_10 (lv_at hl 4 rfl) ?_
  refine lv_i2l (v := a3.toInt64) hx hb dX0_pairing_12 rfl ?_
  refine lv_lmul hx hb dX0_pairing_13 ?_
  refine lv_aload_n hx hb dX0_pairing_14 rfl (lv_at hl 0 rfl) ?_
  refine va_get (D := G) (ci := 0) (v := .ref qc) (C := RX0) (T := TX0) (N := 2) hx hb hts (fun w h => wl_in (inX0 w h)) hown hK hP 0 rfl rfl 1 (by decide) (hts _ (wl_in w_25)) (fun _ h9 => h9) rfl dX0_pairing_15 ?_
  refine lv_iconst (v := (1 : Int32)) hx hb dX0_pairing_18 (by decide) ?_
  refine va_iald hx hb hK hP 1 0 rfl rfl (by unfold vp_in; decide) dX0_pairing_19 ?_
  refine lv_i2l (v := (f (1 : Int32).toNatClampNeg).toInt64) hx hb dX0_pairing_20 rfl ?_
  refine lv_iload_n hx hb dX0_pairing_21 rfl (lv_at hl 2 rfl) ?_
  refine lv_i2l (v := a1.toInt64) hx hb dX0_pairing_22 rfl ?_
  refine lv_lmul hx hb dX0_pairing_23 ?_
  refine lv_iload hx hb dX0_pairing_24 (lv_at hl 5 rfl) ?_
  refine lv_i2l (v := a4.toInt64) hx hb dX0_pairing_26 rfl ?_
  refine lv_lmul hx hb dX0_pairing_27 ?_
  refine lv_ladd hx hb dX0_pairing_28 ?_
  refine lv_aload_n hx hb dX0_pairing_29 rfl (lv_at hl 0 rfl) ?_
  refine va_get (D := G) (ci := 0) (v := .ref qc) (C := RX0) (T := TX0) (N := 2) hx hb hts (fun w h => wl_in (inX0 w h)) hown hK hP 0 rfl rfl 1 (by decide) (hts _ (wl_in w_25)) (fun _ h9 => h9) rfl dX0_pairing_30 ?_
  refine lv_iconst (v := (2 : Int32)) hx hb dX0_pairing_33 (by decide) ?_
  refine va_iald hx hb hK hP 1 0 rfl rfl (by unfold vp_in; decide) dX0_pairing_34 ?_
  refine lv_i2l (v := (f (2 : Int32).toNatClampNeg).toInt64) hx hb dX0_pairing_35 rfl ?_
  refine lv_iload_n hx hb dX0_pairing_36 rfl (lv_at hl 3 rfl) ?_
  refine lv_i2l (v := a2.toInt64) hx hb dX0_pairing_37 rfl ?_
  refine lv_lmul hx hb dX0_pairing_38 ?_
  refine lv_iload hx hb dX0_pairing_39 (lv_at hl 6 rfl) ?_
  refine lv_i2l (v := a5.toInt64) hx hb dX0_pairing_41 rfl ?_
  refine lv_lmul hx hb dX0_pairing_42 ?_
  refine lv_ladd hx hb dX0_pairing_43 ?_
  exact END 44 ls _ (pe h) dX0_pairing_44

theorem syX0_thirdFor : Vy yX0_thirdFor cX0_thirdFor 7 (some .int) 2 := ⟨w_272, ⟨w_270, w_271⟩, w_2, by decide +kernel⟩
set_option maxHeartbeats 4000000 in
set_option maxRecDepth 100000 in
theorem cnX0_thirdFor (l : Launch) (A : Nat → Prop) (G : va_G) (cI cF : ClassId) (tA tT : Nat) (q qc : Nat) (n : Int32) (f : Nat → Int32) {a0 : Int32} {a1 : Int32} {r : Int32} (h : fX0_thirdFor n f a0 a1 = some r) : Ro l yX0_thirdFor cX0_thirdFor 7 (some .int) 0 0 [.ref q, .int a0, .int a1] (fB A G cI cF tA tT q qc n f) (.int r) := by
  refine ro_i (plainFor_of_name (by decide)) (Nat.le_of_ble_eq_true rfl) ?_
  intro p e s m args below meth cd Q ls hF hB hl END
  have hF : CallFix p m cd cX0_thirdFor 7 s args (wl yX0_thirdFor cX0_thirdFor 7 (some .int)) RX0 := hF
  obtain ⟨hx, hb, hml, hown, hts⟩ := id hF
  have hl : lv_has ls 7 [(0, .ref q), (1, .int a0), (2, .int a1)] := hl
  obtain ⟨hE, hP⟩ := hB
  obtain ⟨hK, ⟨hZ, hT⟩, ⟨hZ2, hT2⟩⟩ := id hE
  have hS : va_S A s.heap s.heap [] := va_S.rf
  rw [fX0_thirdFor] at h
  refine lv_aload_n hx hb dX0_thirdFor_0 rfl (lv_at hl 0 rfl) ?_
  refine va_get (D := G) (ci := 0) (v := .ref qc) (C := RX0) (T := TX0) (N := 2) hx hb hts (fun w h => wl_in (inX0 w h)) hown hK hP 0 rfl rfl 1 (by decide) (hts _ (wl_in w_25)) (fun _ h9 => h9) rfl dX0_thirdFor_1 ?_
  refine lv_iconst (v := (2 : Int32)) hx hb dX0_thirdFor_4 (by decide) ?_
  refine va_iald hx hb hK hP 1 0 rfl rfl (by unfold vp_in; decide) dX0_thirdFor_5 ?_
  refine lv_istore_n (lv' := [(3, .int (f (2 : Int32).toNatClampNeg)), (0, .ref q), (1, .int a0), (2, .int a1)]) hx hb dX0_thirdFor_6 rfl hl (by decide) rfl (fun ls hl => ?_)
  refine lv_aload_n hx hb dX0_thirdFor_7 rfl (lv_at hl 1 rfl) ?_
  refine va_get (D := G) (ci := 0) (v := .ref qc) (C := RX0) (T := TX0) (N := 2) hx hb hts (fun w h => wl_in (inX0 w h)) hown hK hP 0 rfl rfl 1 (by decide) (hts _ (wl_in w_25)) (fun _ h9 => h9) rfl dX0_thirdFor_8 ?_
  refine lv_iconst (v := (0 : Int32)) hx hb dX0_thirdFor_11 (by decide) ?_
  refine va_iald hx hb hK hP 1 0 rfl rfl (by unfold vp_in; decide) dX0_thirdFor_12 ?_
  refine lv_iload_n hx hb dX0_thirdFor_13 rfl (lv_at hl 2 rfl) ?_
  refine lv_imul hx hb dX0_thirdFor_14 ?_
  refine lv_iload_n hx hb dX0_thirdFor_15 rfl (lv_at hl 2 rfl) ?_
  refine lv_imul hx hb dX0_thirdFor_16 ?_
  refine lv_aload_n hx hb dX0_thirdFor_17 rfl (lv_at hl 1 rfl) ?_
  refine va_get (D := G) (ci := 0) (v := .ref qc) (C := RX0) (T := TX0) (N := 2) hx hb hts (fun w h => wl_in (inX0 w h)) hown hK hP 0 rfl rfl 1 (by decide) (hts _ (wl_in w_25)) (fun _ h9 => h9) rfl dX0_thirdFor_18 ?_
  refine lv_iconst (v := (1 : Int32)) hx hb dX0_thirdFor_21 (by decide) ?_
  refine va_iald hx hb hK hP 1 0 rfl rfl (by unfold vp_in; decide) dX0_thirdFor_22 ?_
  refine lv_iload_n hx hb dX0_thirdFor_23 rfl (lv_at hl 3 rfl) ?_
  refine lv_imul hx hb dX0_thirdFor_24 ?_
  refine lv_iload_n hx hb dX0_thirdFor_25 rfl (lv_at hl 3 rfl) ?_
  refine lv_imul hx hb dX0_thirdFor_26 ?_
  refine lv_iadd hx hb dX0_thirdFor_27 ?_
  refine lv_ineg hx hb dX0_thirdFor_28 ?_
  refine lv_istore (lv' := [(4, .int (-((((f (0 : Int32).toNatClampNeg) * a0) * a0) + (((f (1 : Int32).toNatClampNeg) * a1) * a1)))), (3, .int (f (2 : Int32).toNatClampNeg)), (0, .ref q), (1, .int a0), (2, .int a1)]) hx hb dX0_thirdFor_29 hl (by decide) rfl (fun ls hl => ?_)
  refine lv_iload_n hx hb dX0_thirdFor_31 rfl (lv_at hl 1 rfl) ?_
  refine lv_if_eq (tgt := 42) hx hb dX0_thirdFor_32 (by decide) (fun c32 => ?_) (fun c32 => ?_)
  · have h := pt c32 h
    refine lv_iconst (v := (-1 : Int32)) hx hb dX0_thirdFor_42 (by decide) ?_
    exact END 43 ls _ (pe h) dX0_thirdFor_43
  · have h := pf c32 h
    refine lv_iload hx hb dX0_thirdFor_35 (lv_at hl 0 rfl) ?_
    refine lv_iload_n hx hb dX0_thirdFor_37 rfl (lv_at hl 1 rfl) ?_
    obtain ⟨g1, h⟩ := pg h
    refine lq_irem hx hb dX0_thirdFor_38 g1 ?_
    refine lv_if_eq (tgt := 44) hx hb dX0_thirdFor_39 (by decide) (fun c39 => ?_) (fun c39 => ?_)
    · have h := pt c39 h
      refine lv_iload hx hb dX0_thirdFor_44 (lv_at hl 0 rfl) ?_
      refine lv_iload_n hx hb dX0_thirdFor_46 rfl (lv_at hl 1 rfl) ?_
      obtain ⟨g2, h⟩ := pg h
      refine lv_idiv hx hb dX0_thirdFor_47 g2 ?_
      refine lv_istore (lv' := [(5, .int ((-((((f (0 : Int32).toNatClampNeg) * a0) * a0) + (((f (1 : Int32).toNatClampNeg) * a1) * a1))) / (f (2 : Int32).toNatClampNeg))), (4, .int (-((((f (0 : Int32).toNatClampNeg) * a0) * a0) + (((f (1 : Int32).toNatClampNeg) * a1) * a1)))), (3, .int (f (2 : Int32).toNatClampNeg)), (0, .ref q), (1, .int a0), (2, .int a1)]) hx hb dX0_thirdFor_48 hl (by decide) rfl (fun ls hl => ?_)
      refine lv_iload hx hb dX0_thirdFor_50 (lv_at hl 0 rfl) ?_
      refine lv_if_lt (tgt := 63) hx hb dX0_thirdFor_52 (by decide) (fun c52 => ?_) (fun c52 => ?_)
      · have h := pt c52 h
        refine lv_iconst (v := (-1 : Int32)) hx hb dX0_thirdFor_63 (by decide) ?_
        exact END 64 ls _ (pe h) dX0_thirdFor_64
      · have h := pf c52 h
        refine lv_iload hx hb dX0_thirdFor_55 (lv_at hl 0 rfl) ?_
        refine lv_sipush (v := (900 : Int32)) hx hb dX0_thirdFor_57 (by decide) ?_
        refine lv_icmp_le (tgt := 65) hx hb dX0_thirdFor_60 (by decide) (fun c60 => ?_) (fun c60 => ?_)
        · have h := pt c60 h
          refine lv_iconst (v := (0 : Int32)) hx hb dX0_thirdFor_65 (by decide) ?_
          refine lv_istore (lv' := [(6, .int (0 : Int32)), (5, .int ((-((((f (0 : Int32).toNatClampNeg) * a0) * a0) + (((f (1 : Int32).toNatClampNeg) * a1) * a1))) / (f (2 : Int32).toNatClampNeg))), (4, .int (-((((f (0 : Int32).toNatClampNeg) * a0) * a0) + (((f (1 : Int32).toNatClampNeg) * a1) * a1)))), (3, .int (f (2 : Int32).toNatClampNeg)), (0, .ref q), (1, .int a0), (2, .int a1)]) hx hb dX0_thirdFor_66 hl (by decide) rfl (fun ls hl => ?_)
          have J68 : ∀ (n68 : Nat) (x6_68 : Int32), kX0_thirdFor_68 f a0 a1 n68 x6_68 = some r → ∀ (ls : Array Slot), lv_has ls 7 [(5, .int ((-((((f (0 : Int32).toNatClampNeg) * a0) * a0) + (((f (1 : Int32).toNatClampNeg) * a1) * a1))) / (f (2 : Int32).toNatClampNeg))), (6, .int x6_68)] → W p l e (rmk 0 0) s m args below meth cd s.heap [] 0 0 Q (F0 m 68 ls []) := by
            intro n68
            induction n68 with
            | zero =>
              intro x6_68 h
              rw [kX0_thirdFor_68] at h
              cases h
            | succ n68 ih68 =>
              intro x6_68 h  ls hl
              rw [kX0_thirdFor_68] at h
              refine lv_iload hx hb dX0_thirdFor_68 (lv_at hl 1 rfl) ?_
              refine lv_bipush (v := (30 : Int32)) hx hb dX0_thirdFor_70 (by decide) ?_
              refine lv_icmp_gt (tgt := 94) hx hb dX0_thirdFor_72 (by decide) (fun c72 => ?_) (fun c72 => ?_)
              · have h := pt c72 h
                refine lv_iconst (v := (-1 : Int32)) hx hb dX0_thirdFor_94 (by decide) ?_
                exact END 95 ls _ (pe h) dX0_thirdFor_95
              · have h := pf c72 h
                refine lv_iload hx hb dX0_thirdFor_75 (lv_at hl 1 rfl) ?_
                refine lv_iload hx hb dX0_thirdFor_77 (lv_at hl 1 rfl) ?_
                refine lv_imul hx hb dX0_thirdFor_79 ?_
                refine lv_iload hx hb dX0_thirdFor_80 (lv_at hl 0 rfl) ?_
                refine lv_icmp_ne (tgt := 88) hx hb dX0_thirdFor_82 (by decide) (fun c82 => ?_) (fun c82 => ?_)
                · have h := pf c82 h
                  refine lv_iinc (v := x6_68 + (1 : Int32)) (lv' := [(6, .int (x6_68 + (1 : Int32))), (5, .int ((-((((f (0 : Int32).toNatClampNeg) * a0) * a0) + (((f (1 : Int32).toNatClampNeg) * a1) * a1))) / (f (2 : Int32).toNatClampNeg)))]) hx hb dX0_thirdFor_88 hl (k := 1) rfl rfl (by decide) rfl (fun ls hl => ?_)
                  refine lv_goto (tgt := 68) hx hb dX0_thirdFor_91 (by decide) ?_
                  exact ih68 _ h  _ (lv_sub hl [1, 0] rfl)
                · have h := pt c82 h
                  refine lv_iload hx hb dX0_thirdFor_85 (lv_at hl 1 rfl) ?_
                  exact END 87 ls _ (pe h) dX0_thirdFor_87
          exact J68 _ _ h  _ (lv_sub hl [1, 0] rfl)
        · have h := pf c60 h
          refine lv_iconst (v := (-1 : Int32)) hx hb dX0_thirdFor_63 (by decide) ?_
          exact END 64 ls _ (pe h) dX0_thirdFor_64
    · have h := pf c39 h
      refine lv_iconst (v := (-1 : Int32)) hx hb dX0_thirdFor_42 (by decide) ?_
      exact END 43 ls _ (pe h) dX0_thirdFor_43
end
section
def kX0_isAlike_81 (n : Int32) (f : Nat → Int32) (n2 : Int32) (f2 : Nat → Int32) (x4_46 : Int32) (K46 : Int32 → Option (Int32)) : Option (Int32) :=
    (fX0_signsAt n f (allv x4_46.toNatClampNeg)).bind fun (r12 : Int32) =>
    (fX0_signsAt n2 f2 (allv x4_46.toNatClampNeg)).bind fun (r14 : Int32) =>
    (if r12 = r14 then K46 (x4_46 + (1 : Int32)) else
    some (0 : Int32))
def kX0_isAlike_46 (n : Int32) (f : Nat → Int32) (n2 : Int32) (f2 : Nat → Int32) : Nat → Int32 → Option (Int32)
  | 0, _ => none
  | fu + 1, x4_46 =>
    (if (79 : Int32) ≤ x4_46 then some (1 : Int32) else
    (if ¬ (x4_46 < 0 ∨ 79 ≤ x4_46.toNatClampNeg) then (if (allv x4_46.toNatClampNeg) = 0 then (kX0_isAlike_46 n f n2 f2 fu) (x4_46 + (1 : Int32)) else
    (fX0_mayBar n f (allv x4_46.toNatClampNeg)).bind fun (r10 : Int32) =>
    (if r10 = 0 then (fX0_mayBar n2 f2 (allv x4_46.toNatClampNeg)).bind fun (r16 : Int32) =>
    (if r16 = 0 then (kX0_isAlike_46 n f n2 f2 fu) (x4_46 + (1 : Int32)) else
    kX0_isAlike_81 n f n2 f2 x4_46 (kX0_isAlike_46 n f n2 f2 fu)) else
    kX0_isAlike_81 n f n2 f2 x4_46 (kX0_isAlike_46 n f n2 f2 fu))) else none))
def fX0_isAlike (n : Int32) (f : Nat → Int32) (n2 : Int32) (f2 : Nat → Int32) : Option (Int32) :=
    (if n = n2 then (fX0_countAbove n f).bind fun (r1 : Int32) =>
    (fX0_countAbove n2 f2).bind fun (r3 : Int32) =>
    (if r1 = r3 then (fX0_freeProduct n f).bind fun (r5 : Int64) =>
    (fX0_freeProduct n2 f2).bind fun (r7 : Int64) =>
    (if (lg_cmp r5 r7) = 0 then kX0_isAlike_46 n f n2 f2 1100 (0 : Int32) else
    some (0 : Int32)) else
    some (0 : Int32)) else
    some (0 : Int32))
theorem syX0_isAlike : Vy yX0_isAlike cX0_isAlike 6 (some .boolean) 1 := ⟨w_223, ⟨w_221, w_222⟩, w_2, by decide +kernel⟩
set_option maxHeartbeats 4000000 in
set_option maxRecDepth 100000 in
theorem cnX0_isAlike (l : Launch) (A : Nat → Prop) (G : va_G) (cI cF : ClassId) (tA tT : Nat) (q qc : Nat) (n : Int32) (f : Nat → Int32) (q2 qc2 : Nat) (n2 : Int32) (f2 : Nat → Int32) {r : Int32} (h : fX0_isAlike n f n2 f2 = some r) : Ro l yX0_isAlike cX0_isAlike 6 (some .boolean) 6 149 [.ref q, .ref q2] (f2B A G cI cF tA tT q qc n f q2 qc2 n2 f2) (.int r) := by
  refine ro_z (plainFor_of_name (by decide)) (Nat.le_of_ble_eq_true rfl) ?_
  intro p e s m args below meth cd Q ls hF hB hl END
  have hF : CallFix p m cd cX0_isAlike 6 s args (wl yX0_isAlike cX0_isAlike 6 (some .boolean)) RX0 := hF
  obtain ⟨hx, hb, hml, hown, hts⟩ := id hF
  have hl : lv_has ls 6 [(0, .ref q), (1, .ref q2)] := hl
  obtain ⟨hE, hP, hP2⟩ := hB
  obtain ⟨hK, ⟨hZ, hT⟩, ⟨hZ2, hT2⟩⟩ := id hE
  have hS : va_S A s.heap s.heap [] := va_S.rf
  rw [fX0_isAlike] at h
  refine lv_aload_n hx hb dX0_isAlike_0 rfl (lv_at hl 0 rfl) ?_
  refine va_get (D := G) (ci := 0) (v := .int n) (C := RX0) (T := TX0) (N := 2) hx hb hts (fun w h => wl_in (inX0 w h)) hown hK hP 0 rfl rfl 0 (by decide) (hts _ (wl_in w_23)) (fun _ h9 => h9) rfl dX0_isAlike_1 ?_
  refine lv_aload_n hx hb dX0_isAlike_4 rfl (lv_at hl 1 rfl) ?_
  refine va_get (D := G) (ci := 0) (v := .int n2) (C := RX0) (T := TX0) (N := 2) hx hb hts (fun w h => wl_in (inX0 w h)) hown hK hP2 0 rfl rfl 0 (by decide) (hts _ (wl_in w_23)) (fun _ h9 => h9) rfl dX0_isAlike_5 ?_
  refine lv_icmp_ne (tgt := 34) hx hb dX0_isAlike_8 (by decide) (fun c8 => ?_) (fun c8 => ?_)
  · have h := pf c8 h
    refine lv_iconst (v := (0 : Int32)) hx hb dX0_isAlike_34 (by decide) ?_
    exact END 35 ls _ (pe h) (by rfl) dX0_isAlike_35
  · have h := pt c8 h
    refine lv_aload_n hx hb dX0_isAlike_11 rfl (lv_at hl 0 rfl) ?_
    obtain ⟨r1, e2, h⟩ := pb h
    refine ro_V (As := []) (rest := []) hF (fun _ h => wl_in h) (cnX0_countAbove l A G cI cF tA tT q qc n f e2) syX0_countAbove w_174 ⟨Nat.le_of_ble_eq_true rfl, Nat.le_of_ble_eq_true rfl⟩ fB_mv ⟨hE, hP⟩ (va_recv hK hP (ci := 0) (q0 := 0) rfl rfl) rfl hl.1 rfl (Nat.le_of_ble_eq_true rfl) dX0_isAlike_12 ⟨Nat.zero_le _, Nat.zero_le _⟩ ?_
    refine lv_aload_n hx hb dX0_isAlike_15 rfl (lv_at hl 1 rfl) ?_
    obtain ⟨r3, e4, h⟩ := pb h
    refine ro_V (As := []) (rest := [.int r1]) hF (fun _ h => wl_in h) (cnX0_countAbove l A G cI cF tA tT q2 qc2 n2 f2 e4) syX0_countAbove w_174 ⟨Nat.le_of_ble_eq_true rfl, Nat.le_of_ble_eq_true rfl⟩ fB_mv ⟨hE, hP2⟩ (va_recv hK hP2 (ci := 0) (q0 := 0) rfl rfl) rfl hl.1 rfl (Nat.le_of_ble_eq_true rfl) dX0_isAlike_16 ⟨Nat.zero_le _, Nat.zero_le _⟩ ?_
    refine lv_icmp_ne (tgt := 34) hx hb dX0_isAlike_19 (by decide) (fun c19 => ?_) (fun c19 => ?_)
    · have h := pf c19 h
      refine lv_iconst (v := (0 : Int32)) hx hb dX0_isAlike_34 (by decide) ?_
      exact END 35 ls _ (pe h) (by rfl) dX0_isAlike_35
    · have h := pt c19 h
      refine lv_aload_n hx hb dX0_isAlike_22 rfl (lv_at hl 0 rfl) ?_
      obtain ⟨r5, e6, h⟩ := pb h
      refine ro_V (As := []) (rest := []) hF (fun _ h => wl_in h) (cnX0_freeProduct l A G cI cF tA tT q qc n f e6) syX0_freeProduct w_224 ⟨Nat.le_of_ble_eq_true rfl, Nat.le_of_ble_eq_true rfl⟩ fB_mv ⟨hE, hP⟩ (va_recv hK hP (ci := 0) (q0 := 0) rfl rfl) rfl hl.1 rfl (Nat.le_of_ble_eq_true rfl) dX0_isAlike_23 ⟨Nat.zero_le _, Nat.zero_le _⟩ ?_
      refine lv_aload_n hx hb dX0_isAlike_26 rfl (lv_at hl 1 rfl) ?_
      obtain ⟨r7, e8, h⟩ := pb h
      refine ro_V (As := []) (rest := [.long r5]) hF (fun _ h => wl_in h) (cnX0_freeProduct l A G cI cF tA tT q2 qc2 n2 f2 e8) syX0_freeProduct w_224 ⟨Nat.le_of_ble_eq_true rfl, Nat.le_of_ble_eq_true rfl⟩ fB_mv ⟨hE, hP2⟩ (va_recv hK hP2 (ci := 0) (q0 := 0) rfl rfl) rfl hl.1 rfl (Nat.le_of_ble_eq_true rfl) dX0_isAlike_27 ⟨Nat.zero_le _, Nat.zero_le _⟩ ?_
      refine W.lcmp hx hb dX0_isAlike_30 ?_
      refine lv_if_eq (tgt := 36) hx hb dX0_isAlike_31 (by decide) (fun c31 => ?_) (fun c31 => ?_)
      · have h := pt c31 h
        refine va_gets hx hb hZ hS hown (hts _ (wl_in w_156)) (fun _ h9 => h9) dX0_isAlike_36 ?_
        refine lv_astore_n (lv' := [(2, .ref tA), (0, .ref q), (1, .ref q2)]) hx hb dX0_isAlike_39 rfl hl (by decide) rfl (fun ls hl => ?_)
        refine lv_aload_n hx hb dX0_isAlike_40 rfl (lv_at hl 0 rfl) ?_
        refine va_tlen (v := (79 : Int32)) hx hb hT hS rfl dX0_isAlike_41 ?_
        refine lv_istore_n (lv' := [(3, .int (79 : Int32)), (2, .ref tA), (0, .ref q), (1, .ref q2)]) hx hb dX0_isAlike_42 rfl hl (by decide) rfl (fun ls hl => ?_)
        refine lv_iconst (v := (0 : Int32)) hx hb dX0_isAlike_43 (by decide) ?_
        refine lv_istore (lv' := [(4, .int (0 : Int32)), (3, .int (79 : Int32)), (2, .ref tA), (0, .ref q), (1, .ref q2)]) hx hb dX0_isAlike_44 hl (by decide) rfl (fun ls hl => ?_)
        have J46 : ∀ (n46 : Nat) (x4_46 : Int32), kX0_isAlike_46 n f n2 f2 n46 x4_46 = some r → ∀ (ls : Array Slot), lv_has ls 6 [(3, .int (79 : Int32)), (2, .ref tA), (0, .ref q), (1, .ref q2), (4, .int x4_46)] → W p l e (rmk 6 149) s m args below meth cd s.heap [] 0 0 Q (F0 m 46 ls []) := by
          intro n46
          induction n46 with
          | zero =>
            intro x4_46 h
            rw [kX0_isAlike_46] at h
            cases h
          | succ n46 ih46 =>
            intro x4_46 h  ls hl
            rw [kX0_isAlike_46] at h
            refine lv_iload hx hb dX0_isAlike_46 (lv_at hl 4 rfl) ?_
            refine lv_iload_n hx hb dX0_isAlike_48 rfl (lv_at hl 0 rfl) ?_
            refine lv_icmp_ge (tgt := 104) hx hb dX0_isAlike_49 (by decide) (fun c49 => ?_) (fun c49 => ?_)
            · have h := pt c49 h
              refine lv_iconst (v := (1 : Int32)) hx hb dX0_isAlike_104 (by decide) ?_
              exact END 105 ls _ (pe h) (by rfl) dX0_isAlike_105
            · have h := pf c49 h
              refine lv_aload_n hx hb dX0_isAlike_52 rfl (lv_at hl 1 rfl) ?_
              refine lv_iload hx hb dX0_isAlike_53 (lv_at hl 4 rfl) ?_
              obtain ⟨g9, h⟩ := pg h
              refine va_ti (v := .int (allv x4_46.toNatClampNeg)) hx hb hT hS g9 rfl dX0_isAlike_55 ?_
              refine lv_istore (lv' := [(5, .int (allv x4_46.toNatClampNeg)), (3, .int (79 : Int32)), (2, .ref tA), (0, .ref q), (1, .ref q2), (4, .int x4_46)]) hx hb dX0_isAlike_56 hl (by decide) rfl (fun ls hl => ?_)
              refine lv_iload hx hb dX0_isAlike_58 (lv_at hl 0 rfl) ?_
              refine lv_if_eq (tgt := 98) hx hb dX0_isAlike_60 (by decide) (fun c60 => ?_) (fun c60 => ?_)
              · have h := pt c60 h
                refine lv_iinc (v := x4_46 + (1 : Int32)) (lv' := [(4, .int (x4_46 + (1 : Int32))), (5, .int (allv x4_46.toNatClampNeg)), (3, .int (79 : Int32)), (2, .ref tA), (0, .ref q), (1, .ref q2)]) hx hb dX0_isAlike_98 hl (k := 5) rfl rfl (by decide) rfl (fun ls hl => ?_)
                refine lv_goto (tgt := 46) hx hb dX0_isAlike_101 (by decide) ?_
                exact ih46 _ h  _ (lv_sub hl [2, 3, 4, 5, 0] rfl)
              · have h := pf c60 h
                refine lv_aload_n hx hb dX0_isAlike_63 rfl (lv_at hl 3 rfl) ?_
                refine lv_iload hx hb dX0_isAlike_64 (lv_at hl 0 rfl) ?_
                obtain ⟨r10, e11, h⟩ := pb h
                refine ro_V (As := [.int (allv x4_46.toNatClampNeg)]) (rest := []) hF (fun _ h => wl_in h) (cnX0_mayBar l A G cI cF tA tT q qc n f e11) syX0_mayBar w_191 ⟨Nat.le_of_ble_eq_true rfl, Nat.le_of_ble_eq_true rfl⟩ fB_mv ⟨hE, hP⟩ (va_recv hK hP (ci := 0) (q0 := 0) rfl rfl) rfl hl.1 rfl (Nat.le_of_ble_eq_true rfl) dX0_isAlike_66 ⟨Nat.zero_le _, Nat.zero_le _⟩ ?_
                have J81 : kX0_isAlike_81 n f n2 f2 x4_46 (kX0_isAlike_46 n f n2 f2 n46) = some r → ∀ (ls : Array Slot), lv_has ls 6 [(5, .int (allv x4_46.toNatClampNeg)), (3, .int (79 : Int32)), (2, .ref tA), (0, .ref q), (1, .ref q2), (4, .int x4_46)] → W p l e (rmk 6 149) s m args below meth cd s.heap [] 0 0 Q (F0 m 81 ls []) := by
                  intro h  ls hl
                  rw [kX0_isAlike_81] at h
                  refine lv_aload_n hx hb dX0_isAlike_81 rfl (lv_at hl 3 rfl) ?_
                  refine lv_iload hx hb dX0_isAlike_82 (lv_at hl 0 rfl) ?_
                  obtain ⟨r12, e13, h⟩ := pb h
                  refine ro_V (As := [.int (allv x4_46.toNatClampNeg)]) (rest := []) hF (fun _ h => wl_in h) (cnX0_signsAt l A G cI cF tA tT q qc n f e13) syX0_signsAt w_181 ⟨Nat.le_of_ble_eq_true rfl, Nat.le_of_ble_eq_true rfl⟩ fB_mv ⟨hE, hP⟩ (va_recv hK hP (ci := 0) (q0 := 0) rfl rfl) rfl hl.1 rfl (Nat.le_of_ble_eq_true rfl) dX0_isAlike_84 ⟨Nat.zero_le _, Nat.zero_le _⟩ ?_
                  refine lv_aload_n hx hb dX0_isAlike_87 rfl (lv_at hl 4 rfl) ?_
                  refine lv_iload hx hb dX0_isAlike_88 (lv_at hl 0 rfl) ?_
                  obtain ⟨r14, e15, h⟩ := pb h
                  refine ro_V (As := [.int (allv x4_46.toNatClampNeg)]) (rest := [.int r12]) hF (fun _ h => wl_in h) (cnX0_signsAt l A G cI cF tA tT q2 qc2 n2 f2 e15) syX0_signsAt w_181 ⟨Nat.le_of_ble_eq_true rfl, Nat.le_of_ble_eq_true rfl⟩ fB_mv ⟨hE, hP2⟩ (va_recv hK hP2 (ci := 0) (q0 := 0) rfl rfl) rfl hl.1 rfl (Nat.le_of_ble_eq_true rfl) dX0_isAlike_90 ⟨Nat.zero_le _, Nat.zero_le _⟩ ?_
                  refine lv_icmp_eq (tgt := 98) hx hb dX0_isAlike_93 (by decide) (fun c93 => ?_) (fun c93 => ?_)
                  · have h := pt c93 h
                    refine lv_iinc (v := x4_46 + (1 : Int32)) (lv' := [(4, .int (x4_46 + (1 : Int32))), (5, .int (allv x4_46.toNatClampNeg)), (3, .int (79 : Int32)), (2, .ref tA), (0, .ref q), (1, .ref q2)]) hx hb dX0_isAlike_98 hl (k := 5) rfl rfl (by decide) rfl (fun ls hl => ?_)
                    refine lv_goto (tgt := 46) hx hb dX0_isAlike_101 (by decide) ?_
                    exact ih46 _ h  _ (lv_sub hl [2, 3, 4, 5, 0] rfl)
                  · have h := pf c93 h
                    refine lv_iconst (v := (0 : Int32)) hx hb dX0_isAlike_96 (by decide) ?_
                    exact END 97 ls _ (pe h) (by rfl) dX0_isAlike_97
                refine lv_if_ne (tgt := 81) hx hb dX0_isAlike_69 (by decide) (fun c69 => ?_) (fun c69 => ?_)
                · have h := pf c69 h
                  exact J81 h  _ hl
                · have h := pt c69 h
                  refine lv_aload_n hx hb dX0_isAlike_72 rfl (lv_at hl 4 rfl) ?_
                  refine lv_iload hx hb dX0_isAlike_73 (lv_at hl 0 rfl) ?_
                  obtain ⟨r16, e17, h⟩ := pb h
                  refine ro_V (As := [.int (allv x4_46.toNatClampNeg)]) (rest := []) hF (fun _ h => wl_in h) (cnX0_mayBar l A G cI cF tA tT q2 qc2 n2 f2 e17) syX0_mayBar w_191 ⟨Nat.le_of_ble_eq_true rfl, Nat.le_of_ble_eq_true rfl⟩ fB_mv ⟨hE, hP2⟩ (va_recv hK hP2 (ci := 0) (q0 := 0) rfl rfl) rfl hl.1 rfl (Nat.le_of_ble_eq_true rfl) dX0_isAlike_75 ⟨Nat.zero_le _, Nat.zero_le _⟩ ?_
                  refine lv_if_eq (tgt := 98) hx hb dX0_isAlike_78 (by decide) (fun c78 => ?_) (fun c78 => ?_)
                  · have h := pt c78 h
                    refine lv_iinc (v := x4_46 + (1 : Int32)) (lv' := [(4, .int (x4_46 + (1 : Int32))), (5, .int (allv x4_46.toNatClampNeg)), (3, .int (79 : Int32)), (2, .ref tA), (0, .ref q), (1, .ref q2)]) hx hb dX0_isAlike_98 hl (k := 5) rfl rfl (by decide) rfl (fun ls hl => ?_)
                    refine lv_goto (tgt := 46) hx hb dX0_isAlike_101 (by decide) ?_
                    exact ih46 _ h  _ (lv_sub hl [2, 3, 4, 5, 0] rfl)
                  · have h := pf c78 h
                    exact J81 h  _ hl
        exact J46 _ _ h  _ (lv_sub hl [1, 2, 3, 4, 0] rfl)
      · have h := pf c31 h
        refine lv_iconst (v := (0 : Int32)) hx hb dX0_isAlike_34 (by decide) ?_
        exact END 35 ls _ (pe h) (by rfl) dX0_isAlike_35
end
section
/-! methods of the class that write -/
def MvP (B : State → Heap → Prop) : Prop := ∀ (u U : State) (H : Heap), u.WarmedH U.vm → B u H → B U H
theorem Mv.p {B : State → Heap → Prop} (h : Mv B) : MvP B := fun u U H hw => h u U H hw.alike
section BASE2
variable {p : Program} {l : Launch} {e : Env} {R : Room} {s : State} {m : MethodId} {args : Array Value} {below : List Frame} {meth : Method} {cd : Code} {H : Heap} {locs : List Loc} {cells slots : Nat} {Q : State → Prop}
variable {y : MethodName} {bytes cc : ByteArray} {maxL nL k index fr lo pc : Nat} {rt : Option FieldType} {Ts : List Cond} {own : String} {As rest st0 : List Value} {B B' : State → Heap → Prop} {v : Value} {ls : Array Slot} {b : Nat} {A A0 : Nat → Prop} {H0 : Heap} {ov : Option Value}
theorem pre_Vp {C : String} (hmv : MvP B) (hB : B s H) (hc : ∃ cellB : Cell, H[b]? = some cellB ∧ cellB.vm.isStatics = false ∧ s.vm.findClass C = some cellB.cls) : PreV s H C b (fun a U => a = (Value.ref b :: As).toArray ∧ B U U.heap) As :=
  ⟨fun a U g mk q => ⟨q.1, hmv U (U.calling g mk a) U.heap (State.WarmedH.refl U) q.2⟩, hc, fun U hU hW => ⟨rfl, hmv s U U.heap hW (by rw [hU]; exact hB)⟩⟩
theorem mu_Vp (S : CallFix p m cd cc nL s args Ts own) (hTs : ∀ w ∈ tb, w ∈ Ts) (hM : Mu l y bytes maxL rt fr lo (.ref b :: As) A B B' ov) (hy : Vy y bytes maxL rt k) (hl : Cond.methodLink own index y ∈ tb)
    (hR : fr + 1 ≤ R.frames ∧ 8 + (maxL + 11) + lo ≤ R.locals) (hmv : MvP B) (hmv' : Mv B') (hB : B s H) (hc : ∃ cellB : Cell, H[b]? = some cellB ∧ cellB.vm.isStatics = false ∧ s.vm.findClass y.cls = some cellB.cls) (hS : va_S A0 H0 H locs) (hA : ∀ q, A q → A0 q) (hn : As.length = k) (hsize : ls.size = nL) (hst : st0 = As.reverse ++ .ref b :: rest) (hW : (rest.map fun v => v.category).sum ≤ 8) (hdg : decode cc pc = .ok (.invokevirtual index, 3)) (hf : cells ≤ R.cells ∧ slots ≤ R.slots)
    (kk : ∀ (H1 : Heap) (locs1 : List Loc), B' s H1 → H.size ≤ H1.size → (∀ q : Nat, q < H.size → ¬ A q → H1[q]? = H[q]?) → va_S A0 H0 H1 locs1 → W p l e R s m args below meth cd H1 locs1 cells slots Q (F0 m (pc + 3) ls (ov.toList ++ rest))) : W p l e R s m args below meth cd H locs cells slots Q (F0 m pc ls st0) := by
  have hts := S.2.2.2.2
  exact mu_run (va_runV S hM ⟨callB_of k hts (wl_good hTs hy.1) rfl rfl rfl (hts _ (hTs _ hy.2.2.1)) (hts _ (hTs _ hl)) hy.2.2.2 hR, hts _ (hTs _ hy.2.1.1), hts _ (hTs _ hy.2.1.2)⟩ (pre_Vp hmv hB hc) rfl hn hsize hst (lv_room hW) hdg hf) hmv' hS hA kk
/-- a call of a private static method of a nest mate that changes nothing -/
theorem ro_SN {host : String} (S : CallFix p m cd cc nL s args Ts own) (hTs : ∀ w ∈ tb, w ∈ Ts) (hM : Ro l y bytes maxL rt fr lo As B v) (hy : Sy y bytes maxL rt k) (hl : va_Nw (.methodLinkNest own index y host) s)
    (hR : fr + 1 ≤ R.frames ∧ 8 + (maxL + 11) + lo ≤ R.locals) (hmv : Mv B) (hB : B s H) (hn : As.length = k) (hsize : ls.size = nL) (hst : st0 = As.reverse ++ rest) (hW : (rest.map fun v => v.category).sum ≤ 8) (hdg : decode cc pc = .ok (.invokestatic index, 3)) (hf : cells ≤ R.cells ∧ slots ≤ R.slots)
    (kk : W p l e R s m args below meth cd H locs cells slots Q (F0 m (pc + 3) ls (v :: rest))) : W p l e R s m args below meth cd H locs cells slots Q (F0 m pc ls st0) := by
  have hts := S.2.2.2.2
  exact ro_run (va_runSN S hM ⟨va_cnB k hts (wl_good hTs hy.1) rfl rfl rfl hl (hts _ (hTs _ hy.2.2.1)) hy.2.2.2 hR, hts _ (hTs _ hy.2.1), trivial⟩ (pre_S hmv hB) rfl hn hsize hst (lv_room hW) hdg hf) kk
end BASE2
theorem nd_inj {l : List Nat} (h : l.Nodup) {i j : Nat} (hi : i < l.length) (hj : j < l.length) (e : l[i] = l[j]) : i = j := by
  rcases Nat.lt_trichotomy i j with h1 | h1 | h1
  · exact absurd e (List.pairwise_iff_getElem.mp h i j hi hj h1)
  · exact h1
  · exact absurd e.symm (List.pairwise_iff_getElem.mp h j i hj hi h1)
theorem va_Dn {ws : va_W} {as : List Nat} (h : as.Nodup) (e : ws.map Prod.fst = as) : va_D (fun q => q ∈ as) ws := by
  subst e
  refine ⟨fun i j p q hi hj hpq => ?_, fun k q hk => List.mem_map.mpr ⟨q, List.mem_of_getElem? hk, rfl⟩⟩
  have h1 : (ws.map Prod.fst)[i]? = some p.1 := by rw [List.getElem?_map, hi]; rfl
  have h2 : (ws.map Prod.fst)[j]? = some p.1 := by rw [List.getElem?_map, hj, hpq]; rfl
  obtain ⟨hi', e1⟩ := List.getElem?_eq_some_iff.mp h1
  obtain ⟨hj', e2⟩ := List.getElem?_eq_some_iff.mp h2
  exact nd_inj h hi' hj' (e1.trans e2.symm)
theorem eB_S {A A1 : Nat → Prop} {G : va_G} {cI cF : ClassId} {tA tT : Nat} {U s : State} {H : Heap} {locs : List Loc} (h : eB A G cI cF tA tT U s.heap) (hS : va_S A1 s.heap H locs) (hAA : ∀ x, A1 x → A x) : eB A G cI cF tA tT U H := eB_kept h (fun a h1 h2 => hS.2.1 a h1 (fun q => h2 (hAA a q)))
def up1 {α : Type} (g : Nat → α) (j : Nat) (v : α) (i : Nat) : α := if i = j then v else g i
/-- a Form and a row beside it -/
def tW (q qc ra : Nat) (cI : ClassId) (N : Nat) (n : Int32) (f g : Nat → Int32) : va_W := [(q, .inr (0, [.int n, .ref qc])), (qc, .inl (cI, 6, .inl f)), (ra, .inl (cI, N, .inl g))]
def tkB (G : va_G) (cI cF : ClassId) (q qc ra N : Nat) (g : Nat → Int32) (n : Int32) (f : Nat → Int32) (U : State) (H : Heap) : Prop := va_K G vwCl [(cI, .int), (cF, .object "RingForms$Form")] U ∧ va_P G vwCl (tW q qc ra cI N n f g) H
theorem tkB_mv {G : va_G} {cI cF : ClassId} {q qc ra N : Nat} {g : Nat → Int32} {n : Int32} {f : Nat → Int32} : Mv (tkB G cI cF q qc ra N g n f) := fun _ _ _ hv h => ⟨va_K.moved hv h.1, h.2⟩
def apB (G : va_G) (cI cF : ClassId) (q qc : Nat) (n : Int32) (f : Nat → Int32) (U : State) (H : Heap) : Prop := va_K G vwCl [(cI, .int), (cF, .object "RingForms$Form")] U ∧ va_P G vwCl (fW q qc cI n f) H
theorem apB_mv {G : va_G} {cI cF : ClassId} {q qc : Nat} {n : Int32} {f : Nat → Int32} : Mv (apB G cI cF q qc n f) := fun _ _ _ hv h => ⟨va_K.moved hv h.1, h.2⟩
/-- a Search -/
def sW (se : Nat) (s0 s1 s2 s3 s4 : Int32) : va_W := [(se, .inr (1, [.int s0, .int s1, .int s2, .int s3, .int s4]))]
def nwL (U : State) : Prop := va_Nw (.methodLinkNest RX3 25 yX4_isReduced "RingForms") U
theorem nwL_mv {u U : State} (hW : u.WarmedH U.vm) (h : nwL u) : nwL U := va_Nw.warmM hW h
def smB (G : va_G) (cI cF : ClassId) (se : Nat) (s0 s1 s2 s3 s4 : Int32) (U : State) (H : Heap) : Prop := va_K G vwCl [(cI, .int), (cF, .object "RingForms$Form")] U ∧ va_P G vwCl (sW se s0 s1 s2 s3 s4) H
theorem smB_mv {G : va_G} {cI cF : ClassId} {se : Nat} {s0 s1 s2 s3 s4 : Int32} : Mv (smB G cI cF se s0 s1 s2 s3 s4) := fun _ _ _ hv h => ⟨va_K.moved hv h.1, h.2⟩
def smBn (G : va_G) (cI cF : ClassId) (se : Nat) (s0 s1 s2 s3 s4 : Int32) (U : State) (H : Heap) : Prop := smB G cI cF se s0 s1 s2 s3 s4 U H ∧ nwL U
theorem smBn_mv {G : va_G} {cI cF : ClassId} {se : Nat} {s0 s1 s2 s3 s4 : Int32} : MvP (smBn G cI cF se s0 s1 s2 s3 s4) := fun _ _ _ hv h => ⟨smB_mv _ _ _ hv.alike h.1, nwL_mv hv h.2⟩
/-- a Search and a Form -/
def rW (se q qc : Nat) (cI : ClassId) (n : Int32) (f : Nat → Int32) (s0 s1 s2 s3 s4 : Int32) : va_W := [(se, .inr (1, [.int s0, .int s1, .int s2, .int s3, .int s4])), (q, .inr (0, [.int n, .ref qc])), (qc, .inl (cI, 6, .inl f))]
def rnB (A : Nat → Prop) (G : va_G) (cI cF : ClassId) (tA tT : Nat) (se q qc : Nat) (n : Int32) (f : Nat → Int32) (s0 s1 s2 s3 s4 : Int32) (U : State) (H : Heap) : Prop := eB A G cI cF tA tT U H ∧ va_P G vwCl (rW se q qc cI n f s0 s1 s2 s3 s4) H
theorem rnB_mv {A : Nat → Prop} {G : va_G} {cI cF : ClassId} {tA tT se q qc : Nat} {n : Int32} {f : Nat → Int32} {s0 s1 s2 s3 s4 : Int32} : Mv (rnB A G cI cF tA tT se q qc n f s0 s1 s2 s3 s4) := fun _ _ _ hv h => ⟨eB_mv _ _ _ hv h.1, h.2⟩
def rnBn (A : Nat → Prop) (G : va_G) (cI cF : ClassId) (tA tT : Nat) (se q qc : Nat) (n : Int32) (f : Nat → Int32) (s0 s1 s2 s3 s4 : Int32) (U : State) (H : Heap) : Prop := rnB A G cI cF tA tT se q qc n f s0 s1 s2 s3 s4 U H ∧ nwL U
theorem rnBn_mv {A : Nat → Prop} {G : va_G} {cI cF : ClassId} {tA tT se q qc : Nat} {n : Int32} {f : Nat → Int32} {s0 s1 s2 s3 s4 : Int32} : MvP (rnBn A G cI cF tA tT se q qc n f s0 s1 s2 s3 s4) := fun _ _ _ hv h => ⟨rnB_mv _ _ _ hv.alike h.1, nwL_mv hv h.2⟩
theorem rP_meet {G : va_G} {cI : ClassId} {se q qc : Nat} {n : Int32} {f : Nat → Int32} {s0 s1 s2 s3 s4 t0 t1 t2 t3 t4 : Int32} {H H1 : Heap} (hnd : ([se, q, qc] : List Nat).Nodup) (hP : va_P G vwCl (rW se q qc cI n f s0 s1 s2 s3 s4) H) (hk : ∀ x : Nat, x < H.size → ¬ x ∈ ([se] : List Nat) → H1[x]? = H[x]?) (hP1 : va_P G vwCl (sW se t0 t1 t2 t3 t4) H1) : va_P G vwCl (rW se q qc cI n f t0 t1 t2 t3 t4) H1 := by
  have h2 : va_P G vwCl (fW q qc cI n f) H1 := by
    refine va_P.kept (hP.sub [1, 2] rfl) (fun k x hx => ?_)
    have hlt := (va_P.sub hP [1, 2] rfl k x hx).lt
    refine hk x.1 hlt ?_
    simp only [List.nodup_cons, List.mem_cons, List.not_mem_nil, or_false, not_or] at hnd
    match k, hx with
    | 0, hx => cases hx; simpa using fun h => hnd.1.1 h.symm
    | 1, hx => cases hx; simpa using fun h => hnd.1.2 h.symm
    | k + 2, hx => simp at hx
  exact hP1.app h2
/-- the whole object, with the link of a nest mate -/
def cBn (A : Nat → Prop) (G : va_G) (cI cF : ClassId) (tA tT : Nat) (o sh xx xc gv se : Nat) (fa ca : Nat → Nat) (n : Nat → Int32) (f : Nat → Nat → Int32) (xn : Int32) (xf gf : Nat → Int32) (s0 s1 s2 s3 s4 : Int32) (tr : Int64) (U : State) (H : Heap) : Prop :=
  cB A G cI cF tA tT o sh xx xc gv se fa ca n f xn xf gf s0 s1 s2 s3 s4 tr U H ∧ nwL U
theorem cBn_mv {A : Nat → Prop} {G : va_G} {cI cF : ClassId} {tA tT o sh xx xc gv se : Nat} {fa ca : Nat → Nat} {n : Nat → Int32} {f : Nat → Nat → Int32} {xn : Int32} {xf gf : Nat → Int32} {s0 s1 s2 s3 s4 : Int32} {tr : Int64} : MvP (cBn A G cI cF tA tT o sh xx xc gv se fa ca n f xn xf gf s0 s1 s2 s3 s4 tr) := fun _ _ _ hv h => ⟨cB_mv _ _ _ hv.alike h.1, nwL_mv hv h.2⟩
abbrev cAd (o sh xx xc gv se : Nat) (fa ca : Nat → Nat) : List Nat := [o, sh, xx, xc, gv, se, fa 0, ca 0, fa 1, ca 1, fa 2, ca 2, fa 3, ca 3]
/-- what a call of three cells gives back to the whole -/
theorem vA3 {wc : va_W} {as : List Nat} (e : wc.map Prod.fst = as) {H H1 : Heap} (hk : ∀ x : Nat, x < H.size → ¬ x ∈ as → H1[x]? = H[x]?) : ∀ x : Nat, x < H.size → ¬ va_A wc H.size x → H1[x]? = H[x]? := by
  subst e
  intro x hx h
  refine hk x hx (fun hm => h ?_)
  obtain ⟨q, hq, rfl⟩ := List.mem_map.mp hm
  obtain ⟨i, hi⟩ := List.getElem?_of_mem hq
  exact Or.inl ⟨i, q.2, hi⟩
theorem vF3 {ws : va_W} {H : Heap} {wc : va_W} (is : List Nat) (hC : is.map (fun i => ws[i]?) = wc.map some) : ∀ x, va_A wc H.size x → (fun q => q ∈ ws.map Prod.fst ∨ H.size ≤ q) x := by
  intro x h
  rcases h with ⟨k, e, h⟩ | h
  · left
    have h1 : (is.map (fun i => ws[i]?))[k]? = some (some (x, e)) := by rw [hC, List.getElem?_map, h]; rfl
    rw [List.getElem?_map] at h1
    cases hi : is[k]? with
    | none => rw [hi] at h1; cases h1
    | some i => rw [hi] at h1; exact List.mem_map.mpr ⟨(x, e), List.mem_of_getElem? (Option.some.inj h1), rfl⟩
  · exact Or.inr h
theorem cJoin {G : va_G} {ws wc w1 : va_W} {H H1 : Heap} (hP : va_P G vwCl ws H) (hnd : (ws.map Prod.fst).Nodup) (isC isR : List Nat) {wr : va_W} (hC : isC.map (fun i => ws[i]?) = wc.map some) (hR : isR.map (fun i => ws[i]?) = wr.map some) (hn : va_nd isR = true) (hdis : ∀ i ∈ isR, i ∉ isC) {as : List Nat} (ea : wc.map Prod.fst = as) (ea1 : w1.map Prod.fst = as) (hnc : as.Nodup)
    (hk : ∀ x : Nat, x < H.size → ¬ x ∈ as → H1[x]? = H[x]?) (hP1 : va_P G vwCl w1 H1) : va_P G vwCl (wr ++ w1) H1 := by
  have hD : va_D (fun q => q ∈ ws.map Prod.fst ∨ H.size ≤ q) ws := (va_Dn hnd rfl).weaken (fun _ _ _ h => Or.inl h)
  have hD1 : va_D (va_A wc H.size) w1 := (va_Dn hnc ea1).weaken (fun k q hq _ => by
    have hm : q.1 ∈ wc.map Prod.fst := by rw [ea, ← ea1]; exact List.mem_map.mpr ⟨q, List.mem_of_getElem? hq, rfl⟩
    obtain ⟨q', hq', e'⟩ := List.mem_map.mp hm
    obtain ⟨i, hi⟩ := List.getElem?_of_mem hq'
    exact Or.inl ⟨i, q'.2, by rw [hi, ← e']⟩)
  exact (va_join hP hD isC isR hC hR hn hdis (vA3 ea hk) (vF3 isC hC) hP1 hD1).1
section CP
variable {G : va_G} {cI cF : ClassId} {o sh xx xc gv se : Nat} {fa ca : Nat → Nat} {n : Nat → Int32} {f : Nat → Nat → Int32} {xn : Int32} {xf gf : Nat → Int32} {s0 s1 s2 s3 s4 : Int32} {tr : Int64} {H H1 : Heap}
theorem cNd {i : List Nat} {k : List Nat} (hnd : k.Nodup) (is : List Nat) (hn : va_nd is = true) (h : is.map (fun j => k[j]?) = i.map some) : i.Nodup := by
  rw [List.nodup_iff_pairwise_ne, List.pairwise_iff_getElem]
  intro a b ha hb hab e
  have get : ∀ c (hc : c < i.length), ∃ j, is[c]? = some j ∧ k[j]? = some i[c] := by
    intro c hc
    have h1 : (is.map (fun j => k[j]?))[c]? = some (some i[c]) := by rw [h, List.getElem?_map, List.getElem?_eq_getElem hc]; rfl
    rw [List.getElem?_map] at h1
    cases hi : is[c]? with
    | none => rw [hi] at h1; cases h1
    | some j => rw [hi] at h1; exact ⟨j, rfl, Option.some.inj h1⟩
  obtain ⟨ja, e1, e2⟩ := get a ha
  obtain ⟨jb, e3, e4⟩ := get b hb
  obtain ⟨q1, r1⟩ := List.getElem?_eq_some_iff.mp e2
  obtain ⟨q2, r2⟩ := List.getElem?_eq_some_iff.mp e4
  have hj : ja = jb := nd_inj hnd q1 q2 (r1.trans (e.trans r2.symm))
  subst hj
  exact absurd (va_nd_inj is hn a b ja e1 e3) (Nat.ne_of_lt hab)
theorem cNd_r (hnd : (cAd o sh xx xc gv se fa ca).Nodup) {j : Nat} (hj : j < 4) : ([se, fa j, ca j] : List Nat).Nodup := by
  rcases (show j = 0 ∨ j = 1 ∨ j = 2 ∨ j = 3 by omega) with rfl | rfl | rfl | rfl
  · exact cNd hnd [5, 6, 7] (by decide) rfl
  · exact cNd hnd [5, 8, 9] (by decide) rfl
  · exact cNd hnd [5, 10, 11] (by decide) rfl
  · exact cNd hnd [5, 12, 13] (by decide) rfl
theorem cNd_t (hnd : (cAd o sh xx xc gv se fa ca).Nodup) {j : Nat} (hj : j < 4) : ([fa j, ca j, gv] : List Nat).Nodup := by
  rcases (show j = 0 ∨ j = 1 ∨ j = 2 ∨ j = 3 by omega) with rfl | rfl | rfl | rfl
  · exact cNd hnd [6, 7, 4] (by decide) rfl
  · exact cNd hnd [8, 9, 4] (by decide) rfl
  · exact cNd hnd [10, 11, 4] (by decide) rfl
  · exact cNd hnd [12, 13, 4] (by decide) rfl
theorem cNd_x (hnd : (cAd o sh xx xc gv se fa ca).Nodup) {j : Nat} (hj : j < 4) : ([xx, xc, ca j] : List Nat).Nodup := by
  rcases (show j = 0 ∨ j = 1 ∨ j = 2 ∨ j = 3 by omega) with rfl | rfl | rfl | rfl
  · exact cNd hnd [2, 3, 7] (by decide) rfl
  · exact cNd hnd [2, 3, 9] (by decide) rfl
  · exact cNd hnd [2, 3, 11] (by decide) rfl
  · exact cNd hnd [2, 3, 13] (by decide) rfl
theorem cNd_a (hnd : (cAd o sh xx xc gv se fa ca).Nodup) : ([xx, xc] : List Nat).Nodup := cNd hnd [2, 3] (by decide) rfl
theorem cMem {i : List Nat} {k : List Nat} (is : List Nat) (h : is.map (fun j => k[j]?) = i.map some) : ∀ x, x ∈ i → x ∈ k := by
  intro x hx
  obtain ⟨c, hc⟩ := List.getElem?_of_mem hx
  have h1 : (is.map (fun j => k[j]?))[c]? = some (some x) := by rw [h, List.getElem?_map, hc]; rfl
  rw [List.getElem?_map] at h1
  cases hi : is[c]? with
  | none => rw [hi] at h1; cases h1
  | some j => rw [hi] at h1; exact List.mem_of_getElem? (Option.some.inj h1)
theorem cMem_r {j : Nat} (hj : j < 4) : ∀ x, x ∈ ([se, fa j, ca j] : List Nat) → x ∈ cAd o sh xx xc gv se fa ca := by
  rcases (show j = 0 ∨ j = 1 ∨ j = 2 ∨ j = 3 by omega) with rfl | rfl | rfl | rfl
  · exact cMem [5, 6, 7] rfl
  · exact cMem [5, 8, 9] rfl
  · exact cMem [5, 10, 11] rfl
  · exact cMem [5, 12, 13] rfl
theorem cMem_t {j : Nat} (hj : j < 4) : ∀ x, x ∈ ([fa j, ca j, gv] : List Nat) → x ∈ cAd o sh xx xc gv se fa ca := by
  rcases (show j = 0 ∨ j = 1 ∨ j = 2 ∨ j = 3 by omega) with rfl | rfl | rfl | rfl
  · exact cMem [6, 7, 4] rfl
  · exact cMem [8, 9, 4] rfl
  · exact cMem [10, 11, 4] rfl
  · exact cMem [12, 13, 4] rfl
theorem cMem_x {j : Nat} (hj : j < 4) : ∀ x, x ∈ ([xx, xc, ca j] : List Nat) → x ∈ cAd o sh xx xc gv se fa ca := by
  rcases (show j = 0 ∨ j = 1 ∨ j = 2 ∨ j = 3 by omega) with rfl | rfl | rfl | rfl
  · exact cMem [2, 3, 7] rfl
  · exact cMem [2, 3, 9] rfl
  · exact cMem [2, 3, 11] rfl
  · exact cMem [2, 3, 13] rfl
theorem cMem_a : ∀ x, x ∈ ([xx, xc] : List Nat) → x ∈ cAd o sh xx xc gv se fa ca := cMem [2, 3] rfl
theorem cP_rW (hP : va_P G vwCl (cW cI cF o sh xx xc gv se fa ca n f xn xf gf s0 s1 s2 s3 s4 tr) H) {j : Nat} (hj : j < 4) : va_P G vwCl (rW se (fa j) (ca j) cI (n j) (f j) s0 s1 s2 s3 s4) H := by
  rcases (show j = 0 ∨ j = 1 ∨ j = 2 ∨ j = 3 by omega) with rfl | rfl | rfl | rfl
  · exact hP.sub [5, 6, 7] rfl
  · exact hP.sub [5, 8, 9] rfl
  · exact hP.sub [5, 10, 11] rfl
  · exact hP.sub [5, 12, 13] rfl
theorem cP_tW (hP : va_P G vwCl (cW cI cF o sh xx xc gv se fa ca n f xn xf gf s0 s1 s2 s3 s4 tr) H) {j : Nat} (hj : j < 4) : va_P G vwCl (tW (fa j) (ca j) gv cI 5 (n j) (f j) gf) H := by
  rcases (show j = 0 ∨ j = 1 ∨ j = 2 ∨ j = 3 by omega) with rfl | rfl | rfl | rfl
  · exact hP.sub [6, 7, 4] rfl
  · exact hP.sub [8, 9, 4] rfl
  · exact hP.sub [10, 11, 4] rfl
  · exact hP.sub [12, 13, 4] rfl
theorem cP_xW (hP : va_P G vwCl (cW cI cF o sh xx xc gv se fa ca n f xn xf gf s0 s1 s2 s3 s4 tr) H) {j : Nat} (hj : j < 4) : va_P G vwCl (tW xx xc (ca j) cI 6 xn xf (f j)) H := by
  rcases (show j = 0 ∨ j = 1 ∨ j = 2 ∨ j = 3 by omega) with rfl | rfl | rfl | rfl
  · exact hP.sub [2, 3, 7] rfl
  · exact hP.sub [2, 3, 9] rfl
  · exact hP.sub [2, 3, 11] rfl
  · exact hP.sub [2, 3, 13] rfl
theorem cP_run {t0 t1 t2 t3 t4 : Int32} (hnd : (cAd o sh xx xc gv se fa ca).Nodup) (hP : va_P G vwCl (cW cI cF o sh xx xc gv se fa ca n f xn xf gf s0 s1 s2 s3 s4 tr) H) {j : Nat} (hj : j < 4) (hk : ∀ x : Nat, x < H.size → ¬ x ∈ ([se, fa j, ca j] : List Nat) → H1[x]? = H[x]?) (hP1 : va_P G vwCl (rW se (fa j) (ca j) cI (n j) (f j) t0 t1 t2 t3 t4) H1) : va_P G vwCl (cW cI cF o sh xx xc gv se fa ca n f xn xf gf t0 t1 t2 t3 t4 tr) H1 := by
  have hnc := cNd_r hnd hj
  rcases (show j = 0 ∨ j = 1 ∨ j = 2 ∨ j = 3 by omega) with rfl | rfl | rfl | rfl
  · exact (cJoin (wr := [_, _, _, _, _, _, _, _, _, _, _]) (wc := rW se (fa 0) (ca 0) cI (n 0) (f 0) s0 s1 s2 s3 s4) (w1 := rW se (fa 0) (ca 0) cI (n 0) (f 0) t0 t1 t2 t3 t4) hP hnd [5, 6, 7] [0, 1, 2, 3, 4, 8, 9, 10, 11, 12, 13] rfl rfl (by decide) (by decide) rfl rfl hnc hk hP1).sub [0, 1, 2, 3, 4, 11, 12, 13, 5, 6, 7, 8, 9, 10] rfl
  · exact (cJoin (wr := [_, _, _, _, _, _, _, _, _, _, _]) (wc := rW se (fa 1) (ca 1) cI (n 1) (f 1) s0 s1 s2 s3 s4) (w1 := rW se (fa 1) (ca 1) cI (n 1) (f 1) t0 t1 t2 t3 t4) hP hnd [5, 8, 9] [0, 1, 2, 3, 4, 6, 7, 10, 11, 12, 13] rfl rfl (by decide) (by decide) rfl rfl hnc hk hP1).sub [0, 1, 2, 3, 4, 11, 5, 6, 12, 13, 7, 8, 9, 10] rfl
  · exact (cJoin (wr := [_, _, _, _, _, _, _, _, _, _, _]) (wc := rW se (fa 2) (ca 2) cI (n 2) (f 2) s0 s1 s2 s3 s4) (w1 := rW se (fa 2) (ca 2) cI (n 2) (f 2) t0 t1 t2 t3 t4) hP hnd [5, 10, 11] [0, 1, 2, 3, 4, 6, 7, 8, 9, 12, 13] rfl rfl (by decide) (by decide) rfl rfl hnc hk hP1).sub [0, 1, 2, 3, 4, 11, 5, 6, 7, 8, 12, 13, 9, 10] rfl
  · exact (cJoin (wr := [_, _, _, _, _, _, _, _, _, _, _]) (wc := rW se (fa 3) (ca 3) cI (n 3) (f 3) s0 s1 s2 s3 s4) (w1 := rW se (fa 3) (ca 3) cI (n 3) (f 3) t0 t1 t2 t3 t4) hP hnd [5, 12, 13] [0, 1, 2, 3, 4, 6, 7, 8, 9, 10, 11] rfl rfl (by decide) (by decide) rfl rfl hnc hk hP1).sub [0, 1, 2, 3, 4, 11, 5, 6, 7, 8, 9, 10, 12, 13] rfl
theorem cP_take {n2 : Int32} {f2 : Nat → Int32} (hnd : (cAd o sh xx xc gv se fa ca).Nodup) (hP : va_P G vwCl (cW cI cF o sh xx xc gv se fa ca n f xn xf gf s0 s1 s2 s3 s4 tr) H) {j : Nat} (hj : j < 4) (hk : ∀ x : Nat, x < H.size → ¬ x ∈ ([fa j, ca j, gv] : List Nat) → H1[x]? = H[x]?) (hP1 : va_P G vwCl (tW (fa j) (ca j) gv cI 5 n2 f2 gf) H1) : va_P G vwCl (cW cI cF o sh xx xc gv se fa ca (up1 n j n2) (up1 f j f2) xn xf gf s0 s1 s2 s3 s4 tr) H1 := by
  have hnc := cNd_t hnd hj
  rcases (show j = 0 ∨ j = 1 ∨ j = 2 ∨ j = 3 by omega) with rfl | rfl | rfl | rfl
  · exact (cJoin (wr := [_, _, _, _, _, _, _, _, _, _, _]) (wc := tW (fa 0) (ca 0) gv cI 5 (n 0) (f 0) gf) (w1 := tW (fa 0) (ca 0) gv cI 5 n2 f2 gf) hP hnd [6, 7, 4] [0, 1, 2, 3, 5, 8, 9, 10, 11, 12, 13] rfl rfl (by decide) (by decide) rfl rfl hnc hk hP1).sub [0, 1, 2, 3, 13, 4, 11, 12, 5, 6, 7, 8, 9, 10] rfl
  · exact (cJoin (wr := [_, _, _, _, _, _, _, _, _, _, _]) (wc := tW (fa 1) (ca 1) gv cI 5 (n 1) (f 1) gf) (w1 := tW (fa 1) (ca 1) gv cI 5 n2 f2 gf) hP hnd [8, 9, 4] [0, 1, 2, 3, 5, 6, 7, 10, 11, 12, 13] rfl rfl (by decide) (by decide) rfl rfl hnc hk hP1).sub [0, 1, 2, 3, 13, 4, 5, 6, 11, 12, 7, 8, 9, 10] rfl
  · exact (cJoin (wr := [_, _, _, _, _, _, _, _, _, _, _]) (wc := tW (fa 2) (ca 2) gv cI 5 (n 2) (f 2) gf) (w1 := tW (fa 2) (ca 2) gv cI 5 n2 f2 gf) hP hnd [10, 11, 4] [0, 1, 2, 3, 5, 6, 7, 8, 9, 12, 13] rfl rfl (by decide) (by decide) rfl rfl hnc hk hP1).sub [0, 1, 2, 3, 13, 4, 5, 6, 7, 8, 11, 12, 9, 10] rfl
  · exact (cJoin (wr := [_, _, _, _, _, _, _, _, _, _, _]) (wc := tW (fa 3) (ca 3) gv cI 5 (n 3) (f 3) gf) (w1 := tW (fa 3) (ca 3) gv cI 5 n2 f2 gf) hP hnd [12, 13, 4] [0, 1, 2, 3, 5, 6, 7, 8, 9, 10, 11] rfl rfl (by decide) (by decide) rfl rfl hnc hk hP1).sub [0, 1, 2, 3, 13, 4, 5, 6, 7, 8, 9, 10, 11, 12] rfl
theorem cP_ext {n2 : Int32} {f2 : Nat → Int32} (hnd : (cAd o sh xx xc gv se fa ca).Nodup) (hP : va_P G vwCl (cW cI cF o sh xx xc gv se fa ca n f xn xf gf s0 s1 s2 s3 s4 tr) H) {j : Nat} (hj : j < 4) (hk : ∀ x : Nat, x < H.size → ¬ x ∈ ([xx, xc, ca j] : List Nat) → H1[x]? = H[x]?) (hP1 : va_P G vwCl (tW xx xc (ca j) cI 6 n2 f2 (f j)) H1) : va_P G vwCl (cW cI cF o sh xx xc gv se fa ca n f n2 f2 gf s0 s1 s2 s3 s4 tr) H1 := by
  have hnc := cNd_x hnd hj
  rcases (show j = 0 ∨ j = 1 ∨ j = 2 ∨ j = 3 by omega) with rfl | rfl | rfl | rfl
  · exact (cJoin (wr := [_, _, _, _, _, _, _, _, _, _, _]) (wc := tW xx xc (ca 0) cI 6 xn xf (f 0)) (w1 := tW xx xc (ca 0) cI 6 n2 f2 (f 0)) hP hnd [2, 3, 7] [0, 1, 4, 5, 6, 8, 9, 10, 11, 12, 13] rfl rfl (by decide) (by decide) rfl rfl hnc hk hP1).sub [0, 1, 11, 12, 2, 3, 4, 13, 5, 6, 7, 8, 9, 10] rfl
  · exact (cJoin (wr := [_, _, _, _, _, _, _, _, _, _, _]) (wc := tW xx xc (ca 1) cI 6 xn xf (f 1)) (w1 := tW xx xc (ca 1) cI 6 n2 f2 (f 1)) hP hnd [2, 3, 9] [0, 1, 4, 5, 6, 7, 8, 10, 11, 12, 13] rfl rfl (by decide) (by decide) rfl rfl hnc hk hP1).sub [0, 1, 11, 12, 2, 3, 4, 5, 6, 13, 7, 8, 9, 10] rfl
  · exact (cJoin (wr := [_, _, _, _, _, _, _, _, _, _, _]) (wc := tW xx xc (ca 2) cI 6 xn xf (f 2)) (w1 := tW xx xc (ca 2) cI 6 n2 f2 (f 2)) hP hnd [2, 3, 11] [0, 1, 4, 5, 6, 7, 8, 9, 10, 12, 13] rfl rfl (by decide) (by decide) rfl rfl hnc hk hP1).sub [0, 1, 11, 12, 2, 3, 4, 5, 6, 7, 8, 13, 9, 10] rfl
  · exact (cJoin (wr := [_, _, _, _, _, _, _, _, _, _, _]) (wc := tW xx xc (ca 3) cI 6 xn xf (f 3)) (w1 := tW xx xc (ca 3) cI 6 n2 f2 (f 3)) hP hnd [2, 3, 13] [0, 1, 4, 5, 6, 7, 8, 9, 10, 11, 12] rfl rfl (by decide) (by decide) rfl rfl hnc hk hP1).sub [0, 1, 11, 12, 2, 3, 4, 5, 6, 7, 8, 9, 10, 13] rfl
theorem cP_app {n2 : Int32} {f2 : Nat → Int32} (hnd : (cAd o sh xx xc gv se fa ca).Nodup) (hP : va_P G vwCl (cW cI cF o sh xx xc gv se fa ca n f xn xf gf s0 s1 s2 s3 s4 tr) H) (hk : ∀ x : Nat, x < H.size → ¬ x ∈ ([xx, xc] : List Nat) → H1[x]? = H[x]?) (hP1 : va_P G vwCl (fW xx xc cI n2 f2) H1) : va_P G vwCl (cW cI cF o sh xx xc gv se fa ca n f n2 f2 gf s0 s1 s2 s3 s4 tr) H1 :=
  (cJoin (wr := [_, _, _, _, _, _, _, _, _, _, _, _]) (wc := fW xx xc cI xn xf) (w1 := fW xx xc cI n2 f2) hP hnd [2, 3] [0, 1, 4, 5, 6, 7, 8, 9, 10, 11, 12, 13] rfl rfl (by decide) (by decide) rfl rfl (cNd_a hnd) hk hP1).sub [0, 1, 12, 13, 2, 3, 4, 5, 6, 7, 8, 9, 10, 11] rfl
end CP
end
section
def kX4_free_15 (a0 : Int32) : Nat → Int32 → Option (Int32)
  | 0, _ => none
  | fu + 1, x2_15 =>
    (if x2_15 ≤ (1 : Int32) then some a0 else
    (if ¬ (x2_15 * x2_15) = 0 then (if (irm a0 (x2_15 * x2_15)) = 0 then (if ¬ (x2_15 * x2_15) = 0 then some (a0 / (x2_15 * x2_15)) else none) else
    (kX4_free_15 a0 fu) (x2_15 + (-1 : Int32))) else none))
def fX4_free (n : Nat → Int32) (f : Nat → Nat → Int32) (tr : Int64) (a0 : Int32) : Option (Int32) :=
    (fX4_isNumber a0 (1000000 : Int32)).bind fun (r1 : Int32) =>
    (if r1 = 0 then some (0 : Int32) else
    kX4_free_15 a0 1100 (1000 : Int32))
def fX4_sign (n : Nat → Int32) (f : Nat → Nat → Int32) (tr : Int64) (a0 : Int32) (a1 : Int32) (a2 : Int32) : Option (Int32) :=
    (fX4_isNumber a0 (1000000 : Int32)).bind fun (r1 : Int32) =>
    (if r1 = 0 then some (-3 : Int32) else
    (fX4_isNumber a1 (1000000 : Int32)).bind fun (r3 : Int32) =>
    (if r3 = 0 then some (-3 : Int32) else
    (fX2_isPlace a2).bind fun (r5 : Int32) =>
    (if r5 = 0 then some (-3 : Int32) else
    (fX2_signAt a0.toInt64 a1.toInt64 a2).bind fun (r7 : Int32) =>
    some r7)))
def kX4_odds_38 (a0 : Int32) (a1 : Int32) : Nat → Int32 → Int32 → Option (Int32)
  | 0, _, _ => none
  | fu + 1, x3_38, x6_38 =>
    (if (79 : Int32) ≤ x6_38 then some x3_38 else
    (if ¬ (x6_38 < 0 ∨ 79 ≤ x6_38.toNatClampNeg) then (fX2_signAt a0.toInt64 a1.toInt64 (allv x6_38.toNatClampNeg)).bind fun (r6 : Int32) =>
    (if 0 ≤ r6 then (kX4_odds_38 a0 a1 fu) x3_38 (x6_38 + (1 : Int32)) else
    (kX4_odds_38 a0 a1 fu) (x3_38 + (1 : Int32)) (x6_38 + (1 : Int32))) else none))
def fX4_odds (n : Nat → Int32) (f : Nat → Nat → Int32) (tr : Int64) (a0 : Int32) (a1 : Int32) : Option (Int32) :=
    (fX4_isNumber a0 (400 : Int32)).bind fun (r1 : Int32) =>
    (if r1 = 0 then some (-3 : Int32) else
    (fX4_isNumber a1 (400 : Int32)).bind fun (r3 : Int32) =>
    (if r3 = 0 then some (-3 : Int32) else
    kX4_odds_38 a0 a1 1100 (0 : Int32) (0 : Int32)))
def fX4_at (n : Nat → Int32) (f : Nat → Nat → Int32) (tr : Int64) (a0 : Int32) (a1 : Int32) : Option (Int32) :=
    (fX4_isShelf a0).bind fun (r1 : Int32) =>
    (if r1 = 0 then some (0 : Int32) else
    (if a1 < 0 then some (0 : Int32) else
    (if ¬ (a0 < 0 ∨ 4 ≤ a0.toNatClampNeg) then (if a1 < (n a0.toNatClampNeg) then (if ¬ (a0 < 0 ∨ 4 ≤ a0.toNatClampNeg) then (if ¬ (a1 < 0 ∨ 6 ≤ a1.toNatClampNeg) then some ((f a0.toNatClampNeg) a1.toNatClampNeg) else none) else none) else
    some (0 : Int32)) else none)))
def fX4_whole (n : Nat → Int32) (f : Nat → Nat → Int32) (tr : Int64) (a0 : Int32) (a1 : Int32) : Option (Int64) :=
    (fX4_isShelf a0).bind fun (r1 : Int32) =>
    (if r1 = 0 then some (0 : Int64) else
    (if a1 < 0 then some (0 : Int64) else
    (if a1 ≤ (1 : Int32) then (if a1 = 0 then (if ¬ (a0 < 0 ∨ 4 ≤ a0.toNatClampNeg) then (fX0_product (n a0.toNatClampNeg) (f a0.toNatClampNeg)).bind fun (r9 : Int64) =>
    some r9 else none) else
    (if ¬ (a0 < 0 ∨ 4 ≤ a0.toNatClampNeg) then (fX0_freeProduct (n a0.toNatClampNeg) (f a0.toNatClampNeg)).bind fun (r5 : Int64) =>
    some r5 else none)) else
    some (0 : Int64))))
def fX4_hold (n : Nat → Int32) (f : Nat → Nat → Int32) (tr : Int64) (a0 : Int32) (a1 : Int32) : Option (Int32) :=
    (fX4_isShelf a0).bind fun (r1 : Int32) =>
    (if r1 = 0 then some (-3 : Int32) else
    (fX2_isPlace a1).bind fun (r3 : Int32) =>
    (if r3 = 0 then some (-3 : Int32) else
    (if ¬ (a0 < 0 ∨ 4 ≤ a0.toNatClampNeg) then (fX0_signsAt (n a0.toNatClampNeg) (f a0.toNatClampNeg) a1).bind fun (r7 : Int32) =>
    some r7 else none)))
def fX4_goes (n : Nat → Int32) (f : Nat → Nat → Int32) (tr : Int64) (a0 : Int32) (a1 : Int32) : Option (Int32) :=
    (fX4_isShelf a0).bind fun (r1 : Int32) =>
    (if r1 = 0 then some (-3 : Int32) else
    (fX2_isPlace a1).bind fun (r3 : Int32) =>
    (if r3 = 0 then some (-3 : Int32) else
    (if ¬ (a0 < 0 ∨ 4 ≤ a0.toNatClampNeg) then (fX0_goesAt (n a0.toNatClampNeg) (f a0.toNatClampNeg) a1).bind fun (r7 : Int32) =>
    (if r7 = 0 then some (0 : Int32) else
    some (1 : Int32)) else none)))
def fX4_nought (n : Nat → Int32) (f : Nat → Nat → Int32) (tr : Int64) (a0 : Int32) : Option (Int32) :=
    (fX4_isShelf a0).bind fun (r1 : Int32) =>
    (if r1 = 0 then some (-3 : Int32) else
    (if ¬ (a0 < 0 ∨ 4 ≤ a0.toNatClampNeg) then (fX0_countBars (n a0.toNatClampNeg) (f a0.toNatClampNeg)).bind fun (r5 : Int32) =>
    (if r5 = 0 then some (1 : Int32) else
    some (0 : Int32)) else none))
def fX4_bars (n : Nat → Int32) (f : Nat → Nat → Int32) (tr : Int64) (a0 : Int32) : Option (Int32) :=
    (fX4_isShelf a0).bind fun (r1 : Int32) =>
    (if r1 = 0 then some (-3 : Int32) else
    (if ¬ (a0 < 0 ∨ 4 ≤ a0.toNatClampNeg) then (fX0_countBars (n a0.toNatClampNeg) (f a0.toNatClampNeg)).bind fun (r5 : Int32) =>
    some r5 else none))
def fX4_bar (n : Nat → Int32) (f : Nat → Nat → Int32) (tr : Int64) (a0 : Int32) (a1 : Int32) : Option (Int32) :=
    (fX4_isShelf a0).bind fun (r1 : Int32) =>
    (if r1 = 0 then some (-3 : Int32) else
    (if 0 ≤ a1 then (if ¬ (a0 < 0 ∨ 4 ≤ a0.toNatClampNeg) then (fX0_findBar (n a0.toNatClampNeg) (f a0.toNatClampNeg) a1).bind fun (r5 : Int32) =>
    (if 0 ≤ r5 then some r5 else
    some (-3 : Int32)) else none) else
    some (-3 : Int32)))
def fX4_alike (n : Nat → Int32) (f : Nat → Nat → Int32) (tr : Int64) (a0 : Int32) (a1 : Int32) : Option (Int32) :=
    (fX4_isShelf a0).bind fun (r1 : Int32) =>
    (if r1 = 0 then some (-3 : Int32) else
    (fX4_isShelf a1).bind fun (r3 : Int32) =>
    (if r3 = 0 then some (-3 : Int32) else
    (if ¬ (a0 < 0 ∨ 4 ≤ a0.toNatClampNeg) then (if ¬ (a1 < 0 ∨ 4 ≤ a1.toNatClampNeg) then (fX0_isAlike (n a0.toNatClampNeg) (f a0.toNatClampNeg) (n a1.toNatClampNeg) (f a1.toNatClampNeg)).bind fun (r9 : Int32) =>
    (if r9 = 0 then some (0 : Int32) else
    some (1 : Int32)) else none) else none)))
def fX4_worth (n : Nat → Int32) (f : Nat → Nat → Int32) (tr : Int64) (a0 : Int32) (a1 : Int32) (a2 : Int32) (a3 : Int32) : Option (Int64) :=
    (fX4_isShelf a0).bind fun (r1 : Int32) =>
    (if r1 = 0 then some (-1000000000000000 : Int64) else
    (if ¬ (a0 < 0 ∨ 4 ≤ a0.toNatClampNeg) then (if (n a0.toNatClampNeg) = (3 : Int32) then (fX4_areWithin a1 a2 a3 (1000 : Int32)).bind fun (r5 : Int32) =>
    (if r5 = 0 then some (-1000000000000000 : Int64) else
    (if ¬ (a0 < 0 ∨ 4 ≤ a0.toNatClampNeg) then (fX0_pairing (n a0.toNatClampNeg) (f a0.toNatClampNeg) a1 a2 a3 a1 a2 a3).bind fun (r9 : Int64) =>
    some r9 else none)) else
    some (-1000000000000000 : Int64)) else none))
def kX4_line_120 (n : Nat → Int32) (f : Nat → Nat → Int32) (a0 : Int32) (a1 : Int32) (a2 : Int32) (a3 : Int32) (a4 : Int32) (a5 : Int32) (a6 : Int32) (a7 : Int32) : Option (Int64) :=
    (fX0_pairing (n a0.toNatClampNeg) (f a0.toNatClampNeg) a4 a5 a6 a4 a5 a6).bind fun (r15 : Int64) =>
    (fX0_pairing (n a0.toNatClampNeg) (f a0.toNatClampNeg) a1 a2 a3 a4 a5 a6).bind fun (r17 : Int64) =>
    (fX4_reducer ((r15 * a1.toInt64) - (((2 : Int64) * r17) * a4.toInt64)) ((r15 * a2.toInt64) - (((2 : Int64) * r17) * a5.toInt64)) ((r15 * a3.toInt64) - (((2 : Int64) * r17) * a6.toInt64))).bind fun (r19 : Int64) =>
    (if (lg_cmp r19 (0 : Int64)) = 0 then (fX4_pick a7 a1.toInt64 a2.toInt64 a3.toInt64).bind fun (r24 : Int64) =>
    some r24 else
    (fX4_pick a7 ((r15 * a1.toInt64) - (((2 : Int64) * r17) * a4.toInt64)) ((r15 * a2.toInt64) - (((2 : Int64) * r17) * a5.toInt64)) ((r15 * a3.toInt64) - (((2 : Int64) * r17) * a6.toInt64))).bind fun (r21 : Int64) =>
    (if ¬ r19 = 0 then some (r21 / r19) else none))
def fX4_line (n : Nat → Int32) (f : Nat → Nat → Int32) (tr : Int64) (a0 : Int32) (a1 : Int32) (a2 : Int32) (a3 : Int32) (a4 : Int32) (a5 : Int32) (a6 : Int32) (a7 : Int32) : Option (Int64) :=
    (fX4_isShelf a0).bind fun (r1 : Int32) =>
    (if r1 = 0 then some (-1000000000000000 : Int64) else
    (if ¬ (a0 < 0 ∨ 4 ≤ a0.toNatClampNeg) then (if (n a0.toNatClampNeg) = (3 : Int32) then (if a7 < 0 then some (-1000000000000000 : Int64) else
    (if a7 ≤ (2 : Int32) then (if ¬ (a0 < 0 ∨ 4 ≤ a0.toNatClampNeg) then (fX4_areWithin a1 a2 a3 (30 : Int32)).bind fun (r7 : Int32) =>
    (if r7 = 0 then some (-1000000000000000 : Int64) else
    (fX4_isReduced a1 a2 a3).bind fun (r9 : Int32) =>
    (if r9 = 0 then some (-1000000000000000 : Int64) else
    (fX0_pairing (n a0.toNatClampNeg) (f a0.toNatClampNeg) a1 a2 a3 a1 a2 a3).bind fun (r11 : Int64) =>
    (if (lg_cmp r11 (0 : Int64)) = 0 then (fX4_areWithin a4 a5 a6 (30 : Int32)).bind fun (r13 : Int32) =>
    (if r13 = 0 then some (-1000000000000000 : Int64) else
    (if a4 = 0 then (if a5 = 0 then (if a6 = 0 then some (-1000000000000000 : Int64) else
    kX4_line_120 n f a0 a1 a2 a3 a4 a5 a6 a7) else
    kX4_line_120 n f a0 a1 a2 a3 a4 a5 a6 a7) else
    kX4_line_120 n f a0 a1 a2 a3 a4 a5 a6 a7)) else
    some (-1000000000000000 : Int64)))) else none) else
    some (-1000000000000000 : Int64))) else
    some (-1000000000000000 : Int64)) else none))
def fX4_count (n : Nat → Int32) (f : Nat → Nat → Int32) (tr : Int64) (a0 : Int32) (a1 : Int32) : Option (Int32) :=
    (fX4_isShelf a0).bind fun (r1 : Int32) =>
    (if r1 = 0 then some (-3 : Int32) else
    (if a1 < 0 then some (-3 : Int32) else
    (if a1 ≤ (1 : Int32) then (if a1 = 0 then (if ¬ (a0 < 0 ∨ 4 ≤ a0.toNatClampNeg) then some (n a0.toNatClampNeg) else none) else
    (if ¬ (a0 < 0 ∨ 4 ≤ a0.toNatClampNeg) then (fX0_countAbove (n a0.toNatClampNeg) (f a0.toNatClampNeg)).bind fun (r5 : Int32) =>
    some r5 else none)) else
    some (-3 : Int32))))
def fX4_trace (n : Nat → Int32) (f : Nat → Nat → Int32) (tr : Int64) : Option (Int64) :=
    some tr
theorem syX4_free : Vy yX4_free cX4_free 3 (some .int) 1 := ⟨w_79, ⟨w_77, w_78⟩, w_1, by decide +kernel⟩
set_option maxHeartbeats 4000000 in
set_option maxRecDepth 100000 in
theorem cnX4_free (l : Launch) (A : Nat → Prop) (G : va_G) (cI cF : ClassId) (tA tT : Nat) (o sh xx xc gv se : Nat) (fa ca : Nat → Nat) (n : Nat → Int32) (f : Nat → Nat → Int32) (xn : Int32) (xf gf : Nat → Int32) (s0 s1 s2 s3 s4 : Int32) (tr : Int64) {a0 : Int32} {r : Int32} (h : fX4_free n f tr a0 = some r) : Ro l yX4_free cX4_free 3 (some .int) 2 42 [.ref o, .int a0] (cB A G cI cF tA tT o sh xx xc gv se fa ca n f xn xf gf s0 s1 s2 s3 s4 tr) (.int r) := by
  refine ro_i (plainFor_of_name (by decide)) (Nat.le_of_ble_eq_true rfl) ?_
  intro p e s m args below meth cd Q ls hF hB hl END
  have hF : CallFix p m cd cX4_free 3 s args (wl yX4_free cX4_free 3 (some .int)) RX4 := hF
  obtain ⟨hx, hb, hml, hown, hts⟩ := id hF
  have hl : lv_has ls 3 [(0, .ref o), (1, .int a0)] := hl
  obtain ⟨hE, hP⟩ := id hB
  obtain ⟨hK, ⟨hZ, hT⟩, ⟨hZ2, hT2⟩⟩ := id hE
  have hS : va_S A s.heap s.heap [] := va_S.rf
  rw [fX4_free] at h
  refine lv_iload_n hx hb dX4_free_0 rfl (lv_at hl 1 rfl) ?_
  refine lv_ldc (v := (1000000 : Int32)) hx hb hown (hts _ (wl_in w_80)) dX4_free_1 ?_
  obtain ⟨r1, e2, h⟩ := pb h
  refine ro_S (As := [.int a0, .int (1000000 : Int32)]) (rest := []) hF (fun _ h => wl_in h) (cnX4_isNumber l e2) syX4_isNumber w_81 ⟨Nat.le_of_ble_eq_true rfl, Nat.le_of_ble_eq_true rfl⟩ mv0 trivial rfl hl.1 rfl (Nat.le_of_ble_eq_true rfl) dX4_free_3 ⟨Nat.zero_le _, Nat.zero_le _⟩ ?_
  refine lv_if_ne (tgt := 11) hx hb dX4_free_6 (by decide) (fun c6 => ?_) (fun c6 => ?_)
  · have h := pf c6 h
    refine lv_sipush (v := (1000 : Int32)) hx hb dX4_free_11 (by decide) ?_
    refine lv_istore_n (lv' := [(2, .int (1000 : Int32)), (0, .ref o), (1, .int a0)]) hx hb dX4_free_14 rfl hl (by decide) rfl (fun ls hl => ?_)
    have J15 : ∀ (n15 : Nat) (x2_15 : Int32), kX4_free_15 a0 n15 x2_15 = some r → ∀ (ls : Array Slot), lv_has ls 3 [(1, .int a0), (2, .int x2_15)] → W p l e (rmk 2 42) s m args below meth cd s.heap [] 0 0 Q (F0 m 15 ls []) := by
      intro n15
      induction n15 with
      | zero =>
        intro x2_15 h
        rw [kX4_free_15] at h
        cases h
      | succ n15 ih15 =>
        intro x2_15 h  ls hl
        rw [kX4_free_15] at h
        refine lv_iload_n hx hb dX4_free_15 rfl (lv_at hl 1 rfl) ?_
        refine lv_iconst (v := (1 : Int32)) hx hb dX4_free_16 (by decide) ?_
        refine lv_icmp_le (tgt := 40) hx hb dX4_free_17 (by decide) (fun c17 => ?_) (fun c17 => ?_)
        · have h := pt c17 h
          refine lv_iload_n hx hb dX4_free_40 rfl (lv_at hl 0 rfl) ?_
          exact END 41 ls _ (pe h) dX4_free_41
        · have h := pf c17 h
          refine lv_iload_n hx hb dX4_free_20 rfl (lv_at hl 0 rfl) ?_
          refine lv_iload_n hx hb dX4_free_21 rfl (lv_at hl 1 rfl) ?_
          refine lv_iload_n hx hb dX4_free_22 rfl (lv_at hl 1 rfl) ?_
          refine lv_imul hx hb dX4_free_23 ?_
          obtain ⟨g3, h⟩ := pg h
          refine lq_irem hx hb dX4_free_24 g3 ?_
          refine lv_if_ne (tgt := 34) hx hb dX4_free_25 (by decide) (fun c25 => ?_) (fun c25 => ?_)
          · have h := pf c25 h
            refine lv_iinc (v := x2_15 + (-1 : Int32)) (lv' := [(2, .int (x2_15 + (-1 : Int32))), (1, .int a0)]) hx hb dX4_free_34 hl (k := 1) rfl rfl (by decide) rfl (fun ls hl => ?_)
            refine lv_goto (tgt := 15) hx hb dX4_free_37 (by decide) ?_
            exact ih15 _ h  _ (lv_sub hl [1, 0] rfl)
          · have h := pt c25 h
            refine lv_iload_n hx hb dX4_free_28 rfl (lv_at hl 0 rfl) ?_
            refine lv_iload_n hx hb dX4_free_29 rfl (lv_at hl 1 rfl) ?_
            refine lv_iload_n hx hb dX4_free_30 rfl (lv_at hl 1 rfl) ?_
            refine lv_imul hx hb dX4_free_31 ?_
            obtain ⟨g4, h⟩ := pg h
            refine lv_idiv hx hb dX4_free_32 g4 ?_
            exact END 33 ls _ (pe h) dX4_free_33
    exact J15 _ _ h  _ (lv_sub hl [2, 0] rfl)
  · have h := pt c6 h
    refine lv_iconst (v := (0 : Int32)) hx hb dX4_free_9 (by decide) ?_
    exact END 10 ls _ (pe h) dX4_free_10

theorem syX4_sign : Vy yX4_sign cX4_sign 4 (some .int) 3 := ⟨w_90, ⟨w_88, w_89⟩, w_1, by decide +kernel⟩
set_option maxHeartbeats 4000000 in
set_option maxRecDepth 100000 in
theorem cnX4_sign (l : Launch) (A : Nat → Prop) (G : va_G) (cI cF : ClassId) (tA tT : Nat) (o sh xx xc gv se : Nat) (fa ca : Nat → Nat) (n : Nat → Int32) (f : Nat → Nat → Int32) (xn : Int32) (xf gf : Nat → Int32) (s0 s1 s2 s3 s4 : Int32) (tr : Int64) {a0 : Int32} {a1 : Int32} {a2 : Int32} {r : Int32} (h : fX4_sign n f tr a0 a1 a2 = some r) : Ro l yX4_sign cX4_sign 4 (some .int) 5 125 [.ref o, .int a0, .int a1, .int a2] (cB A G cI cF tA tT o sh xx xc gv se fa ca n f xn xf gf s0 s1 s2 s3 s4 tr) (.int r) := by
  refine ro_i (plainFor_of_name (by decide)) (Nat.le_of_ble_eq_true rfl) ?_
  intro p e s m args below meth cd Q ls hF hB hl END
  have hF : CallFix p m cd cX4_sign 4 s args (wl yX4_sign cX4_sign 4 (some .int)) RX4 := hF
  obtain ⟨hx, hb, hml, hown, hts⟩ := id hF
  have hl : lv_has ls 4 [(0, .ref o), (1, .int a0), (2, .int a1), (3, .int a2)] := hl
  obtain ⟨hE, hP⟩ := id hB
  obtain ⟨hK, ⟨hZ, hT⟩, ⟨hZ2, hT2⟩⟩ := id hE
  have hS : va_S A s.heap s.heap [] := va_S.rf
  rw [fX4_sign] at h
  refine lv_iload_n hx hb dX4_sign_0 rfl (lv_at hl 1 rfl) ?_
  refine lv_ldc (v := (1000000 : Int32)) hx hb hown (hts _ (wl_in w_80)) dX4_sign_1 ?_
  obtain ⟨r1, e2, h⟩ := pb h
  refine ro_S (As := [.int a0, .int (1000000 : Int32)]) (rest := []) hF (fun _ h => wl_in h) (cnX4_isNumber l e2) syX4_isNumber w_81 ⟨Nat.le_of_ble_eq_true rfl, Nat.le_of_ble_eq_true rfl⟩ mv0 trivial rfl hl.1 rfl (Nat.le_of_ble_eq_true rfl) dX4_sign_3 ⟨Nat.zero_le _, Nat.zero_le _⟩ ?_
  refine lv_if_eq (tgt := 25) hx hb dX4_sign_6 (by decide) (fun c6 => ?_) (fun c6 => ?_)
  · have h := pt c6 h
    refine lv_bipush (v := (-3 : Int32)) hx hb dX4_sign_25 (by decide) ?_
    exact END 27 ls _ (pe h) dX4_sign_27
  · have h := pf c6 h
    refine lv_iload_n hx hb dX4_sign_9 rfl (lv_at hl 2 rfl) ?_
    refine lv_ldc (v := (1000000 : Int32)) hx hb hown (hts _ (wl_in w_80)) dX4_sign_10 ?_
    obtain ⟨r3, e4, h⟩ := pb h
    refine ro_S (As := [.int a1, .int (1000000 : Int32)]) (rest := []) hF (fun _ h => wl_in h) (cnX4_isNumber l e4) syX4_isNumber w_81 ⟨Nat.le_of_ble_eq_true rfl, Nat.le_of_ble_eq_true rfl⟩ mv0 trivial rfl hl.1 rfl (Nat.le_of_ble_eq_true rfl) dX4_sign_12 ⟨Nat.zero_le _, Nat.zero_le _⟩ ?_
    refine lv_if_eq (tgt := 25) hx hb dX4_sign_15 (by decide) (fun c15 => ?_) (fun c15 => ?_)
    · have h := pt c15 h
      refine lv_bipush (v := (-3 : Int32)) hx hb dX4_sign_25 (by decide) ?_
      exact END 27 ls _ (pe h) dX4_sign_27
    · have h := pf c15 h
      refine lv_iload_n hx hb dX4_sign_18 rfl (lv_at hl 3 rfl) ?_
      obtain ⟨r5, e6, h⟩ := pb h
      refine ro_S (As := [.int a2]) (rest := []) hF (fun _ h => wl_in h) (cnX2_isPlace l A G cI cF tA tT e6) syX2_isPlace w_91 ⟨Nat.le_of_ble_eq_true rfl, Nat.le_of_ble_eq_true rfl⟩ eB_mv hE rfl hl.1 rfl (Nat.le_of_ble_eq_true rfl) dX4_sign_19 ⟨Nat.zero_le _, Nat.zero_le _⟩ ?_
      refine lv_if_ne (tgt := 28) hx hb dX4_sign_22 (by decide) (fun c22 => ?_) (fun c22 => ?_)
      · have h := pf c22 h
        refine lv_iload_n hx hb dX4_sign_28 rfl (lv_at hl 1 rfl) ?_
        refine lv_i2l (v := a0.toInt64) hx hb dX4_sign_29 rfl ?_
        refine lv_iload_n hx hb dX4_sign_30 rfl (lv_at hl 2 rfl) ?_
        refine lv_i2l (v := a1.toInt64) hx hb dX4_sign_31 rfl ?_
        refine lv_iload_n hx hb dX4_sign_32 rfl (lv_at hl 3 rfl) ?_
        obtain ⟨r7, e8, h⟩ := pb h
        refine ro_S (As := [.long a0.toInt64, .long a1.toInt64, .int a2]) (rest := []) hF (fun _ h => wl_in h) (cnX2_signAt l e8) syX2_signAt w_96 ⟨Nat.le_of_ble_eq_true rfl, Nat.le_of_ble_eq_true rfl⟩ mv0 trivial rfl hl.1 rfl (Nat.le_of_ble_eq_true rfl) dX4_sign_33 ⟨Nat.zero_le _, Nat.zero_le _⟩ ?_
        exact END 36 ls _ (pe h) dX4_sign_36
      · have h := pt c22 h
        refine lv_bipush (v := (-3 : Int32)) hx hb dX4_sign_25 (by decide) ?_
        exact END 27 ls _ (pe h) dX4_sign_27

theorem syX4_odds : Vy yX4_odds cX4_odds 8 (some .int) 2 := ⟨w_126, ⟨w_124, w_125⟩, w_1, by decide +kernel⟩
set_option maxHeartbeats 4000000 in
set_option maxRecDepth 100000 in
theorem cnX4_odds (l : Launch) (A : Nat → Prop) (G : va_G) (cI cF : ClassId) (tA tT : Nat) (o sh xx xc gv se : Nat) (fa ca : Nat → Nat) (n : Nat → Int32) (f : Nat → Nat → Int32) (xn : Int32) (xf gf : Nat → Int32) (s0 s1 s2 s3 s4 : Int32) (tr : Int64) {a0 : Int32} {a1 : Int32} {r : Int32} (h : fX4_odds n f tr a0 a1 = some r) : Ro l yX4_odds cX4_odds 8 (some .int) 5 125 [.ref o, .int a0, .int a1] (cB A G cI cF tA tT o sh xx xc gv se fa ca n f xn xf gf s0 s1 s2 s3 s4 tr) (.int r) := by
  refine ro_i (plainFor_of_name (by decide)) (Nat.le_of_ble_eq_true rfl) ?_
  intro p e s m args below meth cd Q ls hF hB hl END
  have hF : CallFix p m cd cX4_odds 8 s args (wl yX4_odds cX4_odds 8 (some .int)) RX4 := hF
  obtain ⟨hx, hb, hml, hown, hts⟩ := id hF
  have hl : lv_has ls 8 [(0, .ref o), (1, .int a0), (2, .int a1)] := hl
  obtain ⟨hE, hP⟩ := id hB
  obtain ⟨hK, ⟨hZ, hT⟩, ⟨hZ2, hT2⟩⟩ := id hE
  have hS : va_S A s.heap s.heap [] := va_S.rf
  rw [fX4_odds] at h
  refine lv_iload_n hx hb dX4_odds_0 rfl (lv_at hl 1 rfl) ?_
  refine lv_sipush (v := (400 : Int32)) hx hb dX4_odds_1 (by decide) ?_
  obtain ⟨r1, e2, h⟩ := pb h
  refine ro_S (As := [.int a0, .int (400 : Int32)]) (rest := []) hF (fun _ h => wl_in h) (cnX4_isNumber l e2) syX4_isNumber w_81 ⟨Nat.le_of_ble_eq_true rfl, Nat.le_of_ble_eq_true rfl⟩ mv0 trivial rfl hl.1 rfl (Nat.le_of_ble_eq_true rfl) dX4_odds_4 ⟨Nat.zero_le _, Nat.zero_le _⟩ ?_
  refine lv_if_eq (tgt := 20) hx hb dX4_odds_7 (by decide) (fun c7 => ?_) (fun c7 => ?_)
  · have h := pt c7 h
    refine lv_bipush (v := (-3 : Int32)) hx hb dX4_odds_20 (by decide) ?_
    exact END 22 ls _ (pe h) dX4_odds_22
  · have h := pf c7 h
    refine lv_iload_n hx hb dX4_odds_10 rfl (lv_at hl 2 rfl) ?_
    refine lv_sipush (v := (400 : Int32)) hx hb dX4_odds_11 (by decide) ?_
    obtain ⟨r3, e4, h⟩ := pb h
    refine ro_S (As := [.int a1, .int (400 : Int32)]) (rest := []) hF (fun _ h => wl_in h) (cnX4_isNumber l e4) syX4_isNumber w_81 ⟨Nat.le_of_ble_eq_true rfl, Nat.le_of_ble_eq_true rfl⟩ mv0 trivial rfl hl.1 rfl (Nat.le_of_ble_eq_true rfl) dX4_odds_14 ⟨Nat.zero_le _, Nat.zero_le _⟩ ?_
    refine lv_if_ne (tgt := 23) hx hb dX4_odds_17 (by decide) (fun c17 => ?_) (fun c17 => ?_)
    · have h := pf c17 h
      refine lv_iconst (v := (0 : Int32)) hx hb dX4_odds_23 (by decide) ?_
      refine lv_istore_n (lv' := [(3, .int (0 : Int32)), (0, .ref o), (1, .int a0), (2, .int a1)]) hx hb dX4_odds_24 rfl hl (by decide) rfl (fun ls hl => ?_)
      refine va_gets hx hb hZ hS hown (hts _ (wl_in w_127)) (fun _ h9 => h9) dX4_odds_25 ?_
      refine lv_astore (lv' := [(4, .ref tA), (3, .int (0 : Int32)), (0, .ref o), (1, .int a0), (2, .int a1)]) hx hb dX4_odds_28 hl (by decide) rfl (fun ls hl => ?_)
      refine lv_aload hx hb dX4_odds_30 (lv_at hl 0 rfl) ?_
      refine va_tlen (v := (79 : Int32)) hx hb hT hS rfl dX4_odds_32 ?_
      refine lv_istore (lv' := [(5, .int (79 : Int32)), (4, .ref tA), (3, .int (0 : Int32)), (0, .ref o), (1, .int a0), (2, .int a1)]) hx hb dX4_odds_33 hl (by decide) rfl (fun ls hl => ?_)
      refine lv_iconst (v := (0 : Int32)) hx hb dX4_odds_35 (by decide) ?_
      refine lv_istore (lv' := [(6, .int (0 : Int32)), (5, .int (79 : Int32)), (4, .ref tA), (3, .int (0 : Int32)), (0, .ref o), (1, .int a0), (2, .int a1)]) hx hb dX4_odds_36 hl (by decide) rfl (fun ls hl => ?_)
      have J38 : ∀ (n38 : Nat) (x3_38 : Int32) (x6_38 : Int32), kX4_odds_38 a0 a1 n38 x3_38 x6_38 = some r → ∀ (ls : Array Slot), lv_has ls 8 [(5, .int (79 : Int32)), (4, .ref tA), (1, .int a0), (2, .int a1), (3, .int x3_38), (6, .int x6_38)] → W p l e (rmk 5 125) s m args below meth cd s.heap [] 0 0 Q (F0 m 38 ls []) := by
        intro n38
        induction n38 with
        | zero =>
          intro x3_38 x6_38 h
          rw [kX4_odds_38] at h
          cases h
        | succ n38 ih38 =>
          intro x3_38 x6_38 h  ls hl
          rw [kX4_odds_38] at h
          refine lv_iload hx hb dX4_odds_38 (lv_at hl 5 rfl) ?_
          refine lv_iload hx hb dX4_odds_40 (lv_at hl 0 rfl) ?_
          refine lv_icmp_ge (tgt := 73) hx hb dX4_odds_42 (by decide) (fun c42 => ?_) (fun c42 => ?_)
          · have h := pt c42 h
            refine lv_iload_n hx hb dX4_odds_73 rfl (lv_at hl 4 rfl) ?_
            exact END 74 ls _ (pe h) dX4_odds_74
          · have h := pf c42 h
            refine lv_aload hx hb dX4_odds_45 (lv_at hl 1 rfl) ?_
            refine lv_iload hx hb dX4_odds_47 (lv_at hl 5 rfl) ?_
            obtain ⟨g5, h⟩ := pg h
            refine va_ti (v := .int (allv x6_38.toNatClampNeg)) hx hb hT hS g5 rfl dX4_odds_49 ?_
            refine lv_istore (lv' := [(7, .int (allv x6_38.toNatClampNeg)), (5, .int (79 : Int32)), (4, .ref tA), (1, .int a0), (2, .int a1), (3, .int x3_38), (6, .int x6_38)]) hx hb dX4_odds_50 hl (by decide) rfl (fun ls hl => ?_)
            refine lv_iload_n hx hb dX4_odds_52 rfl (lv_at hl 3 rfl) ?_
            refine lv_i2l (v := a0.toInt64) hx hb dX4_odds_53 rfl ?_
            refine lv_iload_n hx hb dX4_odds_54 rfl (lv_at hl 4 rfl) ?_
            refine lv_i2l (v := a1.toInt64) hx hb dX4_odds_55 rfl ?_
            refine lv_iload hx hb dX4_odds_56 (lv_at hl 0 rfl) ?_
            obtain ⟨r6, e7, h⟩ := pb h
            refine ro_S (As := [.long a0.toInt64, .long a1.toInt64, .int (allv x6_38.toNatClampNeg)]) (rest := []) hF (fun _ h => wl_in h) (cnX2_signAt l e7) syX2_signAt w_96 ⟨Nat.le_of_ble_eq_true rfl, Nat.le_of_ble_eq_true rfl⟩ mv0 trivial rfl hl.1 rfl (Nat.le_of_ble_eq_true rfl) dX4_odds_58 ⟨Nat.zero_le _, Nat.zero_le _⟩ ?_
            refine lv_if_ge (tgt := 67) hx hb dX4_odds_61 (by decide) (fun c61 => ?_) (fun c61 => ?_)
            · have h := pt c61 h
              refine lv_iinc (v := x6_38 + (1 : Int32)) (lv' := [(6, .int (x6_38 + (1 : Int32))), (7, .int (allv x6_38.toNatClampNeg)), (5, .int (79 : Int32)), (4, .ref tA), (1, .int a0), (2, .int a1), (3, .int x3_38)]) hx hb dX4_odds_67 hl (k := 6) rfl rfl (by decide) rfl (fun ls hl => ?_)
              refine lv_goto (tgt := 38) hx hb dX4_odds_70 (by decide) ?_
              exact ih38 _ _ h  _ (lv_sub hl [2, 3, 4, 5, 6, 0] rfl)
            · have h := pf c61 h
              refine lv_iinc (v := x3_38 + (1 : Int32)) (lv' := [(3, .int (x3_38 + (1 : Int32))), (7, .int (allv x6_38.toNatClampNeg)), (5, .int (79 : Int32)), (4, .ref tA), (1, .int a0), (2, .int a1), (6, .int x6_38)]) hx hb dX4_odds_64 hl (k := 5) rfl rfl (by decide) rfl (fun ls hl => ?_)
              refine lv_iinc (v := x6_38 + (1 : Int32)) (lv' := [(6, .int (x6_38 + (1 : Int32))), (3, .int (x3_38 + (1 : Int32))), (7, .int (allv x6_38.toNatClampNeg)), (5, .int (79 : Int32)), (4, .ref tA), (1, .int a0), (2, .int a1)]) hx hb dX4_odds_67 hl (k := 6) rfl rfl (by decide) rfl (fun ls hl => ?_)
              refine lv_goto (tgt := 38) hx hb dX4_odds_70 (by decide) ?_
              exact ih38 _ _ h  _ (lv_sub hl [3, 4, 5, 6, 1, 0] rfl)
      exact J38 _ _ _ h  _ (lv_sub hl [1, 2, 5, 6, 3, 0] rfl)
    · have h := pt c17 h
      refine lv_bipush (v := (-3 : Int32)) hx hb dX4_odds_20 (by decide) ?_
      exact END 22 ls _ (pe h) dX4_odds_22

theorem syX4_at : Vy yX4_at cX4_at 3 (some .int) 2 := ⟨w_142, ⟨w_140, w_141⟩, w_1, by decide +kernel⟩
set_option maxHeartbeats 4000000 in
set_option maxRecDepth 100000 in
theorem cnX4_at (l : Launch) (A : Nat → Prop) (G : va_G) (cI cF : ClassId) (tA tT : Nat) (o sh xx xc gv se : Nat) (fa ca : Nat → Nat) (n : Nat → Int32) (f : Nat → Nat → Int32) (xn : Int32) (xf gf : Nat → Int32) (s0 s1 s2 s3 s4 : Int32) (tr : Int64) {a0 : Int32} {a1 : Int32} {r : Int32} (h : fX4_at n f tr a0 a1 = some r) : Ro l yX4_at cX4_at 3 (some .int) 1 20 [.ref o, .int a0, .int a1] (cB A G cI cF tA tT o sh xx xc gv se fa ca n f xn xf gf s0 s1 s2 s3 s4 tr) (.int r) := by
  refine ro_i (plainFor_of_name (by decide)) (Nat.le_of_ble_eq_true rfl) ?_
  intro p e s m args below meth cd Q ls hF hB hl END
  have hF : CallFix p m cd cX4_at 3 s args (wl yX4_at cX4_at 3 (some .int)) RX4 := hF
  obtain ⟨hx, hb, hml, hown, hts⟩ := id hF
  have hl : lv_has ls 3 [(0, .ref o), (1, .int a0), (2, .int a1)] := hl
  obtain ⟨hE, hP⟩ := id hB
  obtain ⟨hK, ⟨hZ, hT⟩, ⟨hZ2, hT2⟩⟩ := id hE
  have hS : va_S A s.heap s.heap [] := va_S.rf
  rw [fX4_at] at h
  refine lv_iload_n hx hb dX4_at_0 rfl (lv_at hl 1 rfl) ?_
  obtain ⟨r1, e2, h⟩ := pb h
  refine ro_S (As := [.int a0]) (rest := []) hF (fun _ h => wl_in h) (cnX4_isShelf l e2) syX4_isShelf w_132 ⟨Nat.le_of_ble_eq_true rfl, Nat.le_of_ble_eq_true rfl⟩ mv0 trivial rfl hl.1 rfl (Nat.le_of_ble_eq_true rfl) dX4_at_1 ⟨Nat.zero_le _, Nat.zero_le _⟩ ?_
  refine lv_if_eq (tgt := 24) hx hb dX4_at_4 (by decide) (fun c4 => ?_) (fun c4 => ?_)
  · have h := pt c4 h
    refine lv_iconst (v := (0 : Int32)) hx hb dX4_at_24 (by decide) ?_
    exact END 25 ls _ (pe h) dX4_at_25
  · have h := pf c4 h
    refine lv_iload_n hx hb dX4_at_7 rfl (lv_at hl 2 rfl) ?_
    refine lv_if_lt (tgt := 24) hx hb dX4_at_8 (by decide) (fun c8 => ?_) (fun c8 => ?_)
    · have h := pt c8 h
      refine lv_iconst (v := (0 : Int32)) hx hb dX4_at_24 (by decide) ?_
      exact END 25 ls _ (pe h) dX4_at_25
    · have h := pf c8 h
      refine lv_iload_n hx hb dX4_at_11 rfl (lv_at hl 2 rfl) ?_
      refine lv_aload_n hx hb dX4_at_12 rfl (lv_at hl 0 rfl) ?_
      refine va_get (D := G) (ci := 2) (v := .ref sh) (C := RX4) (T := TX4) (N := 5) hx hb hts (fun w h => wl_in (inX4 w h)) hown hK hP 0 rfl rfl 0 (by decide) (hts _ (wl_in w_60)) (fun _ h9 => h9) rfl dX4_at_13 ?_
      refine lv_iload_n hx hb dX4_at_16 rfl (lv_at hl 1 rfl) ?_
      obtain ⟨g3, h⟩ := pg h
      refine c_aald hx hb hK hP g3 dX4_at_17 ?_
      have hPj4 := cP_form hP (vin_lt g3)
      refine va_get (D := G) (ci := 0) (v := .int (n a0.toNatClampNeg)) (C := RX0) (T := TX0) (N := 2) hx hb hts (fun w h => wl_in (inX0 w h)) hown hK hPj4 0 rfl rfl 0 (by decide) (hts _ (wl_in w_24)) (fun _ h9 => h9) rfl dX4_at_18 ?_
      refine lv_icmp_lt (tgt := 26) hx hb dX4_at_21 (by decide) (fun c21 => ?_) (fun c21 => ?_)
      · have h := pt c21 h
        refine lv_aload_n hx hb dX4_at_26 rfl (lv_at hl 0 rfl) ?_
        refine va_get (D := G) (ci := 2) (v := .ref sh) (C := RX4) (T := TX4) (N := 5) hx hb hts (fun w h => wl_in (inX4 w h)) hown hK hP 0 rfl rfl 0 (by decide) (hts _ (wl_in w_60)) (fun _ h9 => h9) rfl dX4_at_27 ?_
        refine lv_iload_n hx hb dX4_at_30 rfl (lv_at hl 1 rfl) ?_
        obtain ⟨g5, h⟩ := pg h
        refine c_aald hx hb hK hP g5 dX4_at_31 ?_
        have hPj6 := cP_form hP (vin_lt g5)
        refine va_get (D := G) (ci := 0) (v := .ref (ca a0.toNatClampNeg)) (C := RX0) (T := TX0) (N := 2) hx hb hts (fun w h => wl_in (inX0 w h)) hown hK hPj6 0 rfl rfl 1 (by decide) (hts _ (wl_in w_26)) (fun _ h9 => h9) rfl dX4_at_32 ?_
        refine lv_iload_n hx hb dX4_at_35 rfl (lv_at hl 2 rfl) ?_
        obtain ⟨g7, h⟩ := pg h
        refine va_iald hx hb hK hPj6 1 0 rfl rfl g7 dX4_at_36 ?_
        exact END 37 ls _ (pe h) dX4_at_37
      · have h := pf c21 h
        refine lv_iconst (v := (0 : Int32)) hx hb dX4_at_24 (by decide) ?_
        exact END 25 ls _ (pe h) dX4_at_25

theorem syX4_whole : Vy yX4_whole cX4_whole 3 (some .long) 2 := ⟨w_146, ⟨w_144, w_145⟩, w_1, by decide +kernel⟩
set_option maxHeartbeats 4000000 in
set_option maxRecDepth 100000 in
theorem cnX4_whole (l : Launch) (A : Nat → Prop) (G : va_G) (cI cF : ClassId) (tA tT : Nat) (o sh xx xc gv se : Nat) (fa ca : Nat → Nat) (n : Nat → Int32) (f : Nat → Nat → Int32) (xn : Int32) (xf gf : Nat → Int32) (s0 s1 s2 s3 s4 : Int32) (tr : Int64) {a0 : Int32} {a1 : Int32} {r : Int64} (h : fX4_whole n f tr a0 a1 = some r) : Ro l yX4_whole cX4_whole 3 (some .long) 2 51 [.ref o, .int a0, .int a1] (cB A G cI cF tA tT o sh xx xc gv se fa ca n f xn xf gf s0 s1 s2 s3 s4 tr) (.long r) := by
  refine ro_l (plainFor_of_name (by decide)) (Nat.le_of_ble_eq_true rfl) ?_
  intro p e s m args below meth cd Q ls hF hB hl END
  have hF : CallFix p m cd cX4_whole 3 s args (wl yX4_whole cX4_whole 3 (some .long)) RX4 := hF
  obtain ⟨hx, hb, hml, hown, hts⟩ := id hF
  have hl : lv_has ls 3 [(0, .ref o), (1, .int a0), (2, .int a1)] := hl
  obtain ⟨hE, hP⟩ := id hB
  obtain ⟨hK, ⟨hZ, hT⟩, ⟨hZ2, hT2⟩⟩ := id hE
  have hS : va_S A s.heap s.heap [] := va_S.rf
  rw [fX4_whole] at h
  refine lv_iload_n hx hb dX4_whole_0 rfl (lv_at hl 1 rfl) ?_
  obtain ⟨r1, e2, h⟩ := pb h
  refine ro_S (As := [.int a0]) (rest := []) hF (fun _ h => wl_in h) (cnX4_isShelf l e2) syX4_isShelf w_132 ⟨Nat.le_of_ble_eq_true rfl, Nat.le_of_ble_eq_true rfl⟩ mv0 trivial rfl hl.1 rfl (Nat.le_of_ble_eq_true rfl) dX4_whole_1 ⟨Nat.zero_le _, Nat.zero_le _⟩ ?_
  refine lv_if_eq (tgt := 16) hx hb dX4_whole_4 (by decide) (fun c4 => ?_) (fun c4 => ?_)
  · have h := pt c4 h
    refine lv_lconst (v := (0 : Int64)) hx hb dX4_whole_16 (by decide) ?_
    exact END 17 ls _ (pe h) dX4_whole_17
  · have h := pf c4 h
    refine lv_iload_n hx hb dX4_whole_7 rfl (lv_at hl 2 rfl) ?_
    refine lv_if_lt (tgt := 16) hx hb dX4_whole_8 (by decide) (fun c8 => ?_) (fun c8 => ?_)
    · have h := pt c8 h
      refine lv_lconst (v := (0 : Int64)) hx hb dX4_whole_16 (by decide) ?_
      exact END 17 ls _ (pe h) dX4_whole_17
    · have h := pf c8 h
      refine lv_iload_n hx hb dX4_whole_11 rfl (lv_at hl 2 rfl) ?_
      refine lv_iconst (v := (1 : Int32)) hx hb dX4_whole_12 (by decide) ?_
      refine lv_icmp_le (tgt := 18) hx hb dX4_whole_13 (by decide) (fun c13 => ?_) (fun c13 => ?_)
      · have h := pt c13 h
        refine lv_iload_n hx hb dX4_whole_18 rfl (lv_at hl 2 rfl) ?_
        refine lv_if_ne (tgt := 34) hx hb dX4_whole_19 (by decide) (fun c19 => ?_) (fun c19 => ?_)
        · have h := pf c19 h
          refine lv_aload_n hx hb dX4_whole_34 rfl (lv_at hl 0 rfl) ?_
          refine va_get (D := G) (ci := 2) (v := .ref sh) (C := RX4) (T := TX4) (N := 5) hx hb hts (fun w h => wl_in (inX4 w h)) hown hK hP 0 rfl rfl 0 (by decide) (hts _ (wl_in w_60)) (fun _ h9 => h9) rfl dX4_whole_35 ?_
          refine lv_iload_n hx hb dX4_whole_38 rfl (lv_at hl 1 rfl) ?_
          obtain ⟨g3, h⟩ := pg h
          refine c_aald hx hb hK hP g3 dX4_whole_39 ?_
          have hPj4 := cP_form hP (vin_lt g3)
          obtain ⟨r5, e6, h⟩ := pb h
          refine ro_V (As := []) (rest := []) hF (fun _ h => wl_in h) (cnX0_freeProduct l A G cI cF tA tT (fa a0.toNatClampNeg) (ca a0.toNatClampNeg) (n a0.toNatClampNeg) (f a0.toNatClampNeg) e6) syX0_freeProduct w_151 ⟨Nat.le_of_ble_eq_true rfl, Nat.le_of_ble_eq_true rfl⟩ fB_mv ⟨hE, hPj4⟩ (va_recv hK hPj4 (ci := 0) (q0 := 0) rfl rfl) rfl hl.1 rfl (Nat.le_of_ble_eq_true rfl) dX4_whole_40 ⟨Nat.zero_le _, Nat.zero_le _⟩ ?_
          exact END 43 ls _ (pe h) dX4_whole_43
        · have h := pt c19 h
          refine lv_aload_n hx hb dX4_whole_22 rfl (lv_at hl 0 rfl) ?_
          refine va_get (D := G) (ci := 2) (v := .ref sh) (C := RX4) (T := TX4) (N := 5) hx hb hts (fun w h => wl_in (inX4 w h)) hown hK hP 0 rfl rfl 0 (by decide) (hts _ (wl_in w_60)) (fun _ h9 => h9) rfl dX4_whole_23 ?_
          refine lv_iload_n hx hb dX4_whole_26 rfl (lv_at hl 1 rfl) ?_
          obtain ⟨g7, h⟩ := pg h
          refine c_aald hx hb hK hP g7 dX4_whole_27 ?_
          have hPj8 := cP_form hP (vin_lt g7)
          obtain ⟨r9, e10, h⟩ := pb h
          refine ro_V (As := []) (rest := []) hF (fun _ h => wl_in h) (cnX0_product l A G cI cF tA tT (fa a0.toNatClampNeg) (ca a0.toNatClampNeg) (n a0.toNatClampNeg) (f a0.toNatClampNeg) e10) syX0_product w_147 ⟨Nat.le_of_ble_eq_true rfl, Nat.le_of_ble_eq_true rfl⟩ fB_mv ⟨hE, hPj8⟩ (va_recv hK hPj8 (ci := 0) (q0 := 0) rfl rfl) rfl hl.1 rfl (Nat.le_of_ble_eq_true rfl) dX4_whole_28 ⟨Nat.zero_le _, Nat.zero_le _⟩ ?_
          refine lv_goto (tgt := 43) hx hb dX4_whole_31 (by decide) ?_
          exact END 43 ls _ (pe h) dX4_whole_43
      · have h := pf c13 h
        refine lv_lconst (v := (0 : Int64)) hx hb dX4_whole_16 (by decide) ?_
        exact END 17 ls _ (pe h) dX4_whole_17

theorem syX4_hold : Vy yX4_hold cX4_hold 3 (some .int) 2 := ⟨w_160, ⟨w_158, w_159⟩, w_1, by decide +kernel⟩
set_option maxHeartbeats 4000000 in
set_option maxRecDepth 100000 in
theorem cnX4_hold (l : Launch) (A : Nat → Prop) (G : va_G) (cI cF : ClassId) (tA tT : Nat) (o sh xx xc gv se : Nat) (fa ca : Nat → Nat) (n : Nat → Int32) (f : Nat → Nat → Int32) (xn : Int32) (xf gf : Nat → Int32) (s0 s1 s2 s3 s4 : Int32) (tr : Int64) {a0 : Int32} {a1 : Int32} {r : Int32} (h : fX4_hold n f tr a0 a1 = some r) : Ro l yX4_hold cX4_hold 3 (some .int) 6 149 [.ref o, .int a0, .int a1] (cB A G cI cF tA tT o sh xx xc gv se fa ca n f xn xf gf s0 s1 s2 s3 s4 tr) (.int r) := by
  refine ro_i (plainFor_of_name (by decide)) (Nat.le_of_ble_eq_true rfl) ?_
  intro p e s m args below meth cd Q ls hF hB hl END
  have hF : CallFix p m cd cX4_hold 3 s args (wl yX4_hold cX4_hold 3 (some .int)) RX4 := hF
  obtain ⟨hx, hb, hml, hown, hts⟩ := id hF
  have hl : lv_has ls 3 [(0, .ref o), (1, .int a0), (2, .int a1)] := hl
  obtain ⟨hE, hP⟩ := id hB
  obtain ⟨hK, ⟨hZ, hT⟩, ⟨hZ2, hT2⟩⟩ := id hE
  have hS : va_S A s.heap s.heap [] := va_S.rf
  rw [fX4_hold] at h
  refine lv_iload_n hx hb dX4_hold_0 rfl (lv_at hl 1 rfl) ?_
  obtain ⟨r1, e2, h⟩ := pb h
  refine ro_S (As := [.int a0]) (rest := []) hF (fun _ h => wl_in h) (cnX4_isShelf l e2) syX4_isShelf w_132 ⟨Nat.le_of_ble_eq_true rfl, Nat.le_of_ble_eq_true rfl⟩ mv0 trivial rfl hl.1 rfl (Nat.le_of_ble_eq_true rfl) dX4_hold_1 ⟨Nat.zero_le _, Nat.zero_le _⟩ ?_
  refine lv_if_eq (tgt := 14) hx hb dX4_hold_4 (by decide) (fun c4 => ?_) (fun c4 => ?_)
  · have h := pt c4 h
    refine lv_bipush (v := (-3 : Int32)) hx hb dX4_hold_14 (by decide) ?_
    exact END 16 ls _ (pe h) dX4_hold_16
  · have h := pf c4 h
    refine lv_iload_n hx hb dX4_hold_7 rfl (lv_at hl 2 rfl) ?_
    obtain ⟨r3, e4, h⟩ := pb h
    refine ro_S (As := [.int a1]) (rest := []) hF (fun _ h => wl_in h) (cnX2_isPlace l A G cI cF tA tT e4) syX2_isPlace w_91 ⟨Nat.le_of_ble_eq_true rfl, Nat.le_of_ble_eq_true rfl⟩ eB_mv hE rfl hl.1 rfl (Nat.le_of_ble_eq_true rfl) dX4_hold_8 ⟨Nat.zero_le _, Nat.zero_le _⟩ ?_
    refine lv_if_ne (tgt := 17) hx hb dX4_hold_11 (by decide) (fun c11 => ?_) (fun c11 => ?_)
    · have h := pf c11 h
      refine lv_aload_n hx hb dX4_hold_17 rfl (lv_at hl 0 rfl) ?_
      refine va_get (D := G) (ci := 2) (v := .ref sh) (C := RX4) (T := TX4) (N := 5) hx hb hts (fun w h => wl_in (inX4 w h)) hown hK hP 0 rfl rfl 0 (by decide) (hts _ (wl_in w_60)) (fun _ h9 => h9) rfl dX4_hold_18 ?_
      refine lv_iload_n hx hb dX4_hold_21 rfl (lv_at hl 1 rfl) ?_
      obtain ⟨g5, h⟩ := pg h
      refine c_aald hx hb hK hP g5 dX4_hold_22 ?_
      have hPj6 := cP_form hP (vin_lt g5)
      refine lv_iload_n hx hb dX4_hold_23 rfl (lv_at hl 2 rfl) ?_
      obtain ⟨r7, e8, h⟩ := pb h
      refine ro_V (As := [.int a1]) (rest := []) hF (fun _ h => wl_in h) (cnX0_signsAt l A G cI cF tA tT (fa a0.toNatClampNeg) (ca a0.toNatClampNeg) (n a0.toNatClampNeg) (f a0.toNatClampNeg) e8) syX0_signsAt w_161 ⟨Nat.le_of_ble_eq_true rfl, Nat.le_of_ble_eq_true rfl⟩ fB_mv ⟨hE, hPj6⟩ (va_recv hK hPj6 (ci := 0) (q0 := 0) rfl rfl) rfl hl.1 rfl (Nat.le_of_ble_eq_true rfl) dX4_hold_24 ⟨Nat.zero_le _, Nat.zero_le _⟩ ?_
      exact END 27 ls _ (pe h) dX4_hold_27
    · have h := pt c11 h
      refine lv_bipush (v := (-3 : Int32)) hx hb dX4_hold_14 (by decide) ?_
      exact END 16 ls _ (pe h) dX4_hold_16

theorem syX4_goes : Vy yX4_goes cX4_goes 3 (some .int) 2 := ⟨w_169, ⟨w_167, w_168⟩, w_1, by decide +kernel⟩
set_option maxHeartbeats 4000000 in
set_option maxRecDepth 100000 in
theorem cnX4_goes (l : Launch) (A : Nat → Prop) (G : va_G) (cI cF : ClassId) (tA tT : Nat) (o sh xx xc gv se : Nat) (fa ca : Nat → Nat) (n : Nat → Int32) (f : Nat → Nat → Int32) (xn : Int32) (xf gf : Nat → Int32) (s0 s1 s2 s3 s4 : Int32) (tr : Int64) {a0 : Int32} {a1 : Int32} {r : Int32} (h : fX4_goes n f tr a0 a1 = some r) : Ro l yX4_goes cX4_goes 3 (some .int) 7 171 [.ref o, .int a0, .int a1] (cB A G cI cF tA tT o sh xx xc gv se fa ca n f xn xf gf s0 s1 s2 s3 s4 tr) (.int r) := by
  refine ro_i (plainFor_of_name (by decide)) (Nat.le_of_ble_eq_true rfl) ?_
  intro p e s m args below meth cd Q ls hF hB hl END
  have hF : CallFix p m cd cX4_goes 3 s args (wl yX4_goes cX4_goes 3 (some .int)) RX4 := hF
  obtain ⟨hx, hb, hml, hown, hts⟩ := id hF
  have hl : lv_has ls 3 [(0, .ref o), (1, .int a0), (2, .int a1)] := hl
  obtain ⟨hE, hP⟩ := id hB
  obtain ⟨hK, ⟨hZ, hT⟩, ⟨hZ2, hT2⟩⟩ := id hE
  have hS : va_S A s.heap s.heap [] := va_S.rf
  rw [fX4_goes] at h
  refine lv_iload_n hx hb dX4_goes_0 rfl (lv_at hl 1 rfl) ?_
  obtain ⟨r1, e2, h⟩ := pb h
  refine ro_S (As := [.int a0]) (rest := []) hF (fun _ h => wl_in h) (cnX4_isShelf l e2) syX4_isShelf w_132 ⟨Nat.le_of_ble_eq_true rfl, Nat.le_of_ble_eq_true rfl⟩ mv0 trivial rfl hl.1 rfl (Nat.le_of_ble_eq_true rfl) dX4_goes_1 ⟨Nat.zero_le _, Nat.zero_le _⟩ ?_
  refine lv_if_eq (tgt := 14) hx hb dX4_goes_4 (by decide) (fun c4 => ?_) (fun c4 => ?_)
  · have h := pt c4 h
    refine lv_bipush (v := (-3 : Int32)) hx hb dX4_goes_14 (by decide) ?_
    exact END 16 ls _ (pe h) dX4_goes_16
  · have h := pf c4 h
    refine lv_iload_n hx hb dX4_goes_7 rfl (lv_at hl 2 rfl) ?_
    obtain ⟨r3, e4, h⟩ := pb h
    refine ro_S (As := [.int a1]) (rest := []) hF (fun _ h => wl_in h) (cnX2_isPlace l A G cI cF tA tT e4) syX2_isPlace w_91 ⟨Nat.le_of_ble_eq_true rfl, Nat.le_of_ble_eq_true rfl⟩ eB_mv hE rfl hl.1 rfl (Nat.le_of_ble_eq_true rfl) dX4_goes_8 ⟨Nat.zero_le _, Nat.zero_le _⟩ ?_
    refine lv_if_ne (tgt := 17) hx hb dX4_goes_11 (by decide) (fun c11 => ?_) (fun c11 => ?_)
    · have h := pf c11 h
      refine lv_aload_n hx hb dX4_goes_17 rfl (lv_at hl 0 rfl) ?_
      refine va_get (D := G) (ci := 2) (v := .ref sh) (C := RX4) (T := TX4) (N := 5) hx hb hts (fun w h => wl_in (inX4 w h)) hown hK hP 0 rfl rfl 0 (by decide) (hts _ (wl_in w_60)) (fun _ h9 => h9) rfl dX4_goes_18 ?_
      refine lv_iload_n hx hb dX4_goes_21 rfl (lv_at hl 1 rfl) ?_
      obtain ⟨g5, h⟩ := pg h
      refine c_aald hx hb hK hP g5 dX4_goes_22 ?_
      have hPj6 := cP_form hP (vin_lt g5)
      refine lv_iload_n hx hb dX4_goes_23 rfl (lv_at hl 2 rfl) ?_
      obtain ⟨r7, e8, h⟩ := pb h
      refine ro_V (As := [.int a1]) (rest := []) hF (fun _ h => wl_in h) (cnX0_goesAt l A G cI cF tA tT (fa a0.toNatClampNeg) (ca a0.toNatClampNeg) (n a0.toNatClampNeg) (f a0.toNatClampNeg) e8) syX0_goesAt w_170 ⟨Nat.le_of_ble_eq_true rfl, Nat.le_of_ble_eq_true rfl⟩ fB_mv ⟨hE, hPj6⟩ (va_recv hK hPj6 (ci := 0) (q0 := 0) rfl rfl) rfl hl.1 rfl (Nat.le_of_ble_eq_true rfl) dX4_goes_24 ⟨Nat.zero_le _, Nat.zero_le _⟩ ?_
      refine lv_if_eq (tgt := 34) hx hb dX4_goes_27 (by decide) (fun c27 => ?_) (fun c27 => ?_)
      · have h := pt c27 h
        refine lv_iconst (v := (0 : Int32)) hx hb dX4_goes_34 (by decide) ?_
        exact END 35 ls _ (pe h) dX4_goes_35
      · have h := pf c27 h
        refine lv_iconst (v := (1 : Int32)) hx hb dX4_goes_30 (by decide) ?_
        refine lv_goto (tgt := 35) hx hb dX4_goes_31 (by decide) ?_
        exact END 35 ls _ (pe h) dX4_goes_35
    · have h := pt c11 h
      refine lv_bipush (v := (-3 : Int32)) hx hb dX4_goes_14 (by decide) ?_
      exact END 16 ls _ (pe h) dX4_goes_16

theorem syX4_nought : Vy yX4_nought cX4_nought 2 (some .int) 1 := ⟨w_186, ⟨w_184, w_185⟩, w_1, by decide +kernel⟩
set_option maxHeartbeats 4000000 in
set_option maxRecDepth 100000 in
theorem cnX4_nought (l : Launch) (A : Nat → Prop) (G : va_G) (cI cF : ClassId) (tA tT : Nat) (o sh xx xc gv se : Nat) (fa ca : Nat → Nat) (n : Nat → Int32) (f : Nat → Nat → Int32) (xn : Int32) (xf gf : Nat → Int32) (s0 s1 s2 s3 s4 : Int32) (tr : Int64) {a0 : Int32} {r : Int32} (h : fX4_nought n f tr a0 = some r) : Ro l yX4_nought cX4_nought 2 (some .int) 8 196 [.ref o, .int a0] (cB A G cI cF tA tT o sh xx xc gv se fa ca n f xn xf gf s0 s1 s2 s3 s4 tr) (.int r) := by
  refine ro_i (plainFor_of_name (by decide)) (Nat.le_of_ble_eq_true rfl) ?_
  intro p e s m args below meth cd Q ls hF hB hl END
  have hF : CallFix p m cd cX4_nought 2 s args (wl yX4_nought cX4_nought 2 (some .int)) RX4 := hF
  obtain ⟨hx, hb, hml, hown, hts⟩ := id hF
  have hl : lv_has ls 2 [(0, .ref o), (1, .int a0)] := hl
  obtain ⟨hE, hP⟩ := id hB
  obtain ⟨hK, ⟨hZ, hT⟩, ⟨hZ2, hT2⟩⟩ := id hE
  have hS : va_S A s.heap s.heap [] := va_S.rf
  rw [fX4_nought] at h
  refine lv_iload_n hx hb dX4_nought_0 rfl (lv_at hl 1 rfl) ?_
  obtain ⟨r1, e2, h⟩ := pb h
  refine ro_S (As := [.int a0]) (rest := []) hF (fun _ h => wl_in h) (cnX4_isShelf l e2) syX4_isShelf w_132 ⟨Nat.le_of_ble_eq_true rfl, Nat.le_of_ble_eq_true rfl⟩ mv0 trivial rfl hl.1 rfl (Nat.le_of_ble_eq_true rfl) dX4_nought_1 ⟨Nat.zero_le _, Nat.zero_le _⟩ ?_
  refine lv_if_ne (tgt := 10) hx hb dX4_nought_4 (by decide) (fun c4 => ?_) (fun c4 => ?_)
  · have h := pf c4 h
    refine lv_aload_n hx hb dX4_nought_10 rfl (lv_at hl 0 rfl) ?_
    refine va_get (D := G) (ci := 2) (v := .ref sh) (C := RX4) (T := TX4) (N := 5) hx hb hts (fun w h => wl_in (inX4 w h)) hown hK hP 0 rfl rfl 0 (by decide) (hts _ (wl_in w_60)) (fun _ h9 => h9) rfl dX4_nought_11 ?_
    refine lv_iload_n hx hb dX4_nought_14 rfl (lv_at hl 1 rfl) ?_
    obtain ⟨g3, h⟩ := pg h
    refine c_aald hx hb hK hP g3 dX4_nought_15 ?_
    have hPj4 := cP_form hP (vin_lt g3)
    obtain ⟨r5, e6, h⟩ := pb h
    refine ro_V (As := []) (rest := []) hF (fun _ h => wl_in h) (cnX0_countBars l A G cI cF tA tT (fa a0.toNatClampNeg) (ca a0.toNatClampNeg) (n a0.toNatClampNeg) (f a0.toNatClampNeg) e6) syX0_countBars w_187 ⟨Nat.le_of_ble_eq_true rfl, Nat.le_of_ble_eq_true rfl⟩ fB_mv ⟨hE, hPj4⟩ (va_recv hK hPj4 (ci := 0) (q0 := 0) rfl rfl) rfl hl.1 rfl (Nat.le_of_ble_eq_true rfl) dX4_nought_16 ⟨Nat.zero_le _, Nat.zero_le _⟩ ?_
    refine lv_if_ne (tgt := 26) hx hb dX4_nought_19 (by decide) (fun c19 => ?_) (fun c19 => ?_)
    · have h := pf c19 h
      refine lv_iconst (v := (0 : Int32)) hx hb dX4_nought_26 (by decide) ?_
      exact END 27 ls _ (pe h) dX4_nought_27
    · have h := pt c19 h
      refine lv_iconst (v := (1 : Int32)) hx hb dX4_nought_22 (by decide) ?_
      refine lv_goto (tgt := 27) hx hb dX4_nought_23 (by decide) ?_
      exact END 27 ls _ (pe h) dX4_nought_27
  · have h := pt c4 h
    refine lv_bipush (v := (-3 : Int32)) hx hb dX4_nought_7 (by decide) ?_
    exact END 9 ls _ (pe h) dX4_nought_9

theorem syX4_bars : Vy yX4_bars cX4_bars 2 (some .int) 1 := ⟨w_199, ⟨w_197, w_198⟩, w_1, by decide +kernel⟩
set_option maxHeartbeats 4000000 in
set_option maxRecDepth 100000 in
theorem cnX4_bars (l : Launch) (A : Nat → Prop) (G : va_G) (cI cF : ClassId) (tA tT : Nat) (o sh xx xc gv se : Nat) (fa ca : Nat → Nat) (n : Nat → Int32) (f : Nat → Nat → Int32) (xn : Int32) (xf gf : Nat → Int32) (s0 s1 s2 s3 s4 : Int32) (tr : Int64) {a0 : Int32} {r : Int32} (h : fX4_bars n f tr a0 = some r) : Ro l yX4_bars cX4_bars 2 (some .int) 8 196 [.ref o, .int a0] (cB A G cI cF tA tT o sh xx xc gv se fa ca n f xn xf gf s0 s1 s2 s3 s4 tr) (.int r) := by
  refine ro_i (plainFor_of_name (by decide)) (Nat.le_of_ble_eq_true rfl) ?_
  intro p e s m args below meth cd Q ls hF hB hl END
  have hF : CallFix p m cd cX4_bars 2 s args (wl yX4_bars cX4_bars 2 (some .int)) RX4 := hF
  obtain ⟨hx, hb, hml, hown, hts⟩ := id hF
  have hl : lv_has ls 2 [(0, .ref o), (1, .int a0)] := hl
  obtain ⟨hE, hP⟩ := id hB
  obtain ⟨hK, ⟨hZ, hT⟩, ⟨hZ2, hT2⟩⟩ := id hE
  have hS : va_S A s.heap s.heap [] := va_S.rf
  rw [fX4_bars] at h
  refine lv_iload_n hx hb dX4_bars_0 rfl (lv_at hl 1 rfl) ?_
  obtain ⟨r1, e2, h⟩ := pb h
  refine ro_S (As := [.int a0]) (rest := []) hF (fun _ h => wl_in h) (cnX4_isShelf l e2) syX4_isShelf w_132 ⟨Nat.le_of_ble_eq_true rfl, Nat.le_of_ble_eq_true rfl⟩ mv0 trivial rfl hl.1 rfl (Nat.le_of_ble_eq_true rfl) dX4_bars_1 ⟨Nat.zero_le _, Nat.zero_le _⟩ ?_
  refine lv_if_ne (tgt := 10) hx hb dX4_bars_4 (by decide) (fun c4 => ?_) (fun c4 => ?_)
  · have h := pf c4 h
    refine lv_aload_n hx hb dX4_bars_10 rfl (lv_at hl 0 rfl) ?_
    refine va_get (D := G) (ci := 2) (v := .ref sh) (C := RX4) (T := TX4) (N := 5) hx hb hts (fun w h => wl_in (inX4 w h)) hown hK hP 0 rfl rfl 0 (by decide) (hts _ (wl_in w_60)) (fun _ h9 => h9) rfl dX4_bars_11 ?_
    refine lv_iload_n hx hb dX4_bars_14 rfl (lv_at hl 1 rfl) ?_
    obtain ⟨g3, h⟩ := pg h
    refine c_aald hx hb hK hP g3 dX4_bars_15 ?_
    have hPj4 := cP_form hP (vin_lt g3)
    obtain ⟨r5, e6, h⟩ := pb h
    refine ro_V (As := []) (rest := []) hF (fun _ h => wl_in h) (cnX0_countBars l A G cI cF tA tT (fa a0.toNatClampNeg) (ca a0.toNatClampNeg) (n a0.toNatClampNeg) (f a0.toNatClampNeg) e6) syX0_countBars w_187 ⟨Nat.le_of_ble_eq_true rfl, Nat.le_of_ble_eq_true rfl⟩ fB_mv ⟨hE, hPj4⟩ (va_recv hK hPj4 (ci := 0) (q0 := 0) rfl rfl) rfl hl.1 rfl (Nat.le_of_ble_eq_true rfl) dX4_bars_16 ⟨Nat.zero_le _, Nat.zero_le _⟩ ?_
    exact END 19 ls _ (pe h) dX4_bars_19
  · have h := pt c4 h
    refine lv_bipush (v := (-3 : Int32)) hx hb dX4_bars_7 (by decide) ?_
    exact END 9 ls _ (pe h) dX4_bars_9

theorem syX4_bar : Vy yX4_bar cX4_bar 4 (some .int) 2 := ⟨w_203, ⟨w_201, w_202⟩, w_1, by decide +kernel⟩
set_option maxHeartbeats 4000000 in
set_option maxRecDepth 100000 in
theorem cnX4_bar (l : Launch) (A : Nat → Prop) (G : va_G) (cI cF : ClassId) (tA tT : Nat) (o sh xx xc gv se : Nat) (fa ca : Nat → Nat) (n : Nat → Int32) (f : Nat → Nat → Int32) (xn : Int32) (xf gf : Nat → Int32) (s0 s1 s2 s3 s4 : Int32) (tr : Int64) {a0 : Int32} {a1 : Int32} {r : Int32} (h : fX4_bar n f tr a0 a1 = some r) : Ro l yX4_bar cX4_bar 4 (some .int) 8 197 [.ref o, .int a0, .int a1] (cB A G cI cF tA tT o sh xx xc gv se fa ca n f xn xf gf s0 s1 s2 s3 s4 tr) (.int r) := by
  refine ro_i (plainFor_of_name (by decide)) (Nat.le_of_ble_eq_true rfl) ?_
  intro p e s m args below meth cd Q ls hF hB hl END
  have hF : CallFix p m cd cX4_bar 4 s args (wl yX4_bar cX4_bar 4 (some .int)) RX4 := hF
  obtain ⟨hx, hb, hml, hown, hts⟩ := id hF
  have hl : lv_has ls 4 [(0, .ref o), (1, .int a0), (2, .int a1)] := hl
  obtain ⟨hE, hP⟩ := id hB
  obtain ⟨hK, ⟨hZ, hT⟩, ⟨hZ2, hT2⟩⟩ := id hE
  have hS : va_S A s.heap s.heap [] := va_S.rf
  rw [fX4_bar] at h
  refine lv_iload_n hx hb dX4_bar_0 rfl (lv_at hl 1 rfl) ?_
  obtain ⟨r1, e2, h⟩ := pb h
  refine ro_S (As := [.int a0]) (rest := []) hF (fun _ h => wl_in h) (cnX4_isShelf l e2) syX4_isShelf w_132 ⟨Nat.le_of_ble_eq_true rfl, Nat.le_of_ble_eq_true rfl⟩ mv0 trivial rfl hl.1 rfl (Nat.le_of_ble_eq_true rfl) dX4_bar_1 ⟨Nat.zero_le _, Nat.zero_le _⟩ ?_
  refine lv_if_eq (tgt := 11) hx hb dX4_bar_4 (by decide) (fun c4 => ?_) (fun c4 => ?_)
  · have h := pt c4 h
    refine lv_bipush (v := (-3 : Int32)) hx hb dX4_bar_11 (by decide) ?_
    exact END 13 ls _ (pe h) dX4_bar_13
  · have h := pf c4 h
    refine lv_iload_n hx hb dX4_bar_7 rfl (lv_at hl 2 rfl) ?_
    refine lv_if_ge (tgt := 14) hx hb dX4_bar_8 (by decide) (fun c8 => ?_) (fun c8 => ?_)
    · have h := pt c8 h
      refine lv_aload_n hx hb dX4_bar_14 rfl (lv_at hl 0 rfl) ?_
      refine va_get (D := G) (ci := 2) (v := .ref sh) (C := RX4) (T := TX4) (N := 5) hx hb hts (fun w h => wl_in (inX4 w h)) hown hK hP 0 rfl rfl 0 (by decide) (hts _ (wl_in w_60)) (fun _ h9 => h9) rfl dX4_bar_15 ?_
      refine lv_iload_n hx hb dX4_bar_18 rfl (lv_at hl 1 rfl) ?_
      obtain ⟨g3, h⟩ := pg h
      refine c_aald hx hb hK hP g3 dX4_bar_19 ?_
      have hPj4 := cP_form hP (vin_lt g3)
      refine lv_iload_n hx hb dX4_bar_20 rfl (lv_at hl 2 rfl) ?_
      obtain ⟨r5, e6, h⟩ := pb h
      refine ro_V (As := [.int a1]) (rest := []) hF (fun _ h => wl_in h) (cnX0_findBar l A G cI cF tA tT (fa a0.toNatClampNeg) (ca a0.toNatClampNeg) (n a0.toNatClampNeg) (f a0.toNatClampNeg) e6) syX0_findBar w_204 ⟨Nat.le_of_ble_eq_true rfl, Nat.le_of_ble_eq_true rfl⟩ fB_mv ⟨hE, hPj4⟩ (va_recv hK hPj4 (ci := 0) (q0 := 0) rfl rfl) rfl hl.1 rfl (Nat.le_of_ble_eq_true rfl) dX4_bar_21 ⟨Nat.zero_le _, Nat.zero_le _⟩ ?_
      refine lv_istore_n (lv' := [(3, .int r5), (0, .ref o), (1, .int a0), (2, .int a1)]) hx hb dX4_bar_24 rfl hl (by decide) rfl (fun ls hl => ?_)
      refine lv_iload_n hx hb dX4_bar_25 rfl (lv_at hl 0 rfl) ?_
      refine lv_if_ge (tgt := 34) hx hb dX4_bar_26 (by decide) (fun c26 => ?_) (fun c26 => ?_)
      · have h := pt c26 h
        refine lv_iload_n hx hb dX4_bar_34 rfl (lv_at hl 0 rfl) ?_
        exact END 35 ls _ (pe h) dX4_bar_35
      · have h := pf c26 h
        refine lv_bipush (v := (-3 : Int32)) hx hb dX4_bar_29 (by decide) ?_
        refine lv_goto (tgt := 35) hx hb dX4_bar_31 (by decide) ?_
        exact END 35 ls _ (pe h) dX4_bar_35
    · have h := pf c8 h
      refine lv_bipush (v := (-3 : Int32)) hx hb dX4_bar_11 (by decide) ?_
      exact END 13 ls _ (pe h) dX4_bar_13

theorem syX4_alike : Vy yX4_alike cX4_alike 3 (some .int) 2 := ⟨w_219, ⟨w_217, w_218⟩, w_1, by decide +kernel⟩
set_option maxHeartbeats 4000000 in
set_option maxRecDepth 100000 in
theorem cnX4_alike (l : Launch) (A : Nat → Prop) (G : va_G) (cI cF : ClassId) (tA tT : Nat) (o sh xx xc gv se : Nat) (fa ca : Nat → Nat) (n : Nat → Int32) (f : Nat → Nat → Int32) (xn : Int32) (xf gf : Nat → Int32) (s0 s1 s2 s3 s4 : Int32) (tr : Int64) {a0 : Int32} {a1 : Int32} {r : Int32} (h : fX4_alike n f tr a0 a1 = some r) : Ro l yX4_alike cX4_alike 3 (some .int) 7 174 [.ref o, .int a0, .int a1] (cB A G cI cF tA tT o sh xx xc gv se fa ca n f xn xf gf s0 s1 s2 s3 s4 tr) (.int r) := by
  refine ro_i (plainFor_of_name (by decide)) (Nat.le_of_ble_eq_true rfl) ?_
  intro p e s m args below meth cd Q ls hF hB hl END
  have hF : CallFix p m cd cX4_alike 3 s args (wl yX4_alike cX4_alike 3 (some .int)) RX4 := hF
  obtain ⟨hx, hb, hml, hown, hts⟩ := id hF
  have hl : lv_has ls 3 [(0, .ref o), (1, .int a0), (2, .int a1)] := hl
  obtain ⟨hE, hP⟩ := id hB
  obtain ⟨hK, ⟨hZ, hT⟩, ⟨hZ2, hT2⟩⟩ := id hE
  have hS : va_S A s.heap s.heap [] := va_S.rf
  rw [fX4_alike] at h
  refine lv_iload_n hx hb dX4_alike_0 rfl (lv_at hl 1 rfl) ?_
  obtain ⟨r1, e2, h⟩ := pb h
  refine ro_S (As := [.int a0]) (rest := []) hF (fun _ h => wl_in h) (cnX4_isShelf l e2) syX4_isShelf w_132 ⟨Nat.le_of_ble_eq_true rfl, Nat.le_of_ble_eq_true rfl⟩ mv0 trivial rfl hl.1 rfl (Nat.le_of_ble_eq_true rfl) dX4_alike_1 ⟨Nat.zero_le _, Nat.zero_le _⟩ ?_
  refine lv_if_eq (tgt := 14) hx hb dX4_alike_4 (by decide) (fun c4 => ?_) (fun c4 => ?_)
  · have h := pt c4 h
    refine lv_bipush (v := (-3 : Int32)) hx hb dX4_alike_14 (by decide) ?_
    exact END 16 ls _ (pe h) dX4_alike_16
  · have h := pf c4 h
    refine lv_iload_n hx hb dX4_alike_7 rfl (lv_at hl 2 rfl) ?_
    obtain ⟨r3, e4, h⟩ := pb h
    refine ro_S (As := [.int a1]) (rest := []) hF (fun _ h => wl_in h) (cnX4_isShelf l e4) syX4_isShelf w_132 ⟨Nat.le_of_ble_eq_true rfl, Nat.le_of_ble_eq_true rfl⟩ mv0 trivial rfl hl.1 rfl (Nat.le_of_ble_eq_true rfl) dX4_alike_8 ⟨Nat.zero_le _, Nat.zero_le _⟩ ?_
    refine lv_if_ne (tgt := 17) hx hb dX4_alike_11 (by decide) (fun c11 => ?_) (fun c11 => ?_)
    · have h := pf c11 h
      refine lv_aload_n hx hb dX4_alike_17 rfl (lv_at hl 0 rfl) ?_
      refine va_get (D := G) (ci := 2) (v := .ref sh) (C := RX4) (T := TX4) (N := 5) hx hb hts (fun w h => wl_in (inX4 w h)) hown hK hP 0 rfl rfl 0 (by decide) (hts _ (wl_in w_60)) (fun _ h9 => h9) rfl dX4_alike_18 ?_
      refine lv_iload_n hx hb dX4_alike_21 rfl (lv_at hl 1 rfl) ?_
      obtain ⟨g5, h⟩ := pg h
      refine c_aald hx hb hK hP g5 dX4_alike_22 ?_
      have hPj6 := cP_form hP (vin_lt g5)
      refine lv_aload_n hx hb dX4_alike_23 rfl (lv_at hl 0 rfl) ?_
      refine va_get (D := G) (ci := 2) (v := .ref sh) (C := RX4) (T := TX4) (N := 5) hx hb hts (fun w h => wl_in (inX4 w h)) hown hK hP 0 rfl rfl 0 (by decide) (hts _ (wl_in w_60)) (fun _ h9 => h9) rfl dX4_alike_24 ?_
      refine lv_iload_n hx hb dX4_alike_27 rfl (lv_at hl 2 rfl) ?_
      obtain ⟨g7, h⟩ := pg h
      refine c_aald hx hb hK hP g7 dX4_alike_28 ?_
      have hPj8 := cP_form hP (vin_lt g7)
      obtain ⟨r9, e10, h⟩ := pb h
      refine ro_V (As := [.ref (fa a1.toNatClampNeg)]) (rest := []) hF (fun _ h => wl_in h) (cnX0_isAlike l A G cI cF tA tT (fa a0.toNatClampNeg) (ca a0.toNatClampNeg) (n a0.toNatClampNeg) (f a0.toNatClampNeg) (fa a1.toNatClampNeg) (ca a1.toNatClampNeg) (n a1.toNatClampNeg) (f a1.toNatClampNeg) e10) syX0_isAlike w_220 ⟨Nat.le_of_ble_eq_true rfl, Nat.le_of_ble_eq_true rfl⟩ f2B_mv ⟨hE, hPj6, hPj8⟩ (va_recv hK hPj6 (ci := 0) (q0 := 0) rfl rfl) rfl hl.1 rfl (Nat.le_of_ble_eq_true rfl) dX4_alike_29 ⟨Nat.zero_le _, Nat.zero_le _⟩ ?_
      refine lv_if_eq (tgt := 39) hx hb dX4_alike_32 (by decide) (fun c32 => ?_) (fun c32 => ?_)
      · have h := pt c32 h
        refine lv_iconst (v := (0 : Int32)) hx hb dX4_alike_39 (by decide) ?_
        exact END 40 ls _ (pe h) dX4_alike_40
      · have h := pf c32 h
        refine lv_iconst (v := (1 : Int32)) hx hb dX4_alike_35 (by decide) ?_
        refine lv_goto (tgt := 40) hx hb dX4_alike_36 (by decide) ?_
        exact END 40 ls _ (pe h) dX4_alike_40
    · have h := pt c11 h
      refine lv_bipush (v := (-3 : Int32)) hx hb dX4_alike_14 (by decide) ?_
      exact END 16 ls _ (pe h) dX4_alike_16

theorem syX4_worth : Vy yX4_worth cX4_worth 5 (some .long) 4 := ⟨w_228, ⟨w_226, w_227⟩, w_1, by decide +kernel⟩
set_option maxHeartbeats 4000000 in
set_option maxRecDepth 100000 in
theorem cnX4_worth (l : Launch) (A : Nat → Prop) (G : va_G) (cI cF : ClassId) (tA tT : Nat) (o sh xx xc gv se : Nat) (fa ca : Nat → Nat) (n : Nat → Int32) (f : Nat → Nat → Int32) (xn : Int32) (xf gf : Nat → Int32) (s0 s1 s2 s3 s4 : Int32) (tr : Int64) {a0 : Int32} {a1 : Int32} {a2 : Int32} {a3 : Int32} {r : Int64} (h : fX4_worth n f tr a0 a1 a2 a3 = some r) : Ro l yX4_worth cX4_worth 5 (some .long) 2 44 [.ref o, .int a0, .int a1, .int a2, .int a3] (cB A G cI cF tA tT o sh xx xc gv se fa ca n f xn xf gf s0 s1 s2 s3 s4 tr) (.long r) := by
  refine ro_l (plainFor_of_name (by decide)) (Nat.le_of_ble_eq_true rfl) ?_
  intro p e s m args below meth cd Q ls hF hB hl END
  have hF : CallFix p m cd cX4_worth 5 s args (wl yX4_worth cX4_worth 5 (some .long)) RX4 := hF
  obtain ⟨hx, hb, hml, hown, hts⟩ := id hF
  have hl : lv_has ls 5 [(0, .ref o), (1, .int a0), (2, .int a1), (3, .int a2), (4, .int a3)] := hl
  obtain ⟨hE, hP⟩ := id hB
  obtain ⟨hK, ⟨hZ, hT⟩, ⟨hZ2, hT2⟩⟩ := id hE
  have hS : va_S A s.heap s.heap [] := va_S.rf
  rw [fX4_worth] at h
  refine lv_iload_n hx hb dX4_worth_0 rfl (lv_at hl 1 rfl) ?_
  obtain ⟨r1, e2, h⟩ := pb h
  refine ro_S (As := [.int a0]) (rest := []) hF (fun _ h => wl_in h) (cnX4_isShelf l e2) syX4_isShelf w_132 ⟨Nat.le_of_ble_eq_true rfl, Nat.le_of_ble_eq_true rfl⟩ mv0 trivial rfl hl.1 rfl (Nat.le_of_ble_eq_true rfl) dX4_worth_1 ⟨Nat.zero_le _, Nat.zero_le _⟩ ?_
  refine lv_if_eq (tgt := 33) hx hb dX4_worth_4 (by decide) (fun c4 => ?_) (fun c4 => ?_)
  · have h := pt c4 h
    refine lv_ldc2 (v := (-1000000000000000 : Int64)) hx hb hown (hts _ (wl_in w_232)) dX4_worth_33 ?_
    exact END 36 ls _ (pe h) dX4_worth_36
  · have h := pf c4 h
    refine lv_aload_n hx hb dX4_worth_7 rfl (lv_at hl 0 rfl) ?_
    refine va_get (D := G) (ci := 2) (v := .ref sh) (C := RX4) (T := TX4) (N := 5) hx hb hts (fun w h => wl_in (inX4 w h)) hown hK hP 0 rfl rfl 0 (by decide) (hts _ (wl_in w_60)) (fun _ h9 => h9) rfl dX4_worth_8 ?_
    refine lv_iload_n hx hb dX4_worth_11 rfl (lv_at hl 1 rfl) ?_
    obtain ⟨g3, h⟩ := pg h
    refine c_aald hx hb hK hP g3 dX4_worth_12 ?_
    have hPj4 := cP_form hP (vin_lt g3)
    refine va_get (D := G) (ci := 0) (v := .int (n a0.toNatClampNeg)) (C := RX0) (T := TX0) (N := 2) hx hb hts (fun w h => wl_in (inX0 w h)) hown hK hPj4 0 rfl rfl 0 (by decide) (hts _ (wl_in w_24)) (fun _ h9 => h9) rfl dX4_worth_13 ?_
    refine lv_iconst (v := (3 : Int32)) hx hb dX4_worth_16 (by decide) ?_
    refine lv_icmp_ne (tgt := 33) hx hb dX4_worth_17 (by decide) (fun c17 => ?_) (fun c17 => ?_)
    · have h := pf c17 h
      refine lv_ldc2 (v := (-1000000000000000 : Int64)) hx hb hown (hts _ (wl_in w_232)) dX4_worth_33 ?_
      exact END 36 ls _ (pe h) dX4_worth_36
    · have h := pt c17 h
      refine lv_iload_n hx hb dX4_worth_20 rfl (lv_at hl 2 rfl) ?_
      refine lv_iload_n hx hb dX4_worth_21 rfl (lv_at hl 3 rfl) ?_
      refine lv_iload hx hb dX4_worth_22 (lv_at hl 4 rfl) ?_
      refine lv_sipush (v := (1000 : Int32)) hx hb dX4_worth_24 (by decide) ?_
      obtain ⟨r5, e6, h⟩ := pb h
      refine ro_S (As := [.int a1, .int a2, .int a3, .int (1000 : Int32)]) (rest := []) hF (fun _ h => wl_in h) (cnX4_areWithin l e6) syX4_areWithin w_229 ⟨Nat.le_of_ble_eq_true rfl, Nat.le_of_ble_eq_true rfl⟩ mv0 trivial rfl hl.1 rfl (Nat.le_of_ble_eq_true rfl) dX4_worth_27 ⟨Nat.zero_le _, Nat.zero_le _⟩ ?_
      refine lv_if_ne (tgt := 37) hx hb dX4_worth_30 (by decide) (fun c30 => ?_) (fun c30 => ?_)
      · have h := pf c30 h
        refine lv_aload_n hx hb dX4_worth_37 rfl (lv_at hl 0 rfl) ?_
        refine va_get (D := G) (ci := 2) (v := .ref sh) (C := RX4) (T := TX4) (N := 5) hx hb hts (fun w h => wl_in (inX4 w h)) hown hK hP 0 rfl rfl 0 (by decide) (hts _ (wl_in w_60)) (fun _ h9 => h9) rfl dX4_worth_38 ?_
        refine lv_iload_n hx hb dX4_worth_41 rfl (lv_at hl 1 rfl) ?_
        obtain ⟨g7, h⟩ := pg h
        refine c_aald hx hb hK hP g7 dX4_worth_42 ?_
        have hPj8 := cP_form hP (vin_lt g7)
        refine lv_iload_n hx hb dX4_worth_43 rfl (lv_at hl 2 rfl) ?_
        refine lv_iload_n hx hb dX4_worth_44 rfl (lv_at hl 3 rfl) ?_
        refine lv_iload hx hb dX4_worth_45 (lv_at hl 4 rfl) ?_
        refine lv_iload_n hx hb dX4_worth_47 rfl (lv_at hl 2 rfl) ?_
        refine lv_iload_n hx hb dX4_worth_48 rfl (lv_at hl 3 rfl) ?_
        refine lv_iload hx hb dX4_worth_49 (lv_at hl 4 rfl) ?_
        obtain ⟨r9, e10, h⟩ := pb h
        refine ro_V (As := [.int a1, .int a2, .int a3, .int a1, .int a2, .int a3]) (rest := []) hF (fun _ h => wl_in h) (cnX0_pairing l A G cI cF tA tT (fa a0.toNatClampNeg) (ca a0.toNatClampNeg) (n a0.toNatClampNeg) (f a0.toNatClampNeg) e10) syX0_pairing w_233 ⟨Nat.le_of_ble_eq_true rfl, Nat.le_of_ble_eq_true rfl⟩ fB_mv ⟨hE, hPj8⟩ (va_recv hK hPj8 (ci := 0) (q0 := 0) rfl rfl) rfl hl.1 rfl (Nat.le_of_ble_eq_true rfl) dX4_worth_51 ⟨Nat.zero_le _, Nat.zero_le _⟩ ?_
        exact END 54 ls _ (pe h) dX4_worth_54
      · have h := pt c30 h
        refine lv_ldc2 (v := (-1000000000000000 : Int64)) hx hb hown (hts _ (wl_in w_232)) dX4_worth_33 ?_
        exact END 36 ls _ (pe h) dX4_worth_36

theorem syX4_line : Vy yX4_line cX4_line 22 (some .long) 8 := ⟨w_301, ⟨w_299, w_300⟩, w_1, by decide +kernel⟩
set_option maxHeartbeats 4000000 in
set_option maxRecDepth 100000 in
theorem cnX4_line (l : Launch) (A : Nat → Prop) (G : va_G) (cI cF : ClassId) (tA tT : Nat) (o sh xx xc gv se : Nat) (fa ca : Nat → Nat) (n : Nat → Int32) (f : Nat → Nat → Int32) (xn : Int32) (xf gf : Nat → Int32) (s0 s1 s2 s3 s4 : Int32) (tr : Int64) {a0 : Int32} {a1 : Int32} {a2 : Int32} {a3 : Int32} {a4 : Int32} {a5 : Int32} {a6 : Int32} {a7 : Int32} {r : Int64} (h : fX4_line n f tr a0 a1 a2 a3 a4 a5 a6 a7 = some r) : Ro l yX4_line cX4_line 22 (some .long) 4 106 [.ref o, .int a0, .int a1, .int a2, .int a3, .int a4, .int a5, .int a6, .int a7] (cB A G cI cF tA tT o sh xx xc gv se fa ca n f xn xf gf s0 s1 s2 s3 s4 tr) (.long r) := by
  refine ro_l (plainFor_of_name (by decide)) (Nat.le_of_ble_eq_true rfl) ?_
  intro p e s m args below meth cd Q ls hF hB hl END
  have hF : CallFix p m cd cX4_line 22 s args (wl yX4_line cX4_line 22 (some .long)) RX4 := hF
  obtain ⟨hx, hb, hml, hown, hts⟩ := id hF
  have hl : lv_has ls 22 [(0, .ref o), (1, .int a0), (2, .int a1), (3, .int a2), (4, .int a3), (5, .int a4), (6, .int a5), (7, .int a6), (8, .int a7)] := hl
  obtain ⟨hE, hP⟩ := id hB
  obtain ⟨hK, ⟨hZ, hT⟩, ⟨hZ2, hT2⟩⟩ := id hE
  have hS : va_S A s.heap s.heap [] := va_S.rf
  rw [fX4_line] at h
  refine lv_iload_n hx hb dX4_line_0 rfl (lv_at hl 1 rfl) ?_
  obtain ⟨r1, e2, h⟩ := pb h
  refine ro_S (As := [.int a0]) (rest := []) hF (fun _ h => wl_in h) (cnX4_isShelf l e2) syX4_isShelf w_132 ⟨Nat.le_of_ble_eq_true rfl, Nat.le_of_ble_eq_true rfl⟩ mv0 trivial rfl hl.1 rfl (Nat.le_of_ble_eq_true rfl) dX4_line_1 ⟨Nat.zero_le _, Nat.zero_le _⟩ ?_
  refine lv_if_eq (tgt := 31) hx hb dX4_line_4 (by decide) (fun c4 => ?_) (fun c4 => ?_)
  · have h := pt c4 h
    refine lv_ldc2 (v := (-1000000000000000 : Int64)) hx hb hown (hts _ (wl_in w_232)) dX4_line_31 ?_
    exact END 34 ls _ (pe h) dX4_line_34
  · have h := pf c4 h
    refine lv_aload_n hx hb dX4_line_7 rfl (lv_at hl 0 rfl) ?_
    refine va_get (D := G) (ci := 2) (v := .ref sh) (C := RX4) (T := TX4) (N := 5) hx hb hts (fun w h => wl_in (inX4 w h)) hown hK hP 0 rfl rfl 0 (by decide) (hts _ (wl_in w_60)) (fun _ h9 => h9) rfl dX4_line_8 ?_
    refine lv_iload_n hx hb dX4_line_11 rfl (lv_at hl 1 rfl) ?_
    obtain ⟨g3, h⟩ := pg h
    refine c_aald hx hb hK hP g3 dX4_line_12 ?_
    have hPj4 := cP_form hP (vin_lt g3)
    refine va_get (D := G) (ci := 0) (v := .int (n a0.toNatClampNeg)) (C := RX0) (T := TX0) (N := 2) hx hb hts (fun w h => wl_in (inX0 w h)) hown hK hPj4 0 rfl rfl 0 (by decide) (hts _ (wl_in w_24)) (fun _ h9 => h9) rfl dX4_line_13 ?_
    refine lv_iconst (v := (3 : Int32)) hx hb dX4_line_16 (by decide) ?_
    refine lv_icmp_ne (tgt := 31) hx hb dX4_line_17 (by decide) (fun c17 => ?_) (fun c17 => ?_)
    · have h := pf c17 h
      refine lv_ldc2 (v := (-1000000000000000 : Int64)) hx hb hown (hts _ (wl_in w_232)) dX4_line_31 ?_
      exact END 34 ls _ (pe h) dX4_line_34
    · have h := pt c17 h
      refine lv_iload hx hb dX4_line_20 (lv_at hl 8 rfl) ?_
      refine lv_if_lt (tgt := 31) hx hb dX4_line_22 (by decide) (fun c22 => ?_) (fun c22 => ?_)
      · have h := pt c22 h
        refine lv_ldc2 (v := (-1000000000000000 : Int64)) hx hb hown (hts _ (wl_in w_232)) dX4_line_31 ?_
        exact END 34 ls _ (pe h) dX4_line_34
      · have h := pf c22 h
        refine lv_iload hx hb dX4_line_25 (lv_at hl 8 rfl) ?_
        refine lv_iconst (v := (2 : Int32)) hx hb dX4_line_27 (by decide) ?_
        refine lv_icmp_le (tgt := 35) hx hb dX4_line_28 (by decide) (fun c28 => ?_) (fun c28 => ?_)
        · have h := pt c28 h
          refine lv_aload_n hx hb dX4_line_35 rfl (lv_at hl 0 rfl) ?_
          refine va_get (D := G) (ci := 2) (v := .ref sh) (C := RX4) (T := TX4) (N := 5) hx hb hts (fun w h => wl_in (inX4 w h)) hown hK hP 0 rfl rfl 0 (by decide) (hts _ (wl_in w_60)) (fun _ h9 => h9) rfl dX4_line_36 ?_
          refine lv_iload_n hx hb dX4_line_39 rfl (lv_at hl 1 rfl) ?_
          obtain ⟨g5, h⟩ := pg h
          refine c_aald hx hb hK hP g5 dX4_line_40 ?_
          have hPj6 := cP_form hP (vin_lt g5)
          refine lv_astore (lv' := [(9, .ref (fa a0.toNatClampNeg)), (0, .ref o), (1, .int a0), (2, .int a1), (3, .int a2), (4, .int a3), (5, .int a4), (6, .int a5), (7, .int a6), (8, .int a7)]) hx hb dX4_line_41 hl (by decide) rfl (fun ls hl => ?_)
          refine lv_iload_n hx hb dX4_line_43 rfl (lv_at hl 3 rfl) ?_
          refine lv_iload_n hx hb dX4_line_44 rfl (lv_at hl 4 rfl) ?_
          refine lv_iload hx hb dX4_line_45 (lv_at hl 5 rfl) ?_
          refine lv_bipush (v := (30 : Int32)) hx hb dX4_line_47 (by decide) ?_
          obtain ⟨r7, e8, h⟩ := pb h
          refine ro_S (As := [.int a1, .int a2, .int a3, .int (30 : Int32)]) (rest := []) hF (fun _ h => wl_in h) (cnX4_areWithin l e8) syX4_areWithin w_229 ⟨Nat.le_of_ble_eq_true rfl, Nat.le_of_ble_eq_true rfl⟩ mv0 trivial rfl hl.1 rfl (Nat.le_of_ble_eq_true rfl) dX4_line_49 ⟨Nat.zero_le _, Nat.zero_le _⟩ ?_
          refine lv_if_eq (tgt := 83) hx hb dX4_line_52 (by decide) (fun c52 => ?_) (fun c52 => ?_)
          · have h := pt c52 h
            refine lv_ldc2 (v := (-1000000000000000 : Int64)) hx hb hown (hts _ (wl_in w_232)) dX4_line_83 ?_
            exact END 86 ls _ (pe h) dX4_line_86
          · have h := pf c52 h
            refine lv_iload_n hx hb dX4_line_55 rfl (lv_at hl 3 rfl) ?_
            refine lv_iload_n hx hb dX4_line_56 rfl (lv_at hl 4 rfl) ?_
            refine lv_iload hx hb dX4_line_57 (lv_at hl 5 rfl) ?_
            obtain ⟨r9, e10, h⟩ := pb h
            refine ro_S (As := [.int a1, .int a2, .int a3]) (rest := []) hF (fun _ h => wl_in h) (cnX4_isReduced l e10) syX4_isReduced w_302 ⟨Nat.le_of_ble_eq_true rfl, Nat.le_of_ble_eq_true rfl⟩ mv0 trivial rfl hl.1 rfl (Nat.le_of_ble_eq_true rfl) dX4_line_59 ⟨Nat.zero_le _, Nat.zero_le _⟩ ?_
            refine lv_if_eq (tgt := 83) hx hb dX4_line_62 (by decide) (fun c62 => ?_) (fun c62 => ?_)
            · have h := pt c62 h
              refine lv_ldc2 (v := (-1000000000000000 : Int64)) hx hb hown (hts _ (wl_in w_232)) dX4_line_83 ?_
              exact END 86 ls _ (pe h) dX4_line_86
            · have h := pf c62 h
              refine lv_aload hx hb dX4_line_65 (lv_at hl 0 rfl) ?_
              refine lv_iload_n hx hb dX4_line_67 rfl (lv_at hl 3 rfl) ?_
              refine lv_iload_n hx hb dX4_line_68 rfl (lv_at hl 4 rfl) ?_
              refine lv_iload hx hb dX4_line_69 (lv_at hl 5 rfl) ?_
              refine lv_iload_n hx hb dX4_line_71 rfl (lv_at hl 3 rfl) ?_
              refine lv_iload_n hx hb dX4_line_72 rfl (lv_at hl 4 rfl) ?_
              refine lv_iload hx hb dX4_line_73 (lv_at hl 5 rfl) ?_
              obtain ⟨r11, e12, h⟩ := pb h
              refine ro_V (As := [.int a1, .int a2, .int a3, .int a1, .int a2, .int a3]) (rest := []) hF (fun _ h => wl_in h) (cnX0_pairing l A G cI cF tA tT (fa a0.toNatClampNeg) (ca a0.toNatClampNeg) (n a0.toNatClampNeg) (f a0.toNatClampNeg) e12) syX0_pairing w_233 ⟨Nat.le_of_ble_eq_true rfl, Nat.le_of_ble_eq_true rfl⟩ fB_mv ⟨hE, hPj6⟩ (va_recv hK hPj6 (ci := 0) (q0 := 0) rfl rfl) rfl hl.1 rfl (Nat.le_of_ble_eq_true rfl) dX4_line_75 ⟨Nat.zero_le _, Nat.zero_le _⟩ ?_
              refine lv_lconst (v := (0 : Int64)) hx hb dX4_line_78 (by decide) ?_
              refine W.lcmp hx hb dX4_line_79 ?_
              refine lv_if_eq (tgt := 87) hx hb dX4_line_80 (by decide) (fun c80 => ?_) (fun c80 => ?_)
              · have h := pt c80 h
                refine lv_iload hx hb dX4_line_87 (lv_at hl 6 rfl) ?_
                refine lv_iload hx hb dX4_line_89 (lv_at hl 7 rfl) ?_
                refine lv_iload hx hb dX4_line_91 (lv_at hl 8 rfl) ?_
                refine lv_bipush (v := (30 : Int32)) hx hb dX4_line_93 (by decide) ?_
                obtain ⟨r13, e14, h⟩ := pb h
                refine ro_S (As := [.int a4, .int a5, .int a6, .int (30 : Int32)]) (rest := []) hF (fun _ h => wl_in h) (cnX4_areWithin l e14) syX4_areWithin w_229 ⟨Nat.le_of_ble_eq_true rfl, Nat.le_of_ble_eq_true rfl⟩ mv0 trivial rfl hl.1 rfl (Nat.le_of_ble_eq_true rfl) dX4_line_95 ⟨Nat.zero_le _, Nat.zero_le _⟩ ?_
                refine lv_if_eq (tgt := 116) hx hb dX4_line_98 (by decide) (fun c98 => ?_) (fun c98 => ?_)
                · have h := pt c98 h
                  refine lv_ldc2 (v := (-1000000000000000 : Int64)) hx hb hown (hts _ (wl_in w_232)) dX4_line_116 ?_
                  exact END 119 ls _ (pe h) dX4_line_119
                · have h := pf c98 h
                  refine lv_iload hx hb dX4_line_101 (lv_at hl 6 rfl) ?_
                  have J120 : kX4_line_120 n f a0 a1 a2 a3 a4 a5 a6 a7 = some r → ∀ (ls : Array Slot), lv_has ls 22 [(9, .ref (fa a0.toNatClampNeg)), (2, .int a1), (3, .int a2), (4, .int a3), (5, .int a4), (6, .int a5), (7, .int a6), (8, .int a7)] → W p l e (rmk 4 106) s m args below meth cd s.heap [] 0 0 Q (F0 m 120 ls []) := by
                    intro h  ls hl
                    rw [kX4_line_120] at h
                    refine lv_aload hx hb dX4_line_120 (lv_at hl 0 rfl) ?_
                    refine lv_iload hx hb dX4_line_122 (lv_at hl 4 rfl) ?_
                    refine lv_iload hx hb dX4_line_124 (lv_at hl 5 rfl) ?_
                    refine lv_iload hx hb dX4_line_126 (lv_at hl 6 rfl) ?_
                    refine lv_iload hx hb dX4_line_128 (lv_at hl 4 rfl) ?_
                    refine lv_iload hx hb dX4_line_130 (lv_at hl 5 rfl) ?_
                    refine lv_iload hx hb dX4_line_132 (lv_at hl 6 rfl) ?_
                    obtain ⟨r15, e16, h⟩ := pb h
                    refine ro_V (As := [.int a4, .int a5, .int a6, .int a4, .int a5, .int a6]) (rest := []) hF (fun _ h => wl_in h) (cnX0_pairing l A G cI cF tA tT (fa a0.toNatClampNeg) (ca a0.toNatClampNeg) (n a0.toNatClampNeg) (f a0.toNatClampNeg) e16) syX0_pairing w_233 ⟨Nat.le_of_ble_eq_true rfl, Nat.le_of_ble_eq_true rfl⟩ fB_mv ⟨hE, hPj6⟩ (va_recv hK hPj6 (ci := 0) (q0 := 0) rfl rfl) rfl hl.1 rfl (Nat.le_of_ble_eq_true rfl) dX4_line_134 ⟨Nat.zero_le _, Nat.zero_le _⟩ ?_
                    refine lv_lstore (lv' := [(10, .long r15), (9, .ref (fa a0.toNatClampNeg)), (2, .int a1), (3, .int a2), (4, .int a3), (5, .int a4), (6, .int a5), (7, .int a6), (8, .int a7)]) hx hb dX4_line_137 hl (by decide) rfl (fun ls hl => ?_)
                    refine lv_ldc2 (v := (2 : Int64)) hx hb hown (hts _ (wl_in w_303)) dX4_line_139 ?_
                    refine lv_aload hx hb dX4_line_142 (lv_at hl 1 rfl) ?_
                    refine lv_iload_n hx hb dX4_line_144 rfl (lv_at hl 2 rfl) ?_
                    refine lv_iload_n hx hb dX4_line_145 rfl (lv_at hl 3 rfl) ?_
                    refine lv_iload hx hb dX4_line_146 (lv_at hl 4 rfl) ?_
                    refine lv_iload hx hb dX4_line_148 (lv_at hl 5 rfl) ?_
                    refine lv_iload hx hb dX4_line_150 (lv_at hl 6 rfl) ?_
                    refine lv_iload hx hb dX4_line_152 (lv_at hl 7 rfl) ?_
                    obtain ⟨r17, e18, h⟩ := pb h
                    refine ro_V (As := [.int a1, .int a2, .int a3, .int a4, .int a5, .int a6]) (rest := [.long (2 : Int64)]) hF (fun _ h => wl_in h) (cnX0_pairing l A G cI cF tA tT (fa a0.toNatClampNeg) (ca a0.toNatClampNeg) (n a0.toNatClampNeg) (f a0.toNatClampNeg) e18) syX0_pairing w_233 ⟨Nat.le_of_ble_eq_true rfl, Nat.le_of_ble_eq_true rfl⟩ fB_mv ⟨hE, hPj6⟩ (va_recv hK hPj6 (ci := 0) (q0 := 0) rfl rfl) rfl hl.1 rfl (Nat.le_of_ble_eq_true rfl) dX4_line_154 ⟨Nat.zero_le _, Nat.zero_le _⟩ ?_
                    refine lv_lmul hx hb dX4_line_157 ?_
                    refine lv_lstore (lv' := [(12, .long ((2 : Int64) * r17)), (10, .long r15), (9, .ref (fa a0.toNatClampNeg)), (2, .int a1), (3, .int a2), (4, .int a3), (5, .int a4), (6, .int a5), (7, .int a6), (8, .int a7)]) hx hb dX4_line_158 hl (by decide) rfl (fun ls hl => ?_)
                    refine lv_lload hx hb dX4_line_160 (lv_at hl 1 rfl) ?_
                    refine lv_iload_n hx hb dX4_line_162 rfl (lv_at hl 3 rfl) ?_
                    refine lv_i2l (v := a1.toInt64) hx hb dX4_line_163 rfl ?_
                    refine lv_lmul hx hb dX4_line_164 ?_
                    refine lv_lload hx hb dX4_line_165 (lv_at hl 0 rfl) ?_
                    refine lv_iload hx hb dX4_line_167 (lv_at hl 6 rfl) ?_
                    refine lv_i2l (v := a4.toInt64) hx hb dX4_line_169 rfl ?_
                    refine lv_lmul hx hb dX4_line_170 ?_
                    refine lv_lsub hx hb dX4_line_171 ?_
                    refine lv_lstore (lv' := [(14, .long ((r15 * a1.toInt64) - (((2 : Int64) * r17) * a4.toInt64))), (12, .long ((2 : Int64) * r17)), (10, .long r15), (9, .ref (fa a0.toNatClampNeg)), (2, .int a1), (3, .int a2), (4, .int a3), (5, .int a4), (6, .int a5), (7, .int a6), (8, .int a7)]) hx hb dX4_line_172 hl (by decide) rfl (fun ls hl => ?_)
                    refine lv_lload hx hb dX4_line_174 (lv_at hl 2 rfl) ?_
                    refine lv_iload_n hx hb dX4_line_176 rfl (lv_at hl 5 rfl) ?_
                    refine lv_i2l (v := a2.toInt64) hx hb dX4_line_177 rfl ?_
                    refine lv_lmul hx hb dX4_line_178 ?_
                    refine lv_lload hx hb dX4_line_179 (lv_at hl 1 rfl) ?_
                    refine lv_iload hx hb dX4_line_181 (lv_at hl 8 rfl) ?_
                    refine lv_i2l (v := a5.toInt64) hx hb dX4_line_183 rfl ?_
                    refine lv_lmul hx hb dX4_line_184 ?_
                    refine lv_lsub hx hb dX4_line_185 ?_
                    refine lv_lstore (lv' := [(16, .long ((r15 * a2.toInt64) - (((2 : Int64) * r17) * a5.toInt64))), (14, .long ((r15 * a1.toInt64) - (((2 : Int64) * r17) * a4.toInt64))), (12, .long ((2 : Int64) * r17)), (10, .long r15), (9, .ref (fa a0.toNatClampNeg)), (2, .int a1), (3, .int a2), (4, .int a3), (5, .int a4), (6, .int a5), (7, .int a6), (8, .int a7)]) hx hb dX4_line_186 hl (by decide) rfl (fun ls hl => ?_)
                    refine lv_lload hx hb dX4_line_188 (lv_at hl 3 rfl) ?_
                    refine lv_iload hx hb dX4_line_190 (lv_at hl 7 rfl) ?_
                    refine lv_i2l (v := a3.toInt64) hx hb dX4_line_192 rfl ?_
                    refine lv_lmul hx hb dX4_line_193 ?_
                    refine lv_lload hx hb dX4_line_194 (lv_at hl 2 rfl) ?_
                    refine lv_iload hx hb dX4_line_196 (lv_at hl 10 rfl) ?_
                    refine lv_i2l (v := a6.toInt64) hx hb dX4_line_198 rfl ?_
                    refine lv_lmul hx hb dX4_line_199 ?_
                    refine lv_lsub hx hb dX4_line_200 ?_
                    refine lv_lstore (lv' := [(18, .long ((r15 * a3.toInt64) - (((2 : Int64) * r17) * a6.toInt64))), (16, .long ((r15 * a2.toInt64) - (((2 : Int64) * r17) * a5.toInt64))), (14, .long ((r15 * a1.toInt64) - (((2 : Int64) * r17) * a4.toInt64))), (12, .long ((2 : Int64) * r17)), (10, .long r15), (9, .ref (fa a0.toNatClampNeg)), (2, .int a1), (3, .int a2), (4, .int a3), (5, .int a4), (6, .int a5), (7, .int a6), (8, .int a7)]) hx hb dX4_line_201 hl (by decide) rfl (fun ls hl => ?_)
                    refine lv_lload hx hb dX4_line_203 (lv_at hl 2 rfl) ?_
                    refine lv_lload hx hb dX4_line_205 (lv_at hl 1 rfl) ?_
                    refine lv_lload hx hb dX4_line_207 (lv_at hl 0 rfl) ?_
                    obtain ⟨r19, e20, h⟩ := pb h
                    refine ro_S (As := [.long ((r15 * a1.toInt64) - (((2 : Int64) * r17) * a4.toInt64)), .long ((r15 * a2.toInt64) - (((2 : Int64) * r17) * a5.toInt64)), .long ((r15 * a3.toInt64) - (((2 : Int64) * r17) * a6.toInt64))]) (rest := []) hF (fun _ h => wl_in h) (cnX4_reducer l e20) syX4_reducer w_280 ⟨Nat.le_of_ble_eq_true rfl, Nat.le_of_ble_eq_true rfl⟩ mv0 trivial rfl hl.1 rfl (Nat.le_of_ble_eq_true rfl) dX4_line_209 ⟨Nat.zero_le _, Nat.zero_le _⟩ ?_
                    refine lv_lstore (lv' := [(20, .long r19), (18, .long ((r15 * a3.toInt64) - (((2 : Int64) * r17) * a6.toInt64))), (16, .long ((r15 * a2.toInt64) - (((2 : Int64) * r17) * a5.toInt64))), (14, .long ((r15 * a1.toInt64) - (((2 : Int64) * r17) * a4.toInt64))), (12, .long ((2 : Int64) * r17)), (10, .long r15), (9, .ref (fa a0.toNatClampNeg)), (2, .int a1), (3, .int a2), (4, .int a3), (5, .int a4), (6, .int a5), (7, .int a6), (8, .int a7)]) hx hb dX4_line_212 hl (by decide) rfl (fun ls hl => ?_)
                    refine lv_lload hx hb dX4_line_214 (lv_at hl 0 rfl) ?_
                    refine lv_lconst (v := (0 : Int64)) hx hb dX4_line_216 (by decide) ?_
                    refine W.lcmp hx hb dX4_line_217 ?_
                    refine lv_if_ne (tgt := 234) hx hb dX4_line_218 (by decide) (fun c218 => ?_) (fun c218 => ?_)
                    · have h := pf c218 h
                      refine lv_iload hx hb dX4_line_234 (lv_at hl 13 rfl) ?_
                      refine lv_lload hx hb dX4_line_236 (lv_at hl 3 rfl) ?_
                      refine lv_lload hx hb dX4_line_238 (lv_at hl 2 rfl) ?_
                      refine lv_lload hx hb dX4_line_240 (lv_at hl 1 rfl) ?_
                      obtain ⟨r21, e22, h⟩ := pb h
                      refine ro_S (As := [.int a7, .long ((r15 * a1.toInt64) - (((2 : Int64) * r17) * a4.toInt64)), .long ((r15 * a2.toInt64) - (((2 : Int64) * r17) * a5.toInt64)), .long ((r15 * a3.toInt64) - (((2 : Int64) * r17) * a6.toInt64))]) (rest := []) hF (fun _ h => wl_in h) (cnX4_pick l e22) syX4_pick w_291 ⟨Nat.le_of_ble_eq_true rfl, Nat.le_of_ble_eq_true rfl⟩ mv0 trivial rfl hl.1 rfl (Nat.le_of_ble_eq_true rfl) dX4_line_242 ⟨Nat.zero_le _, Nat.zero_le _⟩ ?_
                      refine lv_lload hx hb dX4_line_245 (lv_at hl 0 rfl) ?_
                      obtain ⟨g23, h⟩ := pg h
                      refine lv_ldiv hx hb dX4_line_247 g23 ?_
                      exact END 248 ls _ (pe h) dX4_line_248
                    · have h := pt c218 h
                      refine lv_iload hx hb dX4_line_221 (lv_at hl 13 rfl) ?_
                      refine lv_iload_n hx hb dX4_line_223 rfl (lv_at hl 7 rfl) ?_
                      refine lv_i2l (v := a1.toInt64) hx hb dX4_line_224 rfl ?_
                      refine lv_iload_n hx hb dX4_line_225 rfl (lv_at hl 8 rfl) ?_
                      refine lv_i2l (v := a2.toInt64) hx hb dX4_line_226 rfl ?_
                      refine lv_iload hx hb dX4_line_227 (lv_at hl 9 rfl) ?_
                      refine lv_i2l (v := a3.toInt64) hx hb dX4_line_229 rfl ?_
                      obtain ⟨r24, e25, h⟩ := pb h
                      refine ro_S (As := [.int a7, .long a1.toInt64, .long a2.toInt64, .long a3.toInt64]) (rest := []) hF (fun _ h => wl_in h) (cnX4_pick l e25) syX4_pick w_291 ⟨Nat.le_of_ble_eq_true rfl, Nat.le_of_ble_eq_true rfl⟩ mv0 trivial rfl hl.1 rfl (Nat.le_of_ble_eq_true rfl) dX4_line_230 ⟨Nat.zero_le _, Nat.zero_le _⟩ ?_
                      exact END 233 ls _ (pe h) dX4_line_233
                  refine lv_if_ne (tgt := 120) hx hb dX4_line_103 (by decide) (fun c103 => ?_) (fun c103 => ?_)
                  · have h := pf c103 h
                    exact J120 h  _ (lv_sub hl [0, 3, 4, 5, 6, 7, 8, 9] rfl)
                  · have h := pt c103 h
                    refine lv_iload hx hb dX4_line_106 (lv_at hl 7 rfl) ?_
                    refine lv_if_ne (tgt := 120) hx hb dX4_line_108 (by decide) (fun c108 => ?_) (fun c108 => ?_)
                    · have h := pf c108 h
                      exact J120 h  _ (lv_sub hl [0, 3, 4, 5, 6, 7, 8, 9] rfl)
                    · have h := pt c108 h
                      refine lv_iload hx hb dX4_line_111 (lv_at hl 8 rfl) ?_
                      refine lv_if_ne (tgt := 120) hx hb dX4_line_113 (by decide) (fun c113 => ?_) (fun c113 => ?_)
                      · have h := pf c113 h
                        exact J120 h  _ (lv_sub hl [0, 3, 4, 5, 6, 7, 8, 9] rfl)
                      · have h := pt c113 h
                        refine lv_ldc2 (v := (-1000000000000000 : Int64)) hx hb hown (hts _ (wl_in w_232)) dX4_line_116 ?_
                        exact END 119 ls _ (pe h) dX4_line_119
              · have h := pf c80 h
                refine lv_ldc2 (v := (-1000000000000000 : Int64)) hx hb hown (hts _ (wl_in w_232)) dX4_line_83 ?_
                exact END 86 ls _ (pe h) dX4_line_86
        · have h := pf c28 h
          refine lv_ldc2 (v := (-1000000000000000 : Int64)) hx hb hown (hts _ (wl_in w_232)) dX4_line_31 ?_
          exact END 34 ls _ (pe h) dX4_line_34

theorem syX4_count : Vy yX4_count cX4_count 3 (some .int) 2 := ⟨w_307, ⟨w_305, w_306⟩, w_1, by decide +kernel⟩
set_option maxHeartbeats 4000000 in
set_option maxRecDepth 100000 in
theorem cnX4_count (l : Launch) (A : Nat → Prop) (G : va_G) (cI cF : ClassId) (tA tT : Nat) (o sh xx xc gv se : Nat) (fa ca : Nat → Nat) (n : Nat → Int32) (f : Nat → Nat → Int32) (xn : Int32) (xf gf : Nat → Int32) (s0 s1 s2 s3 s4 : Int32) (tr : Int64) {a0 : Int32} {a1 : Int32} {r : Int32} (h : fX4_count n f tr a0 a1 = some r) : Ro l yX4_count cX4_count 3 (some .int) 1 22 [.ref o, .int a0, .int a1] (cB A G cI cF tA tT o sh xx xc gv se fa ca n f xn xf gf s0 s1 s2 s3 s4 tr) (.int r) := by
  refine ro_i (plainFor_of_name (by decide)) (Nat.le_of_ble_eq_true rfl) ?_
  intro p e s m args below meth cd Q ls hF hB hl END
  have hF : CallFix p m cd cX4_count 3 s args (wl yX4_count cX4_count 3 (some .int)) RX4 := hF
  obtain ⟨hx, hb, hml, hown, hts⟩ := id hF
  have hl : lv_has ls 3 [(0, .ref o), (1, .int a0), (2, .int a1)] := hl
  obtain ⟨hE, hP⟩ := id hB
  obtain ⟨hK, ⟨hZ, hT⟩, ⟨hZ2, hT2⟩⟩ := id hE
  have hS : va_S A s.heap s.heap [] := va_S.rf
  rw [fX4_count] at h
  refine lv_iload_n hx hb dX4_count_0 rfl (lv_at hl 1 rfl) ?_
  obtain ⟨r1, e2, h⟩ := pb h
  refine ro_S (As := [.int a0]) (rest := []) hF (fun _ h => wl_in h) (cnX4_isShelf l e2) syX4_isShelf w_132 ⟨Nat.le_of_ble_eq_true rfl, Nat.le_of_ble_eq_true rfl⟩ mv0 trivial rfl hl.1 rfl (Nat.le_of_ble_eq_true rfl) dX4_count_1 ⟨Nat.zero_le _, Nat.zero_le _⟩ ?_
  refine lv_if_eq (tgt := 16) hx hb dX4_count_4 (by decide) (fun c4 => ?_) (fun c4 => ?_)
  · have h := pt c4 h
    refine lv_bipush (v := (-3 : Int32)) hx hb dX4_count_16 (by decide) ?_
    exact END 18 ls _ (pe h) dX4_count_18
  · have h := pf c4 h
    refine lv_iload_n hx hb dX4_count_7 rfl (lv_at hl 2 rfl) ?_
    refine lv_if_lt (tgt := 16) hx hb dX4_count_8 (by decide) (fun c8 => ?_) (fun c8 => ?_)
    · have h := pt c8 h
      refine lv_bipush (v := (-3 : Int32)) hx hb dX4_count_16 (by decide) ?_
      exact END 18 ls _ (pe h) dX4_count_18
    · have h := pf c8 h
      refine lv_iload_n hx hb dX4_count_11 rfl (lv_at hl 2 rfl) ?_
      refine lv_iconst (v := (1 : Int32)) hx hb dX4_count_12 (by decide) ?_
      refine lv_icmp_le (tgt := 19) hx hb dX4_count_13 (by decide) (fun c13 => ?_) (fun c13 => ?_)
      · have h := pt c13 h
        refine lv_iload_n hx hb dX4_count_19 rfl (lv_at hl 2 rfl) ?_
        refine lv_if_ne (tgt := 35) hx hb dX4_count_20 (by decide) (fun c20 => ?_) (fun c20 => ?_)
        · have h := pf c20 h
          refine lv_aload_n hx hb dX4_count_35 rfl (lv_at hl 0 rfl) ?_
          refine va_get (D := G) (ci := 2) (v := .ref sh) (C := RX4) (T := TX4) (N := 5) hx hb hts (fun w h => wl_in (inX4 w h)) hown hK hP 0 rfl rfl 0 (by decide) (hts _ (wl_in w_60)) (fun _ h9 => h9) rfl dX4_count_36 ?_
          refine lv_iload_n hx hb dX4_count_39 rfl (lv_at hl 1 rfl) ?_
          obtain ⟨g3, h⟩ := pg h
          refine c_aald hx hb hK hP g3 dX4_count_40 ?_
          have hPj4 := cP_form hP (vin_lt g3)
          obtain ⟨r5, e6, h⟩ := pb h
          refine ro_V (As := []) (rest := []) hF (fun _ h => wl_in h) (cnX0_countAbove l A G cI cF tA tT (fa a0.toNatClampNeg) (ca a0.toNatClampNeg) (n a0.toNatClampNeg) (f a0.toNatClampNeg) e6) syX0_countAbove w_308 ⟨Nat.le_of_ble_eq_true rfl, Nat.le_of_ble_eq_true rfl⟩ fB_mv ⟨hE, hPj4⟩ (va_recv hK hPj4 (ci := 0) (q0 := 0) rfl rfl) rfl hl.1 rfl (Nat.le_of_ble_eq_true rfl) dX4_count_41 ⟨Nat.zero_le _, Nat.zero_le _⟩ ?_
          exact END 44 ls _ (pe h) dX4_count_44
        · have h := pt c20 h
          refine lv_aload_n hx hb dX4_count_23 rfl (lv_at hl 0 rfl) ?_
          refine va_get (D := G) (ci := 2) (v := .ref sh) (C := RX4) (T := TX4) (N := 5) hx hb hts (fun w h => wl_in (inX4 w h)) hown hK hP 0 rfl rfl 0 (by decide) (hts _ (wl_in w_60)) (fun _ h9 => h9) rfl dX4_count_24 ?_
          refine lv_iload_n hx hb dX4_count_27 rfl (lv_at hl 1 rfl) ?_
          obtain ⟨g7, h⟩ := pg h
          refine c_aald hx hb hK hP g7 dX4_count_28 ?_
          have hPj8 := cP_form hP (vin_lt g7)
          refine va_get (D := G) (ci := 0) (v := .int (n a0.toNatClampNeg)) (C := RX0) (T := TX0) (N := 2) hx hb hts (fun w h => wl_in (inX0 w h)) hown hK hPj8 0 rfl rfl 0 (by decide) (hts _ (wl_in w_24)) (fun _ h9 => h9) rfl dX4_count_29 ?_
          refine lv_goto (tgt := 44) hx hb dX4_count_32 (by decide) ?_
          exact END 44 ls _ (pe h) dX4_count_44
      · have h := pf c13 h
        refine lv_bipush (v := (-3 : Int32)) hx hb dX4_count_16 (by decide) ?_
        exact END 18 ls _ (pe h) dX4_count_18

theorem syX4_trace : Vy yX4_trace cX4_trace 1 (some .long) 0 := ⟨w_312, ⟨w_310, w_311⟩, w_1, by decide +kernel⟩
set_option maxHeartbeats 4000000 in
set_option maxRecDepth 100000 in
theorem cnX4_trace (l : Launch) (A : Nat → Prop) (G : va_G) (cI cF : ClassId) (tA tT : Nat) (o sh xx xc gv se : Nat) (fa ca : Nat → Nat) (n : Nat → Int32) (f : Nat → Nat → Int32) (xn : Int32) (xf gf : Nat → Int32) (s0 s1 s2 s3 s4 : Int32) (tr : Int64) {r : Int64} (h : fX4_trace n f tr = some r) : Ro l yX4_trace cX4_trace 1 (some .long) 0 0 [.ref o] (cB A G cI cF tA tT o sh xx xc gv se fa ca n f xn xf gf s0 s1 s2 s3 s4 tr) (.long r) := by
  refine ro_l (plainFor_of_name (by decide)) (Nat.le_of_ble_eq_true rfl) ?_
  intro p e s m args below meth cd Q ls hF hB hl END
  have hF : CallFix p m cd cX4_trace 1 s args (wl yX4_trace cX4_trace 1 (some .long)) RX4 := hF
  obtain ⟨hx, hb, hml, hown, hts⟩ := id hF
  have hl : lv_has ls 1 [(0, .ref o)] := hl
  obtain ⟨hE, hP⟩ := id hB
  obtain ⟨hK, ⟨hZ, hT⟩, ⟨hZ2, hT2⟩⟩ := id hE
  have hS : va_S A s.heap s.heap [] := va_S.rf
  rw [fX4_trace] at h
  refine lv_aload_n hx hb dX4_trace_0 rfl (lv_at hl 0 rfl) ?_
  refine va_get (D := G) (ci := 2) (v := .long tr) (C := RX4) (T := TX4) (N := 5) hx hb hts (fun w h => wl_in (inX4 w h)) hown hK hP 0 rfl rfl 4 (by decide) (hts _ (wl_in w_64)) (fun _ h9 => h9) rfl dX4_trace_1 ?_
  exact END 4 ls _ (pe h) dX4_trace_4
end
section
def kX0_take_48 (x3_5 : Int32) (n_48 : Int32) (f_48 : Nat → Int32) : Option ((Int32) × (Nat → Int32)) :=
    some (x3_5, f_48)
def kX0_take_5 (N : Nat) (g : Nat → Int32) (a1 : Int32) : Nat → Int32 → Int32 → Int32 → (Nat → Int32) → Option ((Int32) × (Nat → Int32))
  | 0, _, _, _, _ => none
  | fu + 1, x3_5, x4_5, n_5, f_5 =>
    (if a1 ≤ x4_5 then kX0_take_48 x3_5 n_5 f_5 else
    (if (Int32.ofNat N) ≤ x4_5 then kX0_take_48 x3_5 n_5 f_5 else
    (if (6 : Int32) ≤ x4_5 then kX0_take_48 x3_5 n_5 f_5 else
    (if ¬ (x4_5 < 0 ∨ N ≤ x4_5.toNatClampNeg) then (if ¬ (x4_5 < 0 ∨ 6 ≤ x4_5.toNatClampNeg) then (kX0_take_5 N g a1 fu) (x3_5 + (1 : Int32)) (x4_5 + (1 : Int32)) n_5 (upd f_5 x4_5.toNatClampNeg (g x4_5.toNatClampNeg)) else none) else none))))
def fX0_take (N : Nat) (g : Nat → Int32) (n : Int32) (f : Nat → Int32) (a1 : Int32) : Option ((Int32) × (Nat → Int32)) :=
    kX0_take_5 N g a1 1100 (0 : Int32) (0 : Int32) n f
def fX0_append (n : Int32) (f : Nat → Int32) (a0 : Int32) : Option ((Int32) × (Nat → Int32)) :=
    (if (6 : Int32) ≤ n then some (n, f) else
    (if ¬ (n < 0 ∨ 6 ≤ n.toNatClampNeg) then some (n + (1 : Int32), upd f n.toNatClampNeg a0) else none))
def kX3_meet_59 (s0_59 : Int32) (s1_59 : Int32) (s2_59 : Int32) (s3_59 : Int32) (s4_59 : Int32) : Option ((Int32) × (Int32) × (Int32) × (Int32) × (Int32)) :=
    some (s0_59 + (1 : Int32), s1_59, s2_59, s3_59, s4_59)
def kX3_meet_37 (a1 : Int32) (a2 : Int32) (a3 : Int32) (r3 : Int32) (s0_37 : Int32) (s1_37 : Int32) (s2_37 : Int32) (s3_37 : Int32) (s4_37 : Int32) : Option ((Int32) × (Int32) × (Int32) × (Int32) × (Int32)) :=
    kX3_meet_59 s0_37 r3 a1 a2 a3
def fX3_meet (s0 : Int32) (s1 : Int32) (s2 : Int32) (s3 : Int32) (s4 : Int32) (a0 : Int32) (a1 : Int32) (a2 : Int32) (a3 : Int32) : Option ((Int32) × (Int32) × (Int32) × (Int32) × (Int32)) :=
    (fX4_isReduced a1 a2 a3).bind fun (r1 : Int32) =>
    (if r1 = 0 then some (s0, s1, s2, s3, s4) else
    (fX1_byKind a0 a1 a2 a3).bind fun (r3 : Int32) =>
    (if s0 = 0 then kX3_meet_37 a1 a2 a3 r3 s0 s1 s2 s3 s4 else
    (if s1 ≤ r3 then kX3_meet_59 s0 s1 s2 s3 s4 else
    kX3_meet_37 a1 a2 a3 r3 s0 s1 s2 s3 s4)))
def kX3_run_49 (a1 : Int32) (x3_7 : Int32) (x4_17 : Int32) (K17 : Int32 → Int32 → Int32 → Int32 → Int32 → Int32 → Option ((Int32) × (Int32) × (Int32) × (Int32) × (Int32))) (r1 : Int32) (s0_49 : Int32) (s1_49 : Int32) (s2_49 : Int32) (s3_49 : Int32) (s4_49 : Int32) : Option ((Int32) × (Int32) × (Int32) × (Int32) × (Int32)) :=
    (if r1 < 0 then K17 (x4_17 + (1 : Int32)) s0_49 s1_49 s2_49 s3_49 s4_49 else
    (fX3_meet s0_49 s1_49 s2_49 s3_49 s4_49 a1 x3_7 x4_17 r1).bind fun (s0v4, s1v5, s2v6, s3v7, s4v8) =>
    K17 (x4_17 + (1 : Int32)) s0v4 s1v5 s2v6 s3v7 s4v8)
def kX3_run_17 (n : Int32) (f : Nat → Int32) (a1 : Int32) (x3_7 : Int32) (K7 : Int32 → Int32 → Int32 → Int32 → Int32 → Int32 → Option ((Int32) × (Int32) × (Int32) × (Int32) × (Int32))) : Nat → Int32 → Int32 → Int32 → Int32 → Int32 → Int32 → Option ((Int32) × (Int32) × (Int32) × (Int32) × (Int32))
  | 0, _, _, _, _, _, _ => none
  | fu + 1, x4_17, s0_17, s1_17, s2_17, s3_17, s4_17 =>
    (if (30 : Int32) < x4_17 then K7 (x3_7 + (1 : Int32)) s0_17 s1_17 s2_17 s3_17 s4_17 else
    (fX0_thirdFor n f x3_7 x4_17).bind fun (r1 : Int32) =>
    (if r1 ≤ 0 then kX3_run_49 a1 x3_7 x4_17 (kX3_run_17 n f a1 x3_7 K7 fu) r1 s0_17 s1_17 s2_17 s3_17 s4_17 else
    (fX3_meet s0_17 s1_17 s2_17 s3_17 s4_17 a1 x3_7 x4_17 (-r1)).bind fun (s0v10, s1v11, s2v12, s3v13, s4v14) =>
    kX3_run_49 a1 x3_7 x4_17 (kX3_run_17 n f a1 x3_7 K7 fu) r1 s0v10 s1v11 s2v12 s3v13 s4v14))
def kX3_run_7 (n : Int32) (f : Nat → Int32) (a1 : Int32) : Nat → Int32 → Int32 → Int32 → Int32 → Int32 → Int32 → Option ((Int32) × (Int32) × (Int32) × (Int32) × (Int32))
  | 0, _, _, _, _, _, _ => none
  | fu + 1, x3_7, s0_7, s1_7, s2_7, s3_7, s4_7 =>
    (if (30 : Int32) < x3_7 then some (s0_7, s1_7, s2_7, s3_7, s4_7) else
    kX3_run_17 n f a1 x3_7 (kX3_run_7 n f a1 fu) 1100 (-30 : Int32) s0_7 s1_7 s2_7 s3_7 s4_7)
def fX3_run (n : Int32) (f : Nat → Int32) (s0 : Int32) (s1 : Int32) (s2 : Int32) (s3 : Int32) (s4 : Int32) (a1 : Int32) : Option ((Int32) × (Int32) × (Int32) × (Int32) × (Int32)) :=
    kX3_run_7 n f a1 1100 (0 : Int32) (0 : Int32) s1 s2 s3 s4
def kX4_form_62 (a0 : Int32) (a1 : Int32) : Nat → Int32 → (Nat → Int32) → (Nat → Int32) → (Nat → Nat → Int32) → Option (Int32 × (Nat → Int32) × (Nat → Int32) × (Nat → Nat → Int32))
  | 0, _, _, _, _ => none
  | fu + 1, x8_62, gf_62, n_62, f_62 =>
    (if a1 ≤ x8_62 then (if ¬ (a0 < 0 ∨ 4 ≤ a0.toNatClampNeg) then (fX0_take 5 gf_62 (n_62 a0.toNatClampNeg) (f_62 a0.toNatClampNeg) a1).bind fun (nv7, fv8) =>
    some (a1, gf_62, up1 n_62 a0.toNatClampNeg nv7, up1 f_62 a0.toNatClampNeg fv8) else none) else
    (if ¬ (x8_62 < 0 ∨ 5 ≤ x8_62.toNatClampNeg) then (fX4_isNumber (gf_62 x8_62.toNatClampNeg) (400 : Int32)).bind fun (r10 : Int32) =>
    (if r10 = 0 then some ((-3 : Int32), gf_62, n_62, f_62) else
    (kX4_form_62 a0 a1 fu) (x8_62 + (1 : Int32)) gf_62 n_62 f_62) else none))
def fX4_form (n : Nat → Int32) (f : Nat → Nat → Int32) (gf : Nat → Int32) (a0 : Int32) (a1 : Int32) (a2 : Int32) (a3 : Int32) (a4 : Int32) (a5 : Int32) (a6 : Int32) : Option (Int32 × (Nat → Int32) × (Nat → Int32) × (Nat → Nat → Int32)) :=
    (fX4_isShelf a0).bind fun (r1 : Int32) =>
    (if r1 = 0 then some ((-3 : Int32), gf, n, f) else
    (if a1 < (1 : Int32) then some ((-3 : Int32), gf, n, f) else
    (if a1 ≤ (5 : Int32) then kX4_form_62 a0 a1 1100 (0 : Int32) (upd (upd (upd (upd (upd gf (0 : Int32).toNatClampNeg a2) (1 : Int32).toNatClampNeg a3) (2 : Int32).toNatClampNeg a4) (3 : Int32).toNatClampNeg a5) (4 : Int32).toNatClampNeg a6) n f else
    some ((-3 : Int32), gf, n, f))))
def fX4_takes (n : Nat → Int32) (f : Nat → Nat → Int32) (xn : Int32) (xf : Nat → Int32) (a0 : Int32) (a1 : Int32) : Option (Int32 × (Int32) × (Nat → Int32)) :=
    (fX4_isShelf a0).bind fun (r1 : Int32) =>
    (if r1 = 0 then some ((-3 : Int32), xn, xf) else
    (fX4_isNumber a1 (400 : Int32)).bind fun (r3 : Int32) =>
    (if r3 = 0 then some ((-3 : Int32), xn, xf) else
    (if ¬ (a0 < 0 ∨ 4 ≤ a0.toNatClampNeg) then (fX0_take 6 (f a0.toNatClampNeg) xn xf (n a0.toNatClampNeg)).bind fun (nv9, fv10) =>
    (fX0_append nv9 fv10 (-a1)).bind fun (nv12, fv13) =>
    (fX0_countBars nv12 fv13).bind fun (r14 : Int32) =>
    (if r14 = 0 then some ((1 : Int32), nv12, fv13) else
    some ((0 : Int32), nv12, fv13)) else none)))
def fX4_measure (tr : Int64) (a0 : Int32) (a1 : Int32) (a2 : Int32) (a3 : Int32) : Option (Int32 × (Int64)) :=
    (if a0 < 0 then some ((-3 : Int32), tr) else
    (if (3 : Int32) ≤ a0 then some ((-3 : Int32), tr) else
    (fX4_areWithin a1 a2 a3 (30 : Int32)).bind fun (r1 : Int32) =>
    (if r1 = 0 then some ((-3 : Int32), tr) else
    (if ¬ (a0 < 0 ∨ 3 ≤ a0.toNatClampNeg) then (fX1_byKind a0 a1 a2 a3).bind fun (r4 : Int32) =>
    some (r4, tr + ((trcv a0.toNatClampNeg).toInt64)) else none))))
def fX4_least (n : Nat → Int32) (f : Nat → Nat → Int32) (s0 : Int32) (s1 : Int32) (s2 : Int32) (s3 : Int32) (s4 : Int32) (a0 : Int32) (a1 : Int32) (a2 : Int32) : Option (Int64 × (Int32) × (Int32) × (Int32) × (Int32) × (Int32)) :=
    (fX4_isShelf a0).bind fun (r1 : Int32) =>
    (if r1 = 0 then some ((-1000000000000000 : Int64), s0, s1, s2, s3, s4) else
    (if ¬ (a0 < 0 ∨ 4 ≤ a0.toNatClampNeg) then (if (n a0.toNatClampNeg) = (3 : Int32) then (if a1 < 0 then some ((-1000000000000000 : Int64), s0, s1, s2, s3, s4) else
    (if (3 : Int32) ≤ a1 then some ((-1000000000000000 : Int64), s0, s1, s2, s3, s4) else
    (if a2 < 0 then some ((-1000000000000000 : Int64), s0, s1, s2, s3, s4) else
    (if a2 ≤ (3 : Int32) then (if ¬ (a0 < 0 ∨ 4 ≤ a0.toNatClampNeg) then (fX3_run (n a0.toNatClampNeg) (f a0.toNatClampNeg) s0 s1 s2 s3 s4 a1).bind fun (s0v10, s1v11, s2v12, s3v13, s4v14) =>
    (if s0v10 = 0 then some ((-999999999999999 : Int64), s0v10, s1v11, s2v12, s3v13, s4v14) else
    (if a2 = (3 : Int32) then some (s1v11.toInt64, s0v10, s1v11, s2v12, s3v13, s4v14) else
    (fX4_pick a2 s2v12.toInt64 s3v13.toInt64 s4v14.toInt64).bind fun (r15 : Int64) =>
    some (r15, s0v10, s1v11, s2v12, s3v13, s4v14))) else none) else
    some ((-1000000000000000 : Int64), s0, s1, s2, s3, s4))))) else
    some ((-1000000000000000 : Int64), s0, s1, s2, s3, s4)) else none))
def fX4_many (n : Nat → Int32) (f : Nat → Nat → Int32) (s0 : Int32) (s1 : Int32) (s2 : Int32) (s3 : Int32) (s4 : Int32) (a0 : Int32) : Option (Int32 × (Int32) × (Int32) × (Int32) × (Int32) × (Int32)) :=
    (fX4_isShelf a0).bind fun (r1 : Int32) =>
    (if r1 = 0 then some ((-3 : Int32), s0, s1, s2, s3, s4) else
    (if ¬ (a0 < 0 ∨ 4 ≤ a0.toNatClampNeg) then (if (n a0.toNatClampNeg) = (3 : Int32) then (if ¬ (a0 < 0 ∨ 4 ≤ a0.toNatClampNeg) then (fX3_run (n a0.toNatClampNeg) (f a0.toNatClampNeg) s0 s1 s2 s3 s4 (0 : Int32)).bind fun (s0v10, s1v11, s2v12, s3v13, s4v14) =>
    some (s0v10, s0v10, s1v11, s2v12, s3v13, s4v14) else none) else
    some ((-3 : Int32), s0, s1, s2, s3, s4)) else none))
theorem syX0_take : Vy yX0_take cX0_take 5 none 2 := ⟨w_138, ⟨w_136, w_137⟩, w_2, by decide +kernel⟩
set_option maxHeartbeats 4000000 in
set_option maxRecDepth 100000 in
theorem cnX0_take (l : Launch) (G : va_G) (cI cF : ClassId) (q qc ra N : Nat) (g : Nat → Int32) (n : Int32) (f : Nat → Int32) (hnd : ([q, qc, ra] : List Nat).Nodup) {a1 : Int32} {n_r : Int32} {f_r : Nat → Int32} (h : fX0_take N g n f a1 = some (n_r, f_r)) : Mu l yX0_take cX0_take 5 none 0 0 [.ref q, .ref ra, .int a1] (fun x => x ∈ ([q, qc, ra] : List Nat)) (tkB G cI cF q qc ra N g n f) (tkB G cI cF q qc ra N g n_r f_r) none := by
  refine mu_v (plainFor_of_name (by decide)) (Nat.le_of_ble_eq_true rfl) tkB_mv ?_
  intro p e s m args below meth cd Q ls hF hB hl END
  have hF : CallFix p m cd cX0_take 5 s args (wl yX0_take cX0_take 5 none) RX0 := hF
  obtain ⟨hx, hb, hml, hown, hts⟩ := id hF
  have hl : lv_has ls 5 [(0, .ref q), (1, .ref ra), (2, .int a1)] := hl
  obtain ⟨hK, hP⟩ := hB
  have hS : va_S (fun x => x ∈ ([q, qc, ra] : List Nat)) s.heap s.heap [] := va_S.rf
  rw [fX0_take] at h
  refine lv_iconst (v := (0 : Int32)) hx hb dX0_take_0 (by decide) ?_
  refine lv_istore_n (lv' := [(3, .int (0 : Int32)), (0, .ref q), (1, .ref ra), (2, .int a1)]) hx hb dX0_take_1 rfl hl (by decide) rfl (fun ls hl => ?_)
  refine lv_iconst (v := (0 : Int32)) hx hb dX0_take_2 (by decide) ?_
  refine lv_istore (lv' := [(4, .int (0 : Int32)), (3, .int (0 : Int32)), (0, .ref q), (1, .ref ra), (2, .int a1)]) hx hb dX0_take_3 hl (by decide) rfl (fun ls hl => ?_)
  have J5 : ∀ (n5 : Nat) (x3_5 : Int32) (x4_5 : Int32) (n_5 : Int32) (f_5 : Nat → Int32), kX0_take_5 N g a1 n5 x3_5 x4_5 n_5 f_5 = some (n_r, f_r) → ∀ (H : Heap) (locs : List Loc), va_P G vwCl (tW q qc ra cI N n_5 f_5 g) H → va_S (fun x => x ∈ ([q, qc, ra] : List Nat)) s.heap H locs → ∀ (ls : Array Slot), lv_has ls 5 [(0, .ref q), (1, .ref ra), (2, .int a1), (3, .int x3_5), (4, .int x4_5)] → W p l e (rmk 0 0) s m args below meth cd H locs 0 0 Q (F0 m 5 ls []) := by
    intro n5
    induction n5 with
    | zero =>
      intro x3_5 x4_5 n_5 f_5 h
      rw [kX0_take_5] at h
      cases h
    | succ n5 ih5 =>
      intro x3_5 x4_5 n_5 f_5 h H locs hP hS ls hl
      rw [kX0_take_5] at h
      refine lv_iload hx hb dX0_take_5 (lv_at hl 4 rfl) ?_
      refine lv_iload_n hx hb dX0_take_7 rfl (lv_at hl 2 rfl) ?_
      have J48 : ∀ (n_48 : Int32) (f_48 : Nat → Int32), kX0_take_48 x3_5 n_48 f_48 = some (n_r, f_r) → ∀ (H : Heap) (locs : List Loc), va_P G vwCl (tW q qc ra cI N n_48 f_48 g) H → va_S (fun x => x ∈ ([q, qc, ra] : List Nat)) s.heap H locs → ∀ (ls : Array Slot), lv_has ls 5 [(0, .ref q), (3, .int x3_5)] → W p l e (rmk 0 0) s m args below meth cd H locs 0 0 Q (F0 m 48 ls []) := by
        intro n_48 f_48 h H locs hP hS ls hl
        rw [kX0_take_48] at h
        refine lv_aload_n hx hb dX0_take_48 rfl (lv_at hl 0 rfl) ?_
        refine lv_iload_n hx hb dX0_take_49 rfl (lv_at hl 1 rfl) ?_
        refine va_put (D := G) (ci := 0) (v := .int x3_5) (ty := .int) (C := RX0) (T := TX0) (N := 2) hx hb hts (fun w h => wl_in (inX0 w h)) tyX0 tyX0_ok nmX0 hown hK hP (va_Dn hnd rfl) hS 0 rfl rfl 0 (by decide) (hts _ (wl_in w_23)) (fun _ h9 => h9) rfl (by decide +kernel) rfl rfl (Nat.le_of_ble_eq_true rfl) dX0_take_50 (fun H locs hP _ hS => ?_)
        have hP : va_P G vwCl (tW q qc ra cI N x3_5 f_48 g) H := hP
        have hh := pe h
        simp only [Prod.mk.injEq] at hh
        obtain ⟨z0, z1⟩ := hh
        subst z0
        subst z1
        exact END _ _ 53 ls s dX0_take_53 rfl ⟨hK, hP⟩ hS
      refine lv_icmp_ge (tgt := 48) hx hb dX0_take_8 (by decide) (fun c8 => ?_) (fun c8 => ?_)
      · have h := pt c8 h
        exact J48 _ _ h _ _ hP hS _ (lv_sub hl [0, 3] rfl)
      · have h := pf c8 h
        refine lv_iload hx hb dX0_take_11 (lv_at hl 4 rfl) ?_
        refine lv_aload_n hx hb dX0_take_13 rfl (lv_at hl 1 rfl) ?_
        refine va_alen (v := Int32.ofNat N) hx hb hK hP 2 0 rfl rfl rfl dX0_take_14 ?_
        refine lv_icmp_ge (tgt := 48) hx hb dX0_take_15 (by decide) (fun c15 => ?_) (fun c15 => ?_)
        · have h := pt c15 h
          exact J48 _ _ h _ _ hP hS _ (lv_sub hl [0, 3] rfl)
        · have h := pf c15 h
          refine lv_iload hx hb dX0_take_18 (lv_at hl 4 rfl) ?_
          refine lv_aload_n hx hb dX0_take_20 rfl (lv_at hl 0 rfl) ?_
          refine va_get (D := G) (ci := 0) (v := .ref qc) (C := RX0) (T := TX0) (N := 2) hx hb hts (fun w h => wl_in (inX0 w h)) hown hK hP 0 rfl rfl 1 (by decide) (hts _ (wl_in w_25)) (fun _ h9 => h9) rfl dX0_take_21 ?_
          refine va_alen (v := (6 : Int32)) hx hb hK hP 1 0 rfl rfl rfl dX0_take_24 ?_
          refine lv_icmp_ge (tgt := 48) hx hb dX0_take_25 (by decide) (fun c25 => ?_) (fun c25 => ?_)
          · have h := pt c25 h
            exact J48 _ _ h _ _ hP hS _ (lv_sub hl [0, 3] rfl)
          · have h := pf c25 h
            refine lv_aload_n hx hb dX0_take_28 rfl (lv_at hl 0 rfl) ?_
            refine va_get (D := G) (ci := 0) (v := .ref qc) (C := RX0) (T := TX0) (N := 2) hx hb hts (fun w h => wl_in (inX0 w h)) hown hK hP 0 rfl rfl 1 (by decide) (hts _ (wl_in w_25)) (fun _ h9 => h9) rfl dX0_take_29 ?_
            refine lv_iload hx hb dX0_take_32 (lv_at hl 4 rfl) ?_
            refine lv_aload_n hx hb dX0_take_34 rfl (lv_at hl 1 rfl) ?_
            refine lv_iload hx hb dX0_take_35 (lv_at hl 4 rfl) ?_
            obtain ⟨g1, h⟩ := pg h
            refine va_iald hx hb hK hP 2 0 rfl rfl g1 dX0_take_37 ?_
            obtain ⟨g2, h⟩ := pg h
            refine va_iast hx hb hK hP (va_Dn hnd rfl) hS 1 0 rfl rfl g2 dX0_take_38 (fun H locs hP _ hS => ?_)
            have hP : va_P G vwCl (tW q qc ra cI N n_5 (upd f_5 x4_5.toNatClampNeg (g x4_5.toNatClampNeg)) g) H := hP
            refine lv_iinc (v := x3_5 + (1 : Int32)) (lv' := [(3, .int (x3_5 + (1 : Int32))), (0, .ref q), (1, .ref ra), (2, .int a1), (4, .int x4_5)]) hx hb dX0_take_39 hl (k := 3) rfl rfl (by decide) rfl (fun ls hl => ?_)
            refine lv_iinc (v := x4_5 + (1 : Int32)) (lv' := [(4, .int (x4_5 + (1 : Int32))), (3, .int (x3_5 + (1 : Int32))), (0, .ref q), (1, .ref ra), (2, .int a1)]) hx hb dX0_take_42 hl (k := 4) rfl rfl (by decide) rfl (fun ls hl => ?_)
            refine lv_goto (tgt := 5) hx hb dX0_take_45 (by decide) ?_
            exact ih5 _ _ _ _ h _ _ hP hS _ (lv_sub hl [2, 3, 4, 1, 0] rfl)
  exact J5 _ _ _ _ _ h _ _ hP hS _ (lv_sub hl [2, 3, 4, 1, 0] rfl)

theorem syX0_append : Vy yX0_append cX0_append 2 none 1 := ⟨w_215, ⟨w_213, w_214⟩, w_2, by decide +kernel⟩
set_option maxHeartbeats 4000000 in
set_option maxRecDepth 100000 in
theorem cnX0_append (l : Launch) (G : va_G) (cI cF : ClassId) (q qc : Nat) (n : Int32) (f : Nat → Int32) (hnd : ([q, qc] : List Nat).Nodup) {a0 : Int32} {n_r : Int32} {f_r : Nat → Int32} (h : fX0_append n f a0 = some (n_r, f_r)) : Mu l yX0_append cX0_append 2 none 0 0 [.ref q, .int a0] (fun x => x ∈ ([q, qc] : List Nat)) (apB G cI cF q qc n f) (apB G cI cF q qc n_r f_r) none := by
  refine mu_v (plainFor_of_name (by decide)) (Nat.le_of_ble_eq_true rfl) apB_mv ?_
  intro p e s m args below meth cd Q ls hF hB hl END
  have hF : CallFix p m cd cX0_append 2 s args (wl yX0_append cX0_append 2 none) RX0 := hF
  obtain ⟨hx, hb, hml, hown, hts⟩ := id hF
  have hl : lv_has ls 2 [(0, .ref q), (1, .int a0)] := hl
  obtain ⟨hK, hP⟩ := hB
  have hS : va_S (fun x => x ∈ ([q, qc] : List Nat)) s.heap s.heap [] := va_S.rf
  rw [fX0_append] at h
  refine lv_aload_n hx hb dX0_append_0 rfl (lv_at hl 0 rfl) ?_
  refine va_get (D := G) (ci := 0) (v := .int n) (C := RX0) (T := TX0) (N := 2) hx hb hts (fun w h => wl_in (inX0 w h)) hown hK hP 0 rfl rfl 0 (by decide) (hts _ (wl_in w_23)) (fun _ h9 => h9) rfl dX0_append_1 ?_
  refine lv_aload_n hx hb dX0_append_4 rfl (lv_at hl 0 rfl) ?_
  refine va_get (D := G) (ci := 0) (v := .ref qc) (C := RX0) (T := TX0) (N := 2) hx hb hts (fun w h => wl_in (inX0 w h)) hown hK hP 0 rfl rfl 1 (by decide) (hts _ (wl_in w_25)) (fun _ h9 => h9) rfl dX0_append_5 ?_
  refine va_alen (v := (6 : Int32)) hx hb hK hP 1 0 rfl rfl rfl dX0_append_8 ?_
  refine lv_icmp_ge (tgt := 32) hx hb dX0_append_9 (by decide) (fun c9 => ?_) (fun c9 => ?_)
  · have h := pt c9 h
    have hh := pe h
    simp only [Prod.mk.injEq] at hh
    obtain ⟨z0, z1⟩ := hh
    subst z0
    subst z1
    exact END _ _ 32 ls s dX0_append_32 rfl ⟨hK, hP⟩ hS
  · have h := pf c9 h
    refine lv_aload_n hx hb dX0_append_12 rfl (lv_at hl 0 rfl) ?_
    refine va_get (D := G) (ci := 0) (v := .ref qc) (C := RX0) (T := TX0) (N := 2) hx hb hts (fun w h => wl_in (inX0 w h)) hown hK hP 0 rfl rfl 1 (by decide) (hts _ (wl_in w_25)) (fun _ h9 => h9) rfl dX0_append_13 ?_
    refine lv_aload_n hx hb dX0_append_16 rfl (lv_at hl 0 rfl) ?_
    refine va_get (D := G) (ci := 0) (v := .int n) (C := RX0) (T := TX0) (N := 2) hx hb hts (fun w h => wl_in (inX0 w h)) hown hK hP 0 rfl rfl 0 (by decide) (hts _ (wl_in w_23)) (fun _ h9 => h9) rfl dX0_append_17 ?_
    refine lv_iload_n hx hb dX0_append_20 rfl (lv_at hl 1 rfl) ?_
    obtain ⟨g1, h⟩ := pg h
    refine va_iast hx hb hK hP (va_Dn hnd rfl) hS 1 0 rfl rfl g1 dX0_append_21 (fun H locs hP _ hS => ?_)
    have hP : va_P G vwCl (fW q qc cI n (upd f n.toNatClampNeg a0)) H := hP
    refine lv_aload_n hx hb dX0_append_22 rfl (lv_at hl 0 rfl) ?_
    refine lv_dup hx hb dX0_append_23 rfl ?_
    refine va_get (D := G) (ci := 0) (v := .int n) (C := RX0) (T := TX0) (N := 2) hx hb hts (fun w h => wl_in (inX0 w h)) hown hK hP 0 rfl rfl 0 (by decide) (hts _ (wl_in w_23)) (fun _ h9 => h9) rfl dX0_append_24 ?_
    refine lv_iconst (v := (1 : Int32)) hx hb dX0_append_27 (by decide) ?_
    refine lv_iadd hx hb dX0_append_28 ?_
    refine va_put (D := G) (ci := 0) (v := .int (n + (1 : Int32))) (ty := .int) (C := RX0) (T := TX0) (N := 2) hx hb hts (fun w h => wl_in (inX0 w h)) tyX0 tyX0_ok nmX0 hown hK hP (va_Dn hnd rfl) hS 0 rfl rfl 0 (by decide) (hts _ (wl_in w_23)) (fun _ h9 => h9) rfl (by decide +kernel) rfl rfl (Nat.le_of_ble_eq_true rfl) dX0_append_29 (fun H locs hP _ hS => ?_)
    have hP : va_P G vwCl (fW q qc cI (n + (1 : Int32)) (upd f n.toNatClampNeg a0)) H := hP
    have hh := pe h
    simp only [Prod.mk.injEq] at hh
    obtain ⟨z0, z1⟩ := hh
    subst z0
    subst z1
    exact END _ _ 32 ls s dX0_append_32 rfl ⟨hK, hP⟩ hS

theorem syX3_meet : Vy yX3_meet cX3_meet 6 none 4 := ⟨w_276, ⟨w_275, w_s1⟩, w_3, by decide +kernel⟩
set_option maxHeartbeats 4000000 in
set_option maxRecDepth 100000 in
theorem cnX3_meet (l : Launch) (G : va_G) (cI cF : ClassId) (se : Nat) (s0 : Int32) (s1 : Int32) (s2 : Int32) (s3 : Int32) (s4 : Int32) (hnd : ([se] : List Nat).Nodup) {a0 : Int32} {a1 : Int32} {a2 : Int32} {a3 : Int32} {s0_r : Int32} {s1_r : Int32} {s2_r : Int32} {s3_r : Int32} {s4_r : Int32} (h : fX3_meet s0 s1 s2 s3 s4 a0 a1 a2 a3 = some (s0_r, s1_r, s2_r, s3_r, s4_r)) : Mu l yX3_meet cX3_meet 6 none 5 114 [.ref se, .int a0, .int a1, .int a2, .int a3] (fun x => x ∈ ([se] : List Nat)) (smBn G cI cF se s0 s1 s2 s3 s4) (smB G cI cF se s0_r s1_r s2_r s3_r s4_r) none := by
  refine mu_v (plainFor_of_name (by decide)) (Nat.le_of_ble_eq_true rfl) smB_mv ?_
  intro p e s m args below meth cd Q ls hF hB hl END
  have hF : CallFix p m cd cX3_meet 6 s args (wl yX3_meet cX3_meet 6 none) RX3 := hF
  obtain ⟨hx, hb, hml, hown, hts⟩ := id hF
  have hl : lv_has ls 6 [(0, .ref se), (1, .int a0), (2, .int a1), (3, .int a2), (4, .int a3)] := hl
  obtain ⟨⟨hK, hP⟩, hN⟩ := hB
  have hS : va_S (fun x => x ∈ ([se] : List Nat)) s.heap s.heap [] := va_S.rf
  rw [fX3_meet] at h
  refine lv_iload_n hx hb dX3_meet_0 rfl (lv_at hl 2 rfl) ?_
  refine lv_iload_n hx hb dX3_meet_1 rfl (lv_at hl 3 rfl) ?_
  refine lv_iload hx hb dX3_meet_2 (lv_at hl 4 rfl) ?_
  obtain ⟨r1, e2, h⟩ := pb h
  refine ro_SN (As := [.int a1, .int a2, .int a3]) (rest := []) hF (fun _ h => wl_in h) (cnX4_isReduced l e2) syX4_isReduced hN ⟨Nat.le_of_ble_eq_true rfl, Nat.le_of_ble_eq_true rfl⟩ mv0 trivial rfl hl.1 rfl (Nat.le_of_ble_eq_true rfl) dX3_meet_4 ⟨Nat.zero_le _, Nat.zero_le _⟩ ?_
  refine lv_if_ne (tgt := 11) hx hb dX3_meet_7 (by decide) (fun c7 => ?_) (fun c7 => ?_)
  · have h := pf c7 h
    refine lv_iload_n hx hb dX3_meet_11 rfl (lv_at hl 1 rfl) ?_
    refine lv_iload_n hx hb dX3_meet_12 rfl (lv_at hl 2 rfl) ?_
    refine lv_iload_n hx hb dX3_meet_13 rfl (lv_at hl 3 rfl) ?_
    refine lv_iload hx hb dX3_meet_14 (lv_at hl 4 rfl) ?_
    obtain ⟨r3, e4, h⟩ := pb h
    refine ro_S (As := [.int a0, .int a1, .int a2, .int a3]) (rest := []) hF (fun _ h => wl_in h) (cnX1_byKind l e4) syX1_byKind w_289 ⟨Nat.le_of_ble_eq_true rfl, Nat.le_of_ble_eq_true rfl⟩ mv0 trivial rfl hl.1 rfl (Nat.le_of_ble_eq_true rfl) dX3_meet_16 ⟨Nat.zero_le _, Nat.zero_le _⟩ ?_
    refine lv_istore (lv' := [(5, .int r3), (0, .ref se), (1, .int a0), (2, .int a1), (3, .int a2), (4, .int a3)]) hx hb dX3_meet_19 hl (by decide) rfl (fun ls hl => ?_)
    refine lv_aload_n hx hb dX3_meet_21 rfl (lv_at hl 1 rfl) ?_
    refine va_get (D := G) (ci := 1) (v := .int s0) (C := RX3) (T := TX3) (N := 5) hx hb hts (fun w h => wl_in (inX3 w h)) hown hK hP 0 rfl rfl 0 (by decide) (hts _ (wl_in w_39)) (fun _ h9 => h9) rfl dX3_meet_22 ?_
    have J59 : ∀ (s0_59 : Int32) (s1_59 : Int32) (s2_59 : Int32) (s3_59 : Int32) (s4_59 : Int32), kX3_meet_59 s0_59 s1_59 s2_59 s3_59 s4_59 = some (s0_r, s1_r, s2_r, s3_r, s4_r) → ∀ (H : Heap) (locs : List Loc), va_P G vwCl (sW se s0_59 s1_59 s2_59 s3_59 s4_59) H → va_S (fun x => x ∈ ([se] : List Nat)) s.heap H locs → ∀ (ls : Array Slot), lv_has ls 6 [(0, .ref se)] → W p l e (rmk 5 114) s m args below meth cd H locs 0 0 Q (F0 m 59 ls []) := by
      intro s0_59 s1_59 s2_59 s3_59 s4_59 h H locs hP hS ls hl
      rw [kX3_meet_59] at h
      refine lv_aload_n hx hb dX3_meet_59 rfl (lv_at hl 0 rfl) ?_
      refine lv_dup hx hb dX3_meet_60 rfl ?_
      refine va_get (D := G) (ci := 1) (v := .int s0_59) (C := RX3) (T := TX3) (N := 5) hx hb hts (fun w h => wl_in (inX3 w h)) hown hK hP 0 rfl rfl 0 (by decide) (hts _ (wl_in w_39)) (fun _ h9 => h9) rfl dX3_meet_61 ?_
      refine lv_iconst (v := (1 : Int32)) hx hb dX3_meet_64 (by decide) ?_
      refine lv_iadd hx hb dX3_meet_65 ?_
      refine va_put (D := G) (ci := 1) (v := .int (s0_59 + (1 : Int32))) (ty := .int) (C := RX3) (T := TX3) (N := 5) hx hb hts (fun w h => wl_in (inX3 w h)) tyX3 tyX3_ok nmX3 hown hK hP (va_Dn hnd rfl) hS 0 rfl rfl 0 (by decide) (hts _ (wl_in w_39)) (fun _ h9 => h9) rfl (by decide +kernel) rfl rfl (Nat.le_of_ble_eq_true rfl) dX3_meet_66 (fun H locs hP _ hS => ?_)
      have hP : va_P G vwCl (sW se (s0_59 + (1 : Int32)) s1_59 s2_59 s3_59 s4_59) H := hP
      have hh := pe h
      simp only [Prod.mk.injEq] at hh
      obtain ⟨z0, z1, z2, z3, z4⟩ := hh
      subst z0
      subst z1
      subst z2
      subst z3
      subst z4
      exact END _ _ 69 ls s dX3_meet_69 rfl ⟨hK, hP⟩ hS
    have J37 : ∀ (s0_37 : Int32) (s1_37 : Int32) (s2_37 : Int32) (s3_37 : Int32) (s4_37 : Int32), kX3_meet_37 a1 a2 a3 r3 s0_37 s1_37 s2_37 s3_37 s4_37 = some (s0_r, s1_r, s2_r, s3_r, s4_r) → ∀ (H : Heap) (locs : List Loc), va_P G vwCl (sW se s0_37 s1_37 s2_37 s3_37 s4_37) H → va_S (fun x => x ∈ ([se] : List Nat)) s.heap H locs → ∀ (ls : Array Slot), lv_has ls 6 [(5, .int r3), (0, .ref se), (2, .int a1), (3, .int a2), (4, .int a3)] → W p l e (rmk 5 114) s m args below meth cd H locs 0 0 Q (F0 m 37 ls []) := by
      intro s0_37 s1_37 s2_37 s3_37 s4_37 h H locs hP hS ls hl
      rw [kX3_meet_37] at h
      refine lv_aload_n hx hb dX3_meet_37 rfl (lv_at hl 1 rfl) ?_
      refine lv_iload hx hb dX3_meet_38 (lv_at hl 0 rfl) ?_
      refine va_put (D := G) (ci := 1) (v := .int r3) (ty := .int) (C := RX3) (T := TX3) (N := 5) hx hb hts (fun w h => wl_in (inX3 w h)) tyX3 tyX3_ok nmX3 hown hK hP (va_Dn hnd rfl) hS 0 rfl rfl 1 (by decide) (hts _ (wl_in w_41)) (fun _ h9 => h9) rfl (by decide +kernel) rfl rfl (Nat.le_of_ble_eq_true rfl) dX3_meet_40 (fun H locs hP _ hS => ?_)
      have hP : va_P G vwCl (sW se s0_37 r3 s2_37 s3_37 s4_37) H := hP
      refine lv_aload_n hx hb dX3_meet_43 rfl (lv_at hl 1 rfl) ?_
      refine lv_iload_n hx hb dX3_meet_44 rfl (lv_at hl 2 rfl) ?_
      refine va_put (D := G) (ci := 1) (v := .int a1) (ty := .int) (C := RX3) (T := TX3) (N := 5) hx hb hts (fun w h => wl_in (inX3 w h)) tyX3 tyX3_ok nmX3 hown hK hP (va_Dn hnd rfl) hS 0 rfl rfl 2 (by decide) (hts _ (wl_in w_43)) (fun _ h9 => h9) rfl (by decide +kernel) rfl rfl (Nat.le_of_ble_eq_true rfl) dX3_meet_45 (fun H locs hP _ hS => ?_)
      have hP : va_P G vwCl (sW se s0_37 r3 a1 s3_37 s4_37) H := hP
      refine lv_aload_n hx hb dX3_meet_48 rfl (lv_at hl 1 rfl) ?_
      refine lv_iload_n hx hb dX3_meet_49 rfl (lv_at hl 3 rfl) ?_
      refine va_put (D := G) (ci := 1) (v := .int a2) (ty := .int) (C := RX3) (T := TX3) (N := 5) hx hb hts (fun w h => wl_in (inX3 w h)) tyX3 tyX3_ok nmX3 hown hK hP (va_Dn hnd rfl) hS 0 rfl rfl 3 (by decide) (hts _ (wl_in w_45)) (fun _ h9 => h9) rfl (by decide +kernel) rfl rfl (Nat.le_of_ble_eq_true rfl) dX3_meet_50 (fun H locs hP _ hS => ?_)
      have hP : va_P G vwCl (sW se s0_37 r3 a1 a2 s4_37) H := hP
      refine lv_aload_n hx hb dX3_meet_53 rfl (lv_at hl 1 rfl) ?_
      refine lv_iload hx hb dX3_meet_54 (lv_at hl 4 rfl) ?_
      refine va_put (D := G) (ci := 1) (v := .int a3) (ty := .int) (C := RX3) (T := TX3) (N := 5) hx hb hts (fun w h => wl_in (inX3 w h)) tyX3 tyX3_ok nmX3 hown hK hP (va_Dn hnd rfl) hS 0 rfl rfl 4 (by decide) (hts _ (wl_in w_47)) (fun _ h9 => h9) rfl (by decide +kernel) rfl rfl (Nat.le_of_ble_eq_true rfl) dX3_meet_56 (fun H locs hP _ hS => ?_)
      have hP : va_P G vwCl (sW se s0_37 r3 a1 a2 a3) H := hP
      exact J59 _ _ _ _ _ h _ _ hP hS _ (lv_sub hl [1] rfl)
    refine lv_if_eq (tgt := 37) hx hb dX3_meet_25 (by decide) (fun c25 => ?_) (fun c25 => ?_)
    · have h := pt c25 h
      exact J37 _ _ _ _ _ h _ _ hP hS _ (lv_sub hl [0, 1, 3, 4, 5] rfl)
    · have h := pf c25 h
      refine lv_iload hx hb dX3_meet_28 (lv_at hl 0 rfl) ?_
      refine lv_aload_n hx hb dX3_meet_30 rfl (lv_at hl 1 rfl) ?_
      refine va_get (D := G) (ci := 1) (v := .int s1) (C := RX3) (T := TX3) (N := 5) hx hb hts (fun w h => wl_in (inX3 w h)) hown hK hP 0 rfl rfl 1 (by decide) (hts _ (wl_in w_41)) (fun _ h9 => h9) rfl dX3_meet_31 ?_
      refine lv_icmp_ge (tgt := 59) hx hb dX3_meet_34 (by decide) (fun c34 => ?_) (fun c34 => ?_)
      · have h := pt c34 h
        exact J59 _ _ _ _ _ h _ _ hP hS _ (lv_sub hl [1] rfl)
      · have h := pf c34 h
        exact J37 _ _ _ _ _ h _ _ hP hS _ (lv_sub hl [0, 1, 3, 4, 5] rfl)
  · have h := pt c7 h
    have hh := pe h
    simp only [Prod.mk.injEq] at hh
    obtain ⟨z0, z1, z2, z3, z4⟩ := hh
    subst z0
    subst z1
    subst z2
    subst z3
    subst z4
    exact END _ _ 10 ls s dX3_meet_10 rfl ⟨hK, hP⟩ hS

theorem syX3_run : Vy yX3_run cX3_run 6 none 2 := ⟨w_268, ⟨w_266, w_267⟩, w_3, by decide +kernel⟩
set_option maxHeartbeats 4000000 in
set_option maxRecDepth 100000 in
theorem cnX3_run (l : Launch) (A : Nat → Prop) (G : va_G) (cI cF : ClassId) (tA tT : Nat) (se q qc : Nat) (n : Int32) (f : Nat → Int32) (s0 : Int32) (s1 : Int32) (s2 : Int32) (s3 : Int32) (s4 : Int32) (hnd : ([se, q, qc] : List Nat).Nodup) (hAA : ∀ x, x ∈ ([se, q, qc] : List Nat) → A x) {a1 : Int32} {s0_r : Int32} {s1_r : Int32} {s2_r : Int32} {s3_r : Int32} {s4_r : Int32} (h : fX3_run n f s0 s1 s2 s3 s4 a1 = some (s0_r, s1_r, s2_r, s3_r, s4_r)) : Mu l yX3_run cX3_run 6 none 6 139 [.ref se, .ref q, .int a1] (fun x => x ∈ ([se, q, qc] : List Nat)) (rnBn A G cI cF tA tT se q qc n f s0 s1 s2 s3 s4) (rnB A G cI cF tA tT se q qc n f s0_r s1_r s2_r s3_r s4_r) none := by
  refine mu_v (plainFor_of_name (by decide)) (Nat.le_of_ble_eq_true rfl) rnB_mv ?_
  intro p e s m args below meth cd Q ls hF hB hl END
  have hF : CallFix p m cd cX3_run 6 s args (wl yX3_run cX3_run 6 none) RX3 := hF
  obtain ⟨hx, hb, hml, hown, hts⟩ := id hF
  have hl : lv_has ls 6 [(0, .ref se), (1, .ref q), (2, .int a1)] := hl
  obtain ⟨⟨hE, hP⟩, hN⟩ := hB
  obtain ⟨hK, ⟨hZ, hT⟩, ⟨hZ2, hT2⟩⟩ := id hE
  have hS : va_S (fun x => x ∈ ([se, q, qc] : List Nat)) s.heap s.heap [] := va_S.rf
  rw [fX3_run] at h
  refine lv_aload_n hx hb dX3_run_0 rfl (lv_at hl 0 rfl) ?_
  refine lv_iconst (v := (0 : Int32)) hx hb dX3_run_1 (by decide) ?_
  refine va_put (D := G) (ci := 1) (v := .int (0 : Int32)) (ty := .int) (C := RX3) (T := TX3) (N := 5) hx hb hts (fun w h => wl_in (inX3 w h)) tyX3 tyX3_ok nmX3 hown hK hP (va_Dn hnd rfl) hS 0 rfl rfl 0 (by decide) (hts _ (wl_in w_39)) (fun _ h9 => h9) rfl (by decide +kernel) rfl rfl (Nat.le_of_ble_eq_true rfl) dX3_run_2 (fun H locs hP _ hS => ?_)
  have hP : va_P G vwCl (rW se q qc cI n f (0 : Int32) s1 s2 s3 s4) H := hP
  refine lv_iconst (v := (0 : Int32)) hx hb dX3_run_5 (by decide) ?_
  refine lv_istore_n (lv' := [(3, .int (0 : Int32)), (0, .ref se), (1, .ref q), (2, .int a1)]) hx hb dX3_run_6 rfl hl (by decide) rfl (fun ls hl => ?_)
  have J7 : ∀ (n7 : Nat) (x3_7 : Int32) (s0_7 : Int32) (s1_7 : Int32) (s2_7 : Int32) (s3_7 : Int32) (s4_7 : Int32), kX3_run_7 n f a1 n7 x3_7 s0_7 s1_7 s2_7 s3_7 s4_7 = some (s0_r, s1_r, s2_r, s3_r, s4_r) → ∀ (H : Heap) (locs : List Loc), va_P G vwCl (rW se q qc cI n f s0_7 s1_7 s2_7 s3_7 s4_7) H → va_S (fun x => x ∈ ([se, q, qc] : List Nat)) s.heap H locs → ∀ (ls : Array Slot), lv_has ls 6 [(0, .ref se), (1, .ref q), (2, .int a1), (3, .int x3_7)] → W p l e (rmk 6 139) s m args below meth cd H locs 0 0 Q (F0 m 7 ls []) := by
    intro n7
    induction n7 with
    | zero =>
      intro x3_7 s0_7 s1_7 s2_7 s3_7 s4_7 h
      rw [kX3_run_7] at h
      cases h
    | succ n7 ih7 =>
      intro x3_7 s0_7 s1_7 s2_7 s3_7 s4_7 h H locs hP hS ls hl
      rw [kX3_run_7] at h
      refine lv_iload_n hx hb dX3_run_7 rfl (lv_at hl 3 rfl) ?_
      refine lv_bipush (v := (30 : Int32)) hx hb dX3_run_8 (by decide) ?_
      refine lv_icmp_gt (tgt := 76) hx hb dX3_run_10 (by decide) (fun c10 => ?_) (fun c10 => ?_)
      · have h := pt c10 h
        have hh := pe h
        simp only [Prod.mk.injEq] at hh
        obtain ⟨z0, z1, z2, z3, z4⟩ := hh
        subst z0
        subst z1
        subst z2
        subst z3
        subst z4
        exact END _ _ 76 ls s dX3_run_76 rfl ⟨eB_S hE hS hAA, hP⟩ hS
      · have h := pf c10 h
        refine lv_bipush (v := (-30 : Int32)) hx hb dX3_run_13 (by decide) ?_
        refine lv_istore (lv' := [(4, .int (-30 : Int32)), (0, .ref se), (1, .ref q), (2, .int a1), (3, .int x3_7)]) hx hb dX3_run_15 hl (by decide) rfl (fun ls hl => ?_)
        have J17 : ∀ (n17 : Nat) (x4_17 : Int32) (s0_17 : Int32) (s1_17 : Int32) (s2_17 : Int32) (s3_17 : Int32) (s4_17 : Int32), kX3_run_17 n f a1 x3_7 (kX3_run_7 n f a1 n7) n17 x4_17 s0_17 s1_17 s2_17 s3_17 s4_17 = some (s0_r, s1_r, s2_r, s3_r, s4_r) → ∀ (H : Heap) (locs : List Loc), va_P G vwCl (rW se q qc cI n f s0_17 s1_17 s2_17 s3_17 s4_17) H → va_S (fun x => x ∈ ([se, q, qc] : List Nat)) s.heap H locs → ∀ (ls : Array Slot), lv_has ls 6 [(0, .ref se), (1, .ref q), (2, .int a1), (3, .int x3_7), (4, .int x4_17)] → W p l e (rmk 6 139) s m args below meth cd H locs 0 0 Q (F0 m 17 ls []) := by
          intro n17
          induction n17 with
          | zero =>
            intro x4_17 s0_17 s1_17 s2_17 s3_17 s4_17 h
            rw [kX3_run_17] at h
            cases h
          | succ n17 ih17 =>
            intro x4_17 s0_17 s1_17 s2_17 s3_17 s4_17 h H locs hP hS ls hl
            rw [kX3_run_17] at h
            refine lv_iload hx hb dX3_run_17 (lv_at hl 4 rfl) ?_
            refine lv_bipush (v := (30 : Int32)) hx hb dX3_run_19 (by decide) ?_
            refine lv_icmp_gt (tgt := 70) hx hb dX3_run_21 (by decide) (fun c21 => ?_) (fun c21 => ?_)
            · have h := pt c21 h
              refine lv_iinc (v := x3_7 + (1 : Int32)) (lv' := [(3, .int (x3_7 + (1 : Int32))), (0, .ref se), (1, .ref q), (2, .int a1), (4, .int x4_17)]) hx hb dX3_run_70 hl (k := 3) rfl rfl (by decide) rfl (fun ls hl => ?_)
              refine lv_goto (tgt := 7) hx hb dX3_run_73 (by decide) ?_
              exact ih7 _ _ _ _ _ _ h _ _ hP hS _ (lv_sub hl [1, 2, 3, 0] rfl)
            · have h := pf c21 h
              refine lv_aload_n hx hb dX3_run_24 rfl (lv_at hl 1 rfl) ?_
              refine lv_iload_n hx hb dX3_run_25 rfl (lv_at hl 3 rfl) ?_
              refine lv_iload hx hb dX3_run_26 (lv_at hl 4 rfl) ?_
              obtain ⟨r1, e2, h⟩ := pb h
              refine ro_V (As := [.int x3_7, .int x4_17]) (rest := []) hF (fun _ h => wl_in h) (cnX0_thirdFor l A G cI cF tA tT q qc n f e2) syX0_thirdFor w_269 ⟨Nat.le_of_ble_eq_true rfl, Nat.le_of_ble_eq_true rfl⟩ fB_mv ⟨(eB_S hE hS hAA), (va_P.sub hP [1, 2] rfl)⟩ (va_recv hK (va_P.sub hP [1, 2] rfl) (ci := 0) (q0 := 0) rfl rfl) rfl hl.1 rfl (Nat.le_of_ble_eq_true rfl) dX3_run_28 ⟨Nat.zero_le _, Nat.zero_le _⟩ ?_
              refine lv_istore (lv' := [(5, .int r1), (0, .ref se), (1, .ref q), (2, .int a1), (3, .int x3_7), (4, .int x4_17)]) hx hb dX3_run_31 hl (by decide) rfl (fun ls hl => ?_)
              refine lv_iload hx hb dX3_run_33 (lv_at hl 0 rfl) ?_
              have J49 : ∀ (s0_49 : Int32) (s1_49 : Int32) (s2_49 : Int32) (s3_49 : Int32) (s4_49 : Int32), kX3_run_49 a1 x3_7 x4_17 (kX3_run_17 n f a1 x3_7 (kX3_run_7 n f a1 n7) n17) r1 s0_49 s1_49 s2_49 s3_49 s4_49 = some (s0_r, s1_r, s2_r, s3_r, s4_r) → ∀ (H : Heap) (locs : List Loc), va_P G vwCl (rW se q qc cI n f s0_49 s1_49 s2_49 s3_49 s4_49) H → va_S (fun x => x ∈ ([se, q, qc] : List Nat)) s.heap H locs → ∀ (ls : Array Slot), lv_has ls 6 [(5, .int r1), (0, .ref se), (1, .ref q), (2, .int a1), (3, .int x3_7), (4, .int x4_17)] → W p l e (rmk 6 139) s m args below meth cd H locs 0 0 Q (F0 m 49 ls []) := by
                intro s0_49 s1_49 s2_49 s3_49 s4_49 h H locs hP hS ls hl
                rw [kX3_run_49] at h
                refine lv_iload hx hb dX3_run_49 (lv_at hl 0 rfl) ?_
                refine lv_if_lt (tgt := 64) hx hb dX3_run_51 (by decide) (fun c51 => ?_) (fun c51 => ?_)
                · have h := pt c51 h
                  refine lv_iinc (v := x4_17 + (1 : Int32)) (lv' := [(4, .int (x4_17 + (1 : Int32))), (5, .int r1), (0, .ref se), (1, .ref q), (2, .int a1), (3, .int x3_7)]) hx hb dX3_run_64 hl (k := 5) rfl rfl (by decide) rfl (fun ls hl => ?_)
                  refine lv_goto (tgt := 17) hx hb dX3_run_67 (by decide) ?_
                  exact ih17 _ _ _ _ _ _ h _ _ hP hS _ (lv_sub hl [2, 3, 4, 5, 0] rfl)
                · have h := pf c51 h
                  refine lv_aload_n hx hb dX3_run_54 rfl (lv_at hl 1 rfl) ?_
                  refine lv_iload_n hx hb dX3_run_55 rfl (lv_at hl 3 rfl) ?_
                  refine lv_iload_n hx hb dX3_run_56 rfl (lv_at hl 4 rfl) ?_
                  refine lv_iload hx hb dX3_run_57 (lv_at hl 5 rfl) ?_
                  refine lv_iload hx hb dX3_run_59 (lv_at hl 0 rfl) ?_
                  obtain ⟨⟨s0v4, s1v5, s2v6, s3v7, s4v8⟩, e3, h⟩ := pb h
                  refine mu_Vp (As := [.int a1, .int x3_7, .int x4_17, .int r1]) (rest := []) hF (fun _ h => wl_in h) (cnX3_meet l G cI cF se s0_49 s1_49 s2_49 s3_49 s4_49 (cNd hnd [0] (by decide) rfl) e3) syX3_meet w_273 ⟨Nat.le_of_ble_eq_true rfl, Nat.le_of_ble_eq_true rfl⟩ smBn_mv smB_mv ⟨⟨hK, hP.sub [0] rfl⟩, hN⟩ (va_recv hK hP (ci := 1) (q0 := 0) rfl rfl) hS (cMem [0] rfl) rfl hl.1 rfl (Nat.le_of_ble_eq_true rfl) dX3_run_61 ⟨Nat.zero_le _, Nat.zero_le _⟩ (fun H locs hB1 _ hk1 hS => ?_)
                  have hP1 := hB1.2
                  have hP := rP_meet hnd hP hk1 hP1
                  have hP : va_P G vwCl (rW se q qc cI n f s0v4 s1v5 s2v6 s3v7 s4v8) H := hP
                  refine W.eq (g2 := F0 m 64 ls []) rfl ?_
                  refine lv_iinc (v := x4_17 + (1 : Int32)) (lv' := [(4, .int (x4_17 + (1 : Int32))), (5, .int r1), (0, .ref se), (1, .ref q), (2, .int a1), (3, .int x3_7)]) hx hb dX3_run_64 hl (k := 5) rfl rfl (by decide) rfl (fun ls hl => ?_)
                  refine lv_goto (tgt := 17) hx hb dX3_run_67 (by decide) ?_
                  exact ih17 _ _ _ _ _ _ h _ _ hP hS _ (lv_sub hl [2, 3, 4, 5, 0] rfl)
              refine lv_if_le (tgt := 49) hx hb dX3_run_35 (by decide) (fun c35 => ?_) (fun c35 => ?_)
              · have h := pt c35 h
                exact J49 _ _ _ _ _ h _ _ hP hS _ hl
              · have h := pf c35 h
                refine lv_aload_n hx hb dX3_run_38 rfl (lv_at hl 1 rfl) ?_
                refine lv_iload_n hx hb dX3_run_39 rfl (lv_at hl 3 rfl) ?_
                refine lv_iload_n hx hb dX3_run_40 rfl (lv_at hl 4 rfl) ?_
                refine lv_iload hx hb dX3_run_41 (lv_at hl 5 rfl) ?_
                refine lv_iload hx hb dX3_run_43 (lv_at hl 0 rfl) ?_
                refine lv_ineg hx hb dX3_run_45 ?_
                obtain ⟨⟨s0v10, s1v11, s2v12, s3v13, s4v14⟩, e9, h⟩ := pb h
                refine mu_Vp (As := [.int a1, .int x3_7, .int x4_17, .int (-r1)]) (rest := []) hF (fun _ h => wl_in h) (cnX3_meet l G cI cF se s0_17 s1_17 s2_17 s3_17 s4_17 (cNd hnd [0] (by decide) rfl) e9) syX3_meet w_273 ⟨Nat.le_of_ble_eq_true rfl, Nat.le_of_ble_eq_true rfl⟩ smBn_mv smB_mv ⟨⟨hK, hP.sub [0] rfl⟩, hN⟩ (va_recv hK hP (ci := 1) (q0 := 0) rfl rfl) hS (cMem [0] rfl) rfl hl.1 rfl (Nat.le_of_ble_eq_true rfl) dX3_run_46 ⟨Nat.zero_le _, Nat.zero_le _⟩ (fun H locs hB1 _ hk1 hS => ?_)
                have hP1 := hB1.2
                have hP := rP_meet hnd hP hk1 hP1
                have hP : va_P G vwCl (rW se q qc cI n f s0v10 s1v11 s2v12 s3v13 s4v14) H := hP
                refine W.eq (g2 := F0 m 49 ls []) rfl ?_
                exact J49 _ _ _ _ _ h _ _ hP hS _ hl
        exact J17 _ _ _ _ _ _ _ h _ _ hP hS _ (lv_sub hl [1, 2, 3, 4, 0] rfl)
  exact J7 _ _ _ _ _ _ _ h _ _ hP hS _ (lv_sub hl [1, 2, 3, 0] rfl)

theorem syX4_form : Vy yX4_form cX4_form 9 (some .int) 7 := ⟨w_131, ⟨w_129, w_130⟩, w_1, by decide +kernel⟩
set_option maxHeartbeats 4000000 in
set_option maxRecDepth 100000 in
theorem cnX4_form (l : Launch) (A : Nat → Prop) (G : va_G) (cI cF : ClassId) (tA tT : Nat) (o sh xx xc gv se : Nat) (fa ca : Nat → Nat) (n : Nat → Int32) (f : Nat → Nat → Int32) (xn : Int32) (xf : Nat → Int32) (gf : Nat → Int32) (s0 : Int32) (s1 : Int32) (s2 : Int32) (s3 : Int32) (s4 : Int32) (tr : Int64) (hnd : (cAd o sh xx xc gv se fa ca).Nodup) (hAA : ∀ x, x ∈ cAd o sh xx xc gv se fa ca → A x) {a0 : Int32} {a1 : Int32} {a2 : Int32} {a3 : Int32} {a4 : Int32} {a5 : Int32} {a6 : Int32} {r : Int32} {gf_r : Nat → Int32} {n_r : Nat → Int32} {f_r : Nat → Nat → Int32} (h : fX4_form n f gf a0 a1 a2 a3 a4 a5 a6 = some (r, gf_r, n_r, f_r)) : Mu l yX4_form cX4_form 9 (some .int) 2 42 [.ref o, .int a0, .int a1, .int a2, .int a3, .int a4, .int a5, .int a6] (fun x => x ∈ (cAd o sh xx xc gv se fa ca)) (cB A G cI cF tA tT o sh xx xc gv se fa ca n f xn xf gf s0 s1 s2 s3 s4 tr) (cB A G cI cF tA tT o sh xx xc gv se fa ca n_r f_r xn xf gf_r s0 s1 s2 s3 s4 tr) (some (.int r)) := by
  refine mu_i (plainFor_of_name (by decide)) (Nat.le_of_ble_eq_true rfl) cB_mv ?_
  intro p e s m args below meth cd Q ls hF hB hl END
  have hF : CallFix p m cd cX4_form 9 s args (wl yX4_form cX4_form 9 (some .int)) RX4 := hF
  obtain ⟨hx, hb, hml, hown, hts⟩ := id hF
  have hl : lv_has ls 9 [(0, .ref o), (1, .int a0), (2, .int a1), (3, .int a2), (4, .int a3), (5, .int a4), (6, .int a5), (7, .int a6)] := hl
  obtain ⟨hE, hP⟩ := hB
  obtain ⟨hK, ⟨hZ, hT⟩, ⟨hZ2, hT2⟩⟩ := id hE
  have hS : va_S (fun x => x ∈ (cAd o sh xx xc gv se fa ca)) s.heap s.heap [] := va_S.rf
  rw [fX4_form] at h
  refine lv_iload_n hx hb dX4_form_0 rfl (lv_at hl 1 rfl) ?_
  obtain ⟨r1, e2, h⟩ := pb h
  refine ro_S (As := [.int a0]) (rest := []) hF (fun _ h => wl_in h) (cnX4_isShelf l e2) syX4_isShelf w_132 ⟨Nat.le_of_ble_eq_true rfl, Nat.le_of_ble_eq_true rfl⟩ mv0 trivial rfl hl.1 rfl (Nat.le_of_ble_eq_true rfl) dX4_form_1 ⟨Nat.zero_le _, Nat.zero_le _⟩ ?_
  refine lv_if_eq (tgt := 17) hx hb dX4_form_4 (by decide) (fun c4 => ?_) (fun c4 => ?_)
  · have h := pt c4 h
    refine lv_bipush (v := (-3 : Int32)) hx hb dX4_form_17 (by decide) ?_
    have hh := pe h
    simp only [Prod.mk.injEq] at hh
    obtain ⟨z0, z1, z2, z3⟩ := hh
    subst z1
    subst z2
    subst z3
    exact END _ _ 19 ls s _ z0 dX4_form_19 rfl ⟨eB_S hE hS hAA, hP⟩ hS
  · have h := pf c4 h
    refine lv_iload_n hx hb dX4_form_7 rfl (lv_at hl 2 rfl) ?_
    refine lv_iconst (v := (1 : Int32)) hx hb dX4_form_8 (by decide) ?_
    refine lv_icmp_lt (tgt := 17) hx hb dX4_form_9 (by decide) (fun c9 => ?_) (fun c9 => ?_)
    · have h := pt c9 h
      refine lv_bipush (v := (-3 : Int32)) hx hb dX4_form_17 (by decide) ?_
      have hh := pe h
      simp only [Prod.mk.injEq] at hh
      obtain ⟨z0, z1, z2, z3⟩ := hh
      subst z1
      subst z2
      subst z3
      exact END _ _ 19 ls s _ z0 dX4_form_19 rfl ⟨eB_S hE hS hAA, hP⟩ hS
    · have h := pf c9 h
      refine lv_iload_n hx hb dX4_form_12 rfl (lv_at hl 2 rfl) ?_
      refine lv_iconst (v := (5 : Int32)) hx hb dX4_form_13 (by decide) ?_
      refine lv_icmp_le (tgt := 20) hx hb dX4_form_14 (by decide) (fun c14 => ?_) (fun c14 => ?_)
      · have h := pt c14 h
        refine lv_aload_n hx hb dX4_form_20 rfl (lv_at hl 0 rfl) ?_
        refine va_get (D := G) (ci := 2) (v := .ref gv) (C := RX4) (T := TX4) (N := 5) hx hb hts (fun w h => wl_in (inX4 w h)) hown hK hP 0 rfl rfl 2 (by decide) (hts _ (wl_in w_62)) (fun _ h9 => h9) rfl dX4_form_21 ?_
        refine lv_iconst (v := (0 : Int32)) hx hb dX4_form_24 (by decide) ?_
        refine lv_iload_n hx hb dX4_form_25 rfl (lv_at hl 3 rfl) ?_
        refine va_iast hx hb hK hP (va_Dn hnd rfl) hS 4 0 rfl rfl (by unfold vp_in; decide) dX4_form_26 (fun H locs hP _ hS => ?_)
        have hP : va_P G vwCl (cW cI cF o sh xx xc gv se fa ca n f xn xf (upd gf (0 : Int32).toNatClampNeg a2) s0 s1 s2 s3 s4 tr) H := hP
        refine lv_aload_n hx hb dX4_form_27 rfl (lv_at hl 0 rfl) ?_
        refine va_get (D := G) (ci := 2) (v := .ref gv) (C := RX4) (T := TX4) (N := 5) hx hb hts (fun w h => wl_in (inX4 w h)) hown hK hP 0 rfl rfl 2 (by decide) (hts _ (wl_in w_62)) (fun _ h9 => h9) rfl dX4_form_28 ?_
        refine lv_iconst (v := (1 : Int32)) hx hb dX4_form_31 (by decide) ?_
        refine lv_iload hx hb dX4_form_32 (lv_at hl 4 rfl) ?_
        refine va_iast hx hb hK hP (va_Dn hnd rfl) hS 4 0 rfl rfl (by unfold vp_in; decide) dX4_form_34 (fun H locs hP _ hS => ?_)
        have hP : va_P G vwCl (cW cI cF o sh xx xc gv se fa ca n f xn xf (upd (upd gf (0 : Int32).toNatClampNeg a2) (1 : Int32).toNatClampNeg a3) s0 s1 s2 s3 s4 tr) H := hP
        refine lv_aload_n hx hb dX4_form_35 rfl (lv_at hl 0 rfl) ?_
        refine va_get (D := G) (ci := 2) (v := .ref gv) (C := RX4) (T := TX4) (N := 5) hx hb hts (fun w h => wl_in (inX4 w h)) hown hK hP 0 rfl rfl 2 (by decide) (hts _ (wl_in w_62)) (fun _ h9 => h9) rfl dX4_form_36 ?_
        refine lv_iconst (v := (2 : Int32)) hx hb dX4_form_39 (by decide) ?_
        refine lv_iload hx hb dX4_form_40 (lv_at hl 5 rfl) ?_
        refine va_iast hx hb hK hP (va_Dn hnd rfl) hS 4 0 rfl rfl (by unfold vp_in; decide) dX4_form_42 (fun H locs hP _ hS => ?_)
        have hP : va_P G vwCl (cW cI cF o sh xx xc gv se fa ca n f xn xf (upd (upd (upd gf (0 : Int32).toNatClampNeg a2) (1 : Int32).toNatClampNeg a3) (2 : Int32).toNatClampNeg a4) s0 s1 s2 s3 s4 tr) H := hP
        refine lv_aload_n hx hb dX4_form_43 rfl (lv_at hl 0 rfl) ?_
        refine va_get (D := G) (ci := 2) (v := .ref gv) (C := RX4) (T := TX4) (N := 5) hx hb hts (fun w h => wl_in (inX4 w h)) hown hK hP 0 rfl rfl 2 (by decide) (hts _ (wl_in w_62)) (fun _ h9 => h9) rfl dX4_form_44 ?_
        refine lv_iconst (v := (3 : Int32)) hx hb dX4_form_47 (by decide) ?_
        refine lv_iload hx hb dX4_form_48 (lv_at hl 6 rfl) ?_
        refine va_iast hx hb hK hP (va_Dn hnd rfl) hS 4 0 rfl rfl (by unfold vp_in; decide) dX4_form_50 (fun H locs hP _ hS => ?_)
        have hP : va_P G vwCl (cW cI cF o sh xx xc gv se fa ca n f xn xf (upd (upd (upd (upd gf (0 : Int32).toNatClampNeg a2) (1 : Int32).toNatClampNeg a3) (2 : Int32).toNatClampNeg a4) (3 : Int32).toNatClampNeg a5) s0 s1 s2 s3 s4 tr) H := hP
        refine lv_aload_n hx hb dX4_form_51 rfl (lv_at hl 0 rfl) ?_
        refine va_get (D := G) (ci := 2) (v := .ref gv) (C := RX4) (T := TX4) (N := 5) hx hb hts (fun w h => wl_in (inX4 w h)) hown hK hP 0 rfl rfl 2 (by decide) (hts _ (wl_in w_62)) (fun _ h9 => h9) rfl dX4_form_52 ?_
        refine lv_iconst (v := (4 : Int32)) hx hb dX4_form_55 (by decide) ?_
        refine lv_iload hx hb dX4_form_56 (lv_at hl 7 rfl) ?_
        refine va_iast hx hb hK hP (va_Dn hnd rfl) hS 4 0 rfl rfl (by unfold vp_in; decide) dX4_form_58 (fun H locs hP _ hS => ?_)
        have hP : va_P G vwCl (cW cI cF o sh xx xc gv se fa ca n f xn xf (upd (upd (upd (upd (upd gf (0 : Int32).toNatClampNeg a2) (1 : Int32).toNatClampNeg a3) (2 : Int32).toNatClampNeg a4) (3 : Int32).toNatClampNeg a5) (4 : Int32).toNatClampNeg a6) s0 s1 s2 s3 s4 tr) H := hP
        refine lv_iconst (v := (0 : Int32)) hx hb dX4_form_59 (by decide) ?_
        refine lv_istore (lv' := [(8, .int (0 : Int32)), (0, .ref o), (1, .int a0), (2, .int a1), (3, .int a2), (4, .int a3), (5, .int a4), (6, .int a5), (7, .int a6)]) hx hb dX4_form_60 hl (by decide) rfl (fun ls hl => ?_)
        have J62 : ∀ (n62 : Nat) (x8_62 : Int32) (gf_62 : Nat → Int32) (n_62 : Nat → Int32) (f_62 : Nat → Nat → Int32), kX4_form_62 a0 a1 n62 x8_62 gf_62 n_62 f_62 = some (r, gf_r, n_r, f_r) → ∀ (H : Heap) (locs : List Loc), va_P G vwCl (cW cI cF o sh xx xc gv se fa ca n_62 f_62 xn xf gf_62 s0 s1 s2 s3 s4 tr) H → va_S (fun x => x ∈ (cAd o sh xx xc gv se fa ca)) s.heap H locs → ∀ (ls : Array Slot), lv_has ls 9 [(0, .ref o), (1, .int a0), (2, .int a1), (8, .int x8_62)] → W p l e (rmk 2 42) s m args below meth cd H locs 0 0 Q (F0 m 62 ls []) := by
          intro n62
          induction n62 with
          | zero =>
            intro x8_62 gf_62 n_62 f_62 h
            rw [kX4_form_62] at h
            cases h
          | succ n62 ih62 =>
            intro x8_62 gf_62 n_62 f_62 h H locs hP hS ls hl
            rw [kX4_form_62] at h
            refine lv_iload hx hb dX4_form_62 (lv_at hl 3 rfl) ?_
            refine lv_iload_n hx hb dX4_form_64 rfl (lv_at hl 2 rfl) ?_
            refine lv_icmp_ge (tgt := 93) hx hb dX4_form_65 (by decide) (fun c65 => ?_) (fun c65 => ?_)
            · have h := pt c65 h
              refine lv_aload_n hx hb dX4_form_93 rfl (lv_at hl 0 rfl) ?_
              refine va_get (D := G) (ci := 2) (v := .ref sh) (C := RX4) (T := TX4) (N := 5) hx hb hts (fun w h => wl_in (inX4 w h)) hown hK hP 0 rfl rfl 0 (by decide) (hts _ (wl_in w_60)) (fun _ h9 => h9) rfl dX4_form_94 ?_
              refine lv_iload_n hx hb dX4_form_97 rfl (lv_at hl 1 rfl) ?_
              obtain ⟨g3, h⟩ := pg h
              refine c_aald hx hb hK hP g3 dX4_form_98 ?_
              have hj5 := vin_lt g3
              have hPj4 := cP_form hP hj5
              refine lv_aload_n hx hb dX4_form_99 rfl (lv_at hl 0 rfl) ?_
              refine va_get (D := G) (ci := 2) (v := .ref gv) (C := RX4) (T := TX4) (N := 5) hx hb hts (fun w h => wl_in (inX4 w h)) hown hK hP 0 rfl rfl 2 (by decide) (hts _ (wl_in w_62)) (fun _ h9 => h9) rfl dX4_form_100 ?_
              refine lv_iload_n hx hb dX4_form_103 rfl (lv_at hl 2 rfl) ?_
              obtain ⟨⟨nv7, fv8⟩, e6, h⟩ := pb h
              refine mu_Vp (As := [.ref gv, .int a1]) (rest := []) hF (fun _ h => wl_in h) (cnX0_take l G cI cF (fa a0.toNatClampNeg) (ca a0.toNatClampNeg) gv 5 gf_62 (n_62 a0.toNatClampNeg) (f_62 a0.toNatClampNeg) (cNd_t hnd hj5) e6) syX0_take w_135 ⟨Nat.le_of_ble_eq_true rfl, Nat.le_of_ble_eq_true rfl⟩ tkB_mv.p tkB_mv ⟨hK, cP_tW hP hj5⟩ (va_recv hK (cP_form hP hj5) (ci := 0) (q0 := 0) rfl rfl) hS (cMem_t hj5) rfl hl.1 rfl (Nat.le_of_ble_eq_true rfl) dX4_form_104 ⟨Nat.zero_le _, Nat.zero_le _⟩ (fun H locs hB1 _ hk1 hS => ?_)
              have hP1 := hB1.2
              have hP := cP_take hnd hP hj5 hk1 hP1
              have hP : va_P G vwCl (cW cI cF o sh xx xc gv se fa ca (up1 n_62 a0.toNatClampNeg nv7) (up1 f_62 a0.toNatClampNeg fv8) xn xf gf_62 s0 s1 s2 s3 s4 tr) H := hP
              refine W.eq (g2 := F0 m 107 ls []) rfl ?_
              refine lv_iload_n hx hb dX4_form_107 rfl (lv_at hl 2 rfl) ?_
              have hh := pe h
              simp only [Prod.mk.injEq] at hh
              obtain ⟨z0, z1, z2, z3⟩ := hh
              subst z1
              subst z2
              subst z3
              exact END _ _ 108 ls s _ z0 dX4_form_108 rfl ⟨eB_S hE hS hAA, hP⟩ hS
            · have h := pf c65 h
              refine lv_aload_n hx hb dX4_form_68 rfl (lv_at hl 0 rfl) ?_
              refine va_get (D := G) (ci := 2) (v := .ref gv) (C := RX4) (T := TX4) (N := 5) hx hb hts (fun w h => wl_in (inX4 w h)) hown hK hP 0 rfl rfl 2 (by decide) (hts _ (wl_in w_62)) (fun _ h9 => h9) rfl dX4_form_69 ?_
              refine lv_iload hx hb dX4_form_72 (lv_at hl 3 rfl) ?_
              obtain ⟨g9, h⟩ := pg h
              refine va_iald hx hb hK hP 4 0 rfl rfl g9 dX4_form_74 ?_
              refine lv_sipush (v := (400 : Int32)) hx hb dX4_form_75 (by decide) ?_
              obtain ⟨r10, e11, h⟩ := pb h
              refine ro_S (As := [.int (gf_62 x8_62.toNatClampNeg), .int (400 : Int32)]) (rest := []) hF (fun _ h => wl_in h) (cnX4_isNumber l e11) syX4_isNumber w_81 ⟨Nat.le_of_ble_eq_true rfl, Nat.le_of_ble_eq_true rfl⟩ mv0 trivial rfl hl.1 rfl (Nat.le_of_ble_eq_true rfl) dX4_form_78 ⟨Nat.zero_le _, Nat.zero_le _⟩ ?_
              refine lv_if_ne (tgt := 87) hx hb dX4_form_81 (by decide) (fun c81 => ?_) (fun c81 => ?_)
              · have h := pf c81 h
                refine lv_iinc (v := x8_62 + (1 : Int32)) (lv' := [(8, .int (x8_62 + (1 : Int32))), (0, .ref o), (1, .int a0), (2, .int a1)]) hx hb dX4_form_87 hl (k := 3) rfl rfl (by decide) rfl (fun ls hl => ?_)
                refine lv_goto (tgt := 62) hx hb dX4_form_90 (by decide) ?_
                exact ih62 _ _ _ _ h _ _ hP hS _ (lv_sub hl [1, 2, 3, 0] rfl)
              · have h := pt c81 h
                refine lv_bipush (v := (-3 : Int32)) hx hb dX4_form_84 (by decide) ?_
                have hh := pe h
                simp only [Prod.mk.injEq] at hh
                obtain ⟨z0, z1, z2, z3⟩ := hh
                subst z1
                subst z2
                subst z3
                exact END _ _ 86 ls s _ z0 dX4_form_86 rfl ⟨eB_S hE hS hAA, hP⟩ hS
        exact J62 _ _ _ _ _ h _ _ hP hS _ (lv_sub hl [1, 2, 3, 0] rfl)
      · have h := pf c14 h
        refine lv_bipush (v := (-3 : Int32)) hx hb dX4_form_17 (by decide) ?_
        have hh := pe h
        simp only [Prod.mk.injEq] at hh
        obtain ⟨z0, z1, z2, z3⟩ := hh
        subst z1
        subst z2
        subst z3
        exact END _ _ 19 ls s _ z0 dX4_form_19 rfl ⟨eB_S hE hS hAA, hP⟩ hS

theorem syX4_takes : Vy yX4_takes cX4_takes 4 (some .int) 2 := ⟨w_211, ⟨w_209, w_210⟩, w_1, by decide +kernel⟩
set_option maxHeartbeats 4000000 in
set_option maxRecDepth 100000 in
theorem cnX4_takes (l : Launch) (A : Nat → Prop) (G : va_G) (cI cF : ClassId) (tA tT : Nat) (o sh xx xc gv se : Nat) (fa ca : Nat → Nat) (n : Nat → Int32) (f : Nat → Nat → Int32) (xn : Int32) (xf : Nat → Int32) (gf : Nat → Int32) (s0 : Int32) (s1 : Int32) (s2 : Int32) (s3 : Int32) (s4 : Int32) (tr : Int64) (hnd : (cAd o sh xx xc gv se fa ca).Nodup) (hAA : ∀ x, x ∈ cAd o sh xx xc gv se fa ca → A x) {a0 : Int32} {a1 : Int32} {r : Int32} {xn_r : Int32} {xf_r : Nat → Int32} (h : fX4_takes n f xn xf a0 a1 = some (r, xn_r, xf_r)) : Mu l yX4_takes cX4_takes 4 (some .int) 8 196 [.ref o, .int a0, .int a1] (fun x => x ∈ (cAd o sh xx xc gv se fa ca)) (cB A G cI cF tA tT o sh xx xc gv se fa ca n f xn xf gf s0 s1 s2 s3 s4 tr) (cB A G cI cF tA tT o sh xx xc gv se fa ca n f xn_r xf_r gf s0 s1 s2 s3 s4 tr) (some (.int r)) := by
  refine mu_i (plainFor_of_name (by decide)) (Nat.le_of_ble_eq_true rfl) cB_mv ?_
  intro p e s m args below meth cd Q ls hF hB hl END
  have hF : CallFix p m cd cX4_takes 4 s args (wl yX4_takes cX4_takes 4 (some .int)) RX4 := hF
  obtain ⟨hx, hb, hml, hown, hts⟩ := id hF
  have hl : lv_has ls 4 [(0, .ref o), (1, .int a0), (2, .int a1)] := hl
  obtain ⟨hE, hP⟩ := hB
  obtain ⟨hK, ⟨hZ, hT⟩, ⟨hZ2, hT2⟩⟩ := id hE
  have hS : va_S (fun x => x ∈ (cAd o sh xx xc gv se fa ca)) s.heap s.heap [] := va_S.rf
  rw [fX4_takes] at h
  refine lv_iload_n hx hb dX4_takes_0 rfl (lv_at hl 1 rfl) ?_
  obtain ⟨r1, e2, h⟩ := pb h
  refine ro_S (As := [.int a0]) (rest := []) hF (fun _ h => wl_in h) (cnX4_isShelf l e2) syX4_isShelf w_132 ⟨Nat.le_of_ble_eq_true rfl, Nat.le_of_ble_eq_true rfl⟩ mv0 trivial rfl hl.1 rfl (Nat.le_of_ble_eq_true rfl) dX4_takes_1 ⟨Nat.zero_le _, Nat.zero_le _⟩ ?_
  refine lv_if_eq (tgt := 17) hx hb dX4_takes_4 (by decide) (fun c4 => ?_) (fun c4 => ?_)
  · have h := pt c4 h
    refine lv_bipush (v := (-3 : Int32)) hx hb dX4_takes_17 (by decide) ?_
    have hh := pe h
    simp only [Prod.mk.injEq] at hh
    obtain ⟨z0, z1, z2⟩ := hh
    subst z1
    subst z2
    exact END _ _ 19 ls s _ z0 dX4_takes_19 rfl ⟨eB_S hE hS hAA, hP⟩ hS
  · have h := pf c4 h
    refine lv_iload_n hx hb dX4_takes_7 rfl (lv_at hl 2 rfl) ?_
    refine lv_sipush (v := (400 : Int32)) hx hb dX4_takes_8 (by decide) ?_
    obtain ⟨r3, e4, h⟩ := pb h
    refine ro_S (As := [.int a1, .int (400 : Int32)]) (rest := []) hF (fun _ h => wl_in h) (cnX4_isNumber l e4) syX4_isNumber w_81 ⟨Nat.le_of_ble_eq_true rfl, Nat.le_of_ble_eq_true rfl⟩ mv0 trivial rfl hl.1 rfl (Nat.le_of_ble_eq_true rfl) dX4_takes_11 ⟨Nat.zero_le _, Nat.zero_le _⟩ ?_
    refine lv_if_ne (tgt := 20) hx hb dX4_takes_14 (by decide) (fun c14 => ?_) (fun c14 => ?_)
    · have h := pf c14 h
      refine lv_aload_n hx hb dX4_takes_20 rfl (lv_at hl 0 rfl) ?_
      refine va_get (D := G) (ci := 2) (v := .ref sh) (C := RX4) (T := TX4) (N := 5) hx hb hts (fun w h => wl_in (inX4 w h)) hown hK hP 0 rfl rfl 0 (by decide) (hts _ (wl_in w_60)) (fun _ h9 => h9) rfl dX4_takes_21 ?_
      refine lv_iload_n hx hb dX4_takes_24 rfl (lv_at hl 1 rfl) ?_
      obtain ⟨g5, h⟩ := pg h
      refine c_aald hx hb hK hP g5 dX4_takes_25 ?_
      have hj7 := vin_lt g5
      have hPj6 := cP_form hP hj7
      refine lv_astore_n (lv' := [(3, .ref (fa a0.toNatClampNeg)), (0, .ref o), (1, .int a0), (2, .int a1)]) hx hb dX4_takes_26 rfl hl (by decide) rfl (fun ls hl => ?_)
      refine lv_aload_n hx hb dX4_takes_27 rfl (lv_at hl 1 rfl) ?_
      refine va_get (D := G) (ci := 2) (v := .ref xx) (C := RX4) (T := TX4) (N := 5) hx hb hts (fun w h => wl_in (inX4 w h)) hown hK hP 0 rfl rfl 1 (by decide) (hts _ (wl_in w_61)) (fun _ h9 => h9) rfl dX4_takes_28 ?_
      refine lv_aload_n hx hb dX4_takes_31 rfl (lv_at hl 0 rfl) ?_
      refine va_get (D := G) (ci := 0) (v := .ref (ca a0.toNatClampNeg)) (C := RX0) (T := TX0) (N := 2) hx hb hts (fun w h => wl_in (inX0 w h)) hown hK hPj6 0 rfl rfl 1 (by decide) (hts _ (wl_in w_26)) (fun _ h9 => h9) rfl dX4_takes_32 ?_
      refine lv_aload_n hx hb dX4_takes_35 rfl (lv_at hl 0 rfl) ?_
      refine va_get (D := G) (ci := 0) (v := .int (n a0.toNatClampNeg)) (C := RX0) (T := TX0) (N := 2) hx hb hts (fun w h => wl_in (inX0 w h)) hown hK hPj6 0 rfl rfl 0 (by decide) (hts _ (wl_in w_24)) (fun _ h9 => h9) rfl dX4_takes_36 ?_
      obtain ⟨⟨nv9, fv10⟩, e8, h⟩ := pb h
      refine mu_Vp (As := [.ref (ca a0.toNatClampNeg), .int (n a0.toNatClampNeg)]) (rest := []) hF (fun _ h => wl_in h) (cnX0_take l G cI cF xx xc (ca a0.toNatClampNeg) 6 (f a0.toNatClampNeg) xn xf (cNd_x hnd hj7) e8) syX0_take w_135 ⟨Nat.le_of_ble_eq_true rfl, Nat.le_of_ble_eq_true rfl⟩ tkB_mv.p tkB_mv ⟨hK, cP_xW hP hj7⟩ (va_recv hK hP (ci := 0) (q0 := 2) rfl rfl) hS (cMem_x hj7) rfl hl.1 rfl (Nat.le_of_ble_eq_true rfl) dX4_takes_39 ⟨Nat.zero_le _, Nat.zero_le _⟩ (fun H locs hB1 _ hk1 hS => ?_)
      have hP1 := hB1.2
      have hP := cP_ext hnd hP hj7 hk1 hP1
      have hP : va_P G vwCl (cW cI cF o sh xx xc gv se fa ca n f nv9 fv10 gf s0 s1 s2 s3 s4 tr) H := hP
      refine W.eq (g2 := F0 m 42 ls []) rfl ?_
      refine lv_aload_n hx hb dX4_takes_42 rfl (lv_at hl 1 rfl) ?_
      refine va_get (D := G) (ci := 2) (v := .ref xx) (C := RX4) (T := TX4) (N := 5) hx hb hts (fun w h => wl_in (inX4 w h)) hown hK hP 0 rfl rfl 1 (by decide) (hts _ (wl_in w_61)) (fun _ h9 => h9) rfl dX4_takes_43 ?_
      refine lv_iload_n hx hb dX4_takes_46 rfl (lv_at hl 3 rfl) ?_
      refine lv_ineg hx hb dX4_takes_47 ?_
      obtain ⟨⟨nv12, fv13⟩, e11, h⟩ := pb h
      refine mu_Vp (As := [.int (-a1)]) (rest := []) hF (fun _ h => wl_in h) (cnX0_append l G cI cF xx xc nv9 fv10 (cNd_a hnd) e11) syX0_append w_212 ⟨Nat.le_of_ble_eq_true rfl, Nat.le_of_ble_eq_true rfl⟩ apB_mv.p apB_mv ⟨hK, hP.sub [2, 3] rfl⟩ (va_recv hK hP (ci := 0) (q0 := 2) rfl rfl) hS cMem_a rfl hl.1 rfl (Nat.le_of_ble_eq_true rfl) dX4_takes_48 ⟨Nat.zero_le _, Nat.zero_le _⟩ (fun H locs hB1 _ hk1 hS => ?_)
      have hP1 := hB1.2
      have hP := cP_app hnd hP hk1 hP1
      have hP : va_P G vwCl (cW cI cF o sh xx xc gv se fa ca n f nv12 fv13 gf s0 s1 s2 s3 s4 tr) H := hP
      refine W.eq (g2 := F0 m 51 ls []) rfl ?_
      refine lv_aload_n hx hb dX4_takes_51 rfl (lv_at hl 1 rfl) ?_
      refine va_get (D := G) (ci := 2) (v := .ref xx) (C := RX4) (T := TX4) (N := 5) hx hb hts (fun w h => wl_in (inX4 w h)) hown hK hP 0 rfl rfl 1 (by decide) (hts _ (wl_in w_61)) (fun _ h9 => h9) rfl dX4_takes_52 ?_
      obtain ⟨r14, e15, h⟩ := pb h
      refine ro_V (As := []) (rest := []) hF (fun _ h => wl_in h) (cnX0_countBars l A G cI cF tA tT xx xc nv12 fv13 e15) syX0_countBars w_187 ⟨Nat.le_of_ble_eq_true rfl, Nat.le_of_ble_eq_true rfl⟩ fB_mv ⟨(eB_S hE hS hAA), (va_P.sub (ws' := fW xx xc cI nv12 fv13) hP [2, 3] rfl)⟩ (va_recv hK (va_P.sub (ws' := fW xx xc cI nv12 fv13) hP [2, 3] rfl) (ci := 0) (q0 := 0) rfl rfl) rfl hl.1 rfl (Nat.le_of_ble_eq_true rfl) dX4_takes_55 ⟨Nat.zero_le _, Nat.zero_le _⟩ ?_
      refine lv_if_ne (tgt := 65) hx hb dX4_takes_58 (by decide) (fun c58 => ?_) (fun c58 => ?_)
      · have h := pf c58 h
        refine lv_iconst (v := (0 : Int32)) hx hb dX4_takes_65 (by decide) ?_
        have hh := pe h
        simp only [Prod.mk.injEq] at hh
        obtain ⟨z0, z1, z2⟩ := hh
        subst z1
        subst z2
        exact END _ _ 66 ls s _ z0 dX4_takes_66 rfl ⟨eB_S hE hS hAA, hP⟩ hS
      · have h := pt c58 h
        refine lv_iconst (v := (1 : Int32)) hx hb dX4_takes_61 (by decide) ?_
        refine lv_goto (tgt := 66) hx hb dX4_takes_62 (by decide) ?_
        have hh := pe h
        simp only [Prod.mk.injEq] at hh
        obtain ⟨z0, z1, z2⟩ := hh
        subst z1
        subst z2
        exact END _ _ 66 ls s _ z0 dX4_takes_66 rfl ⟨eB_S hE hS hAA, hP⟩ hS
    · have h := pt c14 h
      refine lv_bipush (v := (-3 : Int32)) hx hb dX4_takes_17 (by decide) ?_
      have hh := pe h
      simp only [Prod.mk.injEq] at hh
      obtain ⟨z0, z1, z2⟩ := hh
      subst z1
      subst z2
      exact END _ _ 19 ls s _ z0 dX4_takes_19 rfl ⟨eB_S hE hS hAA, hP⟩ hS

theorem syX4_measure : Vy yX4_measure cX4_measure 5 (some .int) 4 := ⟨w_240, ⟨w_238, w_239⟩, w_1, by decide +kernel⟩
set_option maxHeartbeats 4000000 in
set_option maxRecDepth 100000 in
theorem cnX4_measure (l : Launch) (A : Nat → Prop) (G : va_G) (cI cF : ClassId) (tA tT : Nat) (o sh xx xc gv se : Nat) (fa ca : Nat → Nat) (n : Nat → Int32) (f : Nat → Nat → Int32) (xn : Int32) (xf : Nat → Int32) (gf : Nat → Int32) (s0 : Int32) (s1 : Int32) (s2 : Int32) (s3 : Int32) (s4 : Int32) (tr : Int64) (hnd : (cAd o sh xx xc gv se fa ca).Nodup) (hAA : ∀ x, x ∈ cAd o sh xx xc gv se fa ca → A x) {a0 : Int32} {a1 : Int32} {a2 : Int32} {a3 : Int32} {r : Int32} {tr_r : Int64} (h : fX4_measure tr a0 a1 a2 a3 = some (r, tr_r)) : Mu l yX4_measure cX4_measure 5 (some .int) 5 114 [.ref o, .int a0, .int a1, .int a2, .int a3] (fun x => x ∈ (cAd o sh xx xc gv se fa ca)) (cB A G cI cF tA tT o sh xx xc gv se fa ca n f xn xf gf s0 s1 s2 s3 s4 tr) (cB A G cI cF tA tT o sh xx xc gv se fa ca n f xn xf gf s0 s1 s2 s3 s4 tr_r) (some (.int r)) := by
  refine mu_i (plainFor_of_name (by decide)) (Nat.le_of_ble_eq_true rfl) cB_mv ?_
  intro p e s m args below meth cd Q ls hF hB hl END
  have hF : CallFix p m cd cX4_measure 5 s args (wl yX4_measure cX4_measure 5 (some .int)) RX4 := hF
  obtain ⟨hx, hb, hml, hown, hts⟩ := id hF
  have hl : lv_has ls 5 [(0, .ref o), (1, .int a0), (2, .int a1), (3, .int a2), (4, .int a3)] := hl
  obtain ⟨hE, hP⟩ := hB
  obtain ⟨hK, ⟨hZ, hT⟩, ⟨hZ2, hT2⟩⟩ := id hE
  have hS : va_S (fun x => x ∈ (cAd o sh xx xc gv se fa ca)) s.heap s.heap [] := va_S.rf
  rw [fX4_measure] at h
  refine lv_iload_n hx hb dX4_measure_0 rfl (lv_at hl 1 rfl) ?_
  refine lv_if_lt (tgt := 21) hx hb dX4_measure_1 (by decide) (fun c1 => ?_) (fun c1 => ?_)
  · have h := pt c1 h
    refine lv_bipush (v := (-3 : Int32)) hx hb dX4_measure_21 (by decide) ?_
    have hh := pe h
    simp only [Prod.mk.injEq] at hh
    obtain ⟨z0, z1⟩ := hh
    subst z1
    exact END _ _ 23 ls s _ z0 dX4_measure_23 rfl ⟨eB_S hE hS hAA, hP⟩ hS
  · have h := pf c1 h
    refine lv_iload_n hx hb dX4_measure_4 rfl (lv_at hl 1 rfl) ?_
    refine lv_iconst (v := (3 : Int32)) hx hb dX4_measure_5 (by decide) ?_
    refine lv_icmp_ge (tgt := 21) hx hb dX4_measure_6 (by decide) (fun c6 => ?_) (fun c6 => ?_)
    · have h := pt c6 h
      refine lv_bipush (v := (-3 : Int32)) hx hb dX4_measure_21 (by decide) ?_
      have hh := pe h
      simp only [Prod.mk.injEq] at hh
      obtain ⟨z0, z1⟩ := hh
      subst z1
      exact END _ _ 23 ls s _ z0 dX4_measure_23 rfl ⟨eB_S hE hS hAA, hP⟩ hS
    · have h := pf c6 h
      refine lv_iload_n hx hb dX4_measure_9 rfl (lv_at hl 2 rfl) ?_
      refine lv_iload_n hx hb dX4_measure_10 rfl (lv_at hl 3 rfl) ?_
      refine lv_iload hx hb dX4_measure_11 (lv_at hl 4 rfl) ?_
      refine lv_bipush (v := (30 : Int32)) hx hb dX4_measure_13 (by decide) ?_
      obtain ⟨r1, e2, h⟩ := pb h
      refine ro_S (As := [.int a1, .int a2, .int a3, .int (30 : Int32)]) (rest := []) hF (fun _ h => wl_in h) (cnX4_areWithin l e2) syX4_areWithin w_229 ⟨Nat.le_of_ble_eq_true rfl, Nat.le_of_ble_eq_true rfl⟩ mv0 trivial rfl hl.1 rfl (Nat.le_of_ble_eq_true rfl) dX4_measure_15 ⟨Nat.zero_le _, Nat.zero_le _⟩ ?_
      refine lv_if_ne (tgt := 24) hx hb dX4_measure_18 (by decide) (fun c18 => ?_) (fun c18 => ?_)
      · have h := pf c18 h
        refine lv_aload_n hx hb dX4_measure_24 rfl (lv_at hl 0 rfl) ?_
        refine lv_dup hx hb dX4_measure_25 rfl ?_
        refine va_get (D := G) (ci := 2) (v := .long tr) (C := RX4) (T := TX4) (N := 5) hx hb hts (fun w h => wl_in (inX4 w h)) hown hK hP 0 rfl rfl 4 (by decide) (hts _ (wl_in w_64)) (fun _ h9 => h9) rfl dX4_measure_26 ?_
        refine va_gets hx hb hZ2 (A := A) va_S.rf hown (hts _ (wl_in w_241)) (fun _ h9 => h9) dX4_measure_29 ?_
        refine lv_iload_n hx hb dX4_measure_32 rfl (lv_at hl 1 rfl) ?_
        obtain ⟨g3, h⟩ := pg h
        refine va_ti (v := .int (trcv a0.toNatClampNeg)) hx hb hT2 va_S.rf g3 rfl dX4_measure_33 ?_
        refine lv_i2l (v := (trcv a0.toNatClampNeg).toInt64) hx hb dX4_measure_34 rfl ?_
        refine lv_ladd hx hb dX4_measure_35 ?_
        refine va_put (D := G) (ci := 2) (v := .long (tr + ((trcv a0.toNatClampNeg).toInt64))) (ty := .long) (C := RX4) (T := TX4) (N := 5) hx hb hts (fun w h => wl_in (inX4 w h)) tyX4 tyX4_ok nmX4 hown hK hP (va_Dn hnd rfl) hS 0 rfl rfl 4 (by decide) (hts _ (wl_in w_64)) (fun _ h9 => h9) rfl (by decide +kernel) rfl rfl (Nat.le_of_ble_eq_true rfl) dX4_measure_36 (fun H locs hP _ hS => ?_)
        have hP : va_P G vwCl (cW cI cF o sh xx xc gv se fa ca n f xn xf gf s0 s1 s2 s3 s4 (tr + ((trcv a0.toNatClampNeg).toInt64))) H := hP
        refine lv_iload_n hx hb dX4_measure_39 rfl (lv_at hl 1 rfl) ?_
        refine lv_iload_n hx hb dX4_measure_40 rfl (lv_at hl 2 rfl) ?_
        refine lv_iload_n hx hb dX4_measure_41 rfl (lv_at hl 3 rfl) ?_
        refine lv_iload hx hb dX4_measure_42 (lv_at hl 4 rfl) ?_
        obtain ⟨r4, e5, h⟩ := pb h
        refine ro_S (As := [.int a0, .int a1, .int a2, .int a3]) (rest := []) hF (fun _ h => wl_in h) (cnX1_byKind l e5) syX1_byKind w_243 ⟨Nat.le_of_ble_eq_true rfl, Nat.le_of_ble_eq_true rfl⟩ mv0 trivial rfl hl.1 rfl (Nat.le_of_ble_eq_true rfl) dX4_measure_44 ⟨Nat.zero_le _, Nat.zero_le _⟩ ?_
        have hh := pe h
        simp only [Prod.mk.injEq] at hh
        obtain ⟨z0, z1⟩ := hh
        subst z1
        exact END _ _ 47 ls s _ z0 dX4_measure_47 rfl ⟨eB_S hE hS hAA, hP⟩ hS
      · have h := pt c18 h
        refine lv_bipush (v := (-3 : Int32)) hx hb dX4_measure_21 (by decide) ?_
        have hh := pe h
        simp only [Prod.mk.injEq] at hh
        obtain ⟨z0, z1⟩ := hh
        subst z1
        exact END _ _ 23 ls s _ z0 dX4_measure_23 rfl ⟨eB_S hE hS hAA, hP⟩ hS

theorem syX4_least : Vy yX4_least cX4_least 4 (some .long) 3 := ⟨w_264, ⟨w_262, w_263⟩, w_1, by decide +kernel⟩
set_option maxHeartbeats 4000000 in
set_option maxRecDepth 100000 in
theorem cnX4_least (l : Launch) (A : Nat → Prop) (G : va_G) (cI cF : ClassId) (tA tT : Nat) (o sh xx xc gv se : Nat) (fa ca : Nat → Nat) (n : Nat → Int32) (f : Nat → Nat → Int32) (xn : Int32) (xf : Nat → Int32) (gf : Nat → Int32) (s0 : Int32) (s1 : Int32) (s2 : Int32) (s3 : Int32) (s4 : Int32) (tr : Int64) (hnd : (cAd o sh xx xc gv se fa ca).Nodup) (hAA : ∀ x, x ∈ cAd o sh xx xc gv se fa ca → A x) {a0 : Int32} {a1 : Int32} {a2 : Int32} {r : Int64} {s0_r : Int32} {s1_r : Int32} {s2_r : Int32} {s3_r : Int32} {s4_r : Int32} (h : fX4_least n f s0 s1 s2 s3 s4 a0 a1 a2 = some (r, s0_r, s1_r, s2_r, s3_r, s4_r)) : Mu l yX4_least cX4_least 4 (some .long) 7 164 [.ref o, .int a0, .int a1, .int a2] (fun x => x ∈ (cAd o sh xx xc gv se fa ca)) (cBn A G cI cF tA tT o sh xx xc gv se fa ca n f xn xf gf s0 s1 s2 s3 s4 tr) (cB A G cI cF tA tT o sh xx xc gv se fa ca n f xn xf gf s0_r s1_r s2_r s3_r s4_r tr) (some (.long r)) := by
  refine mu_l (plainFor_of_name (by decide)) (Nat.le_of_ble_eq_true rfl) cB_mv ?_
  intro p e s m args below meth cd Q ls hF hB hl END
  have hF : CallFix p m cd cX4_least 4 s args (wl yX4_least cX4_least 4 (some .long)) RX4 := hF
  obtain ⟨hx, hb, hml, hown, hts⟩ := id hF
  have hl : lv_has ls 4 [(0, .ref o), (1, .int a0), (2, .int a1), (3, .int a2)] := hl
  obtain ⟨⟨hE, hP⟩, hN⟩ := hB
  obtain ⟨hK, ⟨hZ, hT⟩, ⟨hZ2, hT2⟩⟩ := id hE
  have hS : va_S (fun x => x ∈ (cAd o sh xx xc gv se fa ca)) s.heap s.heap [] := va_S.rf
  rw [fX4_least] at h
  refine lv_iload_n hx hb dX4_least_0 rfl (lv_at hl 1 rfl) ?_
  obtain ⟨r1, e2, h⟩ := pb h
  refine ro_S (As := [.int a0]) (rest := []) hF (fun _ h => wl_in h) (cnX4_isShelf l e2) syX4_isShelf w_132 ⟨Nat.le_of_ble_eq_true rfl, Nat.le_of_ble_eq_true rfl⟩ mv0 trivial rfl hl.1 rfl (Nat.le_of_ble_eq_true rfl) dX4_least_1 ⟨Nat.zero_le _, Nat.zero_le _⟩ ?_
  refine lv_if_eq (tgt := 20) hx hb dX4_least_4 (by decide) (fun c4 => ?_) (fun c4 => ?_)
  · have h := pt c4 h
    refine lv_ldc2 (v := (-1000000000000000 : Int64)) hx hb hown (hts _ (wl_in w_232)) dX4_least_20 ?_
    have hh := pe h
    simp only [Prod.mk.injEq] at hh
    obtain ⟨z0, z1, z2, z3, z4, z5⟩ := hh
    subst z1
    subst z2
    subst z3
    subst z4
    subst z5
    exact END _ _ 23 ls s _ z0 dX4_least_23 rfl ⟨eB_S hE hS hAA, hP⟩ hS
  · have h := pf c4 h
    refine lv_aload_n hx hb dX4_least_7 rfl (lv_at hl 0 rfl) ?_
    refine va_get (D := G) (ci := 2) (v := .ref sh) (C := RX4) (T := TX4) (N := 5) hx hb hts (fun w h => wl_in (inX4 w h)) hown hK hP 0 rfl rfl 0 (by decide) (hts _ (wl_in w_60)) (fun _ h9 => h9) rfl dX4_least_8 ?_
    refine lv_iload_n hx hb dX4_least_11 rfl (lv_at hl 1 rfl) ?_
    obtain ⟨g3, h⟩ := pg h
    refine c_aald hx hb hK hP g3 dX4_least_12 ?_
    have hj5 := vin_lt g3
    have hPj4 := cP_form hP hj5
    refine va_get (D := G) (ci := 0) (v := .int (n a0.toNatClampNeg)) (C := RX0) (T := TX0) (N := 2) hx hb hts (fun w h => wl_in (inX0 w h)) hown hK hPj4 0 rfl rfl 0 (by decide) (hts _ (wl_in w_24)) (fun _ h9 => h9) rfl dX4_least_13 ?_
    refine lv_iconst (v := (3 : Int32)) hx hb dX4_least_16 (by decide) ?_
    refine lv_icmp_eq (tgt := 24) hx hb dX4_least_17 (by decide) (fun c17 => ?_) (fun c17 => ?_)
    · have h := pt c17 h
      refine lv_iload_n hx hb dX4_least_24 rfl (lv_at hl 2 rfl) ?_
      refine lv_if_lt (tgt := 42) hx hb dX4_least_25 (by decide) (fun c25 => ?_) (fun c25 => ?_)
      · have h := pt c25 h
        refine lv_ldc2 (v := (-1000000000000000 : Int64)) hx hb hown (hts _ (wl_in w_232)) dX4_least_42 ?_
        have hh := pe h
        simp only [Prod.mk.injEq] at hh
        obtain ⟨z0, z1, z2, z3, z4, z5⟩ := hh
        subst z1
        subst z2
        subst z3
        subst z4
        subst z5
        exact END _ _ 45 ls s _ z0 dX4_least_45 rfl ⟨eB_S hE hS hAA, hP⟩ hS
      · have h := pf c25 h
        refine lv_iload_n hx hb dX4_least_28 rfl (lv_at hl 2 rfl) ?_
        refine lv_iconst (v := (3 : Int32)) hx hb dX4_least_29 (by decide) ?_
        refine lv_icmp_ge (tgt := 42) hx hb dX4_least_30 (by decide) (fun c30 => ?_) (fun c30 => ?_)
        · have h := pt c30 h
          refine lv_ldc2 (v := (-1000000000000000 : Int64)) hx hb hown (hts _ (wl_in w_232)) dX4_least_42 ?_
          have hh := pe h
          simp only [Prod.mk.injEq] at hh
          obtain ⟨z0, z1, z2, z3, z4, z5⟩ := hh
          subst z1
          subst z2
          subst z3
          subst z4
          subst z5
          exact END _ _ 45 ls s _ z0 dX4_least_45 rfl ⟨eB_S hE hS hAA, hP⟩ hS
        · have h := pf c30 h
          refine lv_iload_n hx hb dX4_least_33 rfl (lv_at hl 3 rfl) ?_
          refine lv_if_lt (tgt := 42) hx hb dX4_least_34 (by decide) (fun c34 => ?_) (fun c34 => ?_)
          · have h := pt c34 h
            refine lv_ldc2 (v := (-1000000000000000 : Int64)) hx hb hown (hts _ (wl_in w_232)) dX4_least_42 ?_
            have hh := pe h
            simp only [Prod.mk.injEq] at hh
            obtain ⟨z0, z1, z2, z3, z4, z5⟩ := hh
            subst z1
            subst z2
            subst z3
            subst z4
            subst z5
            exact END _ _ 45 ls s _ z0 dX4_least_45 rfl ⟨eB_S hE hS hAA, hP⟩ hS
          · have h := pf c34 h
            refine lv_iload_n hx hb dX4_least_37 rfl (lv_at hl 3 rfl) ?_
            refine lv_iconst (v := (3 : Int32)) hx hb dX4_least_38 (by decide) ?_
            refine lv_icmp_le (tgt := 46) hx hb dX4_least_39 (by decide) (fun c39 => ?_) (fun c39 => ?_)
            · have h := pt c39 h
              refine lv_aload_n hx hb dX4_least_46 rfl (lv_at hl 0 rfl) ?_
              refine va_get (D := G) (ci := 2) (v := .ref se) (C := RX4) (T := TX4) (N := 5) hx hb hts (fun w h => wl_in (inX4 w h)) hown hK hP 0 rfl rfl 3 (by decide) (hts _ (wl_in w_63)) (fun _ h9 => h9) rfl dX4_least_47 ?_
              refine lv_aload_n hx hb dX4_least_50 rfl (lv_at hl 0 rfl) ?_
              refine va_get (D := G) (ci := 2) (v := .ref sh) (C := RX4) (T := TX4) (N := 5) hx hb hts (fun w h => wl_in (inX4 w h)) hown hK hP 0 rfl rfl 0 (by decide) (hts _ (wl_in w_60)) (fun _ h9 => h9) rfl dX4_least_51 ?_
              refine lv_iload_n hx hb dX4_least_54 rfl (lv_at hl 1 rfl) ?_
              obtain ⟨g6, h⟩ := pg h
              refine c_aald hx hb hK hP g6 dX4_least_55 ?_
              have hj8 := vin_lt g6
              have hPj7 := cP_form hP hj8
              refine lv_iload_n hx hb dX4_least_56 rfl (lv_at hl 2 rfl) ?_
              obtain ⟨⟨s0v10, s1v11, s2v12, s3v13, s4v14⟩, e9, h⟩ := pb h
              refine mu_Vp (As := [.ref (fa a0.toNatClampNeg), .int a1]) (rest := []) hF (fun _ h => wl_in h) (cnX3_run l A G cI cF tA tT se (fa a0.toNatClampNeg) (ca a0.toNatClampNeg) (n a0.toNatClampNeg) (f a0.toNatClampNeg) s0 s1 s2 s3 s4 (cNd_r hnd hj8) (fun x hx => hAA x (cMem_r hj8 x hx)) e9) syX3_run w_265 ⟨Nat.le_of_ble_eq_true rfl, Nat.le_of_ble_eq_true rfl⟩ rnBn_mv rnB_mv ⟨⟨eB_S hE hS hAA, cP_rW hP hj8⟩, hN⟩ (va_recv hK hP (ci := 1) (q0 := 5) rfl rfl) hS (cMem_r hj8) rfl hl.1 rfl (Nat.le_of_ble_eq_true rfl) dX4_least_57 ⟨Nat.zero_le _, Nat.zero_le _⟩ (fun H locs hB1 _ hk1 hS => ?_)
              have hP1 := hB1.2
              have hP := cP_run hnd hP hj8 hk1 hP1
              have hP : va_P G vwCl (cW cI cF o sh xx xc gv se fa ca n f xn xf gf s0v10 s1v11 s2v12 s3v13 s4v14 tr) H := hP
              refine W.eq (g2 := F0 m 60 ls []) rfl ?_
              refine lv_aload_n hx hb dX4_least_60 rfl (lv_at hl 0 rfl) ?_
              refine va_get (D := G) (ci := 2) (v := .ref se) (C := RX4) (T := TX4) (N := 5) hx hb hts (fun w h => wl_in (inX4 w h)) hown hK hP 0 rfl rfl 3 (by decide) (hts _ (wl_in w_63)) (fun _ h9 => h9) rfl dX4_least_61 ?_
              refine va_get (D := G) (ci := 1) (v := .int s0v10) (C := RX3) (T := TX3) (N := 5) hx hb hts (fun w h => wl_in (inX3 w h)) hown hK hP 5 rfl rfl 0 (by decide) (hts _ (wl_in w_40)) (fun _ h9 => h9) rfl dX4_least_64 ?_
              refine lv_if_ne (tgt := 74) hx hb dX4_least_67 (by decide) (fun c67 => ?_) (fun c67 => ?_)
              · have h := pf c67 h
                refine lv_iload_n hx hb dX4_least_74 rfl (lv_at hl 3 rfl) ?_
                refine lv_iconst (v := (3 : Int32)) hx hb dX4_least_75 (by decide) ?_
                refine lv_icmp_ne (tgt := 88) hx hb dX4_least_76 (by decide) (fun c76 => ?_) (fun c76 => ?_)
                · have h := pf c76 h
                  refine lv_iload_n hx hb dX4_least_88 rfl (lv_at hl 3 rfl) ?_
                  refine lv_aload_n hx hb dX4_least_89 rfl (lv_at hl 0 rfl) ?_
                  refine va_get (D := G) (ci := 2) (v := .ref se) (C := RX4) (T := TX4) (N := 5) hx hb hts (fun w h => wl_in (inX4 w h)) hown hK hP 0 rfl rfl 3 (by decide) (hts _ (wl_in w_63)) (fun _ h9 => h9) rfl dX4_least_90 ?_
                  refine va_get (D := G) (ci := 1) (v := .int s2v12) (C := RX3) (T := TX3) (N := 5) hx hb hts (fun w h => wl_in (inX3 w h)) hown hK hP 5 rfl rfl 2 (by decide) (hts _ (wl_in w_44)) (fun _ h9 => h9) rfl dX4_least_93 ?_
                  refine lv_i2l (v := s2v12.toInt64) hx hb dX4_least_96 rfl ?_
                  refine lv_aload_n hx hb dX4_least_97 rfl (lv_at hl 0 rfl) ?_
                  refine va_get (D := G) (ci := 2) (v := .ref se) (C := RX4) (T := TX4) (N := 5) hx hb hts (fun w h => wl_in (inX4 w h)) hown hK hP 0 rfl rfl 3 (by decide) (hts _ (wl_in w_63)) (fun _ h9 => h9) rfl dX4_least_98 ?_
                  refine va_get (D := G) (ci := 1) (v := .int s3v13) (C := RX3) (T := TX3) (N := 5) hx hb hts (fun w h => wl_in (inX3 w h)) hown hK hP 5 rfl rfl 3 (by decide) (hts _ (wl_in w_46)) (fun _ h9 => h9) rfl dX4_least_101 ?_
                  refine lv_i2l (v := s3v13.toInt64) hx hb dX4_least_104 rfl ?_
                  refine lv_aload_n hx hb dX4_least_105 rfl (lv_at hl 0 rfl) ?_
                  refine va_get (D := G) (ci := 2) (v := .ref se) (C := RX4) (T := TX4) (N := 5) hx hb hts (fun w h => wl_in (inX4 w h)) hown hK hP 0 rfl rfl 3 (by decide) (hts _ (wl_in w_63)) (fun _ h9 => h9) rfl dX4_least_106 ?_
                  refine va_get (D := G) (ci := 1) (v := .int s4v14) (C := RX3) (T := TX3) (N := 5) hx hb hts (fun w h => wl_in (inX3 w h)) hown hK hP 5 rfl rfl 4 (by decide) (hts _ (wl_in w_48)) (fun _ h9 => h9) rfl dX4_least_109 ?_
                  refine lv_i2l (v := s4v14.toInt64) hx hb dX4_least_112 rfl ?_
                  obtain ⟨r15, e16, h⟩ := pb h
                  refine ro_S (As := [.int a2, .long s2v12.toInt64, .long s3v13.toInt64, .long s4v14.toInt64]) (rest := []) hF (fun _ h => wl_in h) (cnX4_pick l e16) syX4_pick w_291 ⟨Nat.le_of_ble_eq_true rfl, Nat.le_of_ble_eq_true rfl⟩ mv0 trivial rfl hl.1 rfl (Nat.le_of_ble_eq_true rfl) dX4_least_113 ⟨Nat.zero_le _, Nat.zero_le _⟩ ?_
                  have hh := pe h
                  simp only [Prod.mk.injEq] at hh
                  obtain ⟨z0, z1, z2, z3, z4, z5⟩ := hh
                  subst z1
                  subst z2
                  subst z3
                  subst z4
                  subst z5
                  exact END _ _ 116 ls s _ z0 dX4_least_116 rfl ⟨eB_S hE hS hAA, hP⟩ hS
                · have h := pt c76 h
                  refine lv_aload_n hx hb dX4_least_79 rfl (lv_at hl 0 rfl) ?_
                  refine va_get (D := G) (ci := 2) (v := .ref se) (C := RX4) (T := TX4) (N := 5) hx hb hts (fun w h => wl_in (inX4 w h)) hown hK hP 0 rfl rfl 3 (by decide) (hts _ (wl_in w_63)) (fun _ h9 => h9) rfl dX4_least_80 ?_
                  refine va_get (D := G) (ci := 1) (v := .int s1v11) (C := RX3) (T := TX3) (N := 5) hx hb hts (fun w h => wl_in (inX3 w h)) hown hK hP 5 rfl rfl 1 (by decide) (hts _ (wl_in w_42)) (fun _ h9 => h9) rfl dX4_least_83 ?_
                  refine lv_i2l (v := s1v11.toInt64) hx hb dX4_least_86 rfl ?_
                  have hh := pe h
                  simp only [Prod.mk.injEq] at hh
                  obtain ⟨z0, z1, z2, z3, z4, z5⟩ := hh
                  subst z1
                  subst z2
                  subst z3
                  subst z4
                  subst z5
                  exact END _ _ 87 ls s _ z0 dX4_least_87 rfl ⟨eB_S hE hS hAA, hP⟩ hS
              · have h := pt c67 h
                refine lv_ldc2 (v := (-999999999999999 : Int64)) hx hb hown (hts _ (wl_in w_290)) dX4_least_70 ?_
                have hh := pe h
                simp only [Prod.mk.injEq] at hh
                obtain ⟨z0, z1, z2, z3, z4, z5⟩ := hh
                subst z1
                subst z2
                subst z3
                subst z4
                subst z5
                exact END _ _ 73 ls s _ z0 dX4_least_73 rfl ⟨eB_S hE hS hAA, hP⟩ hS
            · have h := pf c39 h
              refine lv_ldc2 (v := (-1000000000000000 : Int64)) hx hb hown (hts _ (wl_in w_232)) dX4_least_42 ?_
              have hh := pe h
              simp only [Prod.mk.injEq] at hh
              obtain ⟨z0, z1, z2, z3, z4, z5⟩ := hh
              subst z1
              subst z2
              subst z3
              subst z4
              subst z5
              exact END _ _ 45 ls s _ z0 dX4_least_45 rfl ⟨eB_S hE hS hAA, hP⟩ hS
    · have h := pf c17 h
      refine lv_ldc2 (v := (-1000000000000000 : Int64)) hx hb hown (hts _ (wl_in w_232)) dX4_least_20 ?_
      have hh := pe h
      simp only [Prod.mk.injEq] at hh
      obtain ⟨z0, z1, z2, z3, z4, z5⟩ := hh
      subst z1
      subst z2
      subst z3
      subst z4
      subst z5
      exact END _ _ 23 ls s _ z0 dX4_least_23 rfl ⟨eB_S hE hS hAA, hP⟩ hS

theorem syX4_many : Vy yX4_many cX4_many 2 (some .int) 1 := ⟨w_297, ⟨w_295, w_296⟩, w_1, by decide +kernel⟩
set_option maxHeartbeats 4000000 in
set_option maxRecDepth 100000 in
theorem cnX4_many (l : Launch) (A : Nat → Prop) (G : va_G) (cI cF : ClassId) (tA tT : Nat) (o sh xx xc gv se : Nat) (fa ca : Nat → Nat) (n : Nat → Int32) (f : Nat → Nat → Int32) (xn : Int32) (xf : Nat → Int32) (gf : Nat → Int32) (s0 : Int32) (s1 : Int32) (s2 : Int32) (s3 : Int32) (s4 : Int32) (tr : Int64) (hnd : (cAd o sh xx xc gv se fa ca).Nodup) (hAA : ∀ x, x ∈ cAd o sh xx xc gv se fa ca → A x) {a0 : Int32} {r : Int32} {s0_r : Int32} {s1_r : Int32} {s2_r : Int32} {s3_r : Int32} {s4_r : Int32} (h : fX4_many n f s0 s1 s2 s3 s4 a0 = some (r, s0_r, s1_r, s2_r, s3_r, s4_r)) : Mu l yX4_many cX4_many 2 (some .int) 7 164 [.ref o, .int a0] (fun x => x ∈ (cAd o sh xx xc gv se fa ca)) (cBn A G cI cF tA tT o sh xx xc gv se fa ca n f xn xf gf s0 s1 s2 s3 s4 tr) (cB A G cI cF tA tT o sh xx xc gv se fa ca n f xn xf gf s0_r s1_r s2_r s3_r s4_r tr) (some (.int r)) := by
  refine mu_i (plainFor_of_name (by decide)) (Nat.le_of_ble_eq_true rfl) cB_mv ?_
  intro p e s m args below meth cd Q ls hF hB hl END
  have hF : CallFix p m cd cX4_many 2 s args (wl yX4_many cX4_many 2 (some .int)) RX4 := hF
  obtain ⟨hx, hb, hml, hown, hts⟩ := id hF
  have hl : lv_has ls 2 [(0, .ref o), (1, .int a0)] := hl
  obtain ⟨⟨hE, hP⟩, hN⟩ := hB
  obtain ⟨hK, ⟨hZ, hT⟩, ⟨hZ2, hT2⟩⟩ := id hE
  have hS : va_S (fun x => x ∈ (cAd o sh xx xc gv se fa ca)) s.heap s.heap [] := va_S.rf
  rw [fX4_many] at h
  refine lv_iload_n hx hb dX4_many_0 rfl (lv_at hl 1 rfl) ?_
  obtain ⟨r1, e2, h⟩ := pb h
  refine ro_S (As := [.int a0]) (rest := []) hF (fun _ h => wl_in h) (cnX4_isShelf l e2) syX4_isShelf w_132 ⟨Nat.le_of_ble_eq_true rfl, Nat.le_of_ble_eq_true rfl⟩ mv0 trivial rfl hl.1 rfl (Nat.le_of_ble_eq_true rfl) dX4_many_1 ⟨Nat.zero_le _, Nat.zero_le _⟩ ?_
  refine lv_if_eq (tgt := 20) hx hb dX4_many_4 (by decide) (fun c4 => ?_) (fun c4 => ?_)
  · have h := pt c4 h
    refine lv_bipush (v := (-3 : Int32)) hx hb dX4_many_20 (by decide) ?_
    have hh := pe h
    simp only [Prod.mk.injEq] at hh
    obtain ⟨z0, z1, z2, z3, z4, z5⟩ := hh
    subst z1
    subst z2
    subst z3
    subst z4
    subst z5
    exact END _ _ 22 ls s _ z0 dX4_many_22 rfl ⟨eB_S hE hS hAA, hP⟩ hS
  · have h := pf c4 h
    refine lv_aload_n hx hb dX4_many_7 rfl (lv_at hl 0 rfl) ?_
    refine va_get (D := G) (ci := 2) (v := .ref sh) (C := RX4) (T := TX4) (N := 5) hx hb hts (fun w h => wl_in (inX4 w h)) hown hK hP 0 rfl rfl 0 (by decide) (hts _ (wl_in w_60)) (fun _ h9 => h9) rfl dX4_many_8 ?_
    refine lv_iload_n hx hb dX4_many_11 rfl (lv_at hl 1 rfl) ?_
    obtain ⟨g3, h⟩ := pg h
    refine c_aald hx hb hK hP g3 dX4_many_12 ?_
    have hj5 := vin_lt g3
    have hPj4 := cP_form hP hj5
    refine va_get (D := G) (ci := 0) (v := .int (n a0.toNatClampNeg)) (C := RX0) (T := TX0) (N := 2) hx hb hts (fun w h => wl_in (inX0 w h)) hown hK hPj4 0 rfl rfl 0 (by decide) (hts _ (wl_in w_24)) (fun _ h9 => h9) rfl dX4_many_13 ?_
    refine lv_iconst (v := (3 : Int32)) hx hb dX4_many_16 (by decide) ?_
    refine lv_icmp_eq (tgt := 23) hx hb dX4_many_17 (by decide) (fun c17 => ?_) (fun c17 => ?_)
    · have h := pt c17 h
      refine lv_aload_n hx hb dX4_many_23 rfl (lv_at hl 0 rfl) ?_
      refine va_get (D := G) (ci := 2) (v := .ref se) (C := RX4) (T := TX4) (N := 5) hx hb hts (fun w h => wl_in (inX4 w h)) hown hK hP 0 rfl rfl 3 (by decide) (hts _ (wl_in w_63)) (fun _ h9 => h9) rfl dX4_many_24 ?_
      refine lv_aload_n hx hb dX4_many_27 rfl (lv_at hl 0 rfl) ?_
      refine va_get (D := G) (ci := 2) (v := .ref sh) (C := RX4) (T := TX4) (N := 5) hx hb hts (fun w h => wl_in (inX4 w h)) hown hK hP 0 rfl rfl 0 (by decide) (hts _ (wl_in w_60)) (fun _ h9 => h9) rfl dX4_many_28 ?_
      refine lv_iload_n hx hb dX4_many_31 rfl (lv_at hl 1 rfl) ?_
      obtain ⟨g6, h⟩ := pg h
      refine c_aald hx hb hK hP g6 dX4_many_32 ?_
      have hj8 := vin_lt g6
      have hPj7 := cP_form hP hj8
      refine lv_iconst (v := (0 : Int32)) hx hb dX4_many_33 (by decide) ?_
      obtain ⟨⟨s0v10, s1v11, s2v12, s3v13, s4v14⟩, e9, h⟩ := pb h
      refine mu_Vp (As := [.ref (fa a0.toNatClampNeg), .int (0 : Int32)]) (rest := []) hF (fun _ h => wl_in h) (cnX3_run l A G cI cF tA tT se (fa a0.toNatClampNeg) (ca a0.toNatClampNeg) (n a0.toNatClampNeg) (f a0.toNatClampNeg) s0 s1 s2 s3 s4 (cNd_r hnd hj8) (fun x hx => hAA x (cMem_r hj8 x hx)) e9) syX3_run w_265 ⟨Nat.le_of_ble_eq_true rfl, Nat.le_of_ble_eq_true rfl⟩ rnBn_mv rnB_mv ⟨⟨eB_S hE hS hAA, cP_rW hP hj8⟩, hN⟩ (va_recv hK hP (ci := 1) (q0 := 5) rfl rfl) hS (cMem_r hj8) rfl hl.1 rfl (Nat.le_of_ble_eq_true rfl) dX4_many_34 ⟨Nat.zero_le _, Nat.zero_le _⟩ (fun H locs hB1 _ hk1 hS => ?_)
      have hP1 := hB1.2
      have hP := cP_run hnd hP hj8 hk1 hP1
      have hP : va_P G vwCl (cW cI cF o sh xx xc gv se fa ca n f xn xf gf s0v10 s1v11 s2v12 s3v13 s4v14 tr) H := hP
      refine W.eq (g2 := F0 m 37 ls []) rfl ?_
      refine lv_aload_n hx hb dX4_many_37 rfl (lv_at hl 0 rfl) ?_
      refine va_get (D := G) (ci := 2) (v := .ref se) (C := RX4) (T := TX4) (N := 5) hx hb hts (fun w h => wl_in (inX4 w h)) hown hK hP 0 rfl rfl 3 (by decide) (hts _ (wl_in w_63)) (fun _ h9 => h9) rfl dX4_many_38 ?_
      refine va_get (D := G) (ci := 1) (v := .int s0v10) (C := RX3) (T := TX3) (N := 5) hx hb hts (fun w h => wl_in (inX3 w h)) hown hK hP 5 rfl rfl 0 (by decide) (hts _ (wl_in w_40)) (fun _ h9 => h9) rfl dX4_many_41 ?_
      have hh := pe h
      simp only [Prod.mk.injEq] at hh
      obtain ⟨z0, z1, z2, z3, z4, z5⟩ := hh
      subst z1
      subst z2
      subst z3
      subst z4
      subst z5
      exact END _ _ 44 ls s _ z0 dX4_many_44 rfl ⟨eB_S hE hS hAA, hP⟩ hS
    · have h := pf c17 h
      refine lv_bipush (v := (-3 : Int32)) hx hb dX4_many_20 (by decide) ?_
      have hh := pe h
      simp only [Prod.mk.injEq] at hh
      obtain ⟨z0, z1, z2, z3, z4, z5⟩ := hh
      subst z1
      subst z2
      subst z3
      subst z4
      subst z5
      exact END _ _ 22 ls s _ z0 dX4_many_22 rfl ⟨eB_S hE hS hAA, hP⟩ hS
end
