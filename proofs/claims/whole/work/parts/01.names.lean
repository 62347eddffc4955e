-- ===== PART A: goes FIRST, ahead of the names: the tables' words, and 'selects' of the private methods out of them =====
/-- a private method of a class that the tables say can be made, by its rows of tables_1 -/
def lw_okq (q : MethodName × Nat) : Prop := (q.1.cls ≠ "java/lang/invoke/MethodHandle" ∧ q.1.cls ≠ "java/lang/invoke/VarHandle") ∧ Cond.instantiable q.1.cls q.2 ∈ tables_1 ∧ Cond.privateMethod q.1 ∈ tables_1 ∧ Cond.instanceMethod q.1 ∈ tables_1
theorem lw_p0 : lw_okq (⟨"RingForms$Form", "mayBar", "(I)Z"⟩, 2) := ⟨⟨by decide +kernel, by decide +kernel⟩, List.mem_of_getElem? (i := 18) (by decide +kernel), List.mem_of_getElem? (i := 186) (by decide +kernel), List.mem_of_getElem? (i := 187) (by decide +kernel)⟩
theorem lw_p1 : lw_okq (⟨"RingForms$Search", "meet", "(IIII)V"⟩, 5) := ⟨⟨by decide +kernel, by decide +kernel⟩, List.mem_of_getElem? (i := 34) (by decide +kernel), List.mem_of_getElem? (i := 268) (by decide +kernel), List.mem_of_getElem? (i := 269) (by decide +kernel)⟩
theorem lw_p2 : lw_okq (⟨"RingFormsModel", "signOf", "(JJI)I"⟩, 10) := ⟨⟨by decide +kernel, by decide +kernel⟩, List.mem_of_getElem? (i := 308) (by decide +kernel), List.mem_of_getElem? (i := 368) (by decide +kernel), List.mem_of_getElem? (i := 369) (by decide +kernel)⟩
theorem lw_p3 : lw_okq (⟨"RingFormsModel", "without", "(JI)J"⟩, 10) := ⟨⟨by decide +kernel, by decide +kernel⟩, List.mem_of_getElem? (i := 308) (by decide +kernel), List.mem_of_getElem? (i := 372) (by decide +kernel), List.mem_of_getElem? (i := 373) (by decide +kernel)⟩
theorem lw_p4 : lw_okq (⟨"RingFormsModel", "productOf", "(II)J"⟩, 10) := ⟨⟨by decide +kernel, by decide +kernel⟩, List.mem_of_getElem? (i := 308) (by decide +kernel), List.mem_of_getElem? (i := 404) (by decide +kernel), List.mem_of_getElem? (i := 405) (by decide +kernel)⟩
theorem lw_p5 : lw_okq (⟨"RingFormsModel", "freeOf", "(I)J"⟩, 10) := ⟨⟨by decide +kernel, by decide +kernel⟩, List.mem_of_getElem? (i := 308) (by decide +kernel), List.mem_of_getElem? (i := 408) (by decide +kernel), List.mem_of_getElem? (i := 409) (by decide +kernel)⟩
theorem lw_p6 : lw_okq (⟨"RingFormsModel", "holdOf", "(III)I"⟩, 10) := ⟨⟨by decide +kernel, by decide +kernel⟩, List.mem_of_getElem? (i := 308) (by decide +kernel), List.mem_of_getElem? (i := 416) (by decide +kernel), List.mem_of_getElem? (i := 417) (by decide +kernel)⟩
theorem lw_p7 : lw_okq (⟨"RingFormsModel", "isGoing", "(III)Z"⟩, 10) := ⟨⟨by decide +kernel, by decide +kernel⟩, List.mem_of_getElem? (i := 308) (by decide +kernel), List.mem_of_getElem? (i := 424) (by decide +kernel), List.mem_of_getElem? (i := 425) (by decide +kernel)⟩
theorem lw_p8 : lw_okq (⟨"RingFormsModel", "aboveOf", "(II)I"⟩, 10) := ⟨⟨by decide +kernel, by decide +kernel⟩, List.mem_of_getElem? (i := 308) (by decide +kernel), List.mem_of_getElem? (i := 428) (by decide +kernel), List.mem_of_getElem? (i := 429) (by decide +kernel)⟩
theorem lw_p9 : lw_okq (⟨"RingFormsModel", "isSquare", "(JI)Z"⟩, 10) := ⟨⟨by decide +kernel, by decide +kernel⟩, List.mem_of_getElem? (i := 308) (by decide +kernel), List.mem_of_getElem? (i := 432) (by decide +kernel), List.mem_of_getElem? (i := 433) (by decide +kernel)⟩
theorem lw_p10 : lw_okq (⟨"RingFormsModel", "isNought", "(II)Z"⟩, 10) := ⟨⟨by decide +kernel, by decide +kernel⟩, List.mem_of_getElem? (i := 308) (by decide +kernel), List.mem_of_getElem? (i := 441) (by decide +kernel), List.mem_of_getElem? (i := 442) (by decide +kernel)⟩
theorem lw_p11 : lw_okq (⟨"RingFormsModel", "isOf", "(III)Z"⟩, 10) := ⟨⟨by decide +kernel, by decide +kernel⟩, List.mem_of_getElem? (i := 308) (by decide +kernel), List.mem_of_getElem? (i := 448) (by decide +kernel), List.mem_of_getElem? (i := 449) (by decide +kernel)⟩
theorem lw_p12 : lw_okq (⟨"RingFormsModel", "barOf", "(II)I"⟩, 10) := ⟨⟨by decide +kernel, by decide +kernel⟩, List.mem_of_getElem? (i := 308) (by decide +kernel), List.mem_of_getElem? (i := 456) (by decide +kernel), List.mem_of_getElem? (i := 457) (by decide +kernel)⟩
theorem lw_p13 : lw_okq (⟨"RingFormsModel", "isThree", "(I)Z"⟩, 10) := ⟨⟨by decide +kernel, by decide +kernel⟩, List.mem_of_getElem? (i := 308) (by decide +kernel), List.mem_of_getElem? (i := 476) (by decide +kernel), List.mem_of_getElem? (i := 477) (by decide +kernel)⟩
theorem lw_p14 : lw_okq (⟨"RingFormsModel", "worthOf", "(IJJJ)J"⟩, 10) := ⟨⟨by decide +kernel, by decide +kernel⟩, List.mem_of_getElem? (i := 308) (by decide +kernel), List.mem_of_getElem? (i := 482) (by decide +kernel), List.mem_of_getElem? (i := 483) (by decide +kernel)⟩
theorem lw_p15 : lw_okq (⟨"RingFormsModel", "seeks", "(II)V"⟩, 10) := ⟨⟨by decide +kernel, by decide +kernel⟩, List.mem_of_getElem? (i := 308) (by decide +kernel), List.mem_of_getElem? (i := 508) (by decide +kernel), List.mem_of_getElem? (i := 509) (by decide +kernel)⟩
def lw_privs_1 : List (MethodName × Nat) := [(⟨"RingForms$Form", "mayBar", "(I)Z"⟩, 2), (⟨"RingForms$Search", "meet", "(IIII)V"⟩, 5), (⟨"RingFormsModel", "signOf", "(JJI)I"⟩, 10), (⟨"RingFormsModel", "without", "(JI)J"⟩, 10), (⟨"RingFormsModel", "productOf", "(II)J"⟩, 10), (⟨"RingFormsModel", "freeOf", "(I)J"⟩, 10), (⟨"RingFormsModel", "holdOf", "(III)I"⟩, 10), (⟨"RingFormsModel", "isGoing", "(III)Z"⟩, 10), (⟨"RingFormsModel", "aboveOf", "(II)I"⟩, 10), (⟨"RingFormsModel", "isSquare", "(JI)Z"⟩, 10), (⟨"RingFormsModel", "isNought", "(II)Z"⟩, 10), (⟨"RingFormsModel", "isOf", "(III)Z"⟩, 10), (⟨"RingFormsModel", "barOf", "(II)I"⟩, 10), (⟨"RingFormsModel", "isThree", "(I)Z"⟩, 10), (⟨"RingFormsModel", "worthOf", "(IJJJ)J"⟩, 10), (⟨"RingFormsModel", "seeks", "(II)V"⟩, 10)]
theorem lw_r1 : ∀ q ∈ lw_privs_1, lw_okq q := List.forall_mem_cons.mpr ⟨lw_p0, List.forall_mem_cons.mpr ⟨lw_p1, List.forall_mem_cons.mpr ⟨lw_p2, List.forall_mem_cons.mpr ⟨lw_p3, List.forall_mem_cons.mpr ⟨lw_p4, List.forall_mem_cons.mpr ⟨lw_p5, List.forall_mem_cons.mpr ⟨lw_p6, List.forall_mem_cons.mpr ⟨lw_p7, List.forall_mem_cons.mpr ⟨lw_p8, List.forall_mem_cons.mpr ⟨lw_p9, List.forall_mem_cons.mpr ⟨lw_p10, List.forall_mem_cons.mpr ⟨lw_p11, List.forall_mem_cons.mpr ⟨lw_p12, List.forall_mem_cons.mpr ⟨lw_p13, List.forall_mem_cons.mpr ⟨lw_p14, List.forall_mem_cons.mpr ⟨lw_p15, fun _ h => absurd h List.not_mem_nil⟩⟩⟩⟩⟩⟩⟩⟩⟩⟩⟩⟩⟩⟩⟩⟩
theorem lw_p16 : lw_okq (⟨"RingFormsModel", "isSolution", "(IIII)Z"⟩, 10) := ⟨⟨by decide +kernel, by decide +kernel⟩, List.mem_of_getElem? (i := 308) (by decide +kernel), List.mem_of_getElem? (i := 512) (by decide +kernel), List.mem_of_getElem? (i := 513) (by decide +kernel)⟩
def lw_privs_2 : List (MethodName × Nat) := [(⟨"RingFormsModel", "isSolution", "(IIII)Z"⟩, 10)]
theorem lw_r2 : ∀ q ∈ lw_privs_2, lw_okq q := List.forall_mem_cons.mpr ⟨lw_p16, fun _ h => absurd h List.not_mem_nil⟩
def lw_privs : List (MethodName × Nat) := lw_privs_1 ++ (lw_privs_2)
def lw_tbl : List Cond := k2_sels lw_privs ++ tables_1
theorem lw_privs_ok : ∀ q ∈ lw_privs, lw_okq q := by
  show ∀ q ∈ lw_privs_1 ++ (lw_privs_2), lw_okq q
  exact List.forall_mem_append.mpr ⟨lw_r1, lw_r2⟩
/-! ===== BEGIN words of one list among another's, by their places ===== -/
theorem goodIn_r {big : List Cond} (ws : List Cond) (ps : List Nat) (hp : ws = ps.filterMap (fun i => big[i]?)) (h : ws.all goodWord = true) : GoodIn big ws := by
  intro w hw
  have h1 := List.all_eq_true.mp h w hw
  rw [hp] at hw
  obtain ⟨i, -, hi⟩ := List.mem_filterMap.mp hw
  have hm : w ∈ big := by first | exact List.mem_of_getElem? hi | exact List.getElem?_mem hi
  exact ⟨hm, good_of_word h1⟩
theorem goodIn_app {big a b : List Cond} (ha : GoodIn big a) (hb : GoodIn big b) : GoodIn big (a ++ b) := fun w h => (List.mem_append.mp h).elim (ha w) (hb w)
theorem goodIn_ca {big a b : List Cond} {c : Cond} (ha : GoodIn big (c :: a)) (hb : GoodIn big b) : GoodIn big (c :: (a ++ b)) := fun w h => (List.mem_cons.mp h).elim (fun e => ha w (List.mem_cons.mpr (Or.inl e))) (fun h => (List.mem_append.mp h).elim (fun h => ha w (List.mem_cons.mpr (Or.inr h))) (hb w))
theorem goodIn_sub {big ws : List Cond} (hm : ∀ w ∈ ws, w ∈ big) (h : ws.all goodWord = true) : GoodIn big ws := fun w hw => ⟨hm w hw, good_of_word (List.all_eq_true.mp h w hw)⟩
/-! ===== END ===== -/

/-! ===== BEGIN printed: names, fields, word lists, decode rows ===== -/
def RX0 : String := "RingForms$Form"
def TX0 : u_T := fun k => match k with
  | 0 => ("RingForms$Form", "size", "I", false)
  | _ => ("RingForms$Form", "coefficients", "[I", true)
def tyX0 : Nat → FieldType := fun k => match k with
  | 0 => .int
  | _ => .array .int
abbrev wsX00 : List Cond := u_ws RX0 TX0 2
theorem nmX0 : ∀ a, a < 2 → ∀ b, b < 2 → a ≠ b → (TX0 a).2.1 ≠ (TX0 b).2.1 := by decide +kernel
theorem tyX0_ok : ∀ k, k < 2 → parseFieldDescriptor (TX0 k).2.2.1 = some (tyX0 k) := by decide +kernel
abbrev cX0_init : ByteArray := prog_2_method_1_code
def yX0_init : MethodName := ⟨RX0, "<init>", "()V"⟩
abbrev cX0_take : ByteArray := prog_2_method_2_code
def yX0_take : MethodName := ⟨RX0, "take", "([II)V"⟩
abbrev cX0_append : ByteArray := prog_2_method_3_code
def yX0_append : MethodName := ⟨RX0, "append", "(I)V"⟩
abbrev cX0_product : ByteArray := prog_2_method_4_code
def yX0_product : MethodName := ⟨RX0, "product", "()J"⟩
abbrev cX0_freeProduct : ByteArray := prog_2_method_5_code
def yX0_freeProduct : MethodName := ⟨RX0, "freeProduct", "()J"⟩
abbrev cX0_countAbove : ByteArray := prog_2_method_6_code
def yX0_countAbove : MethodName := ⟨RX0, "countAbove", "()I"⟩
abbrev cX0_signsAt : ByteArray := prog_2_method_7_code
def yX0_signsAt : MethodName := ⟨RX0, "signsAt", "(I)I"⟩
abbrev cX0_goesAt : ByteArray := prog_2_method_8_code
def yX0_goesAt : MethodName := ⟨RX0, "goesAt", "(I)Z"⟩
abbrev cX0_countBars : ByteArray := prog_2_method_9_code
def yX0_countBars : MethodName := ⟨RX0, "countBars", "()I"⟩
abbrev cX0_findBar : ByteArray := prog_2_method_10_code
def yX0_findBar : MethodName := ⟨RX0, "findBar", "(I)I"⟩
abbrev cX0_mayBar : ByteArray := prog_2_method_11_code
def yX0_mayBar : MethodName := ⟨RX0, "mayBar", "(I)Z"⟩
abbrev cX0_isAlike : ByteArray := prog_2_method_12_code
def yX0_isAlike : MethodName := ⟨RX0, "isAlike", "(LRingForms$Form;)Z"⟩
abbrev cX0_pairing : ByteArray := prog_2_method_13_code
def yX0_pairing : MethodName := ⟨RX0, "pairing", "(IIIIII)J"⟩
abbrev cX0_thirdFor : ByteArray := prog_2_method_14_code
def yX0_thirdFor : MethodName := ⟨RX0, "thirdFor", "(II)I"⟩
def RX1 : String := "RingForms$Measures"
def TX1 : u_T := fun k => match k with
  | _ => ("", "", "", false)
def tyX1 : Nat → FieldType := fun k => match k with
  | _ => .int
abbrev wsX10 : List Cond := u_ws RX1 TX1 0
theorem nmX1 : ∀ a, a < 0 → ∀ b, b < 0 → a ≠ b → (TX1 a).2.1 ≠ (TX1 b).2.1 := by decide +kernel
theorem tyX1_ok : ∀ k, k < 0 → parseFieldDescriptor (TX1 k).2.2.1 = some (tyX1 k) := by decide +kernel
abbrev cX1_byKind : ByteArray := prog_3_method_2_code
def yX1_byKind : MethodName := ⟨RX1, "byKind", "(IIII)I"⟩
abbrev cX1_great : ByteArray := prog_3_method_3_code
def yX1_great : MethodName := ⟨RX1, "great", "(III)I"⟩
abbrev cX1_wide : ByteArray := prog_3_method_4_code
def yX1_wide : MethodName := ⟨RX1, "wide", "(III)I"⟩
abbrev cX1_odd : ByteArray := prog_3_method_5_code
def yX1_odd : MethodName := ⟨RX1, "odd", "(III)I"⟩
def RX2 : String := "RingForms$Places"
def TX2 : u_T := fun k => match k with
  | _ => ("", "", "", false)
def tyX2 : Nat → FieldType := fun k => match k with
  | _ => .int
abbrev wsX20 : List Cond := u_ws RX2 TX2 0
theorem nmX2 : ∀ a, a < 0 → ∀ b, b < 0 → a ≠ b → (TX2 a).2.1 ≠ (TX2 b).2.1 := by decide +kernel
theorem tyX2_ok : ∀ k, k < 0 → parseFieldDescriptor (TX2 k).2.2.1 = some (tyX2 k) := by decide +kernel
abbrev cX2_isPlace : ByteArray := prog_4_method_2_code
def yX2_isPlace : MethodName := ⟨RX2, "isPlace", "(I)Z"⟩
abbrev cX2_signAt : ByteArray := prog_4_method_3_code
def yX2_signAt : MethodName := ⟨RX2, "signAt", "(JJI)I"⟩
abbrev cX2_isSquareAtPrime : ByteArray := prog_4_method_4_code
def yX2_isSquareAtPrime : MethodName := ⟨RX2, "isSquareAtPrime", "(JI)Z"⟩
abbrev cX2_isThreeOfFour : ByteArray := prog_4_method_5_code
def yX2_isThreeOfFour : MethodName := ⟨RX2, "isThreeOfFour", "(J)Z"⟩
abbrev cX2_isTurning : ByteArray := prog_4_method_6_code
def yX2_isTurning : MethodName := ⟨RX2, "isTurning", "(JI)Z"⟩
abbrev cX2_hasOddPower : ByteArray := prog_4_method_7_code
def yX2_hasOddPower : MethodName := ⟨RX2, "hasOddPower", "(JI)Z"⟩
abbrev cX2_unit : ByteArray := prog_4_method_8_code
def yX2_unit : MethodName := ⟨RX2, "unit", "(JI)J"⟩
abbrev cX2_isResidue : ByteArray := prog_4_method_9_code
def yX2_isResidue : MethodName := ⟨RX2, "isResidue", "(JI)Z"⟩
def RX3 : String := "RingForms$Search"
def TX3 : u_T := fun k => match k with
  | 0 => ("RingForms$Search", "found", "I", false)
  | 1 => ("RingForms$Search", "leastMeasure", "I", false)
  | 2 => ("RingForms$Search", "leastX", "I", false)
  | 3 => ("RingForms$Search", "leastY", "I", false)
  | _ => ("RingForms$Search", "leastZ", "I", false)
def tyX3 : Nat → FieldType := fun k => match k with
  | 0 => .int
  | 1 => .int
  | 2 => .int
  | 3 => .int
  | _ => .int
abbrev wsX30 : List Cond := u_ws RX3 TX3 5
theorem nmX3 : ∀ a, a < 5 → ∀ b, b < 5 → a ≠ b → (TX3 a).2.1 ≠ (TX3 b).2.1 := by decide +kernel
theorem tyX3_ok : ∀ k, k < 5 → parseFieldDescriptor (TX3 k).2.2.1 = some (tyX3 k) := by decide +kernel
abbrev cX3_init : ByteArray := prog_5_method_1_code
def yX3_init : MethodName := ⟨RX3, "<init>", "()V"⟩
abbrev cX3_run : ByteArray := prog_5_method_2_code
def yX3_run : MethodName := ⟨RX3, "run", "(LRingForms$Form;I)V"⟩
abbrev cX3_meet : ByteArray := prog_5_method_3_code
def yX3_meet : MethodName := ⟨RX3, "meet", "(IIII)V"⟩
def RX4 : String := "RingForms"
def TX4 : u_T := fun k => match k with
  | 0 => ("RingForms", "shelves", "[LRingForms$Form;", true)
  | 1 => ("RingForms", "extended", "LRingForms$Form;", true)
  | 2 => ("RingForms", "given", "[I", true)
  | 3 => ("RingForms", "search", "LRingForms$Search;", true)
  | _ => ("RingForms", "traced", "J", false)
def tyX4 : Nat → FieldType := fun k => match k with
  | 0 => .array (.object "RingForms$Form")
  | 1 => .object "RingForms$Form"
  | 2 => .array .int
  | 3 => .object "RingForms$Search"
  | _ => .long
abbrev wsX40 : List Cond := u_ws RX4 TX4 5
theorem nmX4 : ∀ a, a < 5 → ∀ b, b < 5 → a ≠ b → (TX4 a).2.1 ≠ (TX4 b).2.1 := by decide +kernel
theorem tyX4_ok : ∀ k, k < 5 → parseFieldDescriptor (TX4 k).2.2.1 = some (tyX4 k) := by decide +kernel
abbrev cX4_init : ByteArray := prog_1_method_1_code
def yX4_init : MethodName := ⟨RX4, "<init>", "()V"⟩
abbrev cX4_free : ByteArray := prog_1_method_2_code
def yX4_free : MethodName := ⟨RX4, "free", "(I)I"⟩
abbrev cX4_sign : ByteArray := prog_1_method_3_code
def yX4_sign : MethodName := ⟨RX4, "sign", "(III)I"⟩
abbrev cX4_odds : ByteArray := prog_1_method_4_code
def yX4_odds : MethodName := ⟨RX4, "odds", "(II)I"⟩
abbrev cX4_form : ByteArray := prog_1_method_5_code
def yX4_form : MethodName := ⟨RX4, "form", "(IIIIIII)I"⟩
abbrev cX4_at : ByteArray := prog_1_method_6_code
def yX4_at : MethodName := ⟨RX4, "at", "(II)I"⟩
abbrev cX4_whole : ByteArray := prog_1_method_7_code
def yX4_whole : MethodName := ⟨RX4, "whole", "(II)J"⟩
abbrev cX4_hold : ByteArray := prog_1_method_8_code
def yX4_hold : MethodName := ⟨RX4, "hold", "(II)I"⟩
abbrev cX4_goes : ByteArray := prog_1_method_9_code
def yX4_goes : MethodName := ⟨RX4, "goes", "(II)I"⟩
abbrev cX4_nought : ByteArray := prog_1_method_10_code
def yX4_nought : MethodName := ⟨RX4, "nought", "(I)I"⟩
abbrev cX4_bars : ByteArray := prog_1_method_11_code
def yX4_bars : MethodName := ⟨RX4, "bars", "(I)I"⟩
abbrev cX4_bar : ByteArray := prog_1_method_12_code
def yX4_bar : MethodName := ⟨RX4, "bar", "(II)I"⟩
abbrev cX4_takes : ByteArray := prog_1_method_13_code
def yX4_takes : MethodName := ⟨RX4, "takes", "(II)I"⟩
abbrev cX4_alike : ByteArray := prog_1_method_14_code
def yX4_alike : MethodName := ⟨RX4, "alike", "(II)I"⟩
abbrev cX4_worth : ByteArray := prog_1_method_15_code
def yX4_worth : MethodName := ⟨RX4, "worth", "(IIII)J"⟩
abbrev cX4_measure : ByteArray := prog_1_method_16_code
def yX4_measure : MethodName := ⟨RX4, "measure", "(IIII)I"⟩
abbrev cX4_least : ByteArray := prog_1_method_17_code
def yX4_least : MethodName := ⟨RX4, "least", "(III)J"⟩
abbrev cX4_many : ByteArray := prog_1_method_18_code
def yX4_many : MethodName := ⟨RX4, "many", "(I)I"⟩
abbrev cX4_line : ByteArray := prog_1_method_19_code
def yX4_line : MethodName := ⟨RX4, "line", "(IIIIIIII)J"⟩
abbrev cX4_count : ByteArray := prog_1_method_20_code
def yX4_count : MethodName := ⟨RX4, "count", "(II)I"⟩
abbrev cX4_trace : ByteArray := prog_1_method_21_code
def yX4_trace : MethodName := ⟨RX4, "trace", "()J"⟩
abbrev cX4_isShelf : ByteArray := prog_1_method_22_code
def yX4_isShelf : MethodName := ⟨RX4, "isShelf", "(I)Z"⟩
abbrev cX4_isNumber : ByteArray := prog_1_method_23_code
def yX4_isNumber : MethodName := ⟨RX4, "isNumber", "(II)Z"⟩
abbrev cX4_isWithin : ByteArray := prog_1_method_24_code
def yX4_isWithin : MethodName := ⟨RX4, "isWithin", "(II)Z"⟩
abbrev cX4_areWithin : ByteArray := prog_1_method_25_code
def yX4_areWithin : MethodName := ⟨RX4, "areWithin", "(IIII)Z"⟩
abbrev cX4_pick : ByteArray := prog_1_method_26_code
def yX4_pick : MethodName := ⟨RX4, "pick", "(IJJJ)J"⟩
abbrev cX4_isReduced : ByteArray := prog_1_method_27_code
def yX4_isReduced : MethodName := ⟨RX4, "isReduced", "(III)Z"⟩
abbrev cX4_reducer : ByteArray := prog_1_method_28_code
def yX4_reducer : MethodName := ⟨RX4, "reducer", "(JJJ)J"⟩
abbrev cX4_commonDivisor : ByteArray := prog_1_method_29_code
def yX4_commonDivisor : MethodName := ⟨RX4, "commonDivisor", "(JJ)J"⟩
def RX5 : String := "RingFormsModel"
def TX5 : u_T := fun k => match k with
  | 0 => ("RingFormsModel", "thrown", "I", false)
  | 1 => ("RingFormsModel", "trace", "J", false)
  | 2 => ("RingFormsModel", "sizes", "[I", true)
  | 3 => ("RingFormsModel", "rows", "[I", true)
  | 4 => ("RingFormsModel", "bestX", "I", false)
  | 5 => ("RingFormsModel", "bestY", "I", false)
  | 6 => ("RingFormsModel", "bestZ", "I", false)
  | 7 => ("RingFormsModel", "bestMeasure", "I", false)
  | 8 => ("RingFormsModel", "solutions", "I", false)
  | _ => ("RingFormsModel", "exponent", "I", false)
def tyX5 : Nat → FieldType := fun k => match k with
  | 0 => .int
  | 1 => .long
  | 2 => .array .int
  | 3 => .array .int
  | 4 => .int
  | 5 => .int
  | 6 => .int
  | 7 => .int
  | 8 => .int
  | _ => .int
abbrev wsX50 : List Cond := u_ws RX5 TX5 10
theorem nmX5 : ∀ a, a < 10 → ∀ b, b < 10 → a ≠ b → (TX5 a).2.1 ≠ (TX5 b).2.1 := by decide +kernel
theorem tyX5_ok : ∀ k, k < 10 → parseFieldDescriptor (TX5 k).2.2.1 = some (tyX5 k) := by decide +kernel
abbrev cX5_init : ByteArray := prog_7_method_1_code
def yX5_init : MethodName := ⟨RX5, "<init>", "()V"⟩
abbrev cX5_in : ByteArray := prog_7_method_3_code
def yX5_in : MethodName := ⟨RX5, "in", "(JJJ)Z"⟩
abbrev cX5_isPrime : ByteArray := prog_7_method_4_code
def yX5_isPrime : MethodName := ⟨RX5, "isPrime", "(I)Z"⟩
abbrev cX5_isPlace : ByteArray := prog_7_method_5_code
def yX5_isPlace : MethodName := ⟨RX5, "isPlace", "(I)Z"⟩
abbrev cX5_isTold : ByteArray := prog_7_method_6_code
def yX5_isTold : MethodName := ⟨RX5, "isTold", "(II)Z"⟩
abbrev cX5_without : ByteArray := prog_7_method_7_code
def yX5_without : MethodName := ⟨RX5, "without", "(JI)J"⟩
abbrev cX5_root : ByteArray := prog_7_method_8_code
def yX5_root : MethodName := ⟨RX5, "root", "(JI)I"⟩
abbrev cX5_rest : ByteArray := prog_7_method_9_code
def yX5_rest : MethodName := ⟨RX5, "rest", "(J)I"⟩
abbrev cX5_signOf : ByteArray := prog_7_method_10_code
def yX5_signOf : MethodName := ⟨RX5, "signOf", "(JJI)I"⟩
abbrev cX5_free : ByteArray := prog_7_method_11_code
def yX5_free : MethodName := ⟨RX5, "free", "(I)I"⟩
abbrev cX5_sign : ByteArray := prog_7_method_12_code
def yX5_sign : MethodName := ⟨RX5, "sign", "(III)I"⟩
abbrev cX5_odds : ByteArray := prog_7_method_13_code
def yX5_odds : MethodName := ⟨RX5, "odds", "(II)I"⟩
abbrev cX5_isShelf : ByteArray := prog_7_method_14_code
def yX5_isShelf : MethodName := ⟨RX5, "isShelf", "(I)Z"⟩
abbrev cX5_form : ByteArray := prog_7_method_15_code
def yX5_form : MethodName := ⟨RX5, "form", "(IIIIIII)I"⟩
abbrev cX5_at : ByteArray := prog_7_method_16_code
def yX5_at : MethodName := ⟨RX5, "at", "(II)I"⟩
abbrev cX5_productOf : ByteArray := prog_7_method_17_code
def yX5_productOf : MethodName := ⟨RX5, "productOf", "(II)J"⟩
abbrev cX5_isOf : ByteArray := prog_7_method_18_code
def yX5_isOf : MethodName := ⟨RX5, "isOf", "(III)Z"⟩
abbrev cX5_freeOf : ByteArray := prog_7_method_19_code
def yX5_freeOf : MethodName := ⟨RX5, "freeOf", "(I)J"⟩
abbrev cX5_whole : ByteArray := prog_7_method_20_code
def yX5_whole : MethodName := ⟨RX5, "whole", "(II)J"⟩
abbrev cX5_holdOf : ByteArray := prog_7_method_21_code
def yX5_holdOf : MethodName := ⟨RX5, "holdOf", "(III)I"⟩
abbrev cX5_hold : ByteArray := prog_7_method_22_code
def yX5_hold : MethodName := ⟨RX5, "hold", "(II)I"⟩
abbrev cX5_isSquare : ByteArray := prog_7_method_23_code
def yX5_isSquare : MethodName := ⟨RX5, "isSquare", "(JI)Z"⟩
abbrev cX5_aboveOf : ByteArray := prog_7_method_24_code
def yX5_aboveOf : MethodName := ⟨RX5, "aboveOf", "(II)I"⟩
abbrev cX5_isGoing : ByteArray := prog_7_method_25_code
def yX5_isGoing : MethodName := ⟨RX5, "isGoing", "(III)Z"⟩
abbrev cX5_goes : ByteArray := prog_7_method_26_code
def yX5_goes : MethodName := ⟨RX5, "goes", "(II)I"⟩
abbrev cX5_isWholeSquare : ByteArray := prog_7_method_27_code
def yX5_isWholeSquare : MethodName := ⟨RX5, "isWholeSquare", "(J)Z"⟩
abbrev cX5_isNought : ByteArray := prog_7_method_28_code
def yX5_isNought : MethodName := ⟨RX5, "isNought", "(II)Z"⟩
abbrev cX5_nought : ByteArray := prog_7_method_29_code
def yX5_nought : MethodName := ⟨RX5, "nought", "(I)I"⟩
abbrev cX5_barOf : ByteArray := prog_7_method_30_code
def yX5_barOf : MethodName := ⟨RX5, "barOf", "(II)I"⟩
abbrev cX5_bars : ByteArray := prog_7_method_31_code
def yX5_bars : MethodName := ⟨RX5, "bars", "(I)I"⟩
abbrev cX5_bar : ByteArray := prog_7_method_32_code
def yX5_bar : MethodName := ⟨RX5, "bar", "(II)I"⟩
abbrev cX5_takes : ByteArray := prog_7_method_33_code
def yX5_takes : MethodName := ⟨RX5, "takes", "(II)I"⟩
abbrev cX5_alike : ByteArray := prog_7_method_34_code
def yX5_alike : MethodName := ⟨RX5, "alike", "(II)I"⟩
abbrev cX5_worthOf : ByteArray := prog_7_method_35_code
def yX5_worthOf : MethodName := ⟨RX5, "worthOf", "(IJJJ)J"⟩
abbrev cX5_isThree : ByteArray := prog_7_method_36_code
def yX5_isThree : MethodName := ⟨RX5, "isThree", "(I)Z"⟩
abbrev cX5_worth : ByteArray := prog_7_method_37_code
def yX5_worth : MethodName := ⟨RX5, "worth", "(IIII)J"⟩
abbrev cX5_size : ByteArray := prog_7_method_38_code
def yX5_size : MethodName := ⟨RX5, "size", "(I)I"⟩
abbrev cX5_isNear : ByteArray := prog_7_method_39_code
def yX5_isNear : MethodName := ⟨RX5, "isNear", "(III)Z"⟩
abbrev cX5_measureOf : ByteArray := prog_7_method_40_code
def yX5_measureOf : MethodName := ⟨RX5, "measureOf", "(IIII)I"⟩
abbrev cX5_measure : ByteArray := prog_7_method_41_code
def yX5_measure : MethodName := ⟨RX5, "measure", "(IIII)I"⟩
abbrev cX5_common : ByteArray := prog_7_method_42_code
def yX5_common : MethodName := ⟨RX5, "common", "(JJ)J"⟩
abbrev cX5_isFirstAbove : ByteArray := prog_7_method_43_code
def yX5_isFirstAbove : MethodName := ⟨RX5, "isFirstAbove", "(JJJ)Z"⟩
abbrev cX5_isSolution : ByteArray := prog_7_method_44_code
def yX5_isSolution : MethodName := ⟨RX5, "isSolution", "(IIII)Z"⟩
abbrev cX5_seeks : ByteArray := prog_7_method_45_code
def yX5_seeks : MethodName := ⟨RX5, "seeks", "(II)V"⟩
abbrev cX5_least : ByteArray := prog_7_method_46_code
def yX5_least : MethodName := ⟨RX5, "least", "(III)J"⟩
abbrev cX5_many : ByteArray := prog_7_method_47_code
def yX5_many : MethodName := ⟨RX5, "many", "(I)I"⟩
abbrev cX5_line : ByteArray := prog_7_method_48_code
def yX5_line : MethodName := ⟨RX5, "line", "(IIIIIIII)J"⟩
abbrev cX5_count : ByteArray := prog_7_method_49_code
def yX5_count : MethodName := ⟨RX5, "count", "(II)I"⟩
abbrev cX5_trace : ByteArray := prog_7_method_50_code
def yX5_trace : MethodName := ⟨RX5, "trace", "()J"⟩
def RJ9 : String := "java/lang/Math"
def TJ9 : u_T := fun k => match k with
  | _ => ("", "", "", false)
def tyJ9 : Nat → FieldType := fun k => match k with
  | _ => .int
abbrev wsJ90 : List Cond := u_ws RJ9 TJ9 0
theorem nmJ9 : ∀ a, a < 0 → ∀ b, b < 0 → a ≠ b → (TJ9 a).2.1 ≠ (TJ9 b).2.1 := by decide +kernel
theorem tyJ9_ok : ∀ k, k < 0 → parseFieldDescriptor (TJ9 k).2.2.1 = some (tyJ9 k) := by decide +kernel
abbrev cJ9_abs_0f7a4 : ByteArray := prog_8_method_59_code
def yJ9_abs_0f7a4 : MethodName := ⟨RJ9, "abs", "(I)I"⟩
abbrev cJ9_abs_067f4 : ByteArray := prog_8_method_61_code
def yJ9_abs_067f4 : MethodName := ⟨RJ9, "abs", "(J)J"⟩
abbrev cJ9_max_7cf53 : ByteArray := prog_8_method_65_code
def yJ9_max_7cf53 : MethodName := ⟨RJ9, "max", "(II)I"⟩
def RL : String := "RingFormsLaw"
abbrev cL_law : ByteArray := code
def yL_law : MethodName := ⟨RL, "law", "([I)Z"⟩
abbrev vwCl : List vw_C := [(RX0, TX0, 2), (RX3, TX3, 5), (RX4, TX4, 5), (RX5, TX5, 10)]
