section
-- ===== PART A: goes FIRST, ahead of the names: the tables' words, and 'selects' of the private methods out of them =====
/-- a private method of a class that the tables say can be made, by its rows of tables_1 -/
def lw_okq (q : MethodName × Nat) : Prop := (q.1.cls ≠ "java/lang/invoke/MethodHandle" ∧ q.1.cls ≠ "java/lang/invoke/VarHandle") ∧ Cond.instantiable q.1.cls q.2 ∈ tables_1 ∧ Cond.privateMethod q.1 ∈ tables_1 ∧ Cond.instanceMethod q.1 ∈ tables_1
theorem lw_p0 : lw_okq (⟨"SliceCoder", "formAt", "(I)LSliceCoder$Form;"⟩, 2) := ⟨⟨by decide +kernel, by decide +kernel⟩, List.mem_of_getElem? (i := 12) (by decide +kernel), List.mem_of_getElem? (i := 63) (by decide +kernel), List.mem_of_getElem? (i := 64) (by decide +kernel)⟩
theorem lw_p1 : lw_okq (⟨"java/lang/Throwable", "fillInStackTrace", "(I)Ljava/lang/Throwable;"⟩, 6) := ⟨⟨by decide +kernel, by decide +kernel⟩, List.mem_of_getElem? (i := 106) (by decide +kernel), List.mem_of_getElem? (i := 104) (by decide +kernel), List.mem_of_getElem? (i := 105) (by decide +kernel)⟩
theorem lw_p2 : lw_okq (⟨"SliceCoder$Form", "append", "(II)V"⟩, 5) := ⟨⟨by decide +kernel, by decide +kernel⟩, List.mem_of_getElem? (i := 21) (by decide +kernel), List.mem_of_getElem? (i := 214) (by decide +kernel), List.mem_of_getElem? (i := 215) (by decide +kernel)⟩
theorem lw_p3 : lw_okq (⟨"SliceCoder", "formWith", "(II)LSliceCoder$Form;"⟩, 2) := ⟨⟨by decide +kernel, by decide +kernel⟩, List.mem_of_getElem? (i := 12) (by decide +kernel), List.mem_of_getElem? (i := 225) (by decide +kernel), List.mem_of_getElem? (i := 226) (by decide +kernel)⟩
theorem lw_p4 : lw_okq (⟨"SliceCoder$Form", "allows", "(II)Z"⟩, 5) := ⟨⟨by decide +kernel, by decide +kernel⟩, List.mem_of_getElem? (i := 21) (by decide +kernel), List.mem_of_getElem? (i := 327) (by decide +kernel), List.mem_of_getElem? (i := 328) (by decide +kernel)⟩
theorem lw_p5 : lw_okq (⟨"SliceCoderModel", "fails", "(ZI)Z"⟩, 6) := ⟨⟨by decide +kernel, by decide +kernel⟩, List.mem_of_getElem? (i := 368) (by decide +kernel), List.mem_of_getElem? (i := 408) (by decide +kernel), List.mem_of_getElem? (i := 409) (by decide +kernel)⟩
theorem lw_p6 : lw_okq (⟨"SliceCoderModel", "many", "(II)I"⟩, 6) := ⟨⟨by decide +kernel, by decide +kernel⟩, List.mem_of_getElem? (i := 368) (by decide +kernel), List.mem_of_getElem? (i := 421) (by decide +kernel), List.mem_of_getElem? (i := 422) (by decide +kernel)⟩
theorem lw_p7 : lw_okq (⟨"SliceCoderModel", "isThere", "(II)Z"⟩, 6) := ⟨⟨by decide +kernel, by decide +kernel⟩, List.mem_of_getElem? (i := 368) (by decide +kernel), List.mem_of_getElem? (i := 436) (by decide +kernel), List.mem_of_getElem? (i := 437) (by decide +kernel)⟩
theorem lw_p8 : lw_okq (⟨"SliceCoderModel", "place", "(III)I"⟩, 6) := ⟨⟨by decide +kernel, by decide +kernel⟩, List.mem_of_getElem? (i := 368) (by decide +kernel), List.mem_of_getElem? (i := 440) (by decide +kernel), List.mem_of_getElem? (i := 441) (by decide +kernel)⟩
theorem lw_p9 : lw_okq (⟨"SliceCoderModel", "left", "(I)I"⟩, 6) := ⟨⟨by decide +kernel, by decide +kernel⟩, List.mem_of_getElem? (i := 368) (by decide +kernel), List.mem_of_getElem? (i := 448) (by decide +kernel), List.mem_of_getElem? (i := 449) (by decide +kernel)⟩
theorem lw_p10 : lw_okq (⟨"SliceCoderModel", "holds", "(IIJ)Z"⟩, 6) := ⟨⟨by decide +kernel, by decide +kernel⟩, List.mem_of_getElem? (i := 368) (by decide +kernel), List.mem_of_getElem? (i := 460) (by decide +kernel), List.mem_of_getElem? (i := 461) (by decide +kernel)⟩
theorem lw_p11 : lw_okq (⟨"SliceCoderModel", "at", "(II)I"⟩, 6) := ⟨⟨by decide +kernel, by decide +kernel⟩, List.mem_of_getElem? (i := 368) (by decide +kernel), List.mem_of_getElem? (i := 468) (by decide +kernel), List.mem_of_getElem? (i := 469) (by decide +kernel)⟩
theorem lw_p12 : lw_okq (⟨"SliceCoderModel", "isOf", "(IJ)Z"⟩, 6) := ⟨⟨by decide +kernel, by decide +kernel⟩, List.mem_of_getElem? (i := 368) (by decide +kernel), List.mem_of_getElem? (i := 476) (by decide +kernel), List.mem_of_getElem? (i := 477) (by decide +kernel)⟩
def lw_privs_1 : List (MethodName × Nat) := [(⟨"SliceCoder", "formAt", "(I)LSliceCoder$Form;"⟩, 2), (⟨"java/lang/Throwable", "fillInStackTrace", "(I)Ljava/lang/Throwable;"⟩, 6), (⟨"SliceCoder$Form", "append", "(II)V"⟩, 5), (⟨"SliceCoder", "formWith", "(II)LSliceCoder$Form;"⟩, 2), (⟨"SliceCoder$Form", "allows", "(II)Z"⟩, 5), (⟨"SliceCoderModel", "fails", "(ZI)Z"⟩, 6), (⟨"SliceCoderModel", "many", "(II)I"⟩, 6), (⟨"SliceCoderModel", "isThere", "(II)Z"⟩, 6), (⟨"SliceCoderModel", "place", "(III)I"⟩, 6), (⟨"SliceCoderModel", "left", "(I)I"⟩, 6), (⟨"SliceCoderModel", "holds", "(IIJ)Z"⟩, 6), (⟨"SliceCoderModel", "at", "(II)I"⟩, 6), (⟨"SliceCoderModel", "isOf", "(IJ)Z"⟩, 6)]
theorem lw_r1 : ∀ q ∈ lw_privs_1, lw_okq q := List.forall_mem_cons.mpr ⟨lw_p0, List.forall_mem_cons.mpr ⟨lw_p1, List.forall_mem_cons.mpr ⟨lw_p2, List.forall_mem_cons.mpr ⟨lw_p3, List.forall_mem_cons.mpr ⟨lw_p4, List.forall_mem_cons.mpr ⟨lw_p5, List.forall_mem_cons.mpr ⟨lw_p6, List.forall_mem_cons.mpr ⟨lw_p7, List.forall_mem_cons.mpr ⟨lw_p8, List.forall_mem_cons.mpr ⟨lw_p9, List.forall_mem_cons.mpr ⟨lw_p10, List.forall_mem_cons.mpr ⟨lw_p11, List.forall_mem_cons.mpr ⟨lw_p12, fun _ h => absurd h List.not_mem_nil⟩⟩⟩⟩⟩⟩⟩⟩⟩⟩⟩⟩⟩
def lw_privs : List (MethodName × Nat) := lw_privs_1
def lw_tbl : List Cond := k2_sels lw_privs ++ tables_1
theorem lw_privs_ok : ∀ q ∈ lw_privs, lw_okq q := lw_r1
abbrev RF : String := "SliceCoder$Form"
def TF : u_T := fun k => match k with
  | 0 => ("SliceCoder$Form", "widths", "[I", true)
  | 1 => ("SliceCoder$Form", "signs", "[Z", true)
  | 2 => ("SliceCoder$Form", "owners", "[I", true)
  | 3 => ("SliceCoder$Form", "contents", "[I", true)
  | _ => ("SliceCoder$Form", "length", "I", false)
def tF : Nat → FieldType := fun k => match k with
  | 0 => .array .int
  | 1 => .array .boolean
  | 2 => .array .int
  | 3 => .array .int
  | _ => .int
theorem nF : ∀ a, a < 5 → ∀ b, b < 5 → a ≠ b → (TF a).2.1 ≠ (TF b).2.1 := by decide +kernel
theorem tF_ok : ∀ k, k < 5 → parseFieldDescriptor (TF k).2.2.1 = some (tF k) := by decide +kernel
abbrev cF_init : ByteArray := prog_2_method_1_code
def yF_init : MethodName := ⟨RF, "<init>", "()V"⟩
abbrev cF_forgetAll : ByteArray := prog_2_method_2_code
def yF_forgetAll : MethodName := ⟨RF, "forgetAll", "()V"⟩
abbrev cF_hasOperand : ByteArray := prog_2_method_3_code
def yF_hasOperand : MethodName := ⟨RF, "hasOperand", "(I)Z"⟩
abbrev cF_addOperand : ByteArray := prog_2_method_4_code
def yF_addOperand : MethodName := ⟨RF, "addOperand", "(IIZ)V"⟩
abbrev cF_appendFixed : ByteArray := prog_2_method_5_code
def yF_appendFixed : MethodName := ⟨RF, "appendFixed", "(IJ)V"⟩
abbrev cF_appendSlice : ByteArray := prog_2_method_6_code
def yF_appendSlice : MethodName := ⟨RF, "appendSlice", "(III)V"⟩
abbrev cF_append : ByteArray := prog_2_method_7_code
def yF_append : MethodName := ⟨RF, "append", "(II)V"⟩
abbrev cF_holdsAny : ByteArray := prog_2_method_8_code
def yF_holdsAny : MethodName := ⟨RF, "holdsAny", "(III)Z"⟩
abbrev cF_fixedBits : ByteArray := prog_2_method_9_code
def yF_fixedBits : MethodName := ⟨RF, "fixedBits", "()I"⟩
abbrev cF_operands : ByteArray := prog_2_method_10_code
def yF_operands : MethodName := ⟨RF, "operands", "()I"⟩
abbrev cF_missingBits : ByteArray := prog_2_method_11_code
def yF_missingBits : MethodName := ⟨RF, "missingBits", "()I"⟩
abbrev cF_isWhole : ByteArray := prog_2_method_12_code
def yF_isWhole : MethodName := ⟨RF, "isWhole", "()Z"⟩
abbrev cF_canBe : ByteArray := prog_2_method_13_code
def yF_canBe : MethodName := ⟨RF, "canBe", "(IJ)Z"⟩
abbrev cF_canBeAll : ByteArray := prog_2_method_14_code
def yF_canBeAll : MethodName := ⟨RF, "canBeAll", "([J)Z"⟩
abbrev cF_wordOf : ByteArray := prog_2_method_15_code
def yF_wordOf : MethodName := ⟨RF, "wordOf", "([J)J"⟩
abbrev cF_numberIn : ByteArray := prog_2_method_16_code
def yF_numberIn : MethodName := ⟨RF, "numberIn", "(IJ)J"⟩
abbrev cF_matches : ByteArray := prog_2_method_17_code
def yF_matches : MethodName := ⟨RF, "matches", "(J)Z"⟩
abbrev cF_sharesWordWith : ByteArray := prog_2_method_18_code
def yF_sharesWordWith : MethodName := ⟨RF, "sharesWordWith", "(LSliceCoder$Form;)Z"⟩
abbrev cF_allows : ByteArray := prog_2_method_19_code
def yF_allows : MethodName := ⟨RF, "allows", "(II)Z"⟩
abbrev cF_bitOf : ByteArray := prog_2_method_20_code
def yF_bitOf : MethodName := ⟨RF, "bitOf", "(JI)I"⟩
abbrev RX : String := "SliceCoder"
def TX : u_T := fun k => match k with
  | 0 => ("SliceCoder", "forms", "[LSliceCoder$Form;", true)
  | _ => ("SliceCoder", "numbers", "[J", true)
def tX : Nat → FieldType := fun k => match k with
  | 0 => .array (.object "SliceCoder$Form")
  | _ => .array .long
theorem nX : ∀ a, a < 2 → ∀ b, b < 2 → a ≠ b → (TX a).2.1 ≠ (TX b).2.1 := by decide +kernel
theorem tX_ok : ∀ k, k < 2 → parseFieldDescriptor (TX k).2.2.1 = some (tX k) := by decide +kernel
abbrev cX_init : ByteArray := prog_1_method_1_code
def yX_init : MethodName := ⟨RX, "<init>", "()V"⟩
abbrev cX_clear : ByteArray := prog_1_method_2_code
def yX_clear : MethodName := ⟨RX, "clear", "(I)V"⟩
abbrev cX_operand : ByteArray := prog_1_method_3_code
def yX_operand : MethodName := ⟨RX, "operand", "(IIIZ)V"⟩
abbrev cX_fixed : ByteArray := prog_1_method_4_code
def yX_fixed : MethodName := ⟨RX, "fixed", "(IIJ)I"⟩
abbrev cX_slice : ByteArray := prog_1_method_5_code
def yX_slice : MethodName := ⟨RX, "slice", "(IIII)I"⟩
abbrev cX_whole : ByteArray := prog_1_method_6_code
def yX_whole : MethodName := ⟨RX, "whole", "(I)Z"⟩
abbrev cX_number : ByteArray := prog_1_method_7_code
def yX_number : MethodName := ⟨RX, "number", "(IJ)V"⟩
abbrev cX_fits : ByteArray := prog_1_method_8_code
def yX_fits : MethodName := ⟨RX, "fits", "(IIJ)Z"⟩
abbrev cX_encode : ByteArray := prog_1_method_9_code
def yX_encode : MethodName := ⟨RX, "encode", "(I)J"⟩
abbrev cX_is : ByteArray := prog_1_method_10_code
def yX_is : MethodName := ⟨RX, "is", "(IJ)Z"⟩
abbrev cX_decode : ByteArray := prog_1_method_11_code
def yX_decode : MethodName := ⟨RX, "decode", "(IIJ)J"⟩
abbrev cX_meet : ByteArray := prog_1_method_12_code
def yX_meet : MethodName := ⟨RX, "meet", "(II)Z"⟩
abbrev cX_count : ByteArray := prog_1_method_13_code
def yX_count : MethodName := ⟨RX, "count", "(II)I"⟩
abbrev cX_formAt : ByteArray := prog_1_method_14_code
def yX_formAt : MethodName := ⟨RX, "formAt", "(I)LSliceCoder$Form;"⟩
abbrev cX_formWith : ByteArray := prog_1_method_15_code
def yX_formWith : MethodName := ⟨RX, "formWith", "(II)LSliceCoder$Form;"⟩
abbrev cX_checkOperandIndex : ByteArray := prog_1_method_16_code
def yX_checkOperandIndex : MethodName := ⟨RX, "checkOperandIndex", "(I)V"⟩
abbrev cX_checkBitCount : ByteArray := prog_1_method_17_code
def yX_checkBitCount : MethodName := ⟨RX, "checkBitCount", "(I)V"⟩
abbrev cX_checkRoom : ByteArray := prog_1_method_18_code
def yX_checkRoom : MethodName := ⟨RX, "checkRoom", "(LSliceCoder$Form;I)V"⟩
abbrev cX_checkWhole : ByteArray := prog_1_method_19_code
def yX_checkWhole : MethodName := ⟨RX, "checkWhole", "(LSliceCoder$Form;)V"⟩
abbrev RM : String := "SliceCoderModel"
def TM : u_T := fun k => match k with
  | 0 => ("SliceCoderModel", "err", "I", false)
  | 1 => ("SliceCoderModel", "length", "[I", true)
  | 2 => ("SliceCoderModel", "what", "[I", true)
  | 3 => ("SliceCoderModel", "bits", "[I", true)
  | 4 => ("SliceCoderModel", "signed", "[Z", true)
  | _ => ("SliceCoderModel", "numbers", "[J", true)
def tM : Nat → FieldType := fun k => match k with
  | 0 => .int
  | 1 => .array .int
  | 2 => .array .int
  | 3 => .array .int
  | 4 => .array .boolean
  | _ => .array .long
theorem nM : ∀ a, a < 6 → ∀ b, b < 6 → a ≠ b → (TM a).2.1 ≠ (TM b).2.1 := by decide +kernel
theorem tM_ok : ∀ k, k < 6 → parseFieldDescriptor (TM k).2.2.1 = some (tM k) := by decide +kernel
abbrev cM_init : ByteArray := prog_4_method_1_code
def yM_init : MethodName := ⟨RM, "<init>", "()V"⟩
abbrev cM_thrown : ByteArray := prog_4_method_2_code
def yM_thrown : MethodName := ⟨RM, "thrown", "()I"⟩
abbrev cM_in : ByteArray := prog_4_method_3_code
def yM_in : MethodName := ⟨RM, "in", "(JJJ)Z"⟩
abbrev cM_fails : ByteArray := prog_4_method_4_code
def yM_fails : MethodName := ⟨RM, "fails", "(ZI)Z"⟩
abbrev cM_isForm : ByteArray := prog_4_method_5_code
def yM_isForm : MethodName := ⟨RM, "isForm", "(I)Z"⟩
abbrev cM_isOperand : ByteArray := prog_4_method_6_code
def yM_isOperand : MethodName := ⟨RM, "isOperand", "(I)Z"⟩
abbrev cM_isThere : ByteArray := prog_4_method_7_code
def yM_isThere : MethodName := ⟨RM, "isThere", "(II)Z"⟩
abbrev cM_many : ByteArray := prog_4_method_8_code
def yM_many : MethodName := ⟨RM, "many", "(II)I"⟩
abbrev cM_place : ByteArray := prog_4_method_9_code
def yM_place : MethodName := ⟨RM, "place", "(III)I"⟩
abbrev cM_at : ByteArray := prog_4_method_10_code
def yM_at : MethodName := ⟨RM, "at", "(II)I"⟩
abbrev cM_bit : ByteArray := prog_4_method_11_code
def yM_bit : MethodName := ⟨RM, "bit", "(JI)I"⟩
abbrev cM_clear : ByteArray := prog_4_method_12_code
def yM_clear : MethodName := ⟨RM, "clear", "(I)V"⟩
abbrev cM_operand : ByteArray := prog_4_method_13_code
def yM_operand : MethodName := ⟨RM, "operand", "(IIIZ)V"⟩
abbrev cM_fixed : ByteArray := prog_4_method_14_code
def yM_fixed : MethodName := ⟨RM, "fixed", "(IIJ)I"⟩
abbrev cM_slice : ByteArray := prog_4_method_15_code
def yM_slice : MethodName := ⟨RM, "slice", "(IIII)I"⟩
abbrev cM_left : ByteArray := prog_4_method_16_code
def yM_left : MethodName := ⟨RM, "left", "(I)I"⟩
abbrev cM_whole : ByteArray := prog_4_method_17_code
def yM_whole : MethodName := ⟨RM, "whole", "(I)Z"⟩
abbrev cM_number : ByteArray := prog_4_method_18_code
def yM_number : MethodName := ⟨RM, "number", "(IJ)V"⟩
abbrev cM_holds : ByteArray := prog_4_method_19_code
def yM_holds : MethodName := ⟨RM, "holds", "(IIJ)Z"⟩
abbrev cM_fits : ByteArray := prog_4_method_20_code
def yM_fits : MethodName := ⟨RM, "fits", "(IIJ)Z"⟩
abbrev cM_encode : ByteArray := prog_4_method_21_code
def yM_encode : MethodName := ⟨RM, "encode", "(I)J"⟩
abbrev cM_isOf : ByteArray := prog_4_method_22_code
def yM_isOf : MethodName := ⟨RM, "isOf", "(IJ)Z"⟩
abbrev cM_is : ByteArray := prog_4_method_23_code
def yM_is : MethodName := ⟨RM, "is", "(IJ)Z"⟩
abbrev cM_decode : ByteArray := prog_4_method_24_code
def yM_decode : MethodName := ⟨RM, "decode", "(IIJ)J"⟩
abbrev cM_meet : ByteArray := prog_4_method_25_code
def yM_meet : MethodName := ⟨RM, "meet", "(II)Z"⟩
abbrev cM_count : ByteArray := prog_4_method_26_code
def yM_count : MethodName := ⟨RM, "count", "(II)I"⟩
abbrev RL : String := "SliceCoderLaw"
abbrev cL_clear : ByteArray := method_3_code
def yL_clear : MethodName := ⟨RL, "clear", "(LSliceCoder;I)I"⟩
abbrev cL_operand : ByteArray := method_4_code
def yL_operand : MethodName := ⟨RL, "operand", "(LSliceCoder;IIIZ)I"⟩
abbrev cL_fixed : ByteArray := method_5_code
def yL_fixed : MethodName := ⟨RL, "fixed", "(LSliceCoder;IIJ[J)I"⟩
abbrev cL_slice : ByteArray := method_6_code
def yL_slice : MethodName := ⟨RL, "slice", "(LSliceCoder;IIII[J)I"⟩
abbrev cL_whole : ByteArray := method_7_code
def yL_whole : MethodName := ⟨RL, "whole", "(LSliceCoder;I[J)I"⟩
abbrev cL_number : ByteArray := method_8_code
def yL_number : MethodName := ⟨RL, "number", "(LSliceCoder;IJ)I"⟩
abbrev cL_fits : ByteArray := method_9_code
def yL_fits : MethodName := ⟨RL, "fits", "(LSliceCoder;IIJ[J)I"⟩
abbrev cL_encode : ByteArray := method_10_code
def yL_encode : MethodName := ⟨RL, "encode", "(LSliceCoder;I[J)I"⟩
abbrev cL_is : ByteArray := method_11_code
def yL_is : MethodName := ⟨RL, "is", "(LSliceCoder;IJ[J)I"⟩
abbrev cL_decode : ByteArray := method_12_code
def yL_decode : MethodName := ⟨RL, "decode", "(LSliceCoder;IIJ[J)I"⟩
abbrev cL_meet : ByteArray := method_13_code
def yL_meet : MethodName := ⟨RL, "meet", "(LSliceCoder;II[J)I"⟩
abbrev cL_count : ByteArray := method_14_code
def yL_count : MethodName := ⟨RL, "count", "(LSliceCoder;II[J)I"⟩
abbrev cL_law : ByteArray := code
def yL_law : MethodName := ⟨RL, "law", "([I)Z"⟩
abbrev cls3 : List vw_C := [(RF, TF, 5), (RX, TX, 2), (RM, TM, 6)]
def wA : List Cond := lw_tbl.filter goodWord
theorem wA_mem {w : Cond} (i : Nat) (h : lw_tbl[i]? = some w) (g : goodWord w = true) : w ∈ wA := List.mem_filter.mpr ⟨List.mem_of_getElem? h, g⟩
theorem wA_good : ∀ w ∈ wA, goodWord w = true := fun w h => (List.mem_filter.mp h).2
theorem wA_in {ws : List Cond} (h : ∀ w ∈ ws, w ∈ wA) : GoodIn wA ws := fun w hw => ⟨h w hw, good_of_word (wA_good w (h w hw))⟩
theorem gV {own C : String} {i : Nat} {y : MethodName} {yc : Cond} (h1 : .methodLink own i y ∈ wA) (h2 : .instanceMethod y ∈ wA) (h3 : .selects C y y ∈ wA) (h4 : .initialized C ∈ wA) (h5 : yc ∈ wA) : GoodIn wA (wsV own i C y (yc :: wA)) := wA_in (fun w h => by
  simp only [wsV, List.cons_append, List.nil_append, List.mem_cons] at h
  rcases h with rfl | rfl | rfl | rfl | rfl | h
  · exact h1
  · exact h2
  · exact h3
  · exact h4
  · exact h5
  · exact h)
theorem gS {own : String} {i : Nat} {y : MethodName} {yc : Cond} (h1 : .methodLink own i y ∈ wA) (h2 : .static y ∈ wA) (h4 : .initialized own ∈ wA) (h5 : yc ∈ wA) : GoodIn wA (wsS own i y (yc :: wA)) := wA_in (fun w h => by
  simp only [wsS, List.cons_append, List.nil_append, List.mem_cons] at h
  rcases h with rfl | rfl | rfl | rfl | h
  · exact h1
  · exact h2
  · exact h4
  · exact h5
  · exact h)
theorem gI {yc : Cond} (h5 : yc ∈ wA) : GoodIn wA (yc :: wA) := wA_in (fun w h => (List.mem_cons.mp h).elim (fun e => e ▸ h5) id)
theorem inF : ∀ w ∈ u_ws RF TF 5, w ∈ wA := by
  intro w h
  obtain ⟨k, hk, rfl⟩ := List.mem_map.mp h
  have hk := List.mem_range.mp hk
  match k, hk with
  | 0, _ => exact wA_mem 46 (by decide +kernel) (by decide +kernel)
  | 1, _ => exact wA_mem 48 (by decide +kernel) (by decide +kernel)
  | 2, _ => exact wA_mem 50 (by decide +kernel) (by decide +kernel)
  | 3, _ => exact wA_mem 52 (by decide +kernel) (by decide +kernel)
  | 4, _ => exact wA_mem 54 (by decide +kernel) (by decide +kernel)
theorem inX : ∀ w ∈ u_ws RX TX 2, w ∈ wA := by
  intro w h
  obtain ⟨k, hk, rfl⟩ := List.mem_map.mp h
  have hk := List.mem_range.mp hk
  match k, hk with
  | 0, _ => exact wA_mem 61 (by decide +kernel) (by decide +kernel)
  | 1, _ => exact wA_mem 63 (by decide +kernel) (by decide +kernel)
theorem inM : ∀ w ∈ u_ws RM TM 6, w ∈ wA := by
  intro w h
  obtain ⟨k, hk, rfl⟩ := List.mem_map.mp h
  have hk := List.mem_range.mp hk
  match k, hk with
  | 0, _ => exact wA_mem 392 (by decide +kernel) (by decide +kernel)
  | 1, _ => exact wA_mem 394 (by decide +kernel) (by decide +kernel)
  | 2, _ => exact wA_mem 396 (by decide +kernel) (by decide +kernel)
  | 3, _ => exact wA_mem 398 (by decide +kernel) (by decide +kernel)
  | 4, _ => exact wA_mem 400 (by decide +kernel) (by decide +kernel)
  | 5, _ => exact wA_mem 402 (by decide +kernel) (by decide +kernel)
abbrev wF_init : List Cond := .code yF_init cF_init 1 none :: wA
abbrev wF_forgetAll : List Cond := .code yF_forgetAll cF_forgetAll 2 none :: wA
abbrev wF_hasOperand : List Cond := .code yF_hasOperand cF_hasOperand 2 (some .boolean) :: wA
abbrev wF_addOperand : List Cond := .code yF_addOperand cF_addOperand 4 none :: wA
abbrev wF_appendFixed : List Cond := .code yF_appendFixed cF_appendFixed 5 none :: wA
abbrev wF_appendSlice : List Cond := .code yF_appendSlice cF_appendSlice 5 none :: wA
abbrev wF_append : List Cond := .code yF_append cF_append 3 none :: wA
abbrev wF_holdsAny : List Cond := .code yF_holdsAny cF_holdsAny 5 (some .boolean) :: wA
abbrev wF_fixedBits : List Cond := .code yF_fixedBits cF_fixedBits 3 (some .int) :: wA
abbrev wF_operands : List Cond := .code yF_operands cF_operands 3 (some .int) :: wA
abbrev wF_missingBits : List Cond := .code yF_missingBits cF_missingBits 3 (some .int) :: wA
abbrev wF_isWhole : List Cond := .code yF_isWhole cF_isWhole 1 (some .boolean) :: wA
abbrev wF_canBe : List Cond := .code yF_canBe cF_canBe 7 (some .boolean) :: wA
abbrev wF_canBeAll : List Cond := .code yF_canBeAll cF_canBeAll 3 (some .boolean) :: wA
abbrev wF_wordOf : List Cond := .code yF_wordOf cF_wordOf 6 (some .long) :: wA
abbrev wF_numberIn : List Cond := .code yF_numberIn cF_numberIn 7 (some .long) :: wA
abbrev wF_matches : List Cond := .code yF_matches cF_matches 4 (some .boolean) :: wA
abbrev wF_sharesWordWith : List Cond := .code yF_sharesWordWith cF_sharesWordWith 5 (some .boolean) :: wA
abbrev wF_allows : List Cond := .code yF_allows cF_allows 4 (some .boolean) :: wA
abbrev wF_bitOf : List Cond := .code yF_bitOf cF_bitOf 3 (some .int) :: wA
abbrev wX_init : List Cond := .code yX_init cX_init 2 none :: wA
abbrev wX_clear : List Cond := .code yX_clear cX_clear 2 none :: wA
abbrev wX_operand : List Cond := .code yX_operand cX_operand 6 none :: wA
abbrev wX_fixed : List Cond := .code yX_fixed cX_fixed 6 (some .int) :: wA
abbrev wX_slice : List Cond := .code yX_slice cX_slice 6 (some .int) :: wA
abbrev wX_whole : List Cond := .code yX_whole cX_whole 2 (some .boolean) :: wA
abbrev wX_number : List Cond := .code yX_number cX_number 4 none :: wA
abbrev wX_fits : List Cond := .code yX_fits cX_fits 5 (some .boolean) :: wA
abbrev wX_encode : List Cond := .code yX_encode cX_encode 3 (some .long) :: wA
abbrev wX_is : List Cond := .code yX_is cX_is 4 (some .boolean) :: wA
abbrev wX_decode : List Cond := .code yX_decode cX_decode 6 (some .long) :: wA
abbrev wX_meet : List Cond := .code yX_meet cX_meet 3 (some .boolean) :: wA
abbrev wX_count : List Cond := .code yX_count cX_count 4 (some .int) :: wA
abbrev wX_formAt : List Cond := .code yX_formAt cX_formAt 2 (some (.object "SliceCoder$Form")) :: wA
abbrev wX_formWith : List Cond := .code yX_formWith cX_formWith 4 (some (.object "SliceCoder$Form")) :: wA
abbrev wX_checkOperandIndex : List Cond := .code yX_checkOperandIndex cX_checkOperandIndex 1 none :: wA
abbrev wX_checkBitCount : List Cond := .code yX_checkBitCount cX_checkBitCount 1 none :: wA
abbrev wX_checkRoom : List Cond := .code yX_checkRoom cX_checkRoom 2 none :: wA
abbrev wX_checkWhole : List Cond := .code yX_checkWhole cX_checkWhole 1 none :: wA
abbrev wM_init : List Cond := .code yM_init cM_init 1 none :: wA
abbrev wM_thrown : List Cond := .code yM_thrown cM_thrown 1 (some .int) :: wA
abbrev wM_in : List Cond := .code yM_in cM_in 6 (some .boolean) :: wA
abbrev wM_fails : List Cond := .code yM_fails cM_fails 3 (some .boolean) :: wA
abbrev wM_isForm : List Cond := .code yM_isForm cM_isForm 1 (some .boolean) :: wA
abbrev wM_isOperand : List Cond := .code yM_isOperand cM_isOperand 1 (some .boolean) :: wA
abbrev wM_isThere : List Cond := .code yM_isThere cM_isThere 3 (some .boolean) :: wA
abbrev wM_many : List Cond := .code yM_many cM_many 3 (some .int) :: wA
abbrev wM_place : List Cond := .code yM_place cM_place 5 (some .int) :: wA
abbrev wM_at : List Cond := .code yM_at cM_at 3 (some .int) :: wA
abbrev wM_bit : List Cond := .code yM_bit cM_bit 3 (some .int) :: wA
abbrev wM_clear : List Cond := .code yM_clear cM_clear 3 none :: wA
abbrev wM_operand : List Cond := .code yM_operand cM_operand 5 none :: wA
abbrev wM_fixed : List Cond := .code yM_fixed cM_fixed 6 (some .int) :: wA
abbrev wM_slice : List Cond := .code yM_slice cM_slice 6 (some .int) :: wA
abbrev wM_left : List Cond := .code yM_left cM_left 5 (some .int) :: wA
abbrev wM_whole : List Cond := .code yM_whole cM_whole 2 (some .boolean) :: wA
abbrev wM_number : List Cond := .code yM_number cM_number 4 none :: wA
abbrev wM_holds : List Cond := .code yM_holds cM_holds 9 (some .boolean) :: wA
abbrev wM_fits : List Cond := .code yM_fits cM_fits 5 (some .boolean) :: wA
abbrev wM_encode : List Cond := .code yM_encode cM_encode 7 (some .long) :: wA
abbrev wM_isOf : List Cond := .code yM_isOf cM_isOf 5 (some .boolean) :: wA
abbrev wM_is : List Cond := .code yM_is cM_is 4 (some .boolean) :: wA
abbrev wM_decode : List Cond := .code yM_decode cM_decode 11 (some .long) :: wA
abbrev wM_meet : List Cond := .code yM_meet cM_meet 6 (some .boolean) :: wA
abbrev wM_count : List Cond := .code yM_count cM_count 5 (some .int) :: wA
abbrev wL_clear : List Cond := .codeWith yL_clear cL_clear 3 (some .int) [(0, 5, 8, 13)] :: wA
abbrev wL_operand : List Cond := .codeWith yL_operand cL_operand 6 (some .int) [(0, 9, 12, 13), (0, 9, 16, 19)] :: wA
abbrev wL_fixed : List Cond := .codeWith yL_fixed cL_fixed 7 (some .int) [(0, 12, 15, 13), (0, 12, 19, 25)] :: wA
abbrev wL_slice : List Cond := .codeWith yL_slice cL_slice 7 (some .int) [(0, 14, 17, 13), (0, 14, 21, 25), (0, 14, 25, 19)] :: wA
abbrev wL_whole : List Cond := .codeWith yL_whole cL_whole 4 (some .int) [(0, 16, 19, 13)] :: wA
abbrev wL_number : List Cond := .codeWith yL_number cL_number 5 (some .int) [(0, 6, 9, 13)] :: wA
abbrev wL_fits : List Cond := .codeWith yL_fits cL_fits 7 (some .int) [(0, 19, 22, 13)] :: wA
abbrev wL_encode : List Cond := .codeWith yL_encode cL_encode 4 (some .int) [(0, 8, 11, 13), (0, 8, 14, 19), (0, 8, 17, 47)] :: wA
abbrev wL_is : List Cond := .codeWith yL_is cL_is 6 (some .int) [(0, 18, 21, 13)] :: wA
abbrev wL_decode : List Cond := .codeWith yL_decode cL_decode 7 (some .int) [(0, 11, 14, 13), (0, 11, 18, 19), (0, 11, 22, 47)] :: wA
abbrev wL_meet : List Cond := .codeWith yL_meet cL_meet 5 (some .int) [(0, 17, 20, 13)] :: wA
abbrev wL_count : List Cond := .codeWith yL_count cL_count 5 (some .int) [(0, 10, 13, 13)] :: wA
theorem kw_0 : (.selects "SliceCoder" ⟨"SliceCoder", "formAt", "(I)LSliceCoder$Form;"⟩ ⟨"SliceCoder", "formAt", "(I)LSliceCoder$Form;"⟩ : Cond) ∈ wA := wA_mem 0 (by decide +kernel) (by decide +kernel)
theorem kw_1 : (.selects "java/lang/Throwable" ⟨"java/lang/Throwable", "fillInStackTrace", "(I)Ljava/lang/Throwable;"⟩ ⟨"java/lang/Throwable", "fillInStackTrace", "(I)Ljava/lang/Throwable;"⟩ : Cond) ∈ wA := wA_mem 1 (by decide +kernel) (by decide +kernel)
theorem kw_2 : (.selects "SliceCoder$Form" ⟨"SliceCoder$Form", "append", "(II)V"⟩ ⟨"SliceCoder$Form", "append", "(II)V"⟩ : Cond) ∈ wA := wA_mem 2 (by decide +kernel) (by decide +kernel)
theorem kw_3 : (.selects "SliceCoder" ⟨"SliceCoder", "formWith", "(II)LSliceCoder$Form;"⟩ ⟨"SliceCoder", "formWith", "(II)LSliceCoder$Form;"⟩ : Cond) ∈ wA := wA_mem 3 (by decide +kernel) (by decide +kernel)
theorem kw_4 : (.selects "SliceCoder$Form" ⟨"SliceCoder$Form", "allows", "(II)Z"⟩ ⟨"SliceCoder$Form", "allows", "(II)Z"⟩ : Cond) ∈ wA := wA_mem 4 (by decide +kernel) (by decide +kernel)
theorem kw_5 : (.selects "SliceCoderModel" ⟨"SliceCoderModel", "fails", "(ZI)Z"⟩ ⟨"SliceCoderModel", "fails", "(ZI)Z"⟩ : Cond) ∈ wA := wA_mem 5 (by decide +kernel) (by decide +kernel)
theorem kw_6 : (.selects "SliceCoderModel" ⟨"SliceCoderModel", "many", "(II)I"⟩ ⟨"SliceCoderModel", "many", "(II)I"⟩ : Cond) ∈ wA := wA_mem 6 (by decide +kernel) (by decide +kernel)
theorem kw_7 : (.selects "SliceCoderModel" ⟨"SliceCoderModel", "isThere", "(II)Z"⟩ ⟨"SliceCoderModel", "isThere", "(II)Z"⟩ : Cond) ∈ wA := wA_mem 7 (by decide +kernel) (by decide +kernel)
theorem kw_8 : (.selects "SliceCoderModel" ⟨"SliceCoderModel", "place", "(III)I"⟩ ⟨"SliceCoderModel", "place", "(III)I"⟩ : Cond) ∈ wA := wA_mem 8 (by decide +kernel) (by decide +kernel)
theorem kw_9 : (.selects "SliceCoderModel" ⟨"SliceCoderModel", "left", "(I)I"⟩ ⟨"SliceCoderModel", "left", "(I)I"⟩ : Cond) ∈ wA := wA_mem 9 (by decide +kernel) (by decide +kernel)
theorem kw_10 : (.selects "SliceCoderModel" ⟨"SliceCoderModel", "holds", "(IIJ)Z"⟩ ⟨"SliceCoderModel", "holds", "(IIJ)Z"⟩ : Cond) ∈ wA := wA_mem 10 (by decide +kernel) (by decide +kernel)
theorem kw_11 : (.selects "SliceCoderModel" ⟨"SliceCoderModel", "at", "(II)I"⟩ ⟨"SliceCoderModel", "at", "(II)I"⟩ : Cond) ∈ wA := wA_mem 11 (by decide +kernel) (by decide +kernel)
theorem kw_12 : (.selects "SliceCoderModel" ⟨"SliceCoderModel", "isOf", "(IJ)Z"⟩ ⟨"SliceCoderModel", "isOf", "(IJ)Z"⟩ : Cond) ∈ wA := wA_mem 12 (by decide +kernel) (by decide +kernel)
theorem kw_13 : (.initialized "SliceCoderLaw" : Cond) ∈ wA := wA_mem 13 (by decide +kernel) (by decide +kernel)
theorem kw_14 : (.initialized "SliceCoder" : Cond) ∈ wA := wA_mem 14 (by decide +kernel) (by decide +kernel)
theorem kw_15 : (.initialized "SliceCoder$Form" : Cond) ∈ wA := wA_mem 15 (by decide +kernel) (by decide +kernel)
theorem kw_16 : (.initialized "SliceCoderModel" : Cond) ∈ wA := wA_mem 16 (by decide +kernel) (by decide +kernel)
theorem kw_17 : (.initialized "java/lang/Throwable" : Cond) ∈ wA := wA_mem 17 (by decide +kernel) (by decide +kernel)
theorem kw_18 : (.initialized "java/lang/Exception" : Cond) ∈ wA := wA_mem 18 (by decide +kernel) (by decide +kernel)
theorem kw_19 : (.initialized "java/lang/RuntimeException" : Cond) ∈ wA := wA_mem 19 (by decide +kernel) (by decide +kernel)
theorem kw_20 : (.initialized "java/lang/IllegalArgumentException" : Cond) ∈ wA := wA_mem 20 (by decide +kernel) (by decide +kernel)
theorem kw_21 : (.initialized "java/lang/IllegalStateException" : Cond) ∈ wA := wA_mem 21 (by decide +kernel) (by decide +kernel)
theorem kw_22 : (.initialized "java/lang/IndexOutOfBoundsException" : Cond) ∈ wA := wA_mem 22 (by decide +kernel) (by decide +kernel)
theorem kw_23 : (.initialized "java/lang/ArithmeticException" : Cond) ∈ wA := wA_mem 23 (by decide +kernel) (by decide +kernel)
theorem kw_24 : (.classLink "SliceCoderLaw" 8 "SliceCoder" : Cond) ∈ wA := wA_mem 24 (by decide +kernel) (by decide +kernel)
theorem kw_25 : (.instantiable "SliceCoder" 2 : Cond) ∈ wA := wA_mem 25 (by decide +kernel) (by decide +kernel)
theorem kw_26 : (.methodLink "SliceCoderLaw" 65 ⟨"SliceCoder", "<init>", "()V"⟩ : Cond) ∈ wA := wA_mem 26 (by decide +kernel) (by decide +kernel)
theorem kw_27 : (.instanceMethod ⟨"SliceCoder", "<init>", "()V"⟩ : Cond) ∈ wA := wA_mem 27 (by decide +kernel) (by decide +kernel)
theorem kw_28 : (.code ⟨"SliceCoder", "<init>", "()V"⟩ prog_1_method_1_code 2 none : Cond) ∈ wA := wA_mem 28 (by decide +kernel) (by decide +kernel)
theorem kw_29 : (.methodLink "SliceCoder" 1 ⟨"java/lang/Object", "<init>", "()V"⟩ : Cond) ∈ wA := wA_mem 29 (by decide +kernel) (by decide +kernel)
theorem kw_30 : (.instanceMethod ⟨"java/lang/Object", "<init>", "()V"⟩ : Cond) ∈ wA := wA_mem 30 (by decide +kernel) (by decide +kernel)
theorem kw_31 : (.code ⟨"java/lang/Object", "<init>", "()V"⟩ object_method_1_code 1 none : Cond) ∈ wA := wA_mem 31 (by decide +kernel) (by decide +kernel)
theorem kw_32 : (.classLink "SliceCoder" 9 "SliceCoder$Form" : Cond) ∈ wA := wA_mem 32 (by decide +kernel) (by decide +kernel)
theorem kw_34 : (.instantiable "SliceCoder$Form" 5 : Cond) ∈ wA := wA_mem 34 (by decide +kernel) (by decide +kernel)
theorem kw_35 : (.methodLink "SliceCoder" 15 ⟨"SliceCoder$Form", "<init>", "()V"⟩ : Cond) ∈ wA := wA_mem 35 (by decide +kernel) (by decide +kernel)
theorem kw_36 : (.instanceMethod ⟨"SliceCoder$Form", "<init>", "()V"⟩ : Cond) ∈ wA := wA_mem 36 (by decide +kernel) (by decide +kernel)
theorem kw_37 : (.code ⟨"SliceCoder$Form", "<init>", "()V"⟩ prog_2_method_1_code 1 none : Cond) ∈ wA := wA_mem 37 (by decide +kernel) (by decide +kernel)
theorem kw_38 : (.methodLink "SliceCoder$Form" 3 ⟨"java/lang/Object", "<init>", "()V"⟩ : Cond) ∈ wA := wA_mem 38 (by decide +kernel) (by decide +kernel)
theorem kw_39 : (.fieldLink "SliceCoder$Form" 9 "SliceCoder$Form" "widths" "[I" : Cond) ∈ wA := wA_mem 39 (by decide +kernel) (by decide +kernel)
theorem kw_41 : (.fieldLink "SliceCoder$Form" 15 "SliceCoder$Form" "signs" "[Z" : Cond) ∈ wA := wA_mem 41 (by decide +kernel) (by decide +kernel)
theorem kw_42 : (.fieldLink "SliceCoder$Form" 19 "SliceCoder$Form" "owners" "[I" : Cond) ∈ wA := wA_mem 42 (by decide +kernel) (by decide +kernel)
theorem kw_43 : (.fieldLink "SliceCoder$Form" 22 "SliceCoder$Form" "contents" "[I" : Cond) ∈ wA := wA_mem 43 (by decide +kernel) (by decide +kernel)
theorem kw_44 : (.fieldLink "SliceCoder$Form" 25 "SliceCoder$Form" "length" "I" : Cond) ∈ wA := wA_mem 44 (by decide +kernel) (by decide +kernel)
theorem kw_57 : (.arrayClass .int : Cond) ∈ wA := wA_mem 57 (by decide +kernel) (by decide +kernel)
theorem kw_58 : (.arrayClass .boolean : Cond) ∈ wA := wA_mem 58 (by decide +kernel) (by decide +kernel)
theorem kw_59 : (.fieldLink "SliceCoder" 11 "SliceCoder" "forms" "[LSliceCoder$Form;" : Cond) ∈ wA := wA_mem 59 (by decide +kernel) (by decide +kernel)
theorem kw_60 : (.fieldLink "SliceCoder" 16 "SliceCoder" "numbers" "[J" : Cond) ∈ wA := wA_mem 60 (by decide +kernel) (by decide +kernel)
theorem kw_66 : (.arrayClass .long : Cond) ∈ wA := wA_mem 66 (by decide +kernel) (by decide +kernel)
theorem kw_67 : (.methodLink "SliceCoderLaw" 69 ⟨"SliceCoderLaw", "clear", "(LSliceCoder;I)I"⟩ : Cond) ∈ wA := wA_mem 67 (by decide +kernel) (by decide +kernel)
theorem kw_68 : (.static ⟨"SliceCoderLaw", "clear", "(LSliceCoder;I)I"⟩ : Cond) ∈ wA := wA_mem 68 (by decide +kernel) (by decide +kernel)
theorem kw_69 : (.codeWith ⟨"SliceCoderLaw", "clear", "(LSliceCoder;I)I"⟩ method_3_code 3 (some .int) [(0, 5, 8, 13)] : Cond) ∈ wA := wA_mem 69 (by decide +kernel) (by decide +kernel)
theorem kw_70 : (.classLink "SliceCoderLaw" 13 "java/lang/IllegalArgumentException" : Cond) ∈ wA := wA_mem 70 (by decide +kernel) (by decide +kernel)
theorem kw_71 : (.methodLink "SliceCoderLaw" 7 ⟨"SliceCoder", "clear", "(I)V"⟩ : Cond) ∈ wA := wA_mem 71 (by decide +kernel) (by decide +kernel)
theorem kw_72 : (.instanceMethod ⟨"SliceCoder", "clear", "(I)V"⟩ : Cond) ∈ wA := wA_mem 72 (by decide +kernel) (by decide +kernel)
theorem kw_73 : (.selects "SliceCoder" ⟨"SliceCoder", "clear", "(I)V"⟩ ⟨"SliceCoder", "clear", "(I)V"⟩ : Cond) ∈ wA := wA_mem 73 (by decide +kernel) (by decide +kernel)
theorem kw_74 : (.code ⟨"SliceCoder", "clear", "(I)V"⟩ prog_1_method_2_code 2 none : Cond) ∈ wA := wA_mem 74 (by decide +kernel) (by decide +kernel)
theorem kw_75 : (.methodLink "SliceCoder" 20 ⟨"SliceCoder", "formAt", "(I)LSliceCoder$Form;"⟩ : Cond) ∈ wA := wA_mem 75 (by decide +kernel) (by decide +kernel)
theorem kw_77 : (.instanceMethod ⟨"SliceCoder", "formAt", "(I)LSliceCoder$Form;"⟩ : Cond) ∈ wA := wA_mem 77 (by decide +kernel) (by decide +kernel)
theorem kw_78 : (.code ⟨"SliceCoder", "formAt", "(I)LSliceCoder$Form;"⟩ prog_1_method_14_code 2 (some (.object "SliceCoder$Form")) : Cond) ∈ wA := wA_mem 78 (by decide +kernel) (by decide +kernel)
theorem kw_79 : (.classLink "SliceCoder" 65 "java/lang/IllegalArgumentException" : Cond) ∈ wA := wA_mem 79 (by decide +kernel) (by decide +kernel)
theorem kw_80 : (.instantiable "java/lang/IllegalArgumentException" 6 : Cond) ∈ wA := wA_mem 80 (by decide +kernel) (by decide +kernel)
theorem kw_88 : (.selects "java/lang/IllegalArgumentException" ⟨"java/lang/Throwable", "fillInStackTrace", "(I)Ljava/lang/Throwable;"⟩ ⟨"java/lang/Throwable", "fillInStackTrace", "(I)Ljava/lang/Throwable;"⟩ : Cond) ∈ wA := wA_mem 88 (by decide +kernel) (by decide +kernel)
theorem kw_89 : (.selects "java/lang/IllegalArgumentException" ⟨"java/lang/Throwable", "fillInStackTrace", "()Ljava/lang/Throwable;"⟩ ⟨"java/lang/Throwable", "fillInStackTrace", "()Ljava/lang/Throwable;"⟩ : Cond) ∈ wA := wA_mem 89 (by decide +kernel) (by decide +kernel)
theorem kw_100 : (.fieldLink "java/lang/Throwable" 198 "java/lang/Throwable" "backtrace" "Ljava/lang/Object;" : Cond) ∈ wA := wA_mem 100 (by decide +kernel) (by decide +kernel)
theorem kw_102 : (.instanceMethod ⟨"java/lang/Throwable", "<init>", "()V"⟩ : Cond) ∈ wA := wA_mem 102 (by decide +kernel) (by decide +kernel)
theorem kw_103 : (.code ⟨"java/lang/Throwable", "<init>", "()V"⟩ prog_12_method_1_code 1 none : Cond) ∈ wA := wA_mem 103 (by decide +kernel) (by decide +kernel)
theorem kw_104 : (.methodLink "java/lang/Throwable" 1 ⟨"java/lang/Object", "<init>", "()V"⟩ : Cond) ∈ wA := wA_mem 104 (by decide +kernel) (by decide +kernel)
theorem kw_105 : (.fieldLink "java/lang/Throwable" 13 "java/lang/Throwable" "UNASSIGNED_STACK" "[Ljava/lang/StackTraceElement;" : Cond) ∈ wA := wA_mem 105 (by decide +kernel) (by decide +kernel)
theorem kw_107 : (.fieldLink "java/lang/Throwable" 20 "java/lang/Throwable" "SUPPRESSED_SENTINEL" "Ljava/util/List;" : Cond) ∈ wA := wA_mem 107 (by decide +kernel) (by decide +kernel)
theorem kw_109 : (.methodLink "java/lang/Throwable" 27 ⟨"java/lang/Throwable", "fillInStackTrace", "()Ljava/lang/Throwable;"⟩ : Cond) ∈ wA := wA_mem 109 (by decide +kernel) (by decide +kernel)
theorem kw_110 : (.instanceMethod ⟨"java/lang/Throwable", "fillInStackTrace", "()Ljava/lang/Throwable;"⟩ : Cond) ∈ wA := wA_mem 110 (by decide +kernel) (by decide +kernel)
theorem kw_112 : (.selects "java/lang/ArithmeticException" ⟨"java/lang/Throwable", "fillInStackTrace", "()Ljava/lang/Throwable;"⟩ ⟨"java/lang/Throwable", "fillInStackTrace", "()Ljava/lang/Throwable;"⟩ : Cond) ∈ wA := wA_mem 112 (by decide +kernel) (by decide +kernel)
theorem kw_113 : (.selects "java/lang/IllegalStateException" ⟨"java/lang/Throwable", "fillInStackTrace", "()Ljava/lang/Throwable;"⟩ ⟨"java/lang/Throwable", "fillInStackTrace", "()Ljava/lang/Throwable;"⟩ : Cond) ∈ wA := wA_mem 113 (by decide +kernel) (by decide +kernel)
theorem kw_114 : (.selects "java/lang/IndexOutOfBoundsException" ⟨"java/lang/Throwable", "fillInStackTrace", "()Ljava/lang/Throwable;"⟩ ⟨"java/lang/Throwable", "fillInStackTrace", "()Ljava/lang/Throwable;"⟩ : Cond) ∈ wA := wA_mem 114 (by decide +kernel) (by decide +kernel)
theorem kw_116 : (.methodLink "java/lang/Throwable" 202 ⟨"java/lang/Throwable", "fillInStackTrace", "(I)Ljava/lang/Throwable;"⟩ : Cond) ∈ wA := wA_mem 116 (by decide +kernel) (by decide +kernel)
theorem kw_118 : (.instanceMethod ⟨"java/lang/Throwable", "fillInStackTrace", "(I)Ljava/lang/Throwable;"⟩ : Cond) ∈ wA := wA_mem 118 (by decide +kernel) (by decide +kernel)
theorem kw_119 : (.instantiable "java/lang/Throwable" 6 : Cond) ∈ wA := wA_mem 119 (by decide +kernel) (by decide +kernel)
theorem kw_122 : (.methodLink "SliceCoder" 69 ⟨"java/lang/IllegalArgumentException", "<init>", "(Ljava/lang/String;)V"⟩ : Cond) ∈ wA := wA_mem 122 (by decide +kernel) (by decide +kernel)
theorem kw_123 : (.instanceMethod ⟨"java/lang/IllegalArgumentException", "<init>", "(Ljava/lang/String;)V"⟩ : Cond) ∈ wA := wA_mem 123 (by decide +kernel) (by decide +kernel)
theorem kw_124 : (.code ⟨"java/lang/IllegalArgumentException", "<init>", "(Ljava/lang/String;)V"⟩ prog_7_method_2_code 2 none : Cond) ∈ wA := wA_mem 124 (by decide +kernel) (by decide +kernel)
theorem kw_125 : (.methodLink "java/lang/IllegalArgumentException" 7 ⟨"java/lang/RuntimeException", "<init>", "(Ljava/lang/String;)V"⟩ : Cond) ∈ wA := wA_mem 125 (by decide +kernel) (by decide +kernel)
theorem kw_126 : (.instanceMethod ⟨"java/lang/RuntimeException", "<init>", "(Ljava/lang/String;)V"⟩ : Cond) ∈ wA := wA_mem 126 (by decide +kernel) (by decide +kernel)
theorem kw_127 : (.code ⟨"java/lang/RuntimeException", "<init>", "(Ljava/lang/String;)V"⟩ prog_10_method_2_code 2 none : Cond) ∈ wA := wA_mem 127 (by decide +kernel) (by decide +kernel)
theorem kw_128 : (.methodLink "java/lang/RuntimeException" 7 ⟨"java/lang/Exception", "<init>", "(Ljava/lang/String;)V"⟩ : Cond) ∈ wA := wA_mem 128 (by decide +kernel) (by decide +kernel)
theorem kw_129 : (.instanceMethod ⟨"java/lang/Exception", "<init>", "(Ljava/lang/String;)V"⟩ : Cond) ∈ wA := wA_mem 129 (by decide +kernel) (by decide +kernel)
theorem kw_130 : (.code ⟨"java/lang/Exception", "<init>", "(Ljava/lang/String;)V"⟩ prog_6_method_2_code 2 none : Cond) ∈ wA := wA_mem 130 (by decide +kernel) (by decide +kernel)
theorem kw_131 : (.methodLink "java/lang/Exception" 7 ⟨"java/lang/Throwable", "<init>", "(Ljava/lang/String;)V"⟩ : Cond) ∈ wA := wA_mem 131 (by decide +kernel) (by decide +kernel)
theorem kw_132 : (.instanceMethod ⟨"java/lang/Throwable", "<init>", "(Ljava/lang/String;)V"⟩ : Cond) ∈ wA := wA_mem 132 (by decide +kernel) (by decide +kernel)
theorem kw_133 : (.code ⟨"java/lang/Throwable", "<init>", "(Ljava/lang/String;)V"⟩ prog_12_method_2_code 2 none : Cond) ∈ wA := wA_mem 133 (by decide +kernel) (by decide +kernel)
theorem kw_135 : (.fieldLink "java/lang/Throwable" 31 "java/lang/Throwable" "detailMessage" "Ljava/lang/String;" : Cond) ∈ wA := wA_mem 135 (by decide +kernel) (by decide +kernel)
theorem kw_136 : (.fieldLink "java/lang/Throwable" 7 "java/lang/Throwable" "cause" "Ljava/lang/Throwable;" : Cond) ∈ wA := wA_mem 136 (by decide +kernel) (by decide +kernel)
theorem kw_137 : (.fieldLink "java/lang/Throwable" 17 "java/lang/Throwable" "stackTrace" "[Ljava/lang/StackTraceElement;" : Cond) ∈ wA := wA_mem 137 (by decide +kernel) (by decide +kernel)
theorem kw_138 : (.fieldLink "java/lang/Throwable" 24 "java/lang/Throwable" "suppressedExceptions" "Ljava/util/List;" : Cond) ∈ wA := wA_mem 138 (by decide +kernel) (by decide +kernel)
theorem kw_147 : (.arrayClass .byte : Cond) ∈ wA := wA_mem 147 (by decide +kernel) (by decide +kernel)
theorem kw_148 : (.methodLink "SliceCoder" 24 ⟨"SliceCoder$Form", "forgetAll", "()V"⟩ : Cond) ∈ wA := wA_mem 148 (by decide +kernel) (by decide +kernel)
theorem kw_149 : (.instanceMethod ⟨"SliceCoder$Form", "forgetAll", "()V"⟩ : Cond) ∈ wA := wA_mem 149 (by decide +kernel) (by decide +kernel)
theorem kw_150 : (.selects "SliceCoder$Form" ⟨"SliceCoder$Form", "forgetAll", "()V"⟩ ⟨"SliceCoder$Form", "forgetAll", "()V"⟩ : Cond) ∈ wA := wA_mem 150 (by decide +kernel) (by decide +kernel)
theorem kw_151 : (.code ⟨"SliceCoder$Form", "forgetAll", "()V"⟩ prog_2_method_2_code 2 none : Cond) ∈ wA := wA_mem 151 (by decide +kernel) (by decide +kernel)
theorem kw_152 : (.methodLink "SliceCoderLaw" 79 ⟨"SliceCoderLaw", "operand", "(LSliceCoder;IIIZ)I"⟩ : Cond) ∈ wA := wA_mem 152 (by decide +kernel) (by decide +kernel)
theorem kw_153 : (.static ⟨"SliceCoderLaw", "operand", "(LSliceCoder;IIIZ)I"⟩ : Cond) ∈ wA := wA_mem 153 (by decide +kernel) (by decide +kernel)
theorem kw_154 : (.codeWith ⟨"SliceCoderLaw", "operand", "(LSliceCoder;IIIZ)I"⟩ method_4_code 6 (some .int) [(0, 9, 12, 13), (0, 9, 16, 19)] : Cond) ∈ wA := wA_mem 154 (by decide +kernel) (by decide +kernel)
theorem kw_155 : (.classLink "SliceCoderLaw" 19 "java/lang/IllegalStateException" : Cond) ∈ wA := wA_mem 155 (by decide +kernel) (by decide +kernel)
theorem kw_156 : (.methodLink "SliceCoderLaw" 15 ⟨"SliceCoder", "operand", "(IIIZ)V"⟩ : Cond) ∈ wA := wA_mem 156 (by decide +kernel) (by decide +kernel)
theorem kw_157 : (.instanceMethod ⟨"SliceCoder", "operand", "(IIIZ)V"⟩ : Cond) ∈ wA := wA_mem 157 (by decide +kernel) (by decide +kernel)
theorem kw_158 : (.selects "SliceCoder" ⟨"SliceCoder", "operand", "(IIIZ)V"⟩ ⟨"SliceCoder", "operand", "(IIIZ)V"⟩ : Cond) ∈ wA := wA_mem 158 (by decide +kernel) (by decide +kernel)
theorem kw_159 : (.code ⟨"SliceCoder", "operand", "(IIIZ)V"⟩ prog_1_method_3_code 6 none : Cond) ∈ wA := wA_mem 159 (by decide +kernel) (by decide +kernel)
theorem kw_160 : (.methodLink "SliceCoder" 27 ⟨"SliceCoder", "checkOperandIndex", "(I)V"⟩ : Cond) ∈ wA := wA_mem 160 (by decide +kernel) (by decide +kernel)
theorem kw_161 : (.static ⟨"SliceCoder", "checkOperandIndex", "(I)V"⟩ : Cond) ∈ wA := wA_mem 161 (by decide +kernel) (by decide +kernel)
theorem kw_162 : (.code ⟨"SliceCoder", "checkOperandIndex", "(I)V"⟩ prog_1_method_16_code 1 none : Cond) ∈ wA := wA_mem 162 (by decide +kernel) (by decide +kernel)
theorem kw_164 : (.methodLink "SliceCoder" 31 ⟨"SliceCoder", "checkBitCount", "(I)V"⟩ : Cond) ∈ wA := wA_mem 164 (by decide +kernel) (by decide +kernel)
theorem kw_165 : (.static ⟨"SliceCoder", "checkBitCount", "(I)V"⟩ : Cond) ∈ wA := wA_mem 165 (by decide +kernel) (by decide +kernel)
theorem kw_166 : (.code ⟨"SliceCoder", "checkBitCount", "(I)V"⟩ prog_1_method_17_code 1 none : Cond) ∈ wA := wA_mem 166 (by decide +kernel) (by decide +kernel)
theorem kw_168 : (.methodLink "SliceCoder" 34 ⟨"SliceCoder$Form", "hasOperand", "(I)Z"⟩ : Cond) ∈ wA := wA_mem 168 (by decide +kernel) (by decide +kernel)
theorem kw_169 : (.instanceMethod ⟨"SliceCoder$Form", "hasOperand", "(I)Z"⟩ : Cond) ∈ wA := wA_mem 169 (by decide +kernel) (by decide +kernel)
theorem kw_170 : (.selects "SliceCoder$Form" ⟨"SliceCoder$Form", "hasOperand", "(I)Z"⟩ ⟨"SliceCoder$Form", "hasOperand", "(I)Z"⟩ : Cond) ∈ wA := wA_mem 170 (by decide +kernel) (by decide +kernel)
theorem kw_171 : (.code ⟨"SliceCoder$Form", "hasOperand", "(I)Z"⟩ prog_2_method_3_code 2 (some .boolean) : Cond) ∈ wA := wA_mem 171 (by decide +kernel) (by decide +kernel)
theorem kw_172 : (.classLink "SliceCoder" 38 "java/lang/IllegalStateException" : Cond) ∈ wA := wA_mem 172 (by decide +kernel) (by decide +kernel)
theorem kw_173 : (.instantiable "java/lang/IllegalStateException" 6 : Cond) ∈ wA := wA_mem 173 (by decide +kernel) (by decide +kernel)
theorem kw_175 : (.selects "java/lang/IllegalStateException" ⟨"java/lang/Throwable", "fillInStackTrace", "(I)Ljava/lang/Throwable;"⟩ ⟨"java/lang/Throwable", "fillInStackTrace", "(I)Ljava/lang/Throwable;"⟩ : Cond) ∈ wA := wA_mem 175 (by decide +kernel) (by decide +kernel)
theorem kw_182 : (.methodLink "SliceCoder" 42 ⟨"java/lang/IllegalStateException", "<init>", "(Ljava/lang/String;)V"⟩ : Cond) ∈ wA := wA_mem 182 (by decide +kernel) (by decide +kernel)
theorem kw_183 : (.instanceMethod ⟨"java/lang/IllegalStateException", "<init>", "(Ljava/lang/String;)V"⟩ : Cond) ∈ wA := wA_mem 183 (by decide +kernel) (by decide +kernel)
theorem kw_184 : (.code ⟨"java/lang/IllegalStateException", "<init>", "(Ljava/lang/String;)V"⟩ prog_8_method_2_code 2 none : Cond) ∈ wA := wA_mem 184 (by decide +kernel) (by decide +kernel)
theorem kw_185 : (.methodLink "java/lang/IllegalStateException" 7 ⟨"java/lang/RuntimeException", "<init>", "(Ljava/lang/String;)V"⟩ : Cond) ∈ wA := wA_mem 185 (by decide +kernel) (by decide +kernel)
theorem kw_188 : (.methodLink "SliceCoder" 45 ⟨"SliceCoder$Form", "addOperand", "(IIZ)V"⟩ : Cond) ∈ wA := wA_mem 188 (by decide +kernel) (by decide +kernel)
theorem kw_189 : (.instanceMethod ⟨"SliceCoder$Form", "addOperand", "(IIZ)V"⟩ : Cond) ∈ wA := wA_mem 189 (by decide +kernel) (by decide +kernel)
theorem kw_190 : (.selects "SliceCoder$Form" ⟨"SliceCoder$Form", "addOperand", "(IIZ)V"⟩ ⟨"SliceCoder$Form", "addOperand", "(IIZ)V"⟩ : Cond) ∈ wA := wA_mem 190 (by decide +kernel) (by decide +kernel)
theorem kw_191 : (.code ⟨"SliceCoder$Form", "addOperand", "(IIZ)V"⟩ prog_2_method_4_code 4 none : Cond) ∈ wA := wA_mem 191 (by decide +kernel) (by decide +kernel)
theorem kw_192 : (.methodLink "SliceCoderLaw" 85 ⟨"SliceCoderLaw", "fixed", "(LSliceCoder;IIJ[J)I"⟩ : Cond) ∈ wA := wA_mem 192 (by decide +kernel) (by decide +kernel)
theorem kw_193 : (.static ⟨"SliceCoderLaw", "fixed", "(LSliceCoder;IIJ[J)I"⟩ : Cond) ∈ wA := wA_mem 193 (by decide +kernel) (by decide +kernel)
theorem kw_194 : (.codeWith ⟨"SliceCoderLaw", "fixed", "(LSliceCoder;IIJ[J)I"⟩ method_5_code 7 (some .int) [(0, 12, 15, 13), (0, 12, 19, 25)] : Cond) ∈ wA := wA_mem 194 (by decide +kernel) (by decide +kernel)
theorem kw_195 : (.classLink "SliceCoderLaw" 25 "java/lang/IndexOutOfBoundsException" : Cond) ∈ wA := wA_mem 195 (by decide +kernel) (by decide +kernel)
theorem kw_196 : (.methodLink "SliceCoderLaw" 21 ⟨"SliceCoder", "fixed", "(IIJ)I"⟩ : Cond) ∈ wA := wA_mem 196 (by decide +kernel) (by decide +kernel)
theorem kw_197 : (.instanceMethod ⟨"SliceCoder", "fixed", "(IIJ)I"⟩ : Cond) ∈ wA := wA_mem 197 (by decide +kernel) (by decide +kernel)
theorem kw_198 : (.selects "SliceCoder" ⟨"SliceCoder", "fixed", "(IIJ)I"⟩ ⟨"SliceCoder", "fixed", "(IIJ)I"⟩ : Cond) ∈ wA := wA_mem 198 (by decide +kernel) (by decide +kernel)
theorem kw_199 : (.code ⟨"SliceCoder", "fixed", "(IIJ)I"⟩ prog_1_method_4_code 6 (some .int) : Cond) ∈ wA := wA_mem 199 (by decide +kernel) (by decide +kernel)
theorem kw_200 : (.methodLink "SliceCoder" 49 ⟨"SliceCoder", "checkRoom", "(LSliceCoder$Form;I)V"⟩ : Cond) ∈ wA := wA_mem 200 (by decide +kernel) (by decide +kernel)
theorem kw_201 : (.static ⟨"SliceCoder", "checkRoom", "(LSliceCoder$Form;I)V"⟩ : Cond) ∈ wA := wA_mem 201 (by decide +kernel) (by decide +kernel)
theorem kw_202 : (.code ⟨"SliceCoder", "checkRoom", "(LSliceCoder$Form;I)V"⟩ prog_1_method_18_code 2 none : Cond) ∈ wA := wA_mem 202 (by decide +kernel) (by decide +kernel)
theorem kw_203 : (.classLink "SliceCoder" 74 "java/lang/IndexOutOfBoundsException" : Cond) ∈ wA := wA_mem 203 (by decide +kernel) (by decide +kernel)
theorem kw_204 : (.instantiable "java/lang/IndexOutOfBoundsException" 6 : Cond) ∈ wA := wA_mem 204 (by decide +kernel) (by decide +kernel)
theorem kw_206 : (.selects "java/lang/IndexOutOfBoundsException" ⟨"java/lang/Throwable", "fillInStackTrace", "(I)Ljava/lang/Throwable;"⟩ ⟨"java/lang/Throwable", "fillInStackTrace", "(I)Ljava/lang/Throwable;"⟩ : Cond) ∈ wA := wA_mem 206 (by decide +kernel) (by decide +kernel)
theorem kw_213 : (.methodLink "SliceCoder" 78 ⟨"java/lang/IndexOutOfBoundsException", "<init>", "(Ljava/lang/String;)V"⟩ : Cond) ∈ wA := wA_mem 213 (by decide +kernel) (by decide +kernel)
theorem kw_214 : (.instanceMethod ⟨"java/lang/IndexOutOfBoundsException", "<init>", "(Ljava/lang/String;)V"⟩ : Cond) ∈ wA := wA_mem 214 (by decide +kernel) (by decide +kernel)
theorem kw_215 : (.code ⟨"java/lang/IndexOutOfBoundsException", "<init>", "(Ljava/lang/String;)V"⟩ prog_9_method_2_code 2 none : Cond) ∈ wA := wA_mem 215 (by decide +kernel) (by decide +kernel)
theorem kw_216 : (.methodLink "java/lang/IndexOutOfBoundsException" 7 ⟨"java/lang/RuntimeException", "<init>", "(Ljava/lang/String;)V"⟩ : Cond) ∈ wA := wA_mem 216 (by decide +kernel) (by decide +kernel)
theorem kw_219 : (.methodLink "SliceCoder" 53 ⟨"SliceCoder$Form", "appendFixed", "(IJ)V"⟩ : Cond) ∈ wA := wA_mem 219 (by decide +kernel) (by decide +kernel)
theorem kw_220 : (.instanceMethod ⟨"SliceCoder$Form", "appendFixed", "(IJ)V"⟩ : Cond) ∈ wA := wA_mem 220 (by decide +kernel) (by decide +kernel)
theorem kw_221 : (.selects "SliceCoder$Form" ⟨"SliceCoder$Form", "appendFixed", "(IJ)V"⟩ ⟨"SliceCoder$Form", "appendFixed", "(IJ)V"⟩ : Cond) ∈ wA := wA_mem 221 (by decide +kernel) (by decide +kernel)
theorem kw_222 : (.code ⟨"SliceCoder$Form", "appendFixed", "(IJ)V"⟩ prog_2_method_5_code 5 none : Cond) ∈ wA := wA_mem 222 (by decide +kernel) (by decide +kernel)
theorem kw_223 : (.methodLink "SliceCoder$Form" 29 ⟨"SliceCoder$Form", "bitOf", "(JI)I"⟩ : Cond) ∈ wA := wA_mem 223 (by decide +kernel) (by decide +kernel)
theorem kw_224 : (.static ⟨"SliceCoder$Form", "bitOf", "(JI)I"⟩ : Cond) ∈ wA := wA_mem 224 (by decide +kernel) (by decide +kernel)
theorem kw_225 : (.code ⟨"SliceCoder$Form", "bitOf", "(JI)I"⟩ prog_2_method_20_code 3 (some .int) : Cond) ∈ wA := wA_mem 225 (by decide +kernel) (by decide +kernel)
theorem kw_226 : (.methodLink "SliceCoder$Form" 33 ⟨"SliceCoder$Form", "append", "(II)V"⟩ : Cond) ∈ wA := wA_mem 226 (by decide +kernel) (by decide +kernel)
theorem kw_228 : (.instanceMethod ⟨"SliceCoder$Form", "append", "(II)V"⟩ : Cond) ∈ wA := wA_mem 228 (by decide +kernel) (by decide +kernel)
theorem kw_229 : (.code ⟨"SliceCoder$Form", "append", "(II)V"⟩ prog_2_method_7_code 3 none : Cond) ∈ wA := wA_mem 229 (by decide +kernel) (by decide +kernel)
theorem kw_230 : (.methodLink "SliceCoderLaw" 89 ⟨"SliceCoderLaw", "slice", "(LSliceCoder;IIII[J)I"⟩ : Cond) ∈ wA := wA_mem 230 (by decide +kernel) (by decide +kernel)
theorem kw_231 : (.static ⟨"SliceCoderLaw", "slice", "(LSliceCoder;IIII[J)I"⟩ : Cond) ∈ wA := wA_mem 231 (by decide +kernel) (by decide +kernel)
theorem kw_232 : (.codeWith ⟨"SliceCoderLaw", "slice", "(LSliceCoder;IIII[J)I"⟩ method_6_code 7 (some .int) [(0, 14, 17, 13), (0, 14, 21, 25), (0, 14, 25, 19)] : Cond) ∈ wA := wA_mem 232 (by decide +kernel) (by decide +kernel)
theorem kw_233 : (.methodLink "SliceCoderLaw" 27 ⟨"SliceCoder", "slice", "(IIII)I"⟩ : Cond) ∈ wA := wA_mem 233 (by decide +kernel) (by decide +kernel)
theorem kw_234 : (.instanceMethod ⟨"SliceCoder", "slice", "(IIII)I"⟩ : Cond) ∈ wA := wA_mem 234 (by decide +kernel) (by decide +kernel)
theorem kw_235 : (.selects "SliceCoder" ⟨"SliceCoder", "slice", "(IIII)I"⟩ ⟨"SliceCoder", "slice", "(IIII)I"⟩ : Cond) ∈ wA := wA_mem 235 (by decide +kernel) (by decide +kernel)
theorem kw_236 : (.code ⟨"SliceCoder", "slice", "(IIII)I"⟩ prog_1_method_5_code 6 (some .int) : Cond) ∈ wA := wA_mem 236 (by decide +kernel) (by decide +kernel)
theorem kw_237 : (.methodLink "SliceCoder" 61 ⟨"SliceCoder", "formWith", "(II)LSliceCoder$Form;"⟩ : Cond) ∈ wA := wA_mem 237 (by decide +kernel) (by decide +kernel)
theorem kw_239 : (.instanceMethod ⟨"SliceCoder", "formWith", "(II)LSliceCoder$Form;"⟩ : Cond) ∈ wA := wA_mem 239 (by decide +kernel) (by decide +kernel)
theorem kw_240 : (.code ⟨"SliceCoder", "formWith", "(II)LSliceCoder$Form;"⟩ prog_1_method_15_code 4 (some (.object "SliceCoder$Form")) : Cond) ∈ wA := wA_mem 240 (by decide +kernel) (by decide +kernel)
theorem kw_244 : (.methodLink "SliceCoder" 79 ⟨"SliceCoder$Form", "holdsAny", "(III)Z"⟩ : Cond) ∈ wA := wA_mem 244 (by decide +kernel) (by decide +kernel)
theorem kw_245 : (.instanceMethod ⟨"SliceCoder$Form", "holdsAny", "(III)Z"⟩ : Cond) ∈ wA := wA_mem 245 (by decide +kernel) (by decide +kernel)
theorem kw_246 : (.selects "SliceCoder$Form" ⟨"SliceCoder$Form", "holdsAny", "(III)Z"⟩ ⟨"SliceCoder$Form", "holdsAny", "(III)Z"⟩ : Cond) ∈ wA := wA_mem 246 (by decide +kernel) (by decide +kernel)
theorem kw_247 : (.code ⟨"SliceCoder$Form", "holdsAny", "(III)Z"⟩ prog_2_method_8_code 5 (some .boolean) : Cond) ∈ wA := wA_mem 247 (by decide +kernel) (by decide +kernel)
theorem kw_249 : (.methodLink "SliceCoder" 85 ⟨"SliceCoder$Form", "appendSlice", "(III)V"⟩ : Cond) ∈ wA := wA_mem 249 (by decide +kernel) (by decide +kernel)
theorem kw_250 : (.instanceMethod ⟨"SliceCoder$Form", "appendSlice", "(III)V"⟩ : Cond) ∈ wA := wA_mem 250 (by decide +kernel) (by decide +kernel)
theorem kw_251 : (.selects "SliceCoder$Form" ⟨"SliceCoder$Form", "appendSlice", "(III)V"⟩ ⟨"SliceCoder$Form", "appendSlice", "(III)V"⟩ : Cond) ∈ wA := wA_mem 251 (by decide +kernel) (by decide +kernel)
theorem kw_252 : (.code ⟨"SliceCoder$Form", "appendSlice", "(III)V"⟩ prog_2_method_6_code 5 none : Cond) ∈ wA := wA_mem 252 (by decide +kernel) (by decide +kernel)
theorem kw_253 : (.methodLink "SliceCoderLaw" 93 ⟨"SliceCoderLaw", "whole", "(LSliceCoder;I[J)I"⟩ : Cond) ∈ wA := wA_mem 253 (by decide +kernel) (by decide +kernel)
theorem kw_254 : (.static ⟨"SliceCoderLaw", "whole", "(LSliceCoder;I[J)I"⟩ : Cond) ∈ wA := wA_mem 254 (by decide +kernel) (by decide +kernel)
theorem kw_255 : (.codeWith ⟨"SliceCoderLaw", "whole", "(LSliceCoder;I[J)I"⟩ method_7_code 4 (some .int) [(0, 16, 19, 13)] : Cond) ∈ wA := wA_mem 255 (by decide +kernel) (by decide +kernel)
theorem kw_256 : (.methodLink "SliceCoderLaw" 31 ⟨"SliceCoder", "whole", "(I)Z"⟩ : Cond) ∈ wA := wA_mem 256 (by decide +kernel) (by decide +kernel)
theorem kw_257 : (.instanceMethod ⟨"SliceCoder", "whole", "(I)Z"⟩ : Cond) ∈ wA := wA_mem 257 (by decide +kernel) (by decide +kernel)
theorem kw_258 : (.selects "SliceCoder" ⟨"SliceCoder", "whole", "(I)Z"⟩ ⟨"SliceCoder", "whole", "(I)Z"⟩ : Cond) ∈ wA := wA_mem 258 (by decide +kernel) (by decide +kernel)
theorem kw_259 : (.code ⟨"SliceCoder", "whole", "(I)Z"⟩ prog_1_method_6_code 2 (some .boolean) : Cond) ∈ wA := wA_mem 259 (by decide +kernel) (by decide +kernel)
theorem kw_260 : (.methodLink "SliceCoder" 89 ⟨"SliceCoder$Form", "isWhole", "()Z"⟩ : Cond) ∈ wA := wA_mem 260 (by decide +kernel) (by decide +kernel)
theorem kw_261 : (.instanceMethod ⟨"SliceCoder$Form", "isWhole", "()Z"⟩ : Cond) ∈ wA := wA_mem 261 (by decide +kernel) (by decide +kernel)
theorem kw_262 : (.selects "SliceCoder$Form" ⟨"SliceCoder$Form", "isWhole", "()Z"⟩ ⟨"SliceCoder$Form", "isWhole", "()Z"⟩ : Cond) ∈ wA := wA_mem 262 (by decide +kernel) (by decide +kernel)
theorem kw_263 : (.code ⟨"SliceCoder$Form", "isWhole", "()Z"⟩ prog_2_method_12_code 1 (some .boolean) : Cond) ∈ wA := wA_mem 263 (by decide +kernel) (by decide +kernel)
theorem kw_264 : (.methodLink "SliceCoder$Form" 41 ⟨"SliceCoder$Form", "missingBits", "()I"⟩ : Cond) ∈ wA := wA_mem 264 (by decide +kernel) (by decide +kernel)
theorem kw_265 : (.instanceMethod ⟨"SliceCoder$Form", "missingBits", "()I"⟩ : Cond) ∈ wA := wA_mem 265 (by decide +kernel) (by decide +kernel)
theorem kw_266 : (.selects "SliceCoder$Form" ⟨"SliceCoder$Form", "missingBits", "()I"⟩ ⟨"SliceCoder$Form", "missingBits", "()I"⟩ : Cond) ∈ wA := wA_mem 266 (by decide +kernel) (by decide +kernel)
theorem kw_267 : (.code ⟨"SliceCoder$Form", "missingBits", "()I"⟩ prog_2_method_11_code 3 (some .int) : Cond) ∈ wA := wA_mem 267 (by decide +kernel) (by decide +kernel)
theorem kw_268 : (.methodLink "SliceCoder$Form" 37 ⟨"SliceCoder$Form", "fixedBits", "()I"⟩ : Cond) ∈ wA := wA_mem 268 (by decide +kernel) (by decide +kernel)
theorem kw_269 : (.instanceMethod ⟨"SliceCoder$Form", "fixedBits", "()I"⟩ : Cond) ∈ wA := wA_mem 269 (by decide +kernel) (by decide +kernel)
theorem kw_270 : (.selects "SliceCoder$Form" ⟨"SliceCoder$Form", "fixedBits", "()I"⟩ ⟨"SliceCoder$Form", "fixedBits", "()I"⟩ : Cond) ∈ wA := wA_mem 270 (by decide +kernel) (by decide +kernel)
theorem kw_271 : (.code ⟨"SliceCoder$Form", "fixedBits", "()I"⟩ prog_2_method_9_code 3 (some .int) : Cond) ∈ wA := wA_mem 271 (by decide +kernel) (by decide +kernel)
theorem kw_272 : (.methodLink "SliceCoderLaw" 97 ⟨"SliceCoderLaw", "number", "(LSliceCoder;IJ)I"⟩ : Cond) ∈ wA := wA_mem 272 (by decide +kernel) (by decide +kernel)
theorem kw_273 : (.static ⟨"SliceCoderLaw", "number", "(LSliceCoder;IJ)I"⟩ : Cond) ∈ wA := wA_mem 273 (by decide +kernel) (by decide +kernel)
theorem kw_274 : (.codeWith ⟨"SliceCoderLaw", "number", "(LSliceCoder;IJ)I"⟩ method_8_code 5 (some .int) [(0, 6, 9, 13)] : Cond) ∈ wA := wA_mem 274 (by decide +kernel) (by decide +kernel)
theorem kw_275 : (.methodLink "SliceCoderLaw" 35 ⟨"SliceCoder", "number", "(IJ)V"⟩ : Cond) ∈ wA := wA_mem 275 (by decide +kernel) (by decide +kernel)
theorem kw_276 : (.instanceMethod ⟨"SliceCoder", "number", "(IJ)V"⟩ : Cond) ∈ wA := wA_mem 276 (by decide +kernel) (by decide +kernel)
theorem kw_277 : (.selects "SliceCoder" ⟨"SliceCoder", "number", "(IJ)V"⟩ ⟨"SliceCoder", "number", "(IJ)V"⟩ : Cond) ∈ wA := wA_mem 277 (by decide +kernel) (by decide +kernel)
theorem kw_278 : (.code ⟨"SliceCoder", "number", "(IJ)V"⟩ prog_1_method_7_code 4 none : Cond) ∈ wA := wA_mem 278 (by decide +kernel) (by decide +kernel)
theorem kw_279 : (.methodLink "SliceCoderLaw" 101 ⟨"SliceCoderLaw", "fits", "(LSliceCoder;IIJ[J)I"⟩ : Cond) ∈ wA := wA_mem 279 (by decide +kernel) (by decide +kernel)
theorem kw_280 : (.static ⟨"SliceCoderLaw", "fits", "(LSliceCoder;IIJ[J)I"⟩ : Cond) ∈ wA := wA_mem 280 (by decide +kernel) (by decide +kernel)
theorem kw_281 : (.codeWith ⟨"SliceCoderLaw", "fits", "(LSliceCoder;IIJ[J)I"⟩ method_9_code 7 (some .int) [(0, 19, 22, 13)] : Cond) ∈ wA := wA_mem 281 (by decide +kernel) (by decide +kernel)
theorem kw_282 : (.methodLink "SliceCoderLaw" 39 ⟨"SliceCoder", "fits", "(IIJ)Z"⟩ : Cond) ∈ wA := wA_mem 282 (by decide +kernel) (by decide +kernel)
theorem kw_283 : (.instanceMethod ⟨"SliceCoder", "fits", "(IIJ)Z"⟩ : Cond) ∈ wA := wA_mem 283 (by decide +kernel) (by decide +kernel)
theorem kw_284 : (.selects "SliceCoder" ⟨"SliceCoder", "fits", "(IIJ)Z"⟩ ⟨"SliceCoder", "fits", "(IIJ)Z"⟩ : Cond) ∈ wA := wA_mem 284 (by decide +kernel) (by decide +kernel)
theorem kw_285 : (.code ⟨"SliceCoder", "fits", "(IIJ)Z"⟩ prog_1_method_8_code 5 (some .boolean) : Cond) ∈ wA := wA_mem 285 (by decide +kernel) (by decide +kernel)
theorem kw_286 : (.methodLink "SliceCoder" 93 ⟨"SliceCoder$Form", "canBe", "(IJ)Z"⟩ : Cond) ∈ wA := wA_mem 286 (by decide +kernel) (by decide +kernel)
theorem kw_287 : (.instanceMethod ⟨"SliceCoder$Form", "canBe", "(IJ)Z"⟩ : Cond) ∈ wA := wA_mem 287 (by decide +kernel) (by decide +kernel)
theorem kw_288 : (.selects "SliceCoder$Form" ⟨"SliceCoder$Form", "canBe", "(IJ)Z"⟩ ⟨"SliceCoder$Form", "canBe", "(IJ)Z"⟩ : Cond) ∈ wA := wA_mem 288 (by decide +kernel) (by decide +kernel)
theorem kw_289 : (.code ⟨"SliceCoder$Form", "canBe", "(IJ)Z"⟩ prog_2_method_13_code 7 (some .boolean) : Cond) ∈ wA := wA_mem 289 (by decide +kernel) (by decide +kernel)
theorem kw_290 : (.constantLong "SliceCoder$Form" 44 (-1) : Cond) ∈ wA := wA_mem 290 (by decide +kernel) (by decide +kernel)
theorem kw_291 : (.methodLink "SliceCoderLaw" 104 ⟨"SliceCoderLaw", "encode", "(LSliceCoder;I[J)I"⟩ : Cond) ∈ wA := wA_mem 291 (by decide +kernel) (by decide +kernel)
theorem kw_292 : (.static ⟨"SliceCoderLaw", "encode", "(LSliceCoder;I[J)I"⟩ : Cond) ∈ wA := wA_mem 292 (by decide +kernel) (by decide +kernel)
theorem kw_293 : (.codeWith ⟨"SliceCoderLaw", "encode", "(LSliceCoder;I[J)I"⟩ method_10_code 4 (some .int) [(0, 8, 11, 13), (0, 8, 14, 19), (0, 8, 17, 47)] : Cond) ∈ wA := wA_mem 293 (by decide +kernel) (by decide +kernel)
theorem kw_294 : (.classLink "SliceCoderLaw" 47 "java/lang/ArithmeticException" : Cond) ∈ wA := wA_mem 294 (by decide +kernel) (by decide +kernel)
theorem kw_295 : (.methodLink "SliceCoderLaw" 43 ⟨"SliceCoder", "encode", "(I)J"⟩ : Cond) ∈ wA := wA_mem 295 (by decide +kernel) (by decide +kernel)
theorem kw_296 : (.instanceMethod ⟨"SliceCoder", "encode", "(I)J"⟩ : Cond) ∈ wA := wA_mem 296 (by decide +kernel) (by decide +kernel)
theorem kw_297 : (.selects "SliceCoder" ⟨"SliceCoder", "encode", "(I)J"⟩ ⟨"SliceCoder", "encode", "(I)J"⟩ : Cond) ∈ wA := wA_mem 297 (by decide +kernel) (by decide +kernel)
theorem kw_298 : (.code ⟨"SliceCoder", "encode", "(I)J"⟩ prog_1_method_9_code 3 (some .long) : Cond) ∈ wA := wA_mem 298 (by decide +kernel) (by decide +kernel)
theorem kw_299 : (.methodLink "SliceCoder" 97 ⟨"SliceCoder", "checkWhole", "(LSliceCoder$Form;)V"⟩ : Cond) ∈ wA := wA_mem 299 (by decide +kernel) (by decide +kernel)
theorem kw_300 : (.static ⟨"SliceCoder", "checkWhole", "(LSliceCoder$Form;)V"⟩ : Cond) ∈ wA := wA_mem 300 (by decide +kernel) (by decide +kernel)
theorem kw_301 : (.code ⟨"SliceCoder", "checkWhole", "(LSliceCoder$Form;)V"⟩ prog_1_method_19_code 1 none : Cond) ∈ wA := wA_mem 301 (by decide +kernel) (by decide +kernel)
theorem kw_303 : (.methodLink "SliceCoder" 101 ⟨"SliceCoder$Form", "canBeAll", "([J)Z"⟩ : Cond) ∈ wA := wA_mem 303 (by decide +kernel) (by decide +kernel)
theorem kw_304 : (.instanceMethod ⟨"SliceCoder$Form", "canBeAll", "([J)Z"⟩ : Cond) ∈ wA := wA_mem 304 (by decide +kernel) (by decide +kernel)
theorem kw_305 : (.selects "SliceCoder$Form" ⟨"SliceCoder$Form", "canBeAll", "([J)Z"⟩ ⟨"SliceCoder$Form", "canBeAll", "([J)Z"⟩ : Cond) ∈ wA := wA_mem 305 (by decide +kernel) (by decide +kernel)
theorem kw_306 : (.code ⟨"SliceCoder$Form", "canBeAll", "([J)Z"⟩ prog_2_method_14_code 3 (some .boolean) : Cond) ∈ wA := wA_mem 306 (by decide +kernel) (by decide +kernel)
theorem kw_307 : (.methodLink "SliceCoder$Form" 46 ⟨"SliceCoder$Form", "canBe", "(IJ)Z"⟩ : Cond) ∈ wA := wA_mem 307 (by decide +kernel) (by decide +kernel)
theorem kw_308 : (.classLink "SliceCoder" 105 "java/lang/ArithmeticException" : Cond) ∈ wA := wA_mem 308 (by decide +kernel) (by decide +kernel)
theorem kw_309 : (.instantiable "java/lang/ArithmeticException" 6 : Cond) ∈ wA := wA_mem 309 (by decide +kernel) (by decide +kernel)
theorem kw_311 : (.selects "java/lang/ArithmeticException" ⟨"java/lang/Throwable", "fillInStackTrace", "(I)Ljava/lang/Throwable;"⟩ ⟨"java/lang/Throwable", "fillInStackTrace", "(I)Ljava/lang/Throwable;"⟩ : Cond) ∈ wA := wA_mem 311 (by decide +kernel) (by decide +kernel)
theorem kw_318 : (.methodLink "SliceCoder" 109 ⟨"java/lang/ArithmeticException", "<init>", "(Ljava/lang/String;)V"⟩ : Cond) ∈ wA := wA_mem 318 (by decide +kernel) (by decide +kernel)
theorem kw_319 : (.instanceMethod ⟨"java/lang/ArithmeticException", "<init>", "(Ljava/lang/String;)V"⟩ : Cond) ∈ wA := wA_mem 319 (by decide +kernel) (by decide +kernel)
theorem kw_320 : (.code ⟨"java/lang/ArithmeticException", "<init>", "(Ljava/lang/String;)V"⟩ prog_5_method_2_code 2 none : Cond) ∈ wA := wA_mem 320 (by decide +kernel) (by decide +kernel)
theorem kw_321 : (.methodLink "java/lang/ArithmeticException" 7 ⟨"java/lang/RuntimeException", "<init>", "(Ljava/lang/String;)V"⟩ : Cond) ∈ wA := wA_mem 321 (by decide +kernel) (by decide +kernel)
theorem kw_324 : (.methodLink "SliceCoder" 110 ⟨"SliceCoder$Form", "wordOf", "([J)J"⟩ : Cond) ∈ wA := wA_mem 324 (by decide +kernel) (by decide +kernel)
theorem kw_325 : (.instanceMethod ⟨"SliceCoder$Form", "wordOf", "([J)J"⟩ : Cond) ∈ wA := wA_mem 325 (by decide +kernel) (by decide +kernel)
theorem kw_326 : (.selects "SliceCoder$Form" ⟨"SliceCoder$Form", "wordOf", "([J)J"⟩ ⟨"SliceCoder$Form", "wordOf", "([J)J"⟩ : Cond) ∈ wA := wA_mem 326 (by decide +kernel) (by decide +kernel)
theorem kw_327 : (.code ⟨"SliceCoder$Form", "wordOf", "([J)J"⟩ prog_2_method_15_code 6 (some .long) : Cond) ∈ wA := wA_mem 327 (by decide +kernel) (by decide +kernel)
theorem kw_328 : (.methodLink "SliceCoderLaw" 107 ⟨"SliceCoderLaw", "is", "(LSliceCoder;IJ[J)I"⟩ : Cond) ∈ wA := wA_mem 328 (by decide +kernel) (by decide +kernel)
theorem kw_329 : (.static ⟨"SliceCoderLaw", "is", "(LSliceCoder;IJ[J)I"⟩ : Cond) ∈ wA := wA_mem 329 (by decide +kernel) (by decide +kernel)
theorem kw_330 : (.codeWith ⟨"SliceCoderLaw", "is", "(LSliceCoder;IJ[J)I"⟩ method_11_code 6 (some .int) [(0, 18, 21, 13)] : Cond) ∈ wA := wA_mem 330 (by decide +kernel) (by decide +kernel)
theorem kw_331 : (.methodLink "SliceCoderLaw" 49 ⟨"SliceCoder", "is", "(IJ)Z"⟩ : Cond) ∈ wA := wA_mem 331 (by decide +kernel) (by decide +kernel)
theorem kw_332 : (.instanceMethod ⟨"SliceCoder", "is", "(IJ)Z"⟩ : Cond) ∈ wA := wA_mem 332 (by decide +kernel) (by decide +kernel)
theorem kw_333 : (.selects "SliceCoder" ⟨"SliceCoder", "is", "(IJ)Z"⟩ ⟨"SliceCoder", "is", "(IJ)Z"⟩ : Cond) ∈ wA := wA_mem 333 (by decide +kernel) (by decide +kernel)
theorem kw_334 : (.code ⟨"SliceCoder", "is", "(IJ)Z"⟩ prog_1_method_10_code 4 (some .boolean) : Cond) ∈ wA := wA_mem 334 (by decide +kernel) (by decide +kernel)
theorem kw_335 : (.methodLink "SliceCoder" 114 ⟨"SliceCoder$Form", "matches", "(J)Z"⟩ : Cond) ∈ wA := wA_mem 335 (by decide +kernel) (by decide +kernel)
theorem kw_336 : (.instanceMethod ⟨"SliceCoder$Form", "matches", "(J)Z"⟩ : Cond) ∈ wA := wA_mem 336 (by decide +kernel) (by decide +kernel)
theorem kw_337 : (.selects "SliceCoder$Form" ⟨"SliceCoder$Form", "matches", "(J)Z"⟩ ⟨"SliceCoder$Form", "matches", "(J)Z"⟩ : Cond) ∈ wA := wA_mem 337 (by decide +kernel) (by decide +kernel)
theorem kw_338 : (.code ⟨"SliceCoder$Form", "matches", "(J)Z"⟩ prog_2_method_17_code 4 (some .boolean) : Cond) ∈ wA := wA_mem 338 (by decide +kernel) (by decide +kernel)
theorem kw_339 : (.methodLink "SliceCoder$Form" 50 ⟨"SliceCoder$Form", "allows", "(II)Z"⟩ : Cond) ∈ wA := wA_mem 339 (by decide +kernel) (by decide +kernel)
theorem kw_341 : (.instanceMethod ⟨"SliceCoder$Form", "allows", "(II)Z"⟩ : Cond) ∈ wA := wA_mem 341 (by decide +kernel) (by decide +kernel)
theorem kw_342 : (.code ⟨"SliceCoder$Form", "allows", "(II)Z"⟩ prog_2_method_19_code 4 (some .boolean) : Cond) ∈ wA := wA_mem 342 (by decide +kernel) (by decide +kernel)
theorem kw_343 : (.methodLink "SliceCoderLaw" 111 ⟨"SliceCoderLaw", "decode", "(LSliceCoder;IIJ[J)I"⟩ : Cond) ∈ wA := wA_mem 343 (by decide +kernel) (by decide +kernel)
theorem kw_344 : (.static ⟨"SliceCoderLaw", "decode", "(LSliceCoder;IIJ[J)I"⟩ : Cond) ∈ wA := wA_mem 344 (by decide +kernel) (by decide +kernel)
theorem kw_345 : (.codeWith ⟨"SliceCoderLaw", "decode", "(LSliceCoder;IIJ[J)I"⟩ method_12_code 7 (some .int) [(0, 11, 14, 13), (0, 11, 18, 19), (0, 11, 22, 47)] : Cond) ∈ wA := wA_mem 345 (by decide +kernel) (by decide +kernel)
theorem kw_346 : (.methodLink "SliceCoderLaw" 53 ⟨"SliceCoder", "decode", "(IIJ)J"⟩ : Cond) ∈ wA := wA_mem 346 (by decide +kernel) (by decide +kernel)
theorem kw_347 : (.instanceMethod ⟨"SliceCoder", "decode", "(IIJ)J"⟩ : Cond) ∈ wA := wA_mem 347 (by decide +kernel) (by decide +kernel)
theorem kw_348 : (.selects "SliceCoder" ⟨"SliceCoder", "decode", "(IIJ)J"⟩ ⟨"SliceCoder", "decode", "(IIJ)J"⟩ : Cond) ∈ wA := wA_mem 348 (by decide +kernel) (by decide +kernel)
theorem kw_349 : (.code ⟨"SliceCoder", "decode", "(IIJ)J"⟩ prog_1_method_11_code 6 (some .long) : Cond) ∈ wA := wA_mem 349 (by decide +kernel) (by decide +kernel)
theorem kw_351 : (.methodLink "SliceCoder" 120 ⟨"SliceCoder$Form", "numberIn", "(IJ)J"⟩ : Cond) ∈ wA := wA_mem 351 (by decide +kernel) (by decide +kernel)
theorem kw_352 : (.instanceMethod ⟨"SliceCoder$Form", "numberIn", "(IJ)J"⟩ : Cond) ∈ wA := wA_mem 352 (by decide +kernel) (by decide +kernel)
theorem kw_353 : (.selects "SliceCoder$Form" ⟨"SliceCoder$Form", "numberIn", "(IJ)J"⟩ ⟨"SliceCoder$Form", "numberIn", "(IJ)J"⟩ : Cond) ∈ wA := wA_mem 353 (by decide +kernel) (by decide +kernel)
theorem kw_354 : (.code ⟨"SliceCoder$Form", "numberIn", "(IJ)J"⟩ prog_2_method_16_code 7 (some .long) : Cond) ∈ wA := wA_mem 354 (by decide +kernel) (by decide +kernel)
theorem kw_355 : (.methodLink "SliceCoderLaw" 114 ⟨"SliceCoderLaw", "meet", "(LSliceCoder;II[J)I"⟩ : Cond) ∈ wA := wA_mem 355 (by decide +kernel) (by decide +kernel)
theorem kw_356 : (.static ⟨"SliceCoderLaw", "meet", "(LSliceCoder;II[J)I"⟩ : Cond) ∈ wA := wA_mem 356 (by decide +kernel) (by decide +kernel)
theorem kw_357 : (.codeWith ⟨"SliceCoderLaw", "meet", "(LSliceCoder;II[J)I"⟩ method_13_code 5 (some .int) [(0, 17, 20, 13)] : Cond) ∈ wA := wA_mem 357 (by decide +kernel) (by decide +kernel)
theorem kw_358 : (.methodLink "SliceCoderLaw" 57 ⟨"SliceCoder", "meet", "(II)Z"⟩ : Cond) ∈ wA := wA_mem 358 (by decide +kernel) (by decide +kernel)
theorem kw_359 : (.instanceMethod ⟨"SliceCoder", "meet", "(II)Z"⟩ : Cond) ∈ wA := wA_mem 359 (by decide +kernel) (by decide +kernel)
theorem kw_360 : (.selects "SliceCoder" ⟨"SliceCoder", "meet", "(II)Z"⟩ ⟨"SliceCoder", "meet", "(II)Z"⟩ : Cond) ∈ wA := wA_mem 360 (by decide +kernel) (by decide +kernel)
theorem kw_361 : (.code ⟨"SliceCoder", "meet", "(II)Z"⟩ prog_1_method_12_code 3 (some .boolean) : Cond) ∈ wA := wA_mem 361 (by decide +kernel) (by decide +kernel)
theorem kw_362 : (.methodLink "SliceCoder" 124 ⟨"SliceCoder$Form", "sharesWordWith", "(LSliceCoder$Form;)Z"⟩ : Cond) ∈ wA := wA_mem 362 (by decide +kernel) (by decide +kernel)
theorem kw_363 : (.instanceMethod ⟨"SliceCoder$Form", "sharesWordWith", "(LSliceCoder$Form;)Z"⟩ : Cond) ∈ wA := wA_mem 363 (by decide +kernel) (by decide +kernel)
theorem kw_364 : (.selects "SliceCoder$Form" ⟨"SliceCoder$Form", "sharesWordWith", "(LSliceCoder$Form;)Z"⟩ ⟨"SliceCoder$Form", "sharesWordWith", "(LSliceCoder$Form;)Z"⟩ : Cond) ∈ wA := wA_mem 364 (by decide +kernel) (by decide +kernel)
theorem kw_365 : (.code ⟨"SliceCoder$Form", "sharesWordWith", "(LSliceCoder$Form;)Z"⟩ prog_2_method_18_code 5 (some .boolean) : Cond) ∈ wA := wA_mem 365 (by decide +kernel) (by decide +kernel)
theorem kw_366 : (.methodLink "SliceCoderLaw" 118 ⟨"SliceCoderLaw", "count", "(LSliceCoder;II[J)I"⟩ : Cond) ∈ wA := wA_mem 366 (by decide +kernel) (by decide +kernel)
theorem kw_367 : (.static ⟨"SliceCoderLaw", "count", "(LSliceCoder;II[J)I"⟩ : Cond) ∈ wA := wA_mem 367 (by decide +kernel) (by decide +kernel)
theorem kw_368 : (.codeWith ⟨"SliceCoderLaw", "count", "(LSliceCoder;II[J)I"⟩ method_14_code 5 (some .int) [(0, 10, 13, 13)] : Cond) ∈ wA := wA_mem 368 (by decide +kernel) (by decide +kernel)
theorem kw_369 : (.methodLink "SliceCoderLaw" 61 ⟨"SliceCoder", "count", "(II)I"⟩ : Cond) ∈ wA := wA_mem 369 (by decide +kernel) (by decide +kernel)
theorem kw_370 : (.instanceMethod ⟨"SliceCoder", "count", "(II)I"⟩ : Cond) ∈ wA := wA_mem 370 (by decide +kernel) (by decide +kernel)
theorem kw_371 : (.selects "SliceCoder" ⟨"SliceCoder", "count", "(II)I"⟩ ⟨"SliceCoder", "count", "(II)I"⟩ : Cond) ∈ wA := wA_mem 371 (by decide +kernel) (by decide +kernel)
theorem kw_372 : (.code ⟨"SliceCoder", "count", "(II)I"⟩ prog_1_method_13_code 4 (some .int) : Cond) ∈ wA := wA_mem 372 (by decide +kernel) (by decide +kernel)
theorem kw_373 : (.methodLink "SliceCoder" 128 ⟨"SliceCoder$Form", "fixedBits", "()I"⟩ : Cond) ∈ wA := wA_mem 373 (by decide +kernel) (by decide +kernel)
theorem kw_374 : (.methodLink "SliceCoder" 132 ⟨"SliceCoder$Form", "operands", "()I"⟩ : Cond) ∈ wA := wA_mem 374 (by decide +kernel) (by decide +kernel)
theorem kw_375 : (.instanceMethod ⟨"SliceCoder$Form", "operands", "()I"⟩ : Cond) ∈ wA := wA_mem 375 (by decide +kernel) (by decide +kernel)
theorem kw_376 : (.selects "SliceCoder$Form" ⟨"SliceCoder$Form", "operands", "()I"⟩ ⟨"SliceCoder$Form", "operands", "()I"⟩ : Cond) ∈ wA := wA_mem 376 (by decide +kernel) (by decide +kernel)
theorem kw_377 : (.code ⟨"SliceCoder$Form", "operands", "()I"⟩ prog_2_method_10_code 3 (some .int) : Cond) ∈ wA := wA_mem 377 (by decide +kernel) (by decide +kernel)
theorem kw_378 : (.methodLink "SliceCoder" 135 ⟨"SliceCoder$Form", "missingBits", "()I"⟩ : Cond) ∈ wA := wA_mem 378 (by decide +kernel) (by decide +kernel)
theorem kw_380 : (.classLink "SliceCoderLaw" 66 "SliceCoderModel" : Cond) ∈ wA := wA_mem 380 (by decide +kernel) (by decide +kernel)
theorem kw_381 : (.instantiable "SliceCoderModel" 6 : Cond) ∈ wA := wA_mem 381 (by decide +kernel) (by decide +kernel)
theorem kw_382 : (.methodLink "SliceCoderLaw" 68 ⟨"SliceCoderModel", "<init>", "()V"⟩ : Cond) ∈ wA := wA_mem 382 (by decide +kernel) (by decide +kernel)
theorem kw_383 : (.instanceMethod ⟨"SliceCoderModel", "<init>", "()V"⟩ : Cond) ∈ wA := wA_mem 383 (by decide +kernel) (by decide +kernel)
theorem kw_384 : (.code ⟨"SliceCoderModel", "<init>", "()V"⟩ prog_4_method_1_code 1 none : Cond) ∈ wA := wA_mem 384 (by decide +kernel) (by decide +kernel)
theorem kw_385 : (.methodLink "SliceCoderModel" 1 ⟨"java/lang/Object", "<init>", "()V"⟩ : Cond) ∈ wA := wA_mem 385 (by decide +kernel) (by decide +kernel)
theorem kw_386 : (.fieldLink "SliceCoderModel" 27 "SliceCoderModel" "err" "I" : Cond) ∈ wA := wA_mem 386 (by decide +kernel) (by decide +kernel)
theorem kw_387 : (.fieldLink "SliceCoderModel" 9 "SliceCoderModel" "length" "[I" : Cond) ∈ wA := wA_mem 387 (by decide +kernel) (by decide +kernel)
theorem kw_388 : (.fieldLink "SliceCoderModel" 13 "SliceCoderModel" "what" "[I" : Cond) ∈ wA := wA_mem 388 (by decide +kernel) (by decide +kernel)
theorem kw_389 : (.fieldLink "SliceCoderModel" 16 "SliceCoderModel" "bits" "[I" : Cond) ∈ wA := wA_mem 389 (by decide +kernel) (by decide +kernel)
theorem kw_390 : (.fieldLink "SliceCoderModel" 19 "SliceCoderModel" "signed" "[Z" : Cond) ∈ wA := wA_mem 390 (by decide +kernel) (by decide +kernel)
theorem kw_391 : (.fieldLink "SliceCoderModel" 23 "SliceCoderModel" "numbers" "[J" : Cond) ∈ wA := wA_mem 391 (by decide +kernel) (by decide +kernel)
theorem kw_405 : (.methodLink "SliceCoderLaw" 75 ⟨"SliceCoderModel", "thrown", "()I"⟩ : Cond) ∈ wA := wA_mem 405 (by decide +kernel) (by decide +kernel)
theorem kw_406 : (.instanceMethod ⟨"SliceCoderModel", "thrown", "()I"⟩ : Cond) ∈ wA := wA_mem 406 (by decide +kernel) (by decide +kernel)
theorem kw_407 : (.selects "SliceCoderModel" ⟨"SliceCoderModel", "thrown", "()I"⟩ ⟨"SliceCoderModel", "thrown", "()I"⟩ : Cond) ∈ wA := wA_mem 407 (by decide +kernel) (by decide +kernel)
theorem kw_408 : (.code ⟨"SliceCoderModel", "thrown", "()I"⟩ prog_4_method_2_code 1 (some .int) : Cond) ∈ wA := wA_mem 408 (by decide +kernel) (by decide +kernel)
theorem kw_409 : (.methodLink "SliceCoderLaw" 74 ⟨"SliceCoderModel", "clear", "(I)V"⟩ : Cond) ∈ wA := wA_mem 409 (by decide +kernel) (by decide +kernel)
theorem kw_410 : (.instanceMethod ⟨"SliceCoderModel", "clear", "(I)V"⟩ : Cond) ∈ wA := wA_mem 410 (by decide +kernel) (by decide +kernel)
theorem kw_411 : (.selects "SliceCoderModel" ⟨"SliceCoderModel", "clear", "(I)V"⟩ ⟨"SliceCoderModel", "clear", "(I)V"⟩ : Cond) ∈ wA := wA_mem 411 (by decide +kernel) (by decide +kernel)
theorem kw_412 : (.code ⟨"SliceCoderModel", "clear", "(I)V"⟩ prog_4_method_12_code 3 none : Cond) ∈ wA := wA_mem 412 (by decide +kernel) (by decide +kernel)
theorem kw_413 : (.methodLink "SliceCoderModel" 39 ⟨"SliceCoderModel", "isForm", "(I)Z"⟩ : Cond) ∈ wA := wA_mem 413 (by decide +kernel) (by decide +kernel)
theorem kw_414 : (.static ⟨"SliceCoderModel", "isForm", "(I)Z"⟩ : Cond) ∈ wA := wA_mem 414 (by decide +kernel) (by decide +kernel)
theorem kw_415 : (.code ⟨"SliceCoderModel", "isForm", "(I)Z"⟩ prog_4_method_5_code 1 (some .boolean) : Cond) ∈ wA := wA_mem 415 (by decide +kernel) (by decide +kernel)
theorem kw_416 : (.constantLong "SliceCoderModel" 31 7 : Cond) ∈ wA := wA_mem 416 (by decide +kernel) (by decide +kernel)
theorem kw_417 : (.methodLink "SliceCoderModel" 33 ⟨"SliceCoderModel", "in", "(JJJ)Z"⟩ : Cond) ∈ wA := wA_mem 417 (by decide +kernel) (by decide +kernel)
theorem kw_418 : (.static ⟨"SliceCoderModel", "in", "(JJJ)Z"⟩ : Cond) ∈ wA := wA_mem 418 (by decide +kernel) (by decide +kernel)
theorem kw_419 : (.code ⟨"SliceCoderModel", "in", "(JJJ)Z"⟩ prog_4_method_3_code 6 (some .boolean) : Cond) ∈ wA := wA_mem 419 (by decide +kernel) (by decide +kernel)
theorem kw_420 : (.methodLink "SliceCoderModel" 46 ⟨"SliceCoderModel", "fails", "(ZI)Z"⟩ : Cond) ∈ wA := wA_mem 420 (by decide +kernel) (by decide +kernel)
theorem kw_422 : (.instanceMethod ⟨"SliceCoderModel", "fails", "(ZI)Z"⟩ : Cond) ∈ wA := wA_mem 422 (by decide +kernel) (by decide +kernel)
theorem kw_423 : (.code ⟨"SliceCoderModel", "fails", "(ZI)Z"⟩ prog_4_method_4_code 3 (some .boolean) : Cond) ∈ wA := wA_mem 423 (by decide +kernel) (by decide +kernel)
theorem kw_424 : (.methodLink "SliceCoderLaw" 82 ⟨"SliceCoderModel", "operand", "(IIIZ)V"⟩ : Cond) ∈ wA := wA_mem 424 (by decide +kernel) (by decide +kernel)
theorem kw_425 : (.instanceMethod ⟨"SliceCoderModel", "operand", "(IIIZ)V"⟩ : Cond) ∈ wA := wA_mem 425 (by decide +kernel) (by decide +kernel)
theorem kw_426 : (.selects "SliceCoderModel" ⟨"SliceCoderModel", "operand", "(IIIZ)V"⟩ ⟨"SliceCoderModel", "operand", "(IIIZ)V"⟩ : Cond) ∈ wA := wA_mem 426 (by decide +kernel) (by decide +kernel)
theorem kw_427 : (.code ⟨"SliceCoderModel", "operand", "(IIIZ)V"⟩ prog_4_method_13_code 5 none : Cond) ∈ wA := wA_mem 427 (by decide +kernel) (by decide +kernel)
theorem kw_428 : (.methodLink "SliceCoderModel" 43 ⟨"SliceCoderModel", "isOperand", "(I)Z"⟩ : Cond) ∈ wA := wA_mem 428 (by decide +kernel) (by decide +kernel)
theorem kw_429 : (.static ⟨"SliceCoderModel", "isOperand", "(I)Z"⟩ : Cond) ∈ wA := wA_mem 429 (by decide +kernel) (by decide +kernel)
theorem kw_430 : (.code ⟨"SliceCoderModel", "isOperand", "(I)Z"⟩ prog_4_method_6_code 1 (some .boolean) : Cond) ∈ wA := wA_mem 430 (by decide +kernel) (by decide +kernel)
theorem kw_431 : (.constantLong "SliceCoderModel" 37 5 : Cond) ∈ wA := wA_mem 431 (by decide +kernel) (by decide +kernel)
theorem kw_432 : (.constantLong "SliceCoderModel" 50 64 : Cond) ∈ wA := wA_mem 432 (by decide +kernel) (by decide +kernel)
theorem kw_433 : (.methodLink "SliceCoderModel" 52 ⟨"SliceCoderModel", "many", "(II)I"⟩ : Cond) ∈ wA := wA_mem 433 (by decide +kernel) (by decide +kernel)
theorem kw_435 : (.instanceMethod ⟨"SliceCoderModel", "many", "(II)I"⟩ : Cond) ∈ wA := wA_mem 435 (by decide +kernel) (by decide +kernel)
theorem kw_436 : (.code ⟨"SliceCoderModel", "many", "(II)I"⟩ prog_4_method_8_code 3 (some .int) : Cond) ∈ wA := wA_mem 436 (by decide +kernel) (by decide +kernel)
theorem kw_437 : (.methodLink "SliceCoderLaw" 88 ⟨"SliceCoderModel", "fixed", "(IIJ)I"⟩ : Cond) ∈ wA := wA_mem 437 (by decide +kernel) (by decide +kernel)
theorem kw_438 : (.instanceMethod ⟨"SliceCoderModel", "fixed", "(IIJ)I"⟩ : Cond) ∈ wA := wA_mem 438 (by decide +kernel) (by decide +kernel)
theorem kw_439 : (.selects "SliceCoderModel" ⟨"SliceCoderModel", "fixed", "(IIJ)I"⟩ ⟨"SliceCoderModel", "fixed", "(IIJ)I"⟩ : Cond) ∈ wA := wA_mem 439 (by decide +kernel) (by decide +kernel)
theorem kw_440 : (.code ⟨"SliceCoderModel", "fixed", "(IIJ)I"⟩ prog_4_method_14_code 6 (some .int) : Cond) ∈ wA := wA_mem 440 (by decide +kernel) (by decide +kernel)
theorem kw_441 : (.methodLink "SliceCoderModel" 56 ⟨"SliceCoderModel", "bit", "(JI)I"⟩ : Cond) ∈ wA := wA_mem 441 (by decide +kernel) (by decide +kernel)
theorem kw_442 : (.static ⟨"SliceCoderModel", "bit", "(JI)I"⟩ : Cond) ∈ wA := wA_mem 442 (by decide +kernel) (by decide +kernel)
theorem kw_443 : (.code ⟨"SliceCoderModel", "bit", "(JI)I"⟩ prog_4_method_11_code 3 (some .int) : Cond) ∈ wA := wA_mem 443 (by decide +kernel) (by decide +kernel)
theorem kw_444 : (.methodLink "SliceCoderLaw" 92 ⟨"SliceCoderModel", "slice", "(IIII)I"⟩ : Cond) ∈ wA := wA_mem 444 (by decide +kernel) (by decide +kernel)
theorem kw_445 : (.instanceMethod ⟨"SliceCoderModel", "slice", "(IIII)I"⟩ : Cond) ∈ wA := wA_mem 445 (by decide +kernel) (by decide +kernel)
theorem kw_446 : (.selects "SliceCoderModel" ⟨"SliceCoderModel", "slice", "(IIII)I"⟩ ⟨"SliceCoderModel", "slice", "(IIII)I"⟩ : Cond) ∈ wA := wA_mem 446 (by decide +kernel) (by decide +kernel)
theorem kw_447 : (.code ⟨"SliceCoderModel", "slice", "(IIII)I"⟩ prog_4_method_15_code 6 (some .int) : Cond) ∈ wA := wA_mem 447 (by decide +kernel) (by decide +kernel)
theorem kw_448 : (.methodLink "SliceCoderModel" 60 ⟨"SliceCoderModel", "isThere", "(II)Z"⟩ : Cond) ∈ wA := wA_mem 448 (by decide +kernel) (by decide +kernel)
theorem kw_450 : (.instanceMethod ⟨"SliceCoderModel", "isThere", "(II)Z"⟩ : Cond) ∈ wA := wA_mem 450 (by decide +kernel) (by decide +kernel)
theorem kw_451 : (.code ⟨"SliceCoderModel", "isThere", "(II)Z"⟩ prog_4_method_7_code 3 (some .boolean) : Cond) ∈ wA := wA_mem 451 (by decide +kernel) (by decide +kernel)
theorem kw_452 : (.methodLink "SliceCoderModel" 64 ⟨"SliceCoderModel", "place", "(III)I"⟩ : Cond) ∈ wA := wA_mem 452 (by decide +kernel) (by decide +kernel)
theorem kw_454 : (.instanceMethod ⟨"SliceCoderModel", "place", "(III)I"⟩ : Cond) ∈ wA := wA_mem 454 (by decide +kernel) (by decide +kernel)
theorem kw_455 : (.code ⟨"SliceCoderModel", "place", "(III)I"⟩ prog_4_method_9_code 5 (some .int) : Cond) ∈ wA := wA_mem 455 (by decide +kernel) (by decide +kernel)
theorem kw_456 : (.methodLink "SliceCoderLaw" 96 ⟨"SliceCoderModel", "whole", "(I)Z"⟩ : Cond) ∈ wA := wA_mem 456 (by decide +kernel) (by decide +kernel)
theorem kw_457 : (.instanceMethod ⟨"SliceCoderModel", "whole", "(I)Z"⟩ : Cond) ∈ wA := wA_mem 457 (by decide +kernel) (by decide +kernel)
theorem kw_458 : (.selects "SliceCoderModel" ⟨"SliceCoderModel", "whole", "(I)Z"⟩ ⟨"SliceCoderModel", "whole", "(I)Z"⟩ : Cond) ∈ wA := wA_mem 458 (by decide +kernel) (by decide +kernel)
theorem kw_459 : (.code ⟨"SliceCoderModel", "whole", "(I)Z"⟩ prog_4_method_17_code 2 (some .boolean) : Cond) ∈ wA := wA_mem 459 (by decide +kernel) (by decide +kernel)
theorem kw_460 : (.methodLink "SliceCoderModel" 68 ⟨"SliceCoderModel", "left", "(I)I"⟩ : Cond) ∈ wA := wA_mem 460 (by decide +kernel) (by decide +kernel)
theorem kw_462 : (.instanceMethod ⟨"SliceCoderModel", "left", "(I)I"⟩ : Cond) ∈ wA := wA_mem 462 (by decide +kernel) (by decide +kernel)
theorem kw_463 : (.code ⟨"SliceCoderModel", "left", "(I)I"⟩ prog_4_method_16_code 5 (some .int) : Cond) ∈ wA := wA_mem 463 (by decide +kernel) (by decide +kernel)
theorem kw_464 : (.methodLink "SliceCoderLaw" 100 ⟨"SliceCoderModel", "number", "(IJ)V"⟩ : Cond) ∈ wA := wA_mem 464 (by decide +kernel) (by decide +kernel)
theorem kw_465 : (.instanceMethod ⟨"SliceCoderModel", "number", "(IJ)V"⟩ : Cond) ∈ wA := wA_mem 465 (by decide +kernel) (by decide +kernel)
theorem kw_466 : (.selects "SliceCoderModel" ⟨"SliceCoderModel", "number", "(IJ)V"⟩ ⟨"SliceCoderModel", "number", "(IJ)V"⟩ : Cond) ∈ wA := wA_mem 466 (by decide +kernel) (by decide +kernel)
theorem kw_467 : (.code ⟨"SliceCoderModel", "number", "(IJ)V"⟩ prog_4_method_18_code 4 none : Cond) ∈ wA := wA_mem 467 (by decide +kernel) (by decide +kernel)
theorem kw_468 : (.methodLink "SliceCoderLaw" 103 ⟨"SliceCoderModel", "fits", "(IIJ)Z"⟩ : Cond) ∈ wA := wA_mem 468 (by decide +kernel) (by decide +kernel)
theorem kw_469 : (.instanceMethod ⟨"SliceCoderModel", "fits", "(IIJ)Z"⟩ : Cond) ∈ wA := wA_mem 469 (by decide +kernel) (by decide +kernel)
theorem kw_470 : (.selects "SliceCoderModel" ⟨"SliceCoderModel", "fits", "(IIJ)Z"⟩ ⟨"SliceCoderModel", "fits", "(IIJ)Z"⟩ : Cond) ∈ wA := wA_mem 470 (by decide +kernel) (by decide +kernel)
theorem kw_471 : (.code ⟨"SliceCoderModel", "fits", "(IIJ)Z"⟩ prog_4_method_20_code 5 (some .boolean) : Cond) ∈ wA := wA_mem 471 (by decide +kernel) (by decide +kernel)
theorem kw_472 : (.methodLink "SliceCoderModel" 72 ⟨"SliceCoderModel", "holds", "(IIJ)Z"⟩ : Cond) ∈ wA := wA_mem 472 (by decide +kernel) (by decide +kernel)
theorem kw_474 : (.instanceMethod ⟨"SliceCoderModel", "holds", "(IIJ)Z"⟩ : Cond) ∈ wA := wA_mem 474 (by decide +kernel) (by decide +kernel)
theorem kw_475 : (.code ⟨"SliceCoderModel", "holds", "(IIJ)Z"⟩ prog_4_method_19_code 9 (some .boolean) : Cond) ∈ wA := wA_mem 475 (by decide +kernel) (by decide +kernel)
theorem kw_476 : (.methodLink "SliceCoderLaw" 106 ⟨"SliceCoderModel", "encode", "(I)J"⟩ : Cond) ∈ wA := wA_mem 476 (by decide +kernel) (by decide +kernel)
theorem kw_477 : (.instanceMethod ⟨"SliceCoderModel", "encode", "(I)J"⟩ : Cond) ∈ wA := wA_mem 477 (by decide +kernel) (by decide +kernel)
theorem kw_478 : (.selects "SliceCoderModel" ⟨"SliceCoderModel", "encode", "(I)J"⟩ ⟨"SliceCoderModel", "encode", "(I)J"⟩ : Cond) ∈ wA := wA_mem 478 (by decide +kernel) (by decide +kernel)
theorem kw_479 : (.code ⟨"SliceCoderModel", "encode", "(I)J"⟩ prog_4_method_21_code 7 (some .long) : Cond) ∈ wA := wA_mem 479 (by decide +kernel) (by decide +kernel)
theorem kw_480 : (.methodLink "SliceCoderModel" 76 ⟨"SliceCoderModel", "at", "(II)I"⟩ : Cond) ∈ wA := wA_mem 480 (by decide +kernel) (by decide +kernel)
theorem kw_482 : (.instanceMethod ⟨"SliceCoderModel", "at", "(II)I"⟩ : Cond) ∈ wA := wA_mem 482 (by decide +kernel) (by decide +kernel)
theorem kw_483 : (.code ⟨"SliceCoderModel", "at", "(II)I"⟩ prog_4_method_10_code 3 (some .int) : Cond) ∈ wA := wA_mem 483 (by decide +kernel) (by decide +kernel)
theorem kw_484 : (.methodLink "SliceCoderLaw" 110 ⟨"SliceCoderModel", "is", "(IJ)Z"⟩ : Cond) ∈ wA := wA_mem 484 (by decide +kernel) (by decide +kernel)
theorem kw_485 : (.instanceMethod ⟨"SliceCoderModel", "is", "(IJ)Z"⟩ : Cond) ∈ wA := wA_mem 485 (by decide +kernel) (by decide +kernel)
theorem kw_486 : (.selects "SliceCoderModel" ⟨"SliceCoderModel", "is", "(IJ)Z"⟩ ⟨"SliceCoderModel", "is", "(IJ)Z"⟩ : Cond) ∈ wA := wA_mem 486 (by decide +kernel) (by decide +kernel)
theorem kw_487 : (.code ⟨"SliceCoderModel", "is", "(IJ)Z"⟩ prog_4_method_23_code 4 (some .boolean) : Cond) ∈ wA := wA_mem 487 (by decide +kernel) (by decide +kernel)
theorem kw_488 : (.methodLink "SliceCoderModel" 79 ⟨"SliceCoderModel", "isOf", "(IJ)Z"⟩ : Cond) ∈ wA := wA_mem 488 (by decide +kernel) (by decide +kernel)
theorem kw_490 : (.instanceMethod ⟨"SliceCoderModel", "isOf", "(IJ)Z"⟩ : Cond) ∈ wA := wA_mem 490 (by decide +kernel) (by decide +kernel)
theorem kw_491 : (.code ⟨"SliceCoderModel", "isOf", "(IJ)Z"⟩ prog_4_method_22_code 5 (some .boolean) : Cond) ∈ wA := wA_mem 491 (by decide +kernel) (by decide +kernel)
theorem kw_492 : (.methodLink "SliceCoderLaw" 113 ⟨"SliceCoderModel", "decode", "(IIJ)J"⟩ : Cond) ∈ wA := wA_mem 492 (by decide +kernel) (by decide +kernel)
theorem kw_493 : (.instanceMethod ⟨"SliceCoderModel", "decode", "(IIJ)J"⟩ : Cond) ∈ wA := wA_mem 493 (by decide +kernel) (by decide +kernel)
theorem kw_494 : (.selects "SliceCoderModel" ⟨"SliceCoderModel", "decode", "(IIJ)J"⟩ ⟨"SliceCoderModel", "decode", "(IIJ)J"⟩ : Cond) ∈ wA := wA_mem 494 (by decide +kernel) (by decide +kernel)
theorem kw_495 : (.code ⟨"SliceCoderModel", "decode", "(IIJ)J"⟩ prog_4_method_24_code 11 (some .long) : Cond) ∈ wA := wA_mem 495 (by decide +kernel) (by decide +kernel)
theorem kw_496 : (.methodLink "SliceCoderLaw" 117 ⟨"SliceCoderModel", "meet", "(II)Z"⟩ : Cond) ∈ wA := wA_mem 496 (by decide +kernel) (by decide +kernel)
theorem kw_497 : (.instanceMethod ⟨"SliceCoderModel", "meet", "(II)Z"⟩ : Cond) ∈ wA := wA_mem 497 (by decide +kernel) (by decide +kernel)
theorem kw_498 : (.selects "SliceCoderModel" ⟨"SliceCoderModel", "meet", "(II)Z"⟩ ⟨"SliceCoderModel", "meet", "(II)Z"⟩ : Cond) ∈ wA := wA_mem 498 (by decide +kernel) (by decide +kernel)
theorem kw_499 : (.code ⟨"SliceCoderModel", "meet", "(II)Z"⟩ prog_4_method_25_code 6 (some .boolean) : Cond) ∈ wA := wA_mem 499 (by decide +kernel) (by decide +kernel)
theorem kw_500 : (.methodLink "SliceCoderLaw" 120 ⟨"SliceCoderModel", "count", "(II)I"⟩ : Cond) ∈ wA := wA_mem 500 (by decide +kernel) (by decide +kernel)
theorem kw_501 : (.instanceMethod ⟨"SliceCoderModel", "count", "(II)I"⟩ : Cond) ∈ wA := wA_mem 501 (by decide +kernel) (by decide +kernel)
theorem kw_502 : (.selects "SliceCoderModel" ⟨"SliceCoderModel", "count", "(II)I"⟩ ⟨"SliceCoderModel", "count", "(II)I"⟩ : Cond) ∈ wA := wA_mem 502 (by decide +kernel) (by decide +kernel)
theorem kw_503 : (.code ⟨"SliceCoderModel", "count", "(II)I"⟩ prog_4_method_26_code 5 (some .int) : Cond) ∈ wA := wA_mem 503 (by decide +kernel) (by decide +kernel)
theorem kw_504 : (.constantLong "SliceCoderModel" 83 3 : Cond) ∈ wA := wA_mem 504 (by decide +kernel) (by decide +kernel)
theorem kw_505 : (.constantLong "SliceCoderLaw" 83 4294967295 : Cond) ∈ wA := wA_mem 505 (by decide +kernel) (by decide +kernel)
end
section
theorem dF_init_0 : decode cF_init 0 = .ok (.aload_n 0, 1) := by decide +kernel
theorem dF_init_1 : decode cF_init 1 = .ok (.invokespecial 3, 3) := by decide +kernel
theorem dF_init_4 : decode cF_init 4 = .ok (.aload_n 0, 1) := by decide +kernel
theorem dF_init_5 : decode cF_init 5 = .ok (.bipush 6, 2) := by decide +kernel
theorem dF_init_7 : decode cF_init 7 = .ok (.newarray .int, 2) := by decide +kernel
theorem dF_init_9 : decode cF_init 9 = .ok (.putfield 9, 3) := by decide +kernel
theorem dF_init_12 : decode cF_init 12 = .ok (.aload_n 0, 1) := by decide +kernel
theorem dF_init_13 : decode cF_init 13 = .ok (.bipush 6, 2) := by decide +kernel
theorem dF_init_15 : decode cF_init 15 = .ok (.newarray .boolean, 2) := by decide +kernel
theorem dF_init_17 : decode cF_init 17 = .ok (.putfield 15, 3) := by decide +kernel
theorem dF_init_20 : decode cF_init 20 = .ok (.aload_n 0, 1) := by decide +kernel
theorem dF_init_21 : decode cF_init 21 = .ok (.bipush 64, 2) := by decide +kernel
theorem dF_init_23 : decode cF_init 23 = .ok (.newarray .int, 2) := by decide +kernel
theorem dF_init_25 : decode cF_init 25 = .ok (.putfield 19, 3) := by decide +kernel
theorem dF_init_28 : decode cF_init 28 = .ok (.aload_n 0, 1) := by decide +kernel
theorem dF_init_29 : decode cF_init 29 = .ok (.bipush 64, 2) := by decide +kernel
theorem dF_init_31 : decode cF_init 31 = .ok (.newarray .int, 2) := by decide +kernel
theorem dF_init_33 : decode cF_init 33 = .ok (.putfield 22, 3) := by decide +kernel
theorem dF_init_36 : decode cF_init 36 = .ok (.aload_n 0, 1) := by decide +kernel
theorem dF_init_37 : decode cF_init 37 = .ok (.iconst 0, 1) := by decide +kernel
theorem dF_init_38 : decode cF_init 38 = .ok (.putfield 25, 3) := by decide +kernel
theorem dF_init_41 : decode cF_init 41 = .ok (.return_, 1) := by decide +kernel
theorem dF_forgetAll_0 : decode cF_forgetAll 0 = .ok (.iconst 0, 1) := by decide +kernel
theorem dF_forgetAll_1 : decode cF_forgetAll 1 = .ok (.istore_n 1, 1) := by decide +kernel
theorem dF_forgetAll_2 : decode cF_forgetAll 2 = .ok (.iload_n 1, 1) := by decide +kernel
theorem dF_forgetAll_3 : decode cF_forgetAll 3 = .ok (.bipush 6, 2) := by decide +kernel
theorem dF_forgetAll_5 : decode cF_forgetAll 5 = .ok (.if_icmp .ge 16, 3) := by decide +kernel
theorem dF_forgetAll_8 : decode cF_forgetAll 8 = .ok (.aload_n 0, 1) := by decide +kernel
theorem dF_forgetAll_9 : decode cF_forgetAll 9 = .ok (.getfield 9, 3) := by decide +kernel
theorem dF_forgetAll_12 : decode cF_forgetAll 12 = .ok (.iload_n 1, 1) := by decide +kernel
theorem dF_forgetAll_13 : decode cF_forgetAll 13 = .ok (.iconst 0, 1) := by decide +kernel
theorem dF_forgetAll_14 : decode cF_forgetAll 14 = .ok (.iastore, 1) := by decide +kernel
theorem dF_forgetAll_15 : decode cF_forgetAll 15 = .ok (.iinc 1 1, 3) := by decide +kernel
theorem dF_forgetAll_18 : decode cF_forgetAll 18 = .ok (.goto (-16), 3) := by decide +kernel
theorem dF_forgetAll_21 : decode cF_forgetAll 21 = .ok (.aload_n 0, 1) := by decide +kernel
theorem dF_forgetAll_22 : decode cF_forgetAll 22 = .ok (.iconst 0, 1) := by decide +kernel
theorem dF_forgetAll_23 : decode cF_forgetAll 23 = .ok (.putfield 25, 3) := by decide +kernel
theorem dF_forgetAll_26 : decode cF_forgetAll 26 = .ok (.return_, 1) := by decide +kernel
theorem dF_hasOperand_0 : decode cF_hasOperand 0 = .ok (.iload_n 1, 1) := by decide +kernel
theorem dF_hasOperand_1 : decode cF_hasOperand 1 = .ok (.ifCond .lt 22, 3) := by decide +kernel
theorem dF_hasOperand_4 : decode cF_hasOperand 4 = .ok (.iload_n 1, 1) := by decide +kernel
theorem dF_hasOperand_5 : decode cF_hasOperand 5 = .ok (.bipush 6, 2) := by decide +kernel
theorem dF_hasOperand_7 : decode cF_hasOperand 7 = .ok (.if_icmp .ge 16, 3) := by decide +kernel
theorem dF_hasOperand_10 : decode cF_hasOperand 10 = .ok (.aload_n 0, 1) := by decide +kernel
theorem dF_hasOperand_11 : decode cF_hasOperand 11 = .ok (.getfield 9, 3) := by decide +kernel
theorem dF_hasOperand_14 : decode cF_hasOperand 14 = .ok (.iload_n 1, 1) := by decide +kernel
theorem dF_hasOperand_15 : decode cF_hasOperand 15 = .ok (.iaload, 1) := by decide +kernel
theorem dF_hasOperand_16 : decode cF_hasOperand 16 = .ok (.ifCond .le 7, 3) := by decide +kernel
theorem dF_hasOperand_19 : decode cF_hasOperand 19 = .ok (.iconst 1, 1) := by decide +kernel
theorem dF_hasOperand_20 : decode cF_hasOperand 20 = .ok (.goto 4, 3) := by decide +kernel
theorem dF_hasOperand_23 : decode cF_hasOperand 23 = .ok (.iconst 0, 1) := by decide +kernel
theorem dF_hasOperand_24 : decode cF_hasOperand 24 = .ok (.ireturn, 1) := by decide +kernel
theorem dF_addOperand_0 : decode cF_addOperand 0 = .ok (.aload_n 0, 1) := by decide +kernel
theorem dF_addOperand_1 : decode cF_addOperand 1 = .ok (.getfield 9, 3) := by decide +kernel
theorem dF_addOperand_4 : decode cF_addOperand 4 = .ok (.iload_n 1, 1) := by decide +kernel
theorem dF_addOperand_5 : decode cF_addOperand 5 = .ok (.iload_n 2, 1) := by decide +kernel
theorem dF_addOperand_6 : decode cF_addOperand 6 = .ok (.iastore, 1) := by decide +kernel
theorem dF_addOperand_7 : decode cF_addOperand 7 = .ok (.aload_n 0, 1) := by decide +kernel
theorem dF_addOperand_8 : decode cF_addOperand 8 = .ok (.getfield 15, 3) := by decide +kernel
theorem dF_addOperand_11 : decode cF_addOperand 11 = .ok (.iload_n 1, 1) := by decide +kernel
theorem dF_addOperand_12 : decode cF_addOperand 12 = .ok (.iload_n 3, 1) := by decide +kernel
theorem dF_addOperand_13 : decode cF_addOperand 13 = .ok (.bastore, 1) := by decide +kernel
theorem dF_addOperand_14 : decode cF_addOperand 14 = .ok (.return_, 1) := by decide +kernel
theorem dF_appendFixed_0 : decode cF_appendFixed 0 = .ok (.iload_n 1, 1) := by decide +kernel
theorem dF_appendFixed_1 : decode cF_appendFixed 1 = .ok (.iconst 1, 1) := by decide +kernel
theorem dF_appendFixed_2 : decode cF_appendFixed 2 = .ok (.isub, 1) := by decide +kernel
theorem dF_appendFixed_3 : decode cF_appendFixed 3 = .ok (.istore 4, 2) := by decide +kernel
theorem dF_appendFixed_5 : decode cF_appendFixed 5 = .ok (.iload 4, 2) := by decide +kernel
theorem dF_appendFixed_7 : decode cF_appendFixed 7 = .ok (.ifCond .lt 20, 3) := by decide +kernel
theorem dF_appendFixed_10 : decode cF_appendFixed 10 = .ok (.aload_n 0, 1) := by decide +kernel
theorem dF_appendFixed_11 : decode cF_appendFixed 11 = .ok (.iconst (-1), 1) := by decide +kernel
theorem dF_appendFixed_12 : decode cF_appendFixed 12 = .ok (.lload_n 2, 1) := by decide +kernel
theorem dF_appendFixed_13 : decode cF_appendFixed 13 = .ok (.iload 4, 2) := by decide +kernel
theorem dF_appendFixed_15 : decode cF_appendFixed 15 = .ok (.invokestatic 29, 3) := by decide +kernel
theorem dF_appendFixed_18 : decode cF_appendFixed 18 = .ok (.invokevirtual 33, 3) := by decide +kernel
theorem dF_appendFixed_21 : decode cF_appendFixed 21 = .ok (.iinc 4 (-1), 3) := by decide +kernel
theorem dF_appendFixed_24 : decode cF_appendFixed 24 = .ok (.goto (-19), 3) := by decide +kernel
theorem dF_appendFixed_27 : decode cF_appendFixed 27 = .ok (.return_, 1) := by decide +kernel
theorem dF_appendSlice_0 : decode cF_appendSlice 0 = .ok (.iload_n 2, 1) := by decide +kernel
theorem dF_appendSlice_1 : decode cF_appendSlice 1 = .ok (.istore 4, 2) := by decide +kernel
theorem dF_appendSlice_3 : decode cF_appendSlice 3 = .ok (.iload 4, 2) := by decide +kernel
theorem dF_appendSlice_5 : decode cF_appendSlice 5 = .ok (.iload_n 3, 1) := by decide +kernel
theorem dF_appendSlice_6 : decode cF_appendSlice 6 = .ok (.if_icmp .lt 16, 3) := by decide +kernel
theorem dF_appendSlice_9 : decode cF_appendSlice 9 = .ok (.aload_n 0, 1) := by decide +kernel
theorem dF_appendSlice_10 : decode cF_appendSlice 10 = .ok (.iload_n 1, 1) := by decide +kernel
theorem dF_appendSlice_11 : decode cF_appendSlice 11 = .ok (.iload 4, 2) := by decide +kernel
theorem dF_appendSlice_13 : decode cF_appendSlice 13 = .ok (.invokevirtual 33, 3) := by decide +kernel
theorem dF_appendSlice_16 : decode cF_appendSlice 16 = .ok (.iinc 4 (-1), 3) := by decide +kernel
theorem dF_appendSlice_19 : decode cF_appendSlice 19 = .ok (.goto (-16), 3) := by decide +kernel
theorem dF_appendSlice_22 : decode cF_appendSlice 22 = .ok (.return_, 1) := by decide +kernel
theorem dF_append_0 : decode cF_append 0 = .ok (.aload_n 0, 1) := by decide +kernel
theorem dF_append_1 : decode cF_append 1 = .ok (.getfield 19, 3) := by decide +kernel
theorem dF_append_4 : decode cF_append 4 = .ok (.aload_n 0, 1) := by decide +kernel
theorem dF_append_5 : decode cF_append 5 = .ok (.getfield 25, 3) := by decide +kernel
theorem dF_append_8 : decode cF_append 8 = .ok (.iload_n 1, 1) := by decide +kernel
theorem dF_append_9 : decode cF_append 9 = .ok (.iastore, 1) := by decide +kernel
theorem dF_append_10 : decode cF_append 10 = .ok (.aload_n 0, 1) := by decide +kernel
theorem dF_append_11 : decode cF_append 11 = .ok (.getfield 22, 3) := by decide +kernel
theorem dF_append_14 : decode cF_append 14 = .ok (.aload_n 0, 1) := by decide +kernel
theorem dF_append_15 : decode cF_append 15 = .ok (.getfield 25, 3) := by decide +kernel
theorem dF_append_18 : decode cF_append 18 = .ok (.iload_n 2, 1) := by decide +kernel
theorem dF_append_19 : decode cF_append 19 = .ok (.iastore, 1) := by decide +kernel
theorem dF_append_20 : decode cF_append 20 = .ok (.aload_n 0, 1) := by decide +kernel
theorem dF_append_21 : decode cF_append 21 = .ok (.dup, 1) := by decide +kernel
theorem dF_append_22 : decode cF_append 22 = .ok (.getfield 25, 3) := by decide +kernel
theorem dF_append_25 : decode cF_append 25 = .ok (.iconst 1, 1) := by decide +kernel
theorem dF_append_26 : decode cF_append 26 = .ok (.iadd, 1) := by decide +kernel
theorem dF_append_27 : decode cF_append 27 = .ok (.putfield 25, 3) := by decide +kernel
theorem dF_append_30 : decode cF_append 30 = .ok (.return_, 1) := by decide +kernel
theorem dF_holdsAny_0 : decode cF_holdsAny 0 = .ok (.iconst 0, 1) := by decide +kernel
theorem dF_holdsAny_1 : decode cF_holdsAny 1 = .ok (.istore 4, 2) := by decide +kernel
theorem dF_holdsAny_3 : decode cF_holdsAny 3 = .ok (.iload 4, 2) := by decide +kernel
theorem dF_holdsAny_5 : decode cF_holdsAny 5 = .ok (.aload_n 0, 1) := by decide +kernel
theorem dF_holdsAny_6 : decode cF_holdsAny 6 = .ok (.getfield 25, 3) := by decide +kernel
theorem dF_holdsAny_9 : decode cF_holdsAny 9 = .ok (.if_icmp .ge 44, 3) := by decide +kernel
theorem dF_holdsAny_12 : decode cF_holdsAny 12 = .ok (.aload_n 0, 1) := by decide +kernel
theorem dF_holdsAny_13 : decode cF_holdsAny 13 = .ok (.getfield 19, 3) := by decide +kernel
theorem dF_holdsAny_16 : decode cF_holdsAny 16 = .ok (.iload 4, 2) := by decide +kernel
theorem dF_holdsAny_18 : decode cF_holdsAny 18 = .ok (.iaload, 1) := by decide +kernel
theorem dF_holdsAny_19 : decode cF_holdsAny 19 = .ok (.iload_n 1, 1) := by decide +kernel
theorem dF_holdsAny_20 : decode cF_holdsAny 20 = .ok (.if_icmp .ne 27, 3) := by decide +kernel
theorem dF_holdsAny_23 : decode cF_holdsAny 23 = .ok (.aload_n 0, 1) := by decide +kernel
theorem dF_holdsAny_24 : decode cF_holdsAny 24 = .ok (.getfield 22, 3) := by decide +kernel
theorem dF_holdsAny_27 : decode cF_holdsAny 27 = .ok (.iload 4, 2) := by decide +kernel
theorem dF_holdsAny_29 : decode cF_holdsAny 29 = .ok (.iaload, 1) := by decide +kernel
theorem dF_holdsAny_30 : decode cF_holdsAny 30 = .ok (.iload_n 3, 1) := by decide +kernel
theorem dF_holdsAny_31 : decode cF_holdsAny 31 = .ok (.if_icmp .lt 16, 3) := by decide +kernel
theorem dF_holdsAny_34 : decode cF_holdsAny 34 = .ok (.aload_n 0, 1) := by decide +kernel
theorem dF_holdsAny_35 : decode cF_holdsAny 35 = .ok (.getfield 22, 3) := by decide +kernel
theorem dF_holdsAny_38 : decode cF_holdsAny 38 = .ok (.iload 4, 2) := by decide +kernel
theorem dF_holdsAny_40 : decode cF_holdsAny 40 = .ok (.iaload, 1) := by decide +kernel
theorem dF_holdsAny_41 : decode cF_holdsAny 41 = .ok (.iload_n 2, 1) := by decide +kernel
theorem dF_holdsAny_42 : decode cF_holdsAny 42 = .ok (.if_icmp .gt 5, 3) := by decide +kernel
theorem dF_holdsAny_45 : decode cF_holdsAny 45 = .ok (.iconst 1, 1) := by decide +kernel
theorem dF_holdsAny_46 : decode cF_holdsAny 46 = .ok (.ireturn, 1) := by decide +kernel
theorem dF_holdsAny_47 : decode cF_holdsAny 47 = .ok (.iinc 4 1, 3) := by decide +kernel
theorem dF_holdsAny_50 : decode cF_holdsAny 50 = .ok (.goto (-47), 3) := by decide +kernel
theorem dF_holdsAny_53 : decode cF_holdsAny 53 = .ok (.iconst 0, 1) := by decide +kernel
theorem dF_holdsAny_54 : decode cF_holdsAny 54 = .ok (.ireturn, 1) := by decide +kernel
theorem dF_fixedBits_0 : decode cF_fixedBits 0 = .ok (.iconst 0, 1) := by decide +kernel
theorem dF_fixedBits_1 : decode cF_fixedBits 1 = .ok (.istore_n 1, 1) := by decide +kernel
theorem dF_fixedBits_2 : decode cF_fixedBits 2 = .ok (.iconst 0, 1) := by decide +kernel
theorem dF_fixedBits_3 : decode cF_fixedBits 3 = .ok (.istore_n 2, 1) := by decide +kernel
theorem dF_fixedBits_4 : decode cF_fixedBits 4 = .ok (.iload_n 2, 1) := by decide +kernel
theorem dF_fixedBits_5 : decode cF_fixedBits 5 = .ok (.aload_n 0, 1) := by decide +kernel
theorem dF_fixedBits_6 : decode cF_fixedBits 6 = .ok (.getfield 25, 3) := by decide +kernel
theorem dF_fixedBits_9 : decode cF_fixedBits 9 = .ok (.if_icmp .ge 22, 3) := by decide +kernel
theorem dF_fixedBits_12 : decode cF_fixedBits 12 = .ok (.aload_n 0, 1) := by decide +kernel
theorem dF_fixedBits_13 : decode cF_fixedBits 13 = .ok (.getfield 19, 3) := by decide +kernel
theorem dF_fixedBits_16 : decode cF_fixedBits 16 = .ok (.iload_n 2, 1) := by decide +kernel
theorem dF_fixedBits_17 : decode cF_fixedBits 17 = .ok (.iaload, 1) := by decide +kernel
theorem dF_fixedBits_18 : decode cF_fixedBits 18 = .ok (.iconst (-1), 1) := by decide +kernel
theorem dF_fixedBits_19 : decode cF_fixedBits 19 = .ok (.if_icmp .ne 6, 3) := by decide +kernel
theorem dF_fixedBits_22 : decode cF_fixedBits 22 = .ok (.iinc 1 1, 3) := by decide +kernel
theorem dF_fixedBits_25 : decode cF_fixedBits 25 = .ok (.iinc 2 1, 3) := by decide +kernel
theorem dF_fixedBits_28 : decode cF_fixedBits 28 = .ok (.goto (-24), 3) := by decide +kernel
theorem dF_fixedBits_31 : decode cF_fixedBits 31 = .ok (.iload_n 1, 1) := by decide +kernel
theorem dF_fixedBits_32 : decode cF_fixedBits 32 = .ok (.ireturn, 1) := by decide +kernel
theorem dF_operands_0 : decode cF_operands 0 = .ok (.iconst 0, 1) := by decide +kernel
theorem dF_operands_1 : decode cF_operands 1 = .ok (.istore_n 1, 1) := by decide +kernel
theorem dF_operands_2 : decode cF_operands 2 = .ok (.iconst 0, 1) := by decide +kernel
theorem dF_operands_3 : decode cF_operands 3 = .ok (.istore_n 2, 1) := by decide +kernel
theorem dF_operands_4 : decode cF_operands 4 = .ok (.iload_n 2, 1) := by decide +kernel
theorem dF_operands_5 : decode cF_operands 5 = .ok (.bipush 6, 2) := by decide +kernel
theorem dF_operands_7 : decode cF_operands 7 = .ok (.if_icmp .ge 21, 3) := by decide +kernel
theorem dF_operands_10 : decode cF_operands 10 = .ok (.aload_n 0, 1) := by decide +kernel
theorem dF_operands_11 : decode cF_operands 11 = .ok (.getfield 9, 3) := by decide +kernel
theorem dF_operands_14 : decode cF_operands 14 = .ok (.iload_n 2, 1) := by decide +kernel
theorem dF_operands_15 : decode cF_operands 15 = .ok (.iaload, 1) := by decide +kernel
theorem dF_operands_16 : decode cF_operands 16 = .ok (.ifCond .le 6, 3) := by decide +kernel
theorem dF_operands_19 : decode cF_operands 19 = .ok (.iinc 1 1, 3) := by decide +kernel
theorem dF_operands_22 : decode cF_operands 22 = .ok (.iinc 2 1, 3) := by decide +kernel
theorem dF_operands_25 : decode cF_operands 25 = .ok (.goto (-21), 3) := by decide +kernel
theorem dF_operands_28 : decode cF_operands 28 = .ok (.iload_n 1, 1) := by decide +kernel
theorem dF_operands_29 : decode cF_operands 29 = .ok (.ireturn, 1) := by decide +kernel
theorem dF_missingBits_0 : decode cF_missingBits 0 = .ok (.iconst 0, 1) := by decide +kernel
theorem dF_missingBits_1 : decode cF_missingBits 1 = .ok (.istore_n 1, 1) := by decide +kernel
theorem dF_missingBits_2 : decode cF_missingBits 2 = .ok (.iconst 0, 1) := by decide +kernel
theorem dF_missingBits_3 : decode cF_missingBits 3 = .ok (.istore_n 2, 1) := by decide +kernel
theorem dF_missingBits_4 : decode cF_missingBits 4 = .ok (.iload_n 2, 1) := by decide +kernel
theorem dF_missingBits_5 : decode cF_missingBits 5 = .ok (.bipush 6, 2) := by decide +kernel
theorem dF_missingBits_7 : decode cF_missingBits 7 = .ok (.if_icmp .ge 18, 3) := by decide +kernel
theorem dF_missingBits_10 : decode cF_missingBits 10 = .ok (.iload_n 1, 1) := by decide +kernel
theorem dF_missingBits_11 : decode cF_missingBits 11 = .ok (.aload_n 0, 1) := by decide +kernel
theorem dF_missingBits_12 : decode cF_missingBits 12 = .ok (.getfield 9, 3) := by decide +kernel
theorem dF_missingBits_15 : decode cF_missingBits 15 = .ok (.iload_n 2, 1) := by decide +kernel
theorem dF_missingBits_16 : decode cF_missingBits 16 = .ok (.iaload, 1) := by decide +kernel
theorem dF_missingBits_17 : decode cF_missingBits 17 = .ok (.iadd, 1) := by decide +kernel
theorem dF_missingBits_18 : decode cF_missingBits 18 = .ok (.istore_n 1, 1) := by decide +kernel
theorem dF_missingBits_19 : decode cF_missingBits 19 = .ok (.iinc 2 1, 3) := by decide +kernel
theorem dF_missingBits_22 : decode cF_missingBits 22 = .ok (.goto (-18), 3) := by decide +kernel
theorem dF_missingBits_25 : decode cF_missingBits 25 = .ok (.iload_n 1, 1) := by decide +kernel
theorem dF_missingBits_26 : decode cF_missingBits 26 = .ok (.aload_n 0, 1) := by decide +kernel
theorem dF_missingBits_27 : decode cF_missingBits 27 = .ok (.getfield 25, 3) := by decide +kernel
theorem dF_missingBits_30 : decode cF_missingBits 30 = .ok (.aload_n 0, 1) := by decide +kernel
theorem dF_missingBits_31 : decode cF_missingBits 31 = .ok (.invokevirtual 37, 3) := by decide +kernel
theorem dF_missingBits_34 : decode cF_missingBits 34 = .ok (.isub, 1) := by decide +kernel
theorem dF_missingBits_35 : decode cF_missingBits 35 = .ok (.isub, 1) := by decide +kernel
theorem dF_missingBits_36 : decode cF_missingBits 36 = .ok (.ireturn, 1) := by decide +kernel
theorem dF_isWhole_0 : decode cF_isWhole 0 = .ok (.aload_n 0, 1) := by decide +kernel
theorem dF_isWhole_1 : decode cF_isWhole 1 = .ok (.invokevirtual 41, 3) := by decide +kernel
theorem dF_isWhole_4 : decode cF_isWhole 4 = .ok (.ifCond .ne 7, 3) := by decide +kernel
theorem dF_isWhole_7 : decode cF_isWhole 7 = .ok (.iconst 1, 1) := by decide +kernel
theorem dF_isWhole_8 : decode cF_isWhole 8 = .ok (.goto 4, 3) := by decide +kernel
theorem dF_isWhole_11 : decode cF_isWhole 11 = .ok (.iconst 0, 1) := by decide +kernel
theorem dF_isWhole_12 : decode cF_isWhole 12 = .ok (.ireturn, 1) := by decide +kernel
theorem dF_canBe_0 : decode cF_canBe 0 = .ok (.aload_n 0, 1) := by decide +kernel
theorem dF_canBe_1 : decode cF_canBe 1 = .ok (.getfield 9, 3) := by decide +kernel
theorem dF_canBe_4 : decode cF_canBe 4 = .ok (.iload_n 1, 1) := by decide +kernel
theorem dF_canBe_5 : decode cF_canBe 5 = .ok (.iaload, 1) := by decide +kernel
theorem dF_canBe_6 : decode cF_canBe 6 = .ok (.istore 4, 2) := by decide +kernel
theorem dF_canBe_8 : decode cF_canBe 8 = .ok (.iload 4, 2) := by decide +kernel
theorem dF_canBe_10 : decode cF_canBe 10 = .ok (.bipush 64, 2) := by decide +kernel
theorem dF_canBe_12 : decode cF_canBe 12 = .ok (.if_icmp .ne 5, 3) := by decide +kernel
theorem dF_canBe_15 : decode cF_canBe 15 = .ok (.iconst 1, 1) := by decide +kernel
theorem dF_canBe_16 : decode cF_canBe 16 = .ok (.ireturn, 1) := by decide +kernel
theorem dF_canBe_17 : decode cF_canBe 17 = .ok (.aload_n 0, 1) := by decide +kernel
theorem dF_canBe_18 : decode cF_canBe 18 = .ok (.getfield 15, 3) := by decide +kernel
theorem dF_canBe_21 : decode cF_canBe 21 = .ok (.iload_n 1, 1) := by decide +kernel
theorem dF_canBe_22 : decode cF_canBe 22 = .ok (.baload, 1) := by decide +kernel
theorem dF_canBe_23 : decode cF_canBe 23 = .ok (.ifCond .eq 33, 3) := by decide +kernel
theorem dF_canBe_26 : decode cF_canBe 26 = .ok (.lload_n 2, 1) := by decide +kernel
theorem dF_canBe_27 : decode cF_canBe 27 = .ok (.iload 4, 2) := by decide +kernel
theorem dF_canBe_29 : decode cF_canBe 29 = .ok (.iconst 1, 1) := by decide +kernel
theorem dF_canBe_30 : decode cF_canBe 30 = .ok (.isub, 1) := by decide +kernel
theorem dF_canBe_31 : decode cF_canBe 31 = .ok (.lshr, 1) := by decide +kernel
theorem dF_canBe_32 : decode cF_canBe 32 = .ok (.lstore 5, 2) := by decide +kernel
theorem dF_canBe_34 : decode cF_canBe 34 = .ok (.lload 5, 2) := by decide +kernel
theorem dF_canBe_36 : decode cF_canBe 36 = .ok (.lconst 0, 1) := by decide +kernel
theorem dF_canBe_37 : decode cF_canBe 37 = .ok (.lcmp, 1) := by decide +kernel
theorem dF_canBe_38 : decode cF_canBe 38 = .ok (.ifCond .eq 12, 3) := by decide +kernel
theorem dF_canBe_41 : decode cF_canBe 41 = .ok (.lload 5, 2) := by decide +kernel
theorem dF_canBe_43 : decode cF_canBe 43 = .ok (.ldc2_w 44, 3) := by decide +kernel
theorem dF_canBe_46 : decode cF_canBe 46 = .ok (.lcmp, 1) := by decide +kernel
theorem dF_canBe_47 : decode cF_canBe 47 = .ok (.ifCond .ne 7, 3) := by decide +kernel
theorem dF_canBe_50 : decode cF_canBe 50 = .ok (.iconst 1, 1) := by decide +kernel
theorem dF_canBe_51 : decode cF_canBe 51 = .ok (.goto 4, 3) := by decide +kernel
theorem dF_canBe_54 : decode cF_canBe 54 = .ok (.iconst 0, 1) := by decide +kernel
theorem dF_canBe_55 : decode cF_canBe 55 = .ok (.ireturn, 1) := by decide +kernel
theorem dF_canBe_56 : decode cF_canBe 56 = .ok (.lload_n 2, 1) := by decide +kernel
theorem dF_canBe_57 : decode cF_canBe 57 = .ok (.iload 4, 2) := by decide +kernel
theorem dF_canBe_59 : decode cF_canBe 59 = .ok (.lushr, 1) := by decide +kernel
theorem dF_canBe_60 : decode cF_canBe 60 = .ok (.lconst 0, 1) := by decide +kernel
theorem dF_canBe_61 : decode cF_canBe 61 = .ok (.lcmp, 1) := by decide +kernel
theorem dF_canBe_62 : decode cF_canBe 62 = .ok (.ifCond .ne 7, 3) := by decide +kernel
theorem dF_canBe_65 : decode cF_canBe 65 = .ok (.iconst 1, 1) := by decide +kernel
theorem dF_canBe_66 : decode cF_canBe 66 = .ok (.goto 4, 3) := by decide +kernel
theorem dF_canBe_69 : decode cF_canBe 69 = .ok (.iconst 0, 1) := by decide +kernel
theorem dF_canBe_70 : decode cF_canBe 70 = .ok (.ireturn, 1) := by decide +kernel
theorem dF_canBeAll_0 : decode cF_canBeAll 0 = .ok (.iconst 0, 1) := by decide +kernel
theorem dF_canBeAll_1 : decode cF_canBeAll 1 = .ok (.istore_n 2, 1) := by decide +kernel
theorem dF_canBeAll_2 : decode cF_canBeAll 2 = .ok (.iload_n 2, 1) := by decide +kernel
theorem dF_canBeAll_3 : decode cF_canBeAll 3 = .ok (.bipush 6, 2) := by decide +kernel
theorem dF_canBeAll_5 : decode cF_canBeAll 5 = .ok (.if_icmp .ge 31, 3) := by decide +kernel
theorem dF_canBeAll_8 : decode cF_canBeAll 8 = .ok (.aload_n 0, 1) := by decide +kernel
theorem dF_canBeAll_9 : decode cF_canBeAll 9 = .ok (.getfield 9, 3) := by decide +kernel
theorem dF_canBeAll_12 : decode cF_canBeAll 12 = .ok (.iload_n 2, 1) := by decide +kernel
theorem dF_canBeAll_13 : decode cF_canBeAll 13 = .ok (.iaload, 1) := by decide +kernel
theorem dF_canBeAll_14 : decode cF_canBeAll 14 = .ok (.ifCond .le 16, 3) := by decide +kernel
theorem dF_canBeAll_17 : decode cF_canBeAll 17 = .ok (.aload_n 0, 1) := by decide +kernel
theorem dF_canBeAll_18 : decode cF_canBeAll 18 = .ok (.iload_n 2, 1) := by decide +kernel
theorem dF_canBeAll_19 : decode cF_canBeAll 19 = .ok (.aload_n 1, 1) := by decide +kernel
theorem dF_canBeAll_20 : decode cF_canBeAll 20 = .ok (.iload_n 2, 1) := by decide +kernel
theorem dF_canBeAll_21 : decode cF_canBeAll 21 = .ok (.laload, 1) := by decide +kernel
theorem dF_canBeAll_22 : decode cF_canBeAll 22 = .ok (.invokevirtual 46, 3) := by decide +kernel
theorem dF_canBeAll_25 : decode cF_canBeAll 25 = .ok (.ifCond .ne 5, 3) := by decide +kernel
theorem dF_canBeAll_28 : decode cF_canBeAll 28 = .ok (.iconst 0, 1) := by decide +kernel
theorem dF_canBeAll_29 : decode cF_canBeAll 29 = .ok (.ireturn, 1) := by decide +kernel
theorem dF_canBeAll_30 : decode cF_canBeAll 30 = .ok (.iinc 2 1, 3) := by decide +kernel
theorem dF_canBeAll_33 : decode cF_canBeAll 33 = .ok (.goto (-31), 3) := by decide +kernel
theorem dF_canBeAll_36 : decode cF_canBeAll 36 = .ok (.iconst 1, 1) := by decide +kernel
theorem dF_canBeAll_37 : decode cF_canBeAll 37 = .ok (.ireturn, 1) := by decide +kernel
theorem dF_wordOf_0 : decode cF_wordOf 0 = .ok (.lconst 0, 1) := by decide +kernel
theorem dF_wordOf_1 : decode cF_wordOf 1 = .ok (.lstore_n 2, 1) := by decide +kernel
theorem dF_wordOf_2 : decode cF_wordOf 2 = .ok (.iconst 0, 1) := by decide +kernel
theorem dF_wordOf_3 : decode cF_wordOf 3 = .ok (.istore 4, 2) := by decide +kernel
theorem dF_wordOf_5 : decode cF_wordOf 5 = .ok (.iload 4, 2) := by decide +kernel
theorem dF_wordOf_7 : decode cF_wordOf 7 = .ok (.aload_n 0, 1) := by decide +kernel
theorem dF_wordOf_8 : decode cF_wordOf 8 = .ok (.getfield 25, 3) := by decide +kernel
theorem dF_wordOf_11 : decode cF_wordOf 11 = .ok (.if_icmp .ge 59, 3) := by decide +kernel
theorem dF_wordOf_14 : decode cF_wordOf 14 = .ok (.aload_n 0, 1) := by decide +kernel
theorem dF_wordOf_15 : decode cF_wordOf 15 = .ok (.getfield 19, 3) := by decide +kernel
theorem dF_wordOf_18 : decode cF_wordOf 18 = .ok (.iload 4, 2) := by decide +kernel
theorem dF_wordOf_20 : decode cF_wordOf 20 = .ok (.iaload, 1) := by decide +kernel
theorem dF_wordOf_21 : decode cF_wordOf 21 = .ok (.iconst (-1), 1) := by decide +kernel
theorem dF_wordOf_22 : decode cF_wordOf 22 = .ok (.if_icmp .ne 13, 3) := by decide +kernel
theorem dF_wordOf_25 : decode cF_wordOf 25 = .ok (.aload_n 0, 1) := by decide +kernel
theorem dF_wordOf_26 : decode cF_wordOf 26 = .ok (.getfield 22, 3) := by decide +kernel
theorem dF_wordOf_29 : decode cF_wordOf 29 = .ok (.iload 4, 2) := by decide +kernel
theorem dF_wordOf_31 : decode cF_wordOf 31 = .ok (.iaload, 1) := by decide +kernel
theorem dF_wordOf_32 : decode cF_wordOf 32 = .ok (.goto 22, 3) := by decide +kernel
theorem dF_wordOf_35 : decode cF_wordOf 35 = .ok (.aload_n 1, 1) := by decide +kernel
theorem dF_wordOf_36 : decode cF_wordOf 36 = .ok (.aload_n 0, 1) := by decide +kernel
theorem dF_wordOf_37 : decode cF_wordOf 37 = .ok (.getfield 19, 3) := by decide +kernel
theorem dF_wordOf_40 : decode cF_wordOf 40 = .ok (.iload 4, 2) := by decide +kernel
theorem dF_wordOf_42 : decode cF_wordOf 42 = .ok (.iaload, 1) := by decide +kernel
theorem dF_wordOf_43 : decode cF_wordOf 43 = .ok (.laload, 1) := by decide +kernel
theorem dF_wordOf_44 : decode cF_wordOf 44 = .ok (.aload_n 0, 1) := by decide +kernel
theorem dF_wordOf_45 : decode cF_wordOf 45 = .ok (.getfield 22, 3) := by decide +kernel
theorem dF_wordOf_48 : decode cF_wordOf 48 = .ok (.iload 4, 2) := by decide +kernel
theorem dF_wordOf_50 : decode cF_wordOf 50 = .ok (.iaload, 1) := by decide +kernel
theorem dF_wordOf_51 : decode cF_wordOf 51 = .ok (.invokestatic 29, 3) := by decide +kernel
theorem dF_wordOf_54 : decode cF_wordOf 54 = .ok (.istore 5, 2) := by decide +kernel
theorem dF_wordOf_56 : decode cF_wordOf 56 = .ok (.lload_n 2, 1) := by decide +kernel
theorem dF_wordOf_57 : decode cF_wordOf 57 = .ok (.iconst 1, 1) := by decide +kernel
theorem dF_wordOf_58 : decode cF_wordOf 58 = .ok (.lshl, 1) := by decide +kernel
theorem dF_wordOf_59 : decode cF_wordOf 59 = .ok (.iload 5, 2) := by decide +kernel
theorem dF_wordOf_61 : decode cF_wordOf 61 = .ok (.i2l, 1) := by decide +kernel
theorem dF_wordOf_62 : decode cF_wordOf 62 = .ok (.lor, 1) := by decide +kernel
theorem dF_wordOf_63 : decode cF_wordOf 63 = .ok (.lstore_n 2, 1) := by decide +kernel
theorem dF_wordOf_64 : decode cF_wordOf 64 = .ok (.iinc 4 1, 3) := by decide +kernel
theorem dF_wordOf_67 : decode cF_wordOf 67 = .ok (.goto (-62), 3) := by decide +kernel
theorem dF_wordOf_70 : decode cF_wordOf 70 = .ok (.lload_n 2, 1) := by decide +kernel
theorem dF_wordOf_71 : decode cF_wordOf 71 = .ok (.lreturn, 1) := by decide +kernel
theorem dF_numberIn_0 : decode cF_numberIn 0 = .ok (.lconst 0, 1) := by decide +kernel
theorem dF_numberIn_1 : decode cF_numberIn 1 = .ok (.lstore 4, 2) := by decide +kernel
theorem dF_numberIn_3 : decode cF_numberIn 3 = .ok (.iconst 0, 1) := by decide +kernel
theorem dF_numberIn_4 : decode cF_numberIn 4 = .ok (.istore 6, 2) := by decide +kernel
theorem dF_numberIn_6 : decode cF_numberIn 6 = .ok (.iload 6, 2) := by decide +kernel
theorem dF_numberIn_8 : decode cF_numberIn 8 = .ok (.aload_n 0, 1) := by decide +kernel
theorem dF_numberIn_9 : decode cF_numberIn 9 = .ok (.getfield 25, 3) := by decide +kernel
theorem dF_numberIn_12 : decode cF_numberIn 12 = .ok (.if_icmp .ge 47, 3) := by decide +kernel
theorem dF_numberIn_15 : decode cF_numberIn 15 = .ok (.aload_n 0, 1) := by decide +kernel
theorem dF_numberIn_16 : decode cF_numberIn 16 = .ok (.getfield 19, 3) := by decide +kernel
theorem dF_numberIn_19 : decode cF_numberIn 19 = .ok (.iload 6, 2) := by decide +kernel
theorem dF_numberIn_21 : decode cF_numberIn 21 = .ok (.iaload, 1) := by decide +kernel
theorem dF_numberIn_22 : decode cF_numberIn 22 = .ok (.iload_n 1, 1) := by decide +kernel
theorem dF_numberIn_23 : decode cF_numberIn 23 = .ok (.if_icmp .ne 30, 3) := by decide +kernel
theorem dF_numberIn_26 : decode cF_numberIn 26 = .ok (.lload 4, 2) := by decide +kernel
theorem dF_numberIn_28 : decode cF_numberIn 28 = .ok (.lload_n 2, 1) := by decide +kernel
theorem dF_numberIn_29 : decode cF_numberIn 29 = .ok (.aload_n 0, 1) := by decide +kernel
theorem dF_numberIn_30 : decode cF_numberIn 30 = .ok (.getfield 25, 3) := by decide +kernel
theorem dF_numberIn_33 : decode cF_numberIn 33 = .ok (.iconst 1, 1) := by decide +kernel
theorem dF_numberIn_34 : decode cF_numberIn 34 = .ok (.isub, 1) := by decide +kernel
theorem dF_numberIn_35 : decode cF_numberIn 35 = .ok (.iload 6, 2) := by decide +kernel
theorem dF_numberIn_37 : decode cF_numberIn 37 = .ok (.isub, 1) := by decide +kernel
theorem dF_numberIn_38 : decode cF_numberIn 38 = .ok (.invokestatic 29, 3) := by decide +kernel
theorem dF_numberIn_41 : decode cF_numberIn 41 = .ok (.i2l, 1) := by decide +kernel
theorem dF_numberIn_42 : decode cF_numberIn 42 = .ok (.aload_n 0, 1) := by decide +kernel
theorem dF_numberIn_43 : decode cF_numberIn 43 = .ok (.getfield 22, 3) := by decide +kernel
theorem dF_numberIn_46 : decode cF_numberIn 46 = .ok (.iload 6, 2) := by decide +kernel
theorem dF_numberIn_48 : decode cF_numberIn 48 = .ok (.iaload, 1) := by decide +kernel
theorem dF_numberIn_49 : decode cF_numberIn 49 = .ok (.lshl, 1) := by decide +kernel
theorem dF_numberIn_50 : decode cF_numberIn 50 = .ok (.lor, 1) := by decide +kernel
theorem dF_numberIn_51 : decode cF_numberIn 51 = .ok (.lstore 4, 2) := by decide +kernel
theorem dF_numberIn_53 : decode cF_numberIn 53 = .ok (.iinc 6 1, 3) := by decide +kernel
theorem dF_numberIn_56 : decode cF_numberIn 56 = .ok (.goto (-50), 3) := by decide +kernel
theorem dF_numberIn_59 : decode cF_numberIn 59 = .ok (.bipush 64, 2) := by decide +kernel
theorem dF_numberIn_61 : decode cF_numberIn 61 = .ok (.aload_n 0, 1) := by decide +kernel
theorem dF_numberIn_62 : decode cF_numberIn 62 = .ok (.getfield 9, 3) := by decide +kernel
theorem dF_numberIn_65 : decode cF_numberIn 65 = .ok (.iload_n 1, 1) := by decide +kernel
theorem dF_numberIn_66 : decode cF_numberIn 66 = .ok (.iaload, 1) := by decide +kernel
theorem dF_numberIn_67 : decode cF_numberIn 67 = .ok (.isub, 1) := by decide +kernel
theorem dF_numberIn_68 : decode cF_numberIn 68 = .ok (.istore 6, 2) := by decide +kernel
theorem dF_numberIn_70 : decode cF_numberIn 70 = .ok (.aload_n 0, 1) := by decide +kernel
theorem dF_numberIn_71 : decode cF_numberIn 71 = .ok (.getfield 15, 3) := by decide +kernel
theorem dF_numberIn_74 : decode cF_numberIn 74 = .ok (.iload_n 1, 1) := by decide +kernel
theorem dF_numberIn_75 : decode cF_numberIn 75 = .ok (.baload, 1) := by decide +kernel
theorem dF_numberIn_76 : decode cF_numberIn 76 = .ok (.ifCond .eq 14, 3) := by decide +kernel
theorem dF_numberIn_79 : decode cF_numberIn 79 = .ok (.lload 4, 2) := by decide +kernel
theorem dF_numberIn_81 : decode cF_numberIn 81 = .ok (.iload 6, 2) := by decide +kernel
theorem dF_numberIn_83 : decode cF_numberIn 83 = .ok (.lshl, 1) := by decide +kernel
theorem dF_numberIn_84 : decode cF_numberIn 84 = .ok (.iload 6, 2) := by decide +kernel
theorem dF_numberIn_86 : decode cF_numberIn 86 = .ok (.lshr, 1) := by decide +kernel
theorem dF_numberIn_87 : decode cF_numberIn 87 = .ok (.goto 5, 3) := by decide +kernel
theorem dF_numberIn_90 : decode cF_numberIn 90 = .ok (.lload 4, 2) := by decide +kernel
theorem dF_numberIn_92 : decode cF_numberIn 92 = .ok (.lreturn, 1) := by decide +kernel
theorem dF_matches_0 : decode cF_matches 0 = .ok (.iconst 0, 1) := by decide +kernel
theorem dF_matches_1 : decode cF_matches 1 = .ok (.istore_n 3, 1) := by decide +kernel
theorem dF_matches_2 : decode cF_matches 2 = .ok (.iload_n 3, 1) := by decide +kernel
theorem dF_matches_3 : decode cF_matches 3 = .ok (.bipush 64, 2) := by decide +kernel
theorem dF_matches_5 : decode cF_matches 5 = .ok (.if_icmp .ge 24, 3) := by decide +kernel
theorem dF_matches_8 : decode cF_matches 8 = .ok (.aload_n 0, 1) := by decide +kernel
theorem dF_matches_9 : decode cF_matches 9 = .ok (.iload_n 3, 1) := by decide +kernel
theorem dF_matches_10 : decode cF_matches 10 = .ok (.lload_n 1, 1) := by decide +kernel
theorem dF_matches_11 : decode cF_matches 11 = .ok (.iload_n 3, 1) := by decide +kernel
theorem dF_matches_12 : decode cF_matches 12 = .ok (.invokestatic 29, 3) := by decide +kernel
theorem dF_matches_15 : decode cF_matches 15 = .ok (.invokevirtual 50, 3) := by decide +kernel
theorem dF_matches_18 : decode cF_matches 18 = .ok (.ifCond .ne 5, 3) := by decide +kernel
theorem dF_matches_21 : decode cF_matches 21 = .ok (.iconst 0, 1) := by decide +kernel
theorem dF_matches_22 : decode cF_matches 22 = .ok (.ireturn, 1) := by decide +kernel
theorem dF_matches_23 : decode cF_matches 23 = .ok (.iinc 3 1, 3) := by decide +kernel
theorem dF_matches_26 : decode cF_matches 26 = .ok (.goto (-24), 3) := by decide +kernel
theorem dF_matches_29 : decode cF_matches 29 = .ok (.iconst 1, 1) := by decide +kernel
theorem dF_matches_30 : decode cF_matches 30 = .ok (.ireturn, 1) := by decide +kernel
theorem dF_sharesWordWith_0 : decode cF_sharesWordWith 0 = .ok (.iconst 0, 1) := by decide +kernel
theorem dF_sharesWordWith_1 : decode cF_sharesWordWith 1 = .ok (.istore_n 2, 1) := by decide +kernel
theorem dF_sharesWordWith_2 : decode cF_sharesWordWith 2 = .ok (.iload_n 2, 1) := by decide +kernel
theorem dF_sharesWordWith_3 : decode cF_sharesWordWith 3 = .ok (.bipush 64, 2) := by decide +kernel
theorem dF_sharesWordWith_5 : decode cF_sharesWordWith 5 = .ok (.if_icmp .ge 69, 3) := by decide +kernel
theorem dF_sharesWordWith_8 : decode cF_sharesWordWith 8 = .ok (.aload_n 0, 1) := by decide +kernel
theorem dF_sharesWordWith_9 : decode cF_sharesWordWith 9 = .ok (.iload_n 2, 1) := by decide +kernel
theorem dF_sharesWordWith_10 : decode cF_sharesWordWith 10 = .ok (.iconst 0, 1) := by decide +kernel
theorem dF_sharesWordWith_11 : decode cF_sharesWordWith 11 = .ok (.invokevirtual 50, 3) := by decide +kernel
theorem dF_sharesWordWith_14 : decode cF_sharesWordWith 14 = .ok (.ifCond .eq 16, 3) := by decide +kernel
theorem dF_sharesWordWith_17 : decode cF_sharesWordWith 17 = .ok (.aload_n 1, 1) := by decide +kernel
theorem dF_sharesWordWith_18 : decode cF_sharesWordWith 18 = .ok (.iload_n 2, 1) := by decide +kernel
theorem dF_sharesWordWith_19 : decode cF_sharesWordWith 19 = .ok (.iconst 0, 1) := by decide +kernel
theorem dF_sharesWordWith_20 : decode cF_sharesWordWith 20 = .ok (.invokevirtual 50, 3) := by decide +kernel
theorem dF_sharesWordWith_23 : decode cF_sharesWordWith 23 = .ok (.ifCond .eq 7, 3) := by decide +kernel
theorem dF_sharesWordWith_26 : decode cF_sharesWordWith 26 = .ok (.iconst 1, 1) := by decide +kernel
theorem dF_sharesWordWith_27 : decode cF_sharesWordWith 27 = .ok (.goto 4, 3) := by decide +kernel
theorem dF_sharesWordWith_30 : decode cF_sharesWordWith 30 = .ok (.iconst 0, 1) := by decide +kernel
theorem dF_sharesWordWith_31 : decode cF_sharesWordWith 31 = .ok (.istore_n 3, 1) := by decide +kernel
theorem dF_sharesWordWith_32 : decode cF_sharesWordWith 32 = .ok (.aload_n 0, 1) := by decide +kernel
theorem dF_sharesWordWith_33 : decode cF_sharesWordWith 33 = .ok (.iload_n 2, 1) := by decide +kernel
theorem dF_sharesWordWith_34 : decode cF_sharesWordWith 34 = .ok (.iconst 1, 1) := by decide +kernel
theorem dF_sharesWordWith_35 : decode cF_sharesWordWith 35 = .ok (.invokevirtual 50, 3) := by decide +kernel
theorem dF_sharesWordWith_38 : decode cF_sharesWordWith 38 = .ok (.ifCond .eq 16, 3) := by decide +kernel
theorem dF_sharesWordWith_41 : decode cF_sharesWordWith 41 = .ok (.aload_n 1, 1) := by decide +kernel
theorem dF_sharesWordWith_42 : decode cF_sharesWordWith 42 = .ok (.iload_n 2, 1) := by decide +kernel
theorem dF_sharesWordWith_43 : decode cF_sharesWordWith 43 = .ok (.iconst 1, 1) := by decide +kernel
theorem dF_sharesWordWith_44 : decode cF_sharesWordWith 44 = .ok (.invokevirtual 50, 3) := by decide +kernel
theorem dF_sharesWordWith_47 : decode cF_sharesWordWith 47 = .ok (.ifCond .eq 7, 3) := by decide +kernel
theorem dF_sharesWordWith_50 : decode cF_sharesWordWith 50 = .ok (.iconst 1, 1) := by decide +kernel
theorem dF_sharesWordWith_51 : decode cF_sharesWordWith 51 = .ok (.goto 4, 3) := by decide +kernel
theorem dF_sharesWordWith_54 : decode cF_sharesWordWith 54 = .ok (.iconst 0, 1) := by decide +kernel
theorem dF_sharesWordWith_55 : decode cF_sharesWordWith 55 = .ok (.istore 4, 2) := by decide +kernel
theorem dF_sharesWordWith_57 : decode cF_sharesWordWith 57 = .ok (.iload_n 3, 1) := by decide +kernel
theorem dF_sharesWordWith_58 : decode cF_sharesWordWith 58 = .ok (.ifCond .ne 10, 3) := by decide +kernel
theorem dF_sharesWordWith_61 : decode cF_sharesWordWith 61 = .ok (.iload 4, 2) := by decide +kernel
theorem dF_sharesWordWith_63 : decode cF_sharesWordWith 63 = .ok (.ifCond .ne 5, 3) := by decide +kernel
theorem dF_sharesWordWith_66 : decode cF_sharesWordWith 66 = .ok (.iconst 0, 1) := by decide +kernel
theorem dF_sharesWordWith_67 : decode cF_sharesWordWith 67 = .ok (.ireturn, 1) := by decide +kernel
theorem dF_sharesWordWith_68 : decode cF_sharesWordWith 68 = .ok (.iinc 2 1, 3) := by decide +kernel
theorem dF_sharesWordWith_71 : decode cF_sharesWordWith 71 = .ok (.goto (-69), 3) := by decide +kernel
theorem dF_sharesWordWith_74 : decode cF_sharesWordWith 74 = .ok (.iconst 1, 1) := by decide +kernel
theorem dF_sharesWordWith_75 : decode cF_sharesWordWith 75 = .ok (.ireturn, 1) := by decide +kernel
theorem dF_allows_0 : decode cF_allows 0 = .ok (.iload_n 1, 1) := by decide +kernel
theorem dF_allows_1 : decode cF_allows 1 = .ok (.aload_n 0, 1) := by decide +kernel
theorem dF_allows_2 : decode cF_allows 2 = .ok (.getfield 25, 3) := by decide +kernel
theorem dF_allows_5 : decode cF_allows 5 = .ok (.if_icmp .lt 13, 3) := by decide +kernel
theorem dF_allows_8 : decode cF_allows 8 = .ok (.iload_n 2, 1) := by decide +kernel
theorem dF_allows_9 : decode cF_allows 9 = .ok (.ifCond .ne 7, 3) := by decide +kernel
theorem dF_allows_12 : decode cF_allows 12 = .ok (.iconst 1, 1) := by decide +kernel
theorem dF_allows_13 : decode cF_allows 13 = .ok (.goto 4, 3) := by decide +kernel
theorem dF_allows_16 : decode cF_allows 16 = .ok (.iconst 0, 1) := by decide +kernel
theorem dF_allows_17 : decode cF_allows 17 = .ok (.ireturn, 1) := by decide +kernel
theorem dF_allows_18 : decode cF_allows 18 = .ok (.aload_n 0, 1) := by decide +kernel
theorem dF_allows_19 : decode cF_allows 19 = .ok (.getfield 25, 3) := by decide +kernel
theorem dF_allows_22 : decode cF_allows 22 = .ok (.iconst 1, 1) := by decide +kernel
theorem dF_allows_23 : decode cF_allows 23 = .ok (.isub, 1) := by decide +kernel
theorem dF_allows_24 : decode cF_allows 24 = .ok (.iload_n 1, 1) := by decide +kernel
theorem dF_allows_25 : decode cF_allows 25 = .ok (.isub, 1) := by decide +kernel
theorem dF_allows_26 : decode cF_allows 26 = .ok (.istore_n 3, 1) := by decide +kernel
theorem dF_allows_27 : decode cF_allows 27 = .ok (.aload_n 0, 1) := by decide +kernel
theorem dF_allows_28 : decode cF_allows 28 = .ok (.getfield 19, 3) := by decide +kernel
theorem dF_allows_31 : decode cF_allows 31 = .ok (.iload_n 3, 1) := by decide +kernel
theorem dF_allows_32 : decode cF_allows 32 = .ok (.iaload, 1) := by decide +kernel
theorem dF_allows_33 : decode cF_allows 33 = .ok (.iconst (-1), 1) := by decide +kernel
theorem dF_allows_34 : decode cF_allows 34 = .ok (.if_icmp .ne 13, 3) := by decide +kernel
theorem dF_allows_37 : decode cF_allows 37 = .ok (.aload_n 0, 1) := by decide +kernel
theorem dF_allows_38 : decode cF_allows 38 = .ok (.getfield 22, 3) := by decide +kernel
theorem dF_allows_41 : decode cF_allows 41 = .ok (.iload_n 3, 1) := by decide +kernel
theorem dF_allows_42 : decode cF_allows 42 = .ok (.iaload, 1) := by decide +kernel
theorem dF_allows_43 : decode cF_allows 43 = .ok (.iload_n 2, 1) := by decide +kernel
theorem dF_allows_44 : decode cF_allows 44 = .ok (.if_icmp .ne 7, 3) := by decide +kernel
theorem dF_allows_47 : decode cF_allows 47 = .ok (.iconst 1, 1) := by decide +kernel
theorem dF_allows_48 : decode cF_allows 48 = .ok (.goto 4, 3) := by decide +kernel
theorem dF_allows_51 : decode cF_allows 51 = .ok (.iconst 0, 1) := by decide +kernel
theorem dF_allows_52 : decode cF_allows 52 = .ok (.ireturn, 1) := by decide +kernel
theorem dF_bitOf_0 : decode cF_bitOf 0 = .ok (.lload_n 0, 1) := by decide +kernel
theorem dF_bitOf_1 : decode cF_bitOf 1 = .ok (.iload_n 2, 1) := by decide +kernel
theorem dF_bitOf_2 : decode cF_bitOf 2 = .ok (.lushr, 1) := by decide +kernel
theorem dF_bitOf_3 : decode cF_bitOf 3 = .ok (.lconst 1, 1) := by decide +kernel
theorem dF_bitOf_4 : decode cF_bitOf 4 = .ok (.land, 1) := by decide +kernel
theorem dF_bitOf_5 : decode cF_bitOf 5 = .ok (.l2i, 1) := by decide +kernel
theorem dF_bitOf_6 : decode cF_bitOf 6 = .ok (.ireturn, 1) := by decide +kernel
theorem dX_init_0 : decode cX_init 0 = .ok (.aload_n 0, 1) := by decide +kernel
theorem dX_init_1 : decode cX_init 1 = .ok (.invokespecial 1, 3) := by decide +kernel
theorem dX_init_4 : decode cX_init 4 = .ok (.aload_n 0, 1) := by decide +kernel
theorem dX_init_5 : decode cX_init 5 = .ok (.bipush 8, 2) := by decide +kernel
theorem dX_init_7 : decode cX_init 7 = .ok (.anewarray 9, 3) := by decide +kernel
theorem dX_init_10 : decode cX_init 10 = .ok (.putfield 11, 3) := by decide +kernel
theorem dX_init_13 : decode cX_init 13 = .ok (.iconst 0, 1) := by decide +kernel
theorem dX_init_14 : decode cX_init 14 = .ok (.istore_n 1, 1) := by decide +kernel
theorem dX_init_15 : decode cX_init 15 = .ok (.iload_n 1, 1) := by decide +kernel
theorem dX_init_16 : decode cX_init 16 = .ok (.bipush 8, 2) := by decide +kernel
theorem dX_init_18 : decode cX_init 18 = .ok (.if_icmp .ge 22, 3) := by decide +kernel
theorem dX_init_21 : decode cX_init 21 = .ok (.aload_n 0, 1) := by decide +kernel
theorem dX_init_22 : decode cX_init 22 = .ok (.getfield 11, 3) := by decide +kernel
theorem dX_init_25 : decode cX_init 25 = .ok (.iload_n 1, 1) := by decide +kernel
theorem dX_init_26 : decode cX_init 26 = .ok (.new 9, 3) := by decide +kernel
theorem dX_init_29 : decode cX_init 29 = .ok (.dup, 1) := by decide +kernel
theorem dX_init_30 : decode cX_init 30 = .ok (.invokespecial 15, 3) := by decide +kernel
theorem dX_init_33 : decode cX_init 33 = .ok (.aastore, 1) := by decide +kernel
theorem dX_init_34 : decode cX_init 34 = .ok (.iinc 1 1, 3) := by decide +kernel
theorem dX_init_37 : decode cX_init 37 = .ok (.goto (-22), 3) := by decide +kernel
theorem dX_init_40 : decode cX_init 40 = .ok (.aload_n 0, 1) := by decide +kernel
theorem dX_init_41 : decode cX_init 41 = .ok (.bipush 6, 2) := by decide +kernel
theorem dX_init_43 : decode cX_init 43 = .ok (.newarray .long, 2) := by decide +kernel
theorem dX_init_45 : decode cX_init 45 = .ok (.putfield 16, 3) := by decide +kernel
theorem dX_init_48 : decode cX_init 48 = .ok (.return_, 1) := by decide +kernel
theorem dX_clear_0 : decode cX_clear 0 = .ok (.aload_n 0, 1) := by decide +kernel
theorem dX_clear_1 : decode cX_clear 1 = .ok (.iload_n 1, 1) := by decide +kernel
theorem dX_clear_2 : decode cX_clear 2 = .ok (.invokevirtual 20, 3) := by decide +kernel
theorem dX_clear_5 : decode cX_clear 5 = .ok (.invokevirtual 24, 3) := by decide +kernel
theorem dX_clear_8 : decode cX_clear 8 = .ok (.return_, 1) := by decide +kernel
theorem dX_operand_0 : decode cX_operand 0 = .ok (.aload_n 0, 1) := by decide +kernel
theorem dX_operand_1 : decode cX_operand 1 = .ok (.iload_n 1, 1) := by decide +kernel
theorem dX_operand_2 : decode cX_operand 2 = .ok (.invokevirtual 20, 3) := by decide +kernel
theorem dX_operand_5 : decode cX_operand 5 = .ok (.astore 5, 2) := by decide +kernel
theorem dX_operand_7 : decode cX_operand 7 = .ok (.iload_n 2, 1) := by decide +kernel
theorem dX_operand_8 : decode cX_operand 8 = .ok (.invokestatic 27, 3) := by decide +kernel
theorem dX_operand_11 : decode cX_operand 11 = .ok (.iload_n 3, 1) := by decide +kernel
theorem dX_operand_12 : decode cX_operand 12 = .ok (.invokestatic 31, 3) := by decide +kernel
theorem dX_operand_15 : decode cX_operand 15 = .ok (.aload 5, 2) := by decide +kernel
theorem dX_operand_17 : decode cX_operand 17 = .ok (.iload_n 2, 1) := by decide +kernel
theorem dX_operand_18 : decode cX_operand 18 = .ok (.invokevirtual 34, 3) := by decide +kernel
theorem dX_operand_21 : decode cX_operand 21 = .ok (.ifCond .eq 13, 3) := by decide +kernel
theorem dX_operand_24 : decode cX_operand 24 = .ok (.new 38, 3) := by decide +kernel
theorem dX_operand_27 : decode cX_operand 27 = .ok (.dup, 1) := by decide +kernel
theorem dX_operand_28 : decode cX_operand 28 = .ok (.ldc 40, 2) := by decide +kernel
theorem dX_operand_30 : decode cX_operand 30 = .ok (.invokespecial 42, 3) := by decide +kernel
theorem dX_operand_33 : decode cX_operand 33 = .ok (.athrow, 1) := by decide +kernel
theorem dX_operand_34 : decode cX_operand 34 = .ok (.aload 5, 2) := by decide +kernel
theorem dX_operand_36 : decode cX_operand 36 = .ok (.iload_n 2, 1) := by decide +kernel
theorem dX_operand_37 : decode cX_operand 37 = .ok (.iload_n 3, 1) := by decide +kernel
theorem dX_operand_38 : decode cX_operand 38 = .ok (.iload 4, 2) := by decide +kernel
theorem dX_operand_40 : decode cX_operand 40 = .ok (.invokevirtual 45, 3) := by decide +kernel
theorem dX_operand_43 : decode cX_operand 43 = .ok (.return_, 1) := by decide +kernel
theorem dX_fixed_0 : decode cX_fixed 0 = .ok (.aload_n 0, 1) := by decide +kernel
theorem dX_fixed_1 : decode cX_fixed 1 = .ok (.iload_n 1, 1) := by decide +kernel
theorem dX_fixed_2 : decode cX_fixed 2 = .ok (.invokevirtual 20, 3) := by decide +kernel
theorem dX_fixed_5 : decode cX_fixed 5 = .ok (.astore 5, 2) := by decide +kernel
theorem dX_fixed_7 : decode cX_fixed 7 = .ok (.iload_n 2, 1) := by decide +kernel
theorem dX_fixed_8 : decode cX_fixed 8 = .ok (.invokestatic 31, 3) := by decide +kernel
theorem dX_fixed_11 : decode cX_fixed 11 = .ok (.aload 5, 2) := by decide +kernel
theorem dX_fixed_13 : decode cX_fixed 13 = .ok (.iload_n 2, 1) := by decide +kernel
theorem dX_fixed_14 : decode cX_fixed 14 = .ok (.invokestatic 49, 3) := by decide +kernel
theorem dX_fixed_17 : decode cX_fixed 17 = .ok (.aload 5, 2) := by decide +kernel
theorem dX_fixed_19 : decode cX_fixed 19 = .ok (.iload_n 2, 1) := by decide +kernel
theorem dX_fixed_20 : decode cX_fixed 20 = .ok (.lload_n 3, 1) := by decide +kernel
theorem dX_fixed_21 : decode cX_fixed 21 = .ok (.invokevirtual 53, 3) := by decide +kernel
theorem dX_fixed_24 : decode cX_fixed 24 = .ok (.aload 5, 2) := by decide +kernel
theorem dX_fixed_26 : decode cX_fixed 26 = .ok (.getfield 57, 3) := by decide +kernel
theorem dX_fixed_29 : decode cX_fixed 29 = .ok (.ireturn, 1) := by decide +kernel
theorem dX_slice_0 : decode cX_slice 0 = .ok (.aload_n 0, 1) := by decide +kernel
theorem dX_slice_1 : decode cX_slice 1 = .ok (.iload_n 1, 1) := by decide +kernel
theorem dX_slice_2 : decode cX_slice 2 = .ok (.iload_n 2, 1) := by decide +kernel
theorem dX_slice_3 : decode cX_slice 3 = .ok (.invokevirtual 61, 3) := by decide +kernel
theorem dX_slice_6 : decode cX_slice 6 = .ok (.astore 5, 2) := by decide +kernel
theorem dX_slice_8 : decode cX_slice 8 = .ok (.iload_n 3, 1) := by decide +kernel
theorem dX_slice_9 : decode cX_slice 9 = .ok (.iload 4, 2) := by decide +kernel
theorem dX_slice_11 : decode cX_slice 11 = .ok (.if_icmp .ge 13, 3) := by decide +kernel
theorem dX_slice_14 : decode cX_slice 14 = .ok (.new 65, 3) := by decide +kernel
theorem dX_slice_17 : decode cX_slice 17 = .ok (.dup, 1) := by decide +kernel
theorem dX_slice_18 : decode cX_slice 18 = .ok (.ldc 67, 2) := by decide +kernel
theorem dX_slice_20 : decode cX_slice 20 = .ok (.invokespecial 69, 3) := by decide +kernel
theorem dX_slice_23 : decode cX_slice 23 = .ok (.athrow, 1) := by decide +kernel
theorem dX_slice_24 : decode cX_slice 24 = .ok (.iload 4, 2) := by decide +kernel
theorem dX_slice_26 : decode cX_slice 26 = .ok (.ifCond .lt 14, 3) := by decide +kernel
theorem dX_slice_29 : decode cX_slice 29 = .ok (.iload_n 3, 1) := by decide +kernel
theorem dX_slice_30 : decode cX_slice 30 = .ok (.aload 5, 2) := by decide +kernel
theorem dX_slice_32 : decode cX_slice 32 = .ok (.getfield 70, 3) := by decide +kernel
theorem dX_slice_35 : decode cX_slice 35 = .ok (.iload_n 2, 1) := by decide +kernel
theorem dX_slice_36 : decode cX_slice 36 = .ok (.iaload, 1) := by decide +kernel
theorem dX_slice_37 : decode cX_slice 37 = .ok (.if_icmp .lt 13, 3) := by decide +kernel
theorem dX_slice_40 : decode cX_slice 40 = .ok (.new 74, 3) := by decide +kernel
theorem dX_slice_43 : decode cX_slice 43 = .ok (.dup, 1) := by decide +kernel
theorem dX_slice_44 : decode cX_slice 44 = .ok (.ldc 76, 2) := by decide +kernel
theorem dX_slice_46 : decode cX_slice 46 = .ok (.invokespecial 78, 3) := by decide +kernel
theorem dX_slice_49 : decode cX_slice 49 = .ok (.athrow, 1) := by decide +kernel
theorem dX_slice_50 : decode cX_slice 50 = .ok (.aload 5, 2) := by decide +kernel
theorem dX_slice_52 : decode cX_slice 52 = .ok (.iload_n 3, 1) := by decide +kernel
theorem dX_slice_53 : decode cX_slice 53 = .ok (.iload 4, 2) := by decide +kernel
theorem dX_slice_55 : decode cX_slice 55 = .ok (.isub, 1) := by decide +kernel
theorem dX_slice_56 : decode cX_slice 56 = .ok (.iconst 1, 1) := by decide +kernel
theorem dX_slice_57 : decode cX_slice 57 = .ok (.iadd, 1) := by decide +kernel
theorem dX_slice_58 : decode cX_slice 58 = .ok (.invokestatic 49, 3) := by decide +kernel
theorem dX_slice_61 : decode cX_slice 61 = .ok (.aload 5, 2) := by decide +kernel
theorem dX_slice_63 : decode cX_slice 63 = .ok (.iload_n 2, 1) := by decide +kernel
theorem dX_slice_64 : decode cX_slice 64 = .ok (.iload_n 3, 1) := by decide +kernel
theorem dX_slice_65 : decode cX_slice 65 = .ok (.iload 4, 2) := by decide +kernel
theorem dX_slice_67 : decode cX_slice 67 = .ok (.invokevirtual 79, 3) := by decide +kernel
theorem dX_slice_70 : decode cX_slice 70 = .ok (.ifCond .eq 13, 3) := by decide +kernel
theorem dX_slice_73 : decode cX_slice 73 = .ok (.new 38, 3) := by decide +kernel
theorem dX_slice_76 : decode cX_slice 76 = .ok (.dup, 1) := by decide +kernel
theorem dX_slice_77 : decode cX_slice 77 = .ok (.ldc 83, 2) := by decide +kernel
theorem dX_slice_79 : decode cX_slice 79 = .ok (.invokespecial 42, 3) := by decide +kernel
theorem dX_slice_82 : decode cX_slice 82 = .ok (.athrow, 1) := by decide +kernel
theorem dX_slice_83 : decode cX_slice 83 = .ok (.aload 5, 2) := by decide +kernel
theorem dX_slice_85 : decode cX_slice 85 = .ok (.iload_n 2, 1) := by decide +kernel
theorem dX_slice_86 : decode cX_slice 86 = .ok (.iload_n 3, 1) := by decide +kernel
theorem dX_slice_87 : decode cX_slice 87 = .ok (.iload 4, 2) := by decide +kernel
theorem dX_slice_89 : decode cX_slice 89 = .ok (.invokevirtual 85, 3) := by decide +kernel
theorem dX_slice_92 : decode cX_slice 92 = .ok (.aload 5, 2) := by decide +kernel
theorem dX_slice_94 : decode cX_slice 94 = .ok (.getfield 57, 3) := by decide +kernel
theorem dX_slice_97 : decode cX_slice 97 = .ok (.ireturn, 1) := by decide +kernel
theorem dX_whole_0 : decode cX_whole 0 = .ok (.aload_n 0, 1) := by decide +kernel
theorem dX_whole_1 : decode cX_whole 1 = .ok (.iload_n 1, 1) := by decide +kernel
theorem dX_whole_2 : decode cX_whole 2 = .ok (.invokevirtual 20, 3) := by decide +kernel
theorem dX_whole_5 : decode cX_whole 5 = .ok (.invokevirtual 89, 3) := by decide +kernel
theorem dX_whole_8 : decode cX_whole 8 = .ok (.ireturn, 1) := by decide +kernel
theorem dX_number_0 : decode cX_number 0 = .ok (.iload_n 1, 1) := by decide +kernel
theorem dX_number_1 : decode cX_number 1 = .ok (.invokestatic 27, 3) := by decide +kernel
theorem dX_number_4 : decode cX_number 4 = .ok (.aload_n 0, 1) := by decide +kernel
theorem dX_number_5 : decode cX_number 5 = .ok (.getfield 16, 3) := by decide +kernel
theorem dX_number_8 : decode cX_number 8 = .ok (.iload_n 1, 1) := by decide +kernel
theorem dX_number_9 : decode cX_number 9 = .ok (.lload_n 2, 1) := by decide +kernel
theorem dX_number_10 : decode cX_number 10 = .ok (.lastore, 1) := by decide +kernel
theorem dX_number_11 : decode cX_number 11 = .ok (.return_, 1) := by decide +kernel
theorem dX_fits_0 : decode cX_fits 0 = .ok (.aload_n 0, 1) := by decide +kernel
theorem dX_fits_1 : decode cX_fits 1 = .ok (.iload_n 1, 1) := by decide +kernel
theorem dX_fits_2 : decode cX_fits 2 = .ok (.iload_n 2, 1) := by decide +kernel
theorem dX_fits_3 : decode cX_fits 3 = .ok (.invokevirtual 61, 3) := by decide +kernel
theorem dX_fits_6 : decode cX_fits 6 = .ok (.iload_n 2, 1) := by decide +kernel
theorem dX_fits_7 : decode cX_fits 7 = .ok (.lload_n 3, 1) := by decide +kernel
theorem dX_fits_8 : decode cX_fits 8 = .ok (.invokevirtual 93, 3) := by decide +kernel
theorem dX_fits_11 : decode cX_fits 11 = .ok (.ireturn, 1) := by decide +kernel
theorem dX_encode_0 : decode cX_encode 0 = .ok (.aload_n 0, 1) := by decide +kernel
theorem dX_encode_1 : decode cX_encode 1 = .ok (.iload_n 1, 1) := by decide +kernel
theorem dX_encode_2 : decode cX_encode 2 = .ok (.invokevirtual 20, 3) := by decide +kernel
theorem dX_encode_5 : decode cX_encode 5 = .ok (.astore_n 2, 1) := by decide +kernel
theorem dX_encode_6 : decode cX_encode 6 = .ok (.aload_n 2, 1) := by decide +kernel
theorem dX_encode_7 : decode cX_encode 7 = .ok (.invokestatic 97, 3) := by decide +kernel
theorem dX_encode_10 : decode cX_encode 10 = .ok (.aload_n 2, 1) := by decide +kernel
theorem dX_encode_11 : decode cX_encode 11 = .ok (.aload_n 0, 1) := by decide +kernel
theorem dX_encode_12 : decode cX_encode 12 = .ok (.getfield 16, 3) := by decide +kernel
theorem dX_encode_15 : decode cX_encode 15 = .ok (.invokevirtual 101, 3) := by decide +kernel
theorem dX_encode_18 : decode cX_encode 18 = .ok (.ifCond .ne 13, 3) := by decide +kernel
theorem dX_encode_21 : decode cX_encode 21 = .ok (.new 105, 3) := by decide +kernel
theorem dX_encode_24 : decode cX_encode 24 = .ok (.dup, 1) := by decide +kernel
theorem dX_encode_25 : decode cX_encode 25 = .ok (.ldc 107, 2) := by decide +kernel
theorem dX_encode_27 : decode cX_encode 27 = .ok (.invokespecial 109, 3) := by decide +kernel
theorem dX_encode_30 : decode cX_encode 30 = .ok (.athrow, 1) := by decide +kernel
theorem dX_encode_31 : decode cX_encode 31 = .ok (.aload_n 2, 1) := by decide +kernel
theorem dX_encode_32 : decode cX_encode 32 = .ok (.aload_n 0, 1) := by decide +kernel
theorem dX_encode_33 : decode cX_encode 33 = .ok (.getfield 16, 3) := by decide +kernel
theorem dX_encode_36 : decode cX_encode 36 = .ok (.invokevirtual 110, 3) := by decide +kernel
theorem dX_encode_39 : decode cX_encode 39 = .ok (.lreturn, 1) := by decide +kernel
theorem dX_is_0 : decode cX_is 0 = .ok (.aload_n 0, 1) := by decide +kernel
theorem dX_is_1 : decode cX_is 1 = .ok (.iload_n 1, 1) := by decide +kernel
theorem dX_is_2 : decode cX_is 2 = .ok (.invokevirtual 20, 3) := by decide +kernel
theorem dX_is_5 : decode cX_is 5 = .ok (.lload_n 2, 1) := by decide +kernel
theorem dX_is_6 : decode cX_is 6 = .ok (.invokevirtual 114, 3) := by decide +kernel
theorem dX_is_9 : decode cX_is 9 = .ok (.ireturn, 1) := by decide +kernel
theorem dX_decode_0 : decode cX_decode 0 = .ok (.aload_n 0, 1) := by decide +kernel
theorem dX_decode_1 : decode cX_decode 1 = .ok (.iload_n 1, 1) := by decide +kernel
theorem dX_decode_2 : decode cX_decode 2 = .ok (.iload_n 2, 1) := by decide +kernel
theorem dX_decode_3 : decode cX_decode 3 = .ok (.invokevirtual 61, 3) := by decide +kernel
theorem dX_decode_6 : decode cX_decode 6 = .ok (.astore 5, 2) := by decide +kernel
theorem dX_decode_8 : decode cX_decode 8 = .ok (.aload 5, 2) := by decide +kernel
theorem dX_decode_10 : decode cX_decode 10 = .ok (.invokestatic 97, 3) := by decide +kernel
theorem dX_decode_13 : decode cX_decode 13 = .ok (.aload 5, 2) := by decide +kernel
theorem dX_decode_15 : decode cX_decode 15 = .ok (.lload_n 3, 1) := by decide +kernel
theorem dX_decode_16 : decode cX_decode 16 = .ok (.invokevirtual 114, 3) := by decide +kernel
theorem dX_decode_19 : decode cX_decode 19 = .ok (.ifCond .ne 13, 3) := by decide +kernel
theorem dX_decode_22 : decode cX_decode 22 = .ok (.new 105, 3) := by decide +kernel
theorem dX_decode_25 : decode cX_decode 25 = .ok (.dup, 1) := by decide +kernel
theorem dX_decode_26 : decode cX_decode 26 = .ok (.ldc 118, 2) := by decide +kernel
theorem dX_decode_28 : decode cX_decode 28 = .ok (.invokespecial 109, 3) := by decide +kernel
theorem dX_decode_31 : decode cX_decode 31 = .ok (.athrow, 1) := by decide +kernel
theorem dX_decode_32 : decode cX_decode 32 = .ok (.aload 5, 2) := by decide +kernel
theorem dX_decode_34 : decode cX_decode 34 = .ok (.iload_n 2, 1) := by decide +kernel
theorem dX_decode_35 : decode cX_decode 35 = .ok (.lload_n 3, 1) := by decide +kernel
theorem dX_decode_36 : decode cX_decode 36 = .ok (.invokevirtual 120, 3) := by decide +kernel
theorem dX_decode_39 : decode cX_decode 39 = .ok (.lreturn, 1) := by decide +kernel
theorem dX_meet_0 : decode cX_meet 0 = .ok (.aload_n 0, 1) := by decide +kernel
theorem dX_meet_1 : decode cX_meet 1 = .ok (.iload_n 1, 1) := by decide +kernel
theorem dX_meet_2 : decode cX_meet 2 = .ok (.invokevirtual 20, 3) := by decide +kernel
theorem dX_meet_5 : decode cX_meet 5 = .ok (.aload_n 0, 1) := by decide +kernel
theorem dX_meet_6 : decode cX_meet 6 = .ok (.iload_n 2, 1) := by decide +kernel
theorem dX_meet_7 : decode cX_meet 7 = .ok (.invokevirtual 20, 3) := by decide +kernel
theorem dX_meet_10 : decode cX_meet 10 = .ok (.invokevirtual 124, 3) := by decide +kernel
theorem dX_meet_13 : decode cX_meet 13 = .ok (.ireturn, 1) := by decide +kernel
theorem dX_count_0 : decode cX_count 0 = .ok (.aload_n 0, 1) := by decide +kernel
theorem dX_count_1 : decode cX_count 1 = .ok (.iload_n 1, 1) := by decide +kernel
theorem dX_count_2 : decode cX_count 2 = .ok (.invokevirtual 20, 3) := by decide +kernel
theorem dX_count_5 : decode cX_count 5 = .ok (.astore_n 3, 1) := by decide +kernel
theorem dX_count_6 : decode cX_count 6 = .ok (.iload_n 2, 1) := by decide +kernel
theorem dX_count_7 : decode cX_count 7 = .ok (.tableswitch 49 0 3 #[29, 34, 39, 44], 29) := by decide +kernel
theorem dX_count_36 : decode cX_count 36 = .ok (.aload_n 3, 1) := by decide +kernel
theorem dX_count_37 : decode cX_count 37 = .ok (.getfield 57, 3) := by decide +kernel
theorem dX_count_40 : decode cX_count 40 = .ok (.ireturn, 1) := by decide +kernel
theorem dX_count_41 : decode cX_count 41 = .ok (.aload_n 3, 1) := by decide +kernel
theorem dX_count_42 : decode cX_count 42 = .ok (.invokevirtual 128, 3) := by decide +kernel
theorem dX_count_45 : decode cX_count 45 = .ok (.ireturn, 1) := by decide +kernel
theorem dX_count_46 : decode cX_count 46 = .ok (.aload_n 3, 1) := by decide +kernel
theorem dX_count_47 : decode cX_count 47 = .ok (.invokevirtual 132, 3) := by decide +kernel
theorem dX_count_50 : decode cX_count 50 = .ok (.ireturn, 1) := by decide +kernel
theorem dX_count_51 : decode cX_count 51 = .ok (.aload_n 3, 1) := by decide +kernel
theorem dX_count_52 : decode cX_count 52 = .ok (.invokevirtual 135, 3) := by decide +kernel
theorem dX_count_55 : decode cX_count 55 = .ok (.ireturn, 1) := by decide +kernel
theorem dX_count_56 : decode cX_count 56 = .ok (.new 65, 3) := by decide +kernel
theorem dX_count_59 : decode cX_count 59 = .ok (.dup, 1) := by decide +kernel
theorem dX_count_60 : decode cX_count 60 = .ok (.ldc 138, 2) := by decide +kernel
theorem dX_count_62 : decode cX_count 62 = .ok (.invokespecial 69, 3) := by decide +kernel
theorem dX_count_65 : decode cX_count 65 = .ok (.athrow, 1) := by decide +kernel
theorem dX_formAt_0 : decode cX_formAt 0 = .ok (.iload_n 1, 1) := by decide +kernel
theorem dX_formAt_1 : decode cX_formAt 1 = .ok (.ifCond .lt 9, 3) := by decide +kernel
theorem dX_formAt_4 : decode cX_formAt 4 = .ok (.iload_n 1, 1) := by decide +kernel
theorem dX_formAt_5 : decode cX_formAt 5 = .ok (.bipush 8, 2) := by decide +kernel
theorem dX_formAt_7 : decode cX_formAt 7 = .ok (.if_icmp .lt 13, 3) := by decide +kernel
theorem dX_formAt_10 : decode cX_formAt 10 = .ok (.new 65, 3) := by decide +kernel
theorem dX_formAt_13 : decode cX_formAt 13 = .ok (.dup, 1) := by decide +kernel
theorem dX_formAt_14 : decode cX_formAt 14 = .ok (.ldc 140, 2) := by decide +kernel
theorem dX_formAt_16 : decode cX_formAt 16 = .ok (.invokespecial 69, 3) := by decide +kernel
theorem dX_formAt_19 : decode cX_formAt 19 = .ok (.athrow, 1) := by decide +kernel
theorem dX_formAt_20 : decode cX_formAt 20 = .ok (.aload_n 0, 1) := by decide +kernel
theorem dX_formAt_21 : decode cX_formAt 21 = .ok (.getfield 11, 3) := by decide +kernel
theorem dX_formAt_24 : decode cX_formAt 24 = .ok (.iload_n 1, 1) := by decide +kernel
theorem dX_formAt_25 : decode cX_formAt 25 = .ok (.aaload, 1) := by decide +kernel
theorem dX_formAt_26 : decode cX_formAt 26 = .ok (.areturn, 1) := by decide +kernel
theorem dX_formWith_0 : decode cX_formWith 0 = .ok (.aload_n 0, 1) := by decide +kernel
theorem dX_formWith_1 : decode cX_formWith 1 = .ok (.iload_n 1, 1) := by decide +kernel
theorem dX_formWith_2 : decode cX_formWith 2 = .ok (.invokevirtual 20, 3) := by decide +kernel
theorem dX_formWith_5 : decode cX_formWith 5 = .ok (.astore_n 3, 1) := by decide +kernel
theorem dX_formWith_6 : decode cX_formWith 6 = .ok (.aload_n 3, 1) := by decide +kernel
theorem dX_formWith_7 : decode cX_formWith 7 = .ok (.iload_n 2, 1) := by decide +kernel
theorem dX_formWith_8 : decode cX_formWith 8 = .ok (.invokevirtual 34, 3) := by decide +kernel
theorem dX_formWith_11 : decode cX_formWith 11 = .ok (.ifCond .ne 13, 3) := by decide +kernel
theorem dX_formWith_14 : decode cX_formWith 14 = .ok (.new 65, 3) := by decide +kernel
theorem dX_formWith_17 : decode cX_formWith 17 = .ok (.dup, 1) := by decide +kernel
theorem dX_formWith_18 : decode cX_formWith 18 = .ok (.ldc 142, 2) := by decide +kernel
theorem dX_formWith_20 : decode cX_formWith 20 = .ok (.invokespecial 69, 3) := by decide +kernel
theorem dX_formWith_23 : decode cX_formWith 23 = .ok (.athrow, 1) := by decide +kernel
theorem dX_formWith_24 : decode cX_formWith 24 = .ok (.aload_n 3, 1) := by decide +kernel
theorem dX_formWith_25 : decode cX_formWith 25 = .ok (.areturn, 1) := by decide +kernel
theorem dX_checkOperandIndex_0 : decode cX_checkOperandIndex 0 = .ok (.iload_n 0, 1) := by decide +kernel
theorem dX_checkOperandIndex_1 : decode cX_checkOperandIndex 1 = .ok (.ifCond .lt 9, 3) := by decide +kernel
theorem dX_checkOperandIndex_4 : decode cX_checkOperandIndex 4 = .ok (.iload_n 0, 1) := by decide +kernel
theorem dX_checkOperandIndex_5 : decode cX_checkOperandIndex 5 = .ok (.bipush 6, 2) := by decide +kernel
theorem dX_checkOperandIndex_7 : decode cX_checkOperandIndex 7 = .ok (.if_icmp .lt 13, 3) := by decide +kernel
theorem dX_checkOperandIndex_10 : decode cX_checkOperandIndex 10 = .ok (.new 65, 3) := by decide +kernel
theorem dX_checkOperandIndex_13 : decode cX_checkOperandIndex 13 = .ok (.dup, 1) := by decide +kernel
theorem dX_checkOperandIndex_14 : decode cX_checkOperandIndex 14 = .ok (.ldc 144, 2) := by decide +kernel
theorem dX_checkOperandIndex_16 : decode cX_checkOperandIndex 16 = .ok (.invokespecial 69, 3) := by decide +kernel
theorem dX_checkOperandIndex_19 : decode cX_checkOperandIndex 19 = .ok (.athrow, 1) := by decide +kernel
theorem dX_checkOperandIndex_20 : decode cX_checkOperandIndex 20 = .ok (.return_, 1) := by decide +kernel
theorem dX_checkBitCount_0 : decode cX_checkBitCount 0 = .ok (.iload_n 0, 1) := by decide +kernel
theorem dX_checkBitCount_1 : decode cX_checkBitCount 1 = .ok (.iconst 1, 1) := by decide +kernel
theorem dX_checkBitCount_2 : decode cX_checkBitCount 2 = .ok (.if_icmp .lt 9, 3) := by decide +kernel
theorem dX_checkBitCount_5 : decode cX_checkBitCount 5 = .ok (.iload_n 0, 1) := by decide +kernel
theorem dX_checkBitCount_6 : decode cX_checkBitCount 6 = .ok (.bipush 64, 2) := by decide +kernel
theorem dX_checkBitCount_8 : decode cX_checkBitCount 8 = .ok (.if_icmp .le 13, 3) := by decide +kernel
theorem dX_checkBitCount_11 : decode cX_checkBitCount 11 = .ok (.new 65, 3) := by decide +kernel
theorem dX_checkBitCount_14 : decode cX_checkBitCount 14 = .ok (.dup, 1) := by decide +kernel
theorem dX_checkBitCount_15 : decode cX_checkBitCount 15 = .ok (.ldc 146, 2) := by decide +kernel
theorem dX_checkBitCount_17 : decode cX_checkBitCount 17 = .ok (.invokespecial 69, 3) := by decide +kernel
theorem dX_checkBitCount_20 : decode cX_checkBitCount 20 = .ok (.athrow, 1) := by decide +kernel
theorem dX_checkBitCount_21 : decode cX_checkBitCount 21 = .ok (.return_, 1) := by decide +kernel
theorem dX_checkRoom_0 : decode cX_checkRoom 0 = .ok (.iload_n 1, 1) := by decide +kernel
theorem dX_checkRoom_1 : decode cX_checkRoom 1 = .ok (.bipush 64, 2) := by decide +kernel
theorem dX_checkRoom_3 : decode cX_checkRoom 3 = .ok (.aload_n 0, 1) := by decide +kernel
theorem dX_checkRoom_4 : decode cX_checkRoom 4 = .ok (.getfield 57, 3) := by decide +kernel
theorem dX_checkRoom_7 : decode cX_checkRoom 7 = .ok (.isub, 1) := by decide +kernel
theorem dX_checkRoom_8 : decode cX_checkRoom 8 = .ok (.if_icmp .le 13, 3) := by decide +kernel
theorem dX_checkRoom_11 : decode cX_checkRoom 11 = .ok (.new 74, 3) := by decide +kernel
theorem dX_checkRoom_14 : decode cX_checkRoom 14 = .ok (.dup, 1) := by decide +kernel
theorem dX_checkRoom_15 : decode cX_checkRoom 15 = .ok (.ldc 148, 2) := by decide +kernel
theorem dX_checkRoom_17 : decode cX_checkRoom 17 = .ok (.invokespecial 78, 3) := by decide +kernel
theorem dX_checkRoom_20 : decode cX_checkRoom 20 = .ok (.athrow, 1) := by decide +kernel
theorem dX_checkRoom_21 : decode cX_checkRoom 21 = .ok (.return_, 1) := by decide +kernel
theorem dX_checkWhole_0 : decode cX_checkWhole 0 = .ok (.aload_n 0, 1) := by decide +kernel
theorem dX_checkWhole_1 : decode cX_checkWhole 1 = .ok (.invokevirtual 89, 3) := by decide +kernel
theorem dX_checkWhole_4 : decode cX_checkWhole 4 = .ok (.ifCond .ne 13, 3) := by decide +kernel
theorem dX_checkWhole_7 : decode cX_checkWhole 7 = .ok (.new 38, 3) := by decide +kernel
theorem dX_checkWhole_10 : decode cX_checkWhole 10 = .ok (.dup, 1) := by decide +kernel
theorem dX_checkWhole_11 : decode cX_checkWhole 11 = .ok (.ldc 150, 2) := by decide +kernel
theorem dX_checkWhole_13 : decode cX_checkWhole 13 = .ok (.invokespecial 42, 3) := by decide +kernel
theorem dX_checkWhole_16 : decode cX_checkWhole 16 = .ok (.athrow, 1) := by decide +kernel
theorem dX_checkWhole_17 : decode cX_checkWhole 17 = .ok (.return_, 1) := by decide +kernel
theorem dM_init_0 : decode cM_init 0 = .ok (.aload_n 0, 1) := by decide +kernel
theorem dM_init_1 : decode cM_init 1 = .ok (.invokespecial 1, 3) := by decide +kernel
theorem dM_init_4 : decode cM_init 4 = .ok (.aload_n 0, 1) := by decide +kernel
theorem dM_init_5 : decode cM_init 5 = .ok (.bipush 8, 2) := by decide +kernel
theorem dM_init_7 : decode cM_init 7 = .ok (.newarray .int, 2) := by decide +kernel
theorem dM_init_9 : decode cM_init 9 = .ok (.putfield 9, 3) := by decide +kernel
theorem dM_init_12 : decode cM_init 12 = .ok (.aload_n 0, 1) := by decide +kernel
theorem dM_init_13 : decode cM_init 13 = .ok (.sipush 512, 3) := by decide +kernel
theorem dM_init_16 : decode cM_init 16 = .ok (.newarray .int, 2) := by decide +kernel
theorem dM_init_18 : decode cM_init 18 = .ok (.putfield 13, 3) := by decide +kernel
theorem dM_init_21 : decode cM_init 21 = .ok (.aload_n 0, 1) := by decide +kernel
theorem dM_init_22 : decode cM_init 22 = .ok (.bipush 48, 2) := by decide +kernel
theorem dM_init_24 : decode cM_init 24 = .ok (.newarray .int, 2) := by decide +kernel
theorem dM_init_26 : decode cM_init 26 = .ok (.putfield 16, 3) := by decide +kernel
theorem dM_init_29 : decode cM_init 29 = .ok (.aload_n 0, 1) := by decide +kernel
theorem dM_init_30 : decode cM_init 30 = .ok (.bipush 48, 2) := by decide +kernel
theorem dM_init_32 : decode cM_init 32 = .ok (.newarray .boolean, 2) := by decide +kernel
theorem dM_init_34 : decode cM_init 34 = .ok (.putfield 19, 3) := by decide +kernel
theorem dM_init_37 : decode cM_init 37 = .ok (.aload_n 0, 1) := by decide +kernel
theorem dM_init_38 : decode cM_init 38 = .ok (.bipush 6, 2) := by decide +kernel
theorem dM_init_40 : decode cM_init 40 = .ok (.newarray .long, 2) := by decide +kernel
theorem dM_init_42 : decode cM_init 42 = .ok (.putfield 23, 3) := by decide +kernel
theorem dM_init_45 : decode cM_init 45 = .ok (.return_, 1) := by decide +kernel
theorem dM_thrown_0 : decode cM_thrown 0 = .ok (.aload_n 0, 1) := by decide +kernel
theorem dM_thrown_1 : decode cM_thrown 1 = .ok (.getfield 27, 3) := by decide +kernel
theorem dM_thrown_4 : decode cM_thrown 4 = .ok (.ireturn, 1) := by decide +kernel
theorem dM_in_0 : decode cM_in 0 = .ok (.lload_n 0, 1) := by decide +kernel
theorem dM_in_1 : decode cM_in 1 = .ok (.lload_n 2, 1) := by decide +kernel
theorem dM_in_2 : decode cM_in 2 = .ok (.lcmp, 1) := by decide +kernel
theorem dM_in_3 : decode cM_in 3 = .ok (.ifCond .lt 14, 3) := by decide +kernel
theorem dM_in_6 : decode cM_in 6 = .ok (.lload_n 0, 1) := by decide +kernel
theorem dM_in_7 : decode cM_in 7 = .ok (.lload 4, 2) := by decide +kernel
theorem dM_in_9 : decode cM_in 9 = .ok (.lcmp, 1) := by decide +kernel
theorem dM_in_10 : decode cM_in 10 = .ok (.ifCond .gt 7, 3) := by decide +kernel
theorem dM_in_13 : decode cM_in 13 = .ok (.iconst 1, 1) := by decide +kernel
theorem dM_in_14 : decode cM_in 14 = .ok (.goto 4, 3) := by decide +kernel
theorem dM_in_17 : decode cM_in 17 = .ok (.iconst 0, 1) := by decide +kernel
theorem dM_in_18 : decode cM_in 18 = .ok (.ireturn, 1) := by decide +kernel
theorem dM_fails_0 : decode cM_fails 0 = .ok (.iload_n 1, 1) := by decide +kernel
theorem dM_fails_1 : decode cM_fails 1 = .ok (.ifCond .eq 15, 3) := by decide +kernel
theorem dM_fails_4 : decode cM_fails 4 = .ok (.aload_n 0, 1) := by decide +kernel
theorem dM_fails_5 : decode cM_fails 5 = .ok (.getfield 27, 3) := by decide +kernel
theorem dM_fails_8 : decode cM_fails 8 = .ok (.ifCond .ne 8, 3) := by decide +kernel
theorem dM_fails_11 : decode cM_fails 11 = .ok (.aload_n 0, 1) := by decide +kernel
theorem dM_fails_12 : decode cM_fails 12 = .ok (.iload_n 2, 1) := by decide +kernel
theorem dM_fails_13 : decode cM_fails 13 = .ok (.putfield 27, 3) := by decide +kernel
theorem dM_fails_16 : decode cM_fails 16 = .ok (.aload_n 0, 1) := by decide +kernel
theorem dM_fails_17 : decode cM_fails 17 = .ok (.getfield 27, 3) := by decide +kernel
theorem dM_fails_20 : decode cM_fails 20 = .ok (.ifCond .eq 7, 3) := by decide +kernel
theorem dM_fails_23 : decode cM_fails 23 = .ok (.iconst 1, 1) := by decide +kernel
theorem dM_fails_24 : decode cM_fails 24 = .ok (.goto 4, 3) := by decide +kernel
theorem dM_fails_27 : decode cM_fails 27 = .ok (.iconst 0, 1) := by decide +kernel
theorem dM_fails_28 : decode cM_fails 28 = .ok (.ireturn, 1) := by decide +kernel
theorem dM_isForm_0 : decode cM_isForm 0 = .ok (.iload_n 0, 1) := by decide +kernel
theorem dM_isForm_1 : decode cM_isForm 1 = .ok (.i2l, 1) := by decide +kernel
theorem dM_isForm_2 : decode cM_isForm 2 = .ok (.lconst 0, 1) := by decide +kernel
theorem dM_isForm_3 : decode cM_isForm 3 = .ok (.ldc2_w 31, 3) := by decide +kernel
theorem dM_isForm_6 : decode cM_isForm 6 = .ok (.invokestatic 33, 3) := by decide +kernel
theorem dM_isForm_9 : decode cM_isForm 9 = .ok (.ireturn, 1) := by decide +kernel
theorem dM_isOperand_0 : decode cM_isOperand 0 = .ok (.iload_n 0, 1) := by decide +kernel
theorem dM_isOperand_1 : decode cM_isOperand 1 = .ok (.i2l, 1) := by decide +kernel
theorem dM_isOperand_2 : decode cM_isOperand 2 = .ok (.lconst 0, 1) := by decide +kernel
theorem dM_isOperand_3 : decode cM_isOperand 3 = .ok (.ldc2_w 37, 3) := by decide +kernel
theorem dM_isOperand_6 : decode cM_isOperand 6 = .ok (.invokestatic 33, 3) := by decide +kernel
theorem dM_isOperand_9 : decode cM_isOperand 9 = .ok (.ireturn, 1) := by decide +kernel
theorem dM_isThere_0 : decode cM_isThere 0 = .ok (.iload_n 1, 1) := by decide +kernel
theorem dM_isThere_1 : decode cM_isThere 1 = .ok (.invokestatic 39, 3) := by decide +kernel
theorem dM_isThere_4 : decode cM_isThere 4 = .ok (.ifCond .eq 28, 3) := by decide +kernel
theorem dM_isThere_7 : decode cM_isThere 7 = .ok (.iload_n 2, 1) := by decide +kernel
theorem dM_isThere_8 : decode cM_isThere 8 = .ok (.invokestatic 43, 3) := by decide +kernel
theorem dM_isThere_11 : decode cM_isThere 11 = .ok (.ifCond .eq 21, 3) := by decide +kernel
theorem dM_isThere_14 : decode cM_isThere 14 = .ok (.aload_n 0, 1) := by decide +kernel
theorem dM_isThere_15 : decode cM_isThere 15 = .ok (.getfield 16, 3) := by decide +kernel
theorem dM_isThere_18 : decode cM_isThere 18 = .ok (.bipush 6, 2) := by decide +kernel
theorem dM_isThere_20 : decode cM_isThere 20 = .ok (.iload_n 1, 1) := by decide +kernel
theorem dM_isThere_21 : decode cM_isThere 21 = .ok (.imul, 1) := by decide +kernel
theorem dM_isThere_22 : decode cM_isThere 22 = .ok (.iload_n 2, 1) := by decide +kernel
theorem dM_isThere_23 : decode cM_isThere 23 = .ok (.iadd, 1) := by decide +kernel
theorem dM_isThere_24 : decode cM_isThere 24 = .ok (.iaload, 1) := by decide +kernel
theorem dM_isThere_25 : decode cM_isThere 25 = .ok (.ifCond .le 7, 3) := by decide +kernel
theorem dM_isThere_28 : decode cM_isThere 28 = .ok (.iconst 1, 1) := by decide +kernel
theorem dM_isThere_29 : decode cM_isThere 29 = .ok (.goto 4, 3) := by decide +kernel
theorem dM_isThere_32 : decode cM_isThere 32 = .ok (.iconst 0, 1) := by decide +kernel
theorem dM_isThere_33 : decode cM_isThere 33 = .ok (.ireturn, 1) := by decide +kernel
theorem dM_many_0 : decode cM_many 0 = .ok (.aload_n 0, 1) := by decide +kernel
theorem dM_many_1 : decode cM_many 1 = .ok (.getfield 16, 3) := by decide +kernel
theorem dM_many_4 : decode cM_many 4 = .ok (.bipush 6, 2) := by decide +kernel
theorem dM_many_6 : decode cM_many 6 = .ok (.iload_n 1, 1) := by decide +kernel
theorem dM_many_7 : decode cM_many 7 = .ok (.imul, 1) := by decide +kernel
theorem dM_many_8 : decode cM_many 8 = .ok (.iload_n 2, 1) := by decide +kernel
theorem dM_many_9 : decode cM_many 9 = .ok (.iadd, 1) := by decide +kernel
theorem dM_many_10 : decode cM_many 10 = .ok (.iaload, 1) := by decide +kernel
theorem dM_many_11 : decode cM_many 11 = .ok (.ireturn, 1) := by decide +kernel
theorem dM_place_0 : decode cM_place 0 = .ok (.iconst 0, 1) := by decide +kernel
theorem dM_place_1 : decode cM_place 1 = .ok (.istore 4, 2) := by decide +kernel
theorem dM_place_3 : decode cM_place 3 = .ok (.iload 4, 2) := by decide +kernel
theorem dM_place_5 : decode cM_place 5 = .ok (.aload_n 0, 1) := by decide +kernel
theorem dM_place_6 : decode cM_place 6 = .ok (.getfield 9, 3) := by decide +kernel
theorem dM_place_9 : decode cM_place 9 = .ok (.iload_n 1, 1) := by decide +kernel
theorem dM_place_10 : decode cM_place 10 = .ok (.iaload, 1) := by decide +kernel
theorem dM_place_11 : decode cM_place 11 = .ok (.if_icmp .ge 35, 3) := by decide +kernel
theorem dM_place_14 : decode cM_place 14 = .ok (.aload_n 0, 1) := by decide +kernel
theorem dM_place_15 : decode cM_place 15 = .ok (.getfield 13, 3) := by decide +kernel
theorem dM_place_18 : decode cM_place 18 = .ok (.bipush 64, 2) := by decide +kernel
theorem dM_place_20 : decode cM_place 20 = .ok (.iload_n 1, 1) := by decide +kernel
theorem dM_place_21 : decode cM_place 21 = .ok (.imul, 1) := by decide +kernel
theorem dM_place_22 : decode cM_place 22 = .ok (.iload 4, 2) := by decide +kernel
theorem dM_place_24 : decode cM_place 24 = .ok (.iadd, 1) := by decide +kernel
theorem dM_place_25 : decode cM_place 25 = .ok (.iaload, 1) := by decide +kernel
theorem dM_place_26 : decode cM_place 26 = .ok (.iconst 2, 1) := by decide +kernel
theorem dM_place_27 : decode cM_place 27 = .ok (.bipush 64, 2) := by decide +kernel
theorem dM_place_29 : decode cM_place 29 = .ok (.iload_n 2, 1) := by decide +kernel
theorem dM_place_30 : decode cM_place 30 = .ok (.imul, 1) := by decide +kernel
theorem dM_place_31 : decode cM_place 31 = .ok (.iadd, 1) := by decide +kernel
theorem dM_place_32 : decode cM_place 32 = .ok (.iload_n 3, 1) := by decide +kernel
theorem dM_place_33 : decode cM_place 33 = .ok (.iadd, 1) := by decide +kernel
theorem dM_place_34 : decode cM_place 34 = .ok (.if_icmp .ne 6, 3) := by decide +kernel
theorem dM_place_37 : decode cM_place 37 = .ok (.iload 4, 2) := by decide +kernel
theorem dM_place_39 : decode cM_place 39 = .ok (.ireturn, 1) := by decide +kernel
theorem dM_place_40 : decode cM_place 40 = .ok (.iinc 4 1, 3) := by decide +kernel
theorem dM_place_43 : decode cM_place 43 = .ok (.goto (-40), 3) := by decide +kernel
theorem dM_place_46 : decode cM_place 46 = .ok (.iconst (-1), 1) := by decide +kernel
theorem dM_place_47 : decode cM_place 47 = .ok (.ireturn, 1) := by decide +kernel
theorem dM_at_0 : decode cM_at 0 = .ok (.aload_n 0, 1) := by decide +kernel
theorem dM_at_1 : decode cM_at 1 = .ok (.getfield 13, 3) := by decide +kernel
theorem dM_at_4 : decode cM_at 4 = .ok (.bipush 64, 2) := by decide +kernel
theorem dM_at_6 : decode cM_at 6 = .ok (.iload_n 1, 1) := by decide +kernel
theorem dM_at_7 : decode cM_at 7 = .ok (.imul, 1) := by decide +kernel
theorem dM_at_8 : decode cM_at 8 = .ok (.aload_n 0, 1) := by decide +kernel
theorem dM_at_9 : decode cM_at 9 = .ok (.getfield 9, 3) := by decide +kernel
theorem dM_at_12 : decode cM_at 12 = .ok (.iload_n 1, 1) := by decide +kernel
theorem dM_at_13 : decode cM_at 13 = .ok (.iaload, 1) := by decide +kernel
theorem dM_at_14 : decode cM_at 14 = .ok (.iadd, 1) := by decide +kernel
theorem dM_at_15 : decode cM_at 15 = .ok (.iconst 1, 1) := by decide +kernel
theorem dM_at_16 : decode cM_at 16 = .ok (.isub, 1) := by decide +kernel
theorem dM_at_17 : decode cM_at 17 = .ok (.iload_n 2, 1) := by decide +kernel
theorem dM_at_18 : decode cM_at 18 = .ok (.isub, 1) := by decide +kernel
theorem dM_at_19 : decode cM_at 19 = .ok (.iaload, 1) := by decide +kernel
theorem dM_at_20 : decode cM_at 20 = .ok (.ireturn, 1) := by decide +kernel
theorem dM_bit_0 : decode cM_bit 0 = .ok (.lload_n 0, 1) := by decide +kernel
theorem dM_bit_1 : decode cM_bit 1 = .ok (.iload_n 2, 1) := by decide +kernel
theorem dM_bit_2 : decode cM_bit 2 = .ok (.lshr, 1) := by decide +kernel
theorem dM_bit_3 : decode cM_bit 3 = .ok (.l2i, 1) := by decide +kernel
theorem dM_bit_4 : decode cM_bit 4 = .ok (.iconst 1, 1) := by decide +kernel
theorem dM_bit_5 : decode cM_bit 5 = .ok (.iand, 1) := by decide +kernel
theorem dM_bit_6 : decode cM_bit 6 = .ok (.ireturn, 1) := by decide +kernel
theorem dM_clear_0 : decode cM_clear 0 = .ok (.aload_n 0, 1) := by decide +kernel
theorem dM_clear_1 : decode cM_clear 1 = .ok (.iconst 0, 1) := by decide +kernel
theorem dM_clear_2 : decode cM_clear 2 = .ok (.putfield 27, 3) := by decide +kernel
theorem dM_clear_5 : decode cM_clear 5 = .ok (.aload_n 0, 1) := by decide +kernel
theorem dM_clear_6 : decode cM_clear 6 = .ok (.iload_n 1, 1) := by decide +kernel
theorem dM_clear_7 : decode cM_clear 7 = .ok (.invokestatic 39, 3) := by decide +kernel
theorem dM_clear_10 : decode cM_clear 10 = .ok (.ifCond .ne 7, 3) := by decide +kernel
theorem dM_clear_13 : decode cM_clear 13 = .ok (.iconst 1, 1) := by decide +kernel
theorem dM_clear_14 : decode cM_clear 14 = .ok (.goto 4, 3) := by decide +kernel
theorem dM_clear_17 : decode cM_clear 17 = .ok (.iconst 0, 1) := by decide +kernel
theorem dM_clear_18 : decode cM_clear 18 = .ok (.iconst 1, 1) := by decide +kernel
theorem dM_clear_19 : decode cM_clear 19 = .ok (.invokevirtual 46, 3) := by decide +kernel
theorem dM_clear_22 : decode cM_clear 22 = .ok (.ifCond .eq 4, 3) := by decide +kernel
theorem dM_clear_25 : decode cM_clear 25 = .ok (.return_, 1) := by decide +kernel
theorem dM_clear_26 : decode cM_clear 26 = .ok (.aload_n 0, 1) := by decide +kernel
theorem dM_clear_27 : decode cM_clear 27 = .ok (.getfield 9, 3) := by decide +kernel
theorem dM_clear_30 : decode cM_clear 30 = .ok (.iload_n 1, 1) := by decide +kernel
theorem dM_clear_31 : decode cM_clear 31 = .ok (.iconst 0, 1) := by decide +kernel
theorem dM_clear_32 : decode cM_clear 32 = .ok (.iastore, 1) := by decide +kernel
theorem dM_clear_33 : decode cM_clear 33 = .ok (.iconst 0, 1) := by decide +kernel
theorem dM_clear_34 : decode cM_clear 34 = .ok (.istore_n 2, 1) := by decide +kernel
theorem dM_clear_35 : decode cM_clear 35 = .ok (.iload_n 2, 1) := by decide +kernel
theorem dM_clear_36 : decode cM_clear 36 = .ok (.bipush 6, 2) := by decide +kernel
theorem dM_clear_38 : decode cM_clear 38 = .ok (.if_icmp .ge 21, 3) := by decide +kernel
theorem dM_clear_41 : decode cM_clear 41 = .ok (.aload_n 0, 1) := by decide +kernel
theorem dM_clear_42 : decode cM_clear 42 = .ok (.getfield 16, 3) := by decide +kernel
theorem dM_clear_45 : decode cM_clear 45 = .ok (.bipush 6, 2) := by decide +kernel
theorem dM_clear_47 : decode cM_clear 47 = .ok (.iload_n 1, 1) := by decide +kernel
theorem dM_clear_48 : decode cM_clear 48 = .ok (.imul, 1) := by decide +kernel
theorem dM_clear_49 : decode cM_clear 49 = .ok (.iload_n 2, 1) := by decide +kernel
theorem dM_clear_50 : decode cM_clear 50 = .ok (.iadd, 1) := by decide +kernel
theorem dM_clear_51 : decode cM_clear 51 = .ok (.iconst 0, 1) := by decide +kernel
theorem dM_clear_52 : decode cM_clear 52 = .ok (.iastore, 1) := by decide +kernel
theorem dM_clear_53 : decode cM_clear 53 = .ok (.iinc 2 1, 3) := by decide +kernel
theorem dM_clear_56 : decode cM_clear 56 = .ok (.goto (-21), 3) := by decide +kernel
theorem dM_clear_59 : decode cM_clear 59 = .ok (.return_, 1) := by decide +kernel
theorem dM_operand_0 : decode cM_operand 0 = .ok (.aload_n 0, 1) := by decide +kernel
theorem dM_operand_1 : decode cM_operand 1 = .ok (.iconst 0, 1) := by decide +kernel
theorem dM_operand_2 : decode cM_operand 2 = .ok (.putfield 27, 3) := by decide +kernel
theorem dM_operand_5 : decode cM_operand 5 = .ok (.aload_n 0, 1) := by decide +kernel
theorem dM_operand_6 : decode cM_operand 6 = .ok (.iload_n 1, 1) := by decide +kernel
theorem dM_operand_7 : decode cM_operand 7 = .ok (.invokestatic 39, 3) := by decide +kernel
theorem dM_operand_10 : decode cM_operand 10 = .ok (.ifCond .eq 22, 3) := by decide +kernel
theorem dM_operand_13 : decode cM_operand 13 = .ok (.iload_n 2, 1) := by decide +kernel
theorem dM_operand_14 : decode cM_operand 14 = .ok (.invokestatic 43, 3) := by decide +kernel
theorem dM_operand_17 : decode cM_operand 17 = .ok (.ifCond .eq 15, 3) := by decide +kernel
theorem dM_operand_20 : decode cM_operand 20 = .ok (.iload_n 3, 1) := by decide +kernel
theorem dM_operand_21 : decode cM_operand 21 = .ok (.i2l, 1) := by decide +kernel
theorem dM_operand_22 : decode cM_operand 22 = .ok (.lconst 1, 1) := by decide +kernel
theorem dM_operand_23 : decode cM_operand 23 = .ok (.ldc2_w 50, 3) := by decide +kernel
theorem dM_operand_26 : decode cM_operand 26 = .ok (.invokestatic 33, 3) := by decide +kernel
theorem dM_operand_29 : decode cM_operand 29 = .ok (.ifCond .ne 7, 3) := by decide +kernel
theorem dM_operand_32 : decode cM_operand 32 = .ok (.iconst 1, 1) := by decide +kernel
theorem dM_operand_33 : decode cM_operand 33 = .ok (.goto 4, 3) := by decide +kernel
theorem dM_operand_36 : decode cM_operand 36 = .ok (.iconst 0, 1) := by decide +kernel
theorem dM_operand_37 : decode cM_operand 37 = .ok (.iconst 1, 1) := by decide +kernel
theorem dM_operand_38 : decode cM_operand 38 = .ok (.invokevirtual 46, 3) := by decide +kernel
theorem dM_operand_41 : decode cM_operand 41 = .ok (.ifCond .ne 25, 3) := by decide +kernel
theorem dM_operand_44 : decode cM_operand 44 = .ok (.aload_n 0, 1) := by decide +kernel
theorem dM_operand_45 : decode cM_operand 45 = .ok (.aload_n 0, 1) := by decide +kernel
theorem dM_operand_46 : decode cM_operand 46 = .ok (.iload_n 1, 1) := by decide +kernel
theorem dM_operand_47 : decode cM_operand 47 = .ok (.iload_n 2, 1) := by decide +kernel
theorem dM_operand_48 : decode cM_operand 48 = .ok (.invokevirtual 52, 3) := by decide +kernel
theorem dM_operand_51 : decode cM_operand 51 = .ok (.ifCond .le 7, 3) := by decide +kernel
theorem dM_operand_54 : decode cM_operand 54 = .ok (.iconst 1, 1) := by decide +kernel
theorem dM_operand_55 : decode cM_operand 55 = .ok (.goto 4, 3) := by decide +kernel
theorem dM_operand_58 : decode cM_operand 58 = .ok (.iconst 0, 1) := by decide +kernel
theorem dM_operand_59 : decode cM_operand 59 = .ok (.iconst 2, 1) := by decide +kernel
theorem dM_operand_60 : decode cM_operand 60 = .ok (.invokevirtual 46, 3) := by decide +kernel
theorem dM_operand_63 : decode cM_operand 63 = .ok (.ifCond .eq 4, 3) := by decide +kernel
theorem dM_operand_66 : decode cM_operand 66 = .ok (.return_, 1) := by decide +kernel
theorem dM_operand_67 : decode cM_operand 67 = .ok (.aload_n 0, 1) := by decide +kernel
theorem dM_operand_68 : decode cM_operand 68 = .ok (.getfield 16, 3) := by decide +kernel
theorem dM_operand_71 : decode cM_operand 71 = .ok (.bipush 6, 2) := by decide +kernel
theorem dM_operand_73 : decode cM_operand 73 = .ok (.iload_n 1, 1) := by decide +kernel
theorem dM_operand_74 : decode cM_operand 74 = .ok (.imul, 1) := by decide +kernel
theorem dM_operand_75 : decode cM_operand 75 = .ok (.iload_n 2, 1) := by decide +kernel
theorem dM_operand_76 : decode cM_operand 76 = .ok (.iadd, 1) := by decide +kernel
theorem dM_operand_77 : decode cM_operand 77 = .ok (.iload_n 3, 1) := by decide +kernel
theorem dM_operand_78 : decode cM_operand 78 = .ok (.iastore, 1) := by decide +kernel
theorem dM_operand_79 : decode cM_operand 79 = .ok (.aload_n 0, 1) := by decide +kernel
theorem dM_operand_80 : decode cM_operand 80 = .ok (.getfield 19, 3) := by decide +kernel
theorem dM_operand_83 : decode cM_operand 83 = .ok (.bipush 6, 2) := by decide +kernel
theorem dM_operand_85 : decode cM_operand 85 = .ok (.iload_n 1, 1) := by decide +kernel
theorem dM_operand_86 : decode cM_operand 86 = .ok (.imul, 1) := by decide +kernel
theorem dM_operand_87 : decode cM_operand 87 = .ok (.iload_n 2, 1) := by decide +kernel
theorem dM_operand_88 : decode cM_operand 88 = .ok (.iadd, 1) := by decide +kernel
theorem dM_operand_89 : decode cM_operand 89 = .ok (.iload 4, 2) := by decide +kernel
theorem dM_operand_91 : decode cM_operand 91 = .ok (.bastore, 1) := by decide +kernel
theorem dM_operand_92 : decode cM_operand 92 = .ok (.return_, 1) := by decide +kernel
theorem dM_fixed_0 : decode cM_fixed 0 = .ok (.aload_n 0, 1) := by decide +kernel
theorem dM_fixed_1 : decode cM_fixed 1 = .ok (.iconst 0, 1) := by decide +kernel
theorem dM_fixed_2 : decode cM_fixed 2 = .ok (.putfield 27, 3) := by decide +kernel
theorem dM_fixed_5 : decode cM_fixed 5 = .ok (.aload_n 0, 1) := by decide +kernel
theorem dM_fixed_6 : decode cM_fixed 6 = .ok (.iload_n 1, 1) := by decide +kernel
theorem dM_fixed_7 : decode cM_fixed 7 = .ok (.invokestatic 39, 3) := by decide +kernel
theorem dM_fixed_10 : decode cM_fixed 10 = .ok (.ifCond .eq 15, 3) := by decide +kernel
theorem dM_fixed_13 : decode cM_fixed 13 = .ok (.iload_n 2, 1) := by decide +kernel
theorem dM_fixed_14 : decode cM_fixed 14 = .ok (.i2l, 1) := by decide +kernel
theorem dM_fixed_15 : decode cM_fixed 15 = .ok (.lconst 1, 1) := by decide +kernel
theorem dM_fixed_16 : decode cM_fixed 16 = .ok (.ldc2_w 50, 3) := by decide +kernel
theorem dM_fixed_19 : decode cM_fixed 19 = .ok (.invokestatic 33, 3) := by decide +kernel
theorem dM_fixed_22 : decode cM_fixed 22 = .ok (.ifCond .ne 7, 3) := by decide +kernel
theorem dM_fixed_25 : decode cM_fixed 25 = .ok (.iconst 1, 1) := by decide +kernel
theorem dM_fixed_26 : decode cM_fixed 26 = .ok (.goto 4, 3) := by decide +kernel
theorem dM_fixed_29 : decode cM_fixed 29 = .ok (.iconst 0, 1) := by decide +kernel
theorem dM_fixed_30 : decode cM_fixed 30 = .ok (.iconst 1, 1) := by decide +kernel
theorem dM_fixed_31 : decode cM_fixed 31 = .ok (.invokevirtual 46, 3) := by decide +kernel
theorem dM_fixed_34 : decode cM_fixed 34 = .ok (.ifCond .ne 29, 3) := by decide +kernel
theorem dM_fixed_37 : decode cM_fixed 37 = .ok (.aload_n 0, 1) := by decide +kernel
theorem dM_fixed_38 : decode cM_fixed 38 = .ok (.aload_n 0, 1) := by decide +kernel
theorem dM_fixed_39 : decode cM_fixed 39 = .ok (.getfield 9, 3) := by decide +kernel
theorem dM_fixed_42 : decode cM_fixed 42 = .ok (.iload_n 1, 1) := by decide +kernel
theorem dM_fixed_43 : decode cM_fixed 43 = .ok (.iaload, 1) := by decide +kernel
theorem dM_fixed_44 : decode cM_fixed 44 = .ok (.iload_n 2, 1) := by decide +kernel
theorem dM_fixed_45 : decode cM_fixed 45 = .ok (.iadd, 1) := by decide +kernel
theorem dM_fixed_46 : decode cM_fixed 46 = .ok (.bipush 64, 2) := by decide +kernel
theorem dM_fixed_48 : decode cM_fixed 48 = .ok (.if_icmp .le 7, 3) := by decide +kernel
theorem dM_fixed_51 : decode cM_fixed 51 = .ok (.iconst 1, 1) := by decide +kernel
theorem dM_fixed_52 : decode cM_fixed 52 = .ok (.goto 4, 3) := by decide +kernel
theorem dM_fixed_55 : decode cM_fixed 55 = .ok (.iconst 0, 1) := by decide +kernel
theorem dM_fixed_56 : decode cM_fixed 56 = .ok (.iconst 2, 1) := by decide +kernel
theorem dM_fixed_57 : decode cM_fixed 57 = .ok (.invokevirtual 46, 3) := by decide +kernel
theorem dM_fixed_60 : decode cM_fixed 60 = .ok (.ifCond .eq 5, 3) := by decide +kernel
theorem dM_fixed_63 : decode cM_fixed 63 = .ok (.iconst 0, 1) := by decide +kernel
theorem dM_fixed_64 : decode cM_fixed 64 = .ok (.ireturn, 1) := by decide +kernel
theorem dM_fixed_65 : decode cM_fixed 65 = .ok (.iload_n 2, 1) := by decide +kernel
theorem dM_fixed_66 : decode cM_fixed 66 = .ok (.iconst 1, 1) := by decide +kernel
theorem dM_fixed_67 : decode cM_fixed 67 = .ok (.isub, 1) := by decide +kernel
theorem dM_fixed_68 : decode cM_fixed 68 = .ok (.istore 5, 2) := by decide +kernel
theorem dM_fixed_70 : decode cM_fixed 70 = .ok (.iload 5, 2) := by decide +kernel
theorem dM_fixed_72 : decode cM_fixed 72 = .ok (.ifCond .lt 36, 3) := by decide +kernel
theorem dM_fixed_75 : decode cM_fixed 75 = .ok (.aload_n 0, 1) := by decide +kernel
theorem dM_fixed_76 : decode cM_fixed 76 = .ok (.getfield 13, 3) := by decide +kernel
theorem dM_fixed_79 : decode cM_fixed 79 = .ok (.bipush 64, 2) := by decide +kernel
theorem dM_fixed_81 : decode cM_fixed 81 = .ok (.iload_n 1, 1) := by decide +kernel
theorem dM_fixed_82 : decode cM_fixed 82 = .ok (.imul, 1) := by decide +kernel
theorem dM_fixed_83 : decode cM_fixed 83 = .ok (.aload_n 0, 1) := by decide +kernel
theorem dM_fixed_84 : decode cM_fixed 84 = .ok (.getfield 9, 3) := by decide +kernel
theorem dM_fixed_87 : decode cM_fixed 87 = .ok (.iload_n 1, 1) := by decide +kernel
theorem dM_fixed_88 : decode cM_fixed 88 = .ok (.dup2, 1) := by decide +kernel
theorem dM_fixed_89 : decode cM_fixed 89 = .ok (.iaload, 1) := by decide +kernel
theorem dM_fixed_90 : decode cM_fixed 90 = .ok (.dup_x2, 1) := by decide +kernel
theorem dM_fixed_91 : decode cM_fixed 91 = .ok (.iconst 1, 1) := by decide +kernel
theorem dM_fixed_92 : decode cM_fixed 92 = .ok (.iadd, 1) := by decide +kernel
theorem dM_fixed_93 : decode cM_fixed 93 = .ok (.iastore, 1) := by decide +kernel
theorem dM_fixed_94 : decode cM_fixed 94 = .ok (.iadd, 1) := by decide +kernel
theorem dM_fixed_95 : decode cM_fixed 95 = .ok (.lload_n 3, 1) := by decide +kernel
theorem dM_fixed_96 : decode cM_fixed 96 = .ok (.iload 5, 2) := by decide +kernel
theorem dM_fixed_98 : decode cM_fixed 98 = .ok (.invokestatic 56, 3) := by decide +kernel
theorem dM_fixed_101 : decode cM_fixed 101 = .ok (.iastore, 1) := by decide +kernel
theorem dM_fixed_102 : decode cM_fixed 102 = .ok (.iinc 5 (-1), 3) := by decide +kernel
theorem dM_fixed_105 : decode cM_fixed 105 = .ok (.goto (-35), 3) := by decide +kernel
theorem dM_fixed_108 : decode cM_fixed 108 = .ok (.aload_n 0, 1) := by decide +kernel
theorem dM_fixed_109 : decode cM_fixed 109 = .ok (.getfield 9, 3) := by decide +kernel
theorem dM_fixed_112 : decode cM_fixed 112 = .ok (.iload_n 1, 1) := by decide +kernel
theorem dM_fixed_113 : decode cM_fixed 113 = .ok (.iaload, 1) := by decide +kernel
theorem dM_fixed_114 : decode cM_fixed 114 = .ok (.ireturn, 1) := by decide +kernel
theorem dM_slice_0 : decode cM_slice 0 = .ok (.aload_n 0, 1) := by decide +kernel
theorem dM_slice_1 : decode cM_slice 1 = .ok (.iconst 0, 1) := by decide +kernel
theorem dM_slice_2 : decode cM_slice 2 = .ok (.putfield 27, 3) := by decide +kernel
theorem dM_slice_5 : decode cM_slice 5 = .ok (.aload_n 0, 1) := by decide +kernel
theorem dM_slice_6 : decode cM_slice 6 = .ok (.aload_n 0, 1) := by decide +kernel
theorem dM_slice_7 : decode cM_slice 7 = .ok (.iload_n 1, 1) := by decide +kernel
theorem dM_slice_8 : decode cM_slice 8 = .ok (.iload_n 2, 1) := by decide +kernel
theorem dM_slice_9 : decode cM_slice 9 = .ok (.invokevirtual 60, 3) := by decide +kernel
theorem dM_slice_12 : decode cM_slice 12 = .ok (.ifCond .eq 9, 3) := by decide +kernel
theorem dM_slice_15 : decode cM_slice 15 = .ok (.iload_n 3, 1) := by decide +kernel
theorem dM_slice_16 : decode cM_slice 16 = .ok (.iload 4, 2) := by decide +kernel
theorem dM_slice_18 : decode cM_slice 18 = .ok (.if_icmp .ge 7, 3) := by decide +kernel
theorem dM_slice_21 : decode cM_slice 21 = .ok (.iconst 1, 1) := by decide +kernel
theorem dM_slice_22 : decode cM_slice 22 = .ok (.goto 4, 3) := by decide +kernel
theorem dM_slice_25 : decode cM_slice 25 = .ok (.iconst 0, 1) := by decide +kernel
theorem dM_slice_26 : decode cM_slice 26 = .ok (.iconst 1, 1) := by decide +kernel
theorem dM_slice_27 : decode cM_slice 27 = .ok (.invokevirtual 46, 3) := by decide +kernel
theorem dM_slice_30 : decode cM_slice 30 = .ok (.ifCond .eq 5, 3) := by decide +kernel
theorem dM_slice_33 : decode cM_slice 33 = .ok (.iconst 0, 1) := by decide +kernel
theorem dM_slice_34 : decode cM_slice 34 = .ok (.ireturn, 1) := by decide +kernel
theorem dM_slice_35 : decode cM_slice 35 = .ok (.aload_n 0, 1) := by decide +kernel
theorem dM_slice_36 : decode cM_slice 36 = .ok (.iload 4, 2) := by decide +kernel
theorem dM_slice_38 : decode cM_slice 38 = .ok (.ifCond .lt 13, 3) := by decide +kernel
theorem dM_slice_41 : decode cM_slice 41 = .ok (.iload_n 3, 1) := by decide +kernel
theorem dM_slice_42 : decode cM_slice 42 = .ok (.aload_n 0, 1) := by decide +kernel
theorem dM_slice_43 : decode cM_slice 43 = .ok (.iload_n 1, 1) := by decide +kernel
theorem dM_slice_44 : decode cM_slice 44 = .ok (.iload_n 2, 1) := by decide +kernel
theorem dM_slice_45 : decode cM_slice 45 = .ok (.invokevirtual 52, 3) := by decide +kernel
theorem dM_slice_48 : decode cM_slice 48 = .ok (.if_icmp .lt 7, 3) := by decide +kernel
theorem dM_slice_51 : decode cM_slice 51 = .ok (.iconst 1, 1) := by decide +kernel
theorem dM_slice_52 : decode cM_slice 52 = .ok (.goto 4, 3) := by decide +kernel
theorem dM_slice_55 : decode cM_slice 55 = .ok (.iconst 0, 1) := by decide +kernel
theorem dM_slice_56 : decode cM_slice 56 = .ok (.iconst 2, 1) := by decide +kernel
theorem dM_slice_57 : decode cM_slice 57 = .ok (.invokevirtual 46, 3) := by decide +kernel
theorem dM_slice_60 : decode cM_slice 60 = .ok (.ifCond .ne 34, 3) := by decide +kernel
theorem dM_slice_63 : decode cM_slice 63 = .ok (.aload_n 0, 1) := by decide +kernel
theorem dM_slice_64 : decode cM_slice 64 = .ok (.aload_n 0, 1) := by decide +kernel
theorem dM_slice_65 : decode cM_slice 65 = .ok (.getfield 9, 3) := by decide +kernel
theorem dM_slice_68 : decode cM_slice 68 = .ok (.iload_n 1, 1) := by decide +kernel
theorem dM_slice_69 : decode cM_slice 69 = .ok (.iaload, 1) := by decide +kernel
theorem dM_slice_70 : decode cM_slice 70 = .ok (.iload_n 3, 1) := by decide +kernel
theorem dM_slice_71 : decode cM_slice 71 = .ok (.iadd, 1) := by decide +kernel
theorem dM_slice_72 : decode cM_slice 72 = .ok (.iload 4, 2) := by decide +kernel
theorem dM_slice_74 : decode cM_slice 74 = .ok (.isub, 1) := by decide +kernel
theorem dM_slice_75 : decode cM_slice 75 = .ok (.iconst 1, 1) := by decide +kernel
theorem dM_slice_76 : decode cM_slice 76 = .ok (.iadd, 1) := by decide +kernel
theorem dM_slice_77 : decode cM_slice 77 = .ok (.bipush 64, 2) := by decide +kernel
theorem dM_slice_79 : decode cM_slice 79 = .ok (.if_icmp .le 7, 3) := by decide +kernel
theorem dM_slice_82 : decode cM_slice 82 = .ok (.iconst 1, 1) := by decide +kernel
theorem dM_slice_83 : decode cM_slice 83 = .ok (.goto 4, 3) := by decide +kernel
theorem dM_slice_86 : decode cM_slice 86 = .ok (.iconst 0, 1) := by decide +kernel
theorem dM_slice_87 : decode cM_slice 87 = .ok (.iconst 2, 1) := by decide +kernel
theorem dM_slice_88 : decode cM_slice 88 = .ok (.invokevirtual 46, 3) := by decide +kernel
theorem dM_slice_91 : decode cM_slice 91 = .ok (.ifCond .eq 5, 3) := by decide +kernel
theorem dM_slice_94 : decode cM_slice 94 = .ok (.iconst 0, 1) := by decide +kernel
theorem dM_slice_95 : decode cM_slice 95 = .ok (.ireturn, 1) := by decide +kernel
theorem dM_slice_96 : decode cM_slice 96 = .ok (.iload 4, 2) := by decide +kernel
theorem dM_slice_98 : decode cM_slice 98 = .ok (.istore 5, 2) := by decide +kernel
theorem dM_slice_100 : decode cM_slice 100 = .ok (.iload 5, 2) := by decide +kernel
theorem dM_slice_102 : decode cM_slice 102 = .ok (.iload_n 3, 1) := by decide +kernel
theorem dM_slice_103 : decode cM_slice 103 = .ok (.if_icmp .gt 35, 3) := by decide +kernel
theorem dM_slice_106 : decode cM_slice 106 = .ok (.aload_n 0, 1) := by decide +kernel
theorem dM_slice_107 : decode cM_slice 107 = .ok (.aload_n 0, 1) := by decide +kernel
theorem dM_slice_108 : decode cM_slice 108 = .ok (.iload_n 1, 1) := by decide +kernel
theorem dM_slice_109 : decode cM_slice 109 = .ok (.iload_n 2, 1) := by decide +kernel
theorem dM_slice_110 : decode cM_slice 110 = .ok (.iload 5, 2) := by decide +kernel
theorem dM_slice_112 : decode cM_slice 112 = .ok (.invokevirtual 64, 3) := by decide +kernel
theorem dM_slice_115 : decode cM_slice 115 = .ok (.ifCond .lt 7, 3) := by decide +kernel
theorem dM_slice_118 : decode cM_slice 118 = .ok (.iconst 1, 1) := by decide +kernel
theorem dM_slice_119 : decode cM_slice 119 = .ok (.goto 4, 3) := by decide +kernel
theorem dM_slice_122 : decode cM_slice 122 = .ok (.iconst 0, 1) := by decide +kernel
theorem dM_slice_123 : decode cM_slice 123 = .ok (.iconst 3, 1) := by decide +kernel
theorem dM_slice_124 : decode cM_slice 124 = .ok (.invokevirtual 46, 3) := by decide +kernel
theorem dM_slice_127 : decode cM_slice 127 = .ok (.ifCond .eq 5, 3) := by decide +kernel
theorem dM_slice_130 : decode cM_slice 130 = .ok (.iconst 0, 1) := by decide +kernel
theorem dM_slice_131 : decode cM_slice 131 = .ok (.ireturn, 1) := by decide +kernel
theorem dM_slice_132 : decode cM_slice 132 = .ok (.iinc 5 1, 3) := by decide +kernel
theorem dM_slice_135 : decode cM_slice 135 = .ok (.goto (-35), 3) := by decide +kernel
theorem dM_slice_138 : decode cM_slice 138 = .ok (.iload_n 3, 1) := by decide +kernel
theorem dM_slice_139 : decode cM_slice 139 = .ok (.istore 5, 2) := by decide +kernel
theorem dM_slice_141 : decode cM_slice 141 = .ok (.iload 5, 2) := by decide +kernel
theorem dM_slice_143 : decode cM_slice 143 = .ok (.iload 4, 2) := by decide +kernel
theorem dM_slice_145 : decode cM_slice 145 = .ok (.if_icmp .lt 39, 3) := by decide +kernel
theorem dM_slice_148 : decode cM_slice 148 = .ok (.aload_n 0, 1) := by decide +kernel
theorem dM_slice_149 : decode cM_slice 149 = .ok (.getfield 13, 3) := by decide +kernel
theorem dM_slice_152 : decode cM_slice 152 = .ok (.bipush 64, 2) := by decide +kernel
theorem dM_slice_154 : decode cM_slice 154 = .ok (.iload_n 1, 1) := by decide +kernel
theorem dM_slice_155 : decode cM_slice 155 = .ok (.imul, 1) := by decide +kernel
theorem dM_slice_156 : decode cM_slice 156 = .ok (.aload_n 0, 1) := by decide +kernel
theorem dM_slice_157 : decode cM_slice 157 = .ok (.getfield 9, 3) := by decide +kernel
theorem dM_slice_160 : decode cM_slice 160 = .ok (.iload_n 1, 1) := by decide +kernel
theorem dM_slice_161 : decode cM_slice 161 = .ok (.dup2, 1) := by decide +kernel
theorem dM_slice_162 : decode cM_slice 162 = .ok (.iaload, 1) := by decide +kernel
theorem dM_slice_163 : decode cM_slice 163 = .ok (.dup_x2, 1) := by decide +kernel
theorem dM_slice_164 : decode cM_slice 164 = .ok (.iconst 1, 1) := by decide +kernel
theorem dM_slice_165 : decode cM_slice 165 = .ok (.iadd, 1) := by decide +kernel
theorem dM_slice_166 : decode cM_slice 166 = .ok (.iastore, 1) := by decide +kernel
theorem dM_slice_167 : decode cM_slice 167 = .ok (.iadd, 1) := by decide +kernel
theorem dM_slice_168 : decode cM_slice 168 = .ok (.iconst 2, 1) := by decide +kernel
theorem dM_slice_169 : decode cM_slice 169 = .ok (.bipush 64, 2) := by decide +kernel
theorem dM_slice_171 : decode cM_slice 171 = .ok (.iload_n 2, 1) := by decide +kernel
theorem dM_slice_172 : decode cM_slice 172 = .ok (.imul, 1) := by decide +kernel
theorem dM_slice_173 : decode cM_slice 173 = .ok (.iadd, 1) := by decide +kernel
theorem dM_slice_174 : decode cM_slice 174 = .ok (.iload 5, 2) := by decide +kernel
theorem dM_slice_176 : decode cM_slice 176 = .ok (.iadd, 1) := by decide +kernel
theorem dM_slice_177 : decode cM_slice 177 = .ok (.iastore, 1) := by decide +kernel
theorem dM_slice_178 : decode cM_slice 178 = .ok (.iinc 5 (-1), 3) := by decide +kernel
theorem dM_slice_181 : decode cM_slice 181 = .ok (.goto (-40), 3) := by decide +kernel
theorem dM_slice_184 : decode cM_slice 184 = .ok (.aload_n 0, 1) := by decide +kernel
theorem dM_slice_185 : decode cM_slice 185 = .ok (.getfield 9, 3) := by decide +kernel
theorem dM_slice_188 : decode cM_slice 188 = .ok (.iload_n 1, 1) := by decide +kernel
theorem dM_slice_189 : decode cM_slice 189 = .ok (.iaload, 1) := by decide +kernel
theorem dM_slice_190 : decode cM_slice 190 = .ok (.ireturn, 1) := by decide +kernel
theorem dM_left_0 : decode cM_left 0 = .ok (.iconst 0, 1) := by decide +kernel
theorem dM_left_1 : decode cM_left 1 = .ok (.istore_n 2, 1) := by decide +kernel
theorem dM_left_2 : decode cM_left 2 = .ok (.iconst 0, 1) := by decide +kernel
theorem dM_left_3 : decode cM_left 3 = .ok (.istore_n 3, 1) := by decide +kernel
theorem dM_left_4 : decode cM_left 4 = .ok (.iload_n 3, 1) := by decide +kernel
theorem dM_left_5 : decode cM_left 5 = .ok (.bipush 6, 2) := by decide +kernel
theorem dM_left_7 : decode cM_left 7 = .ok (.if_icmp .ge 43, 3) := by decide +kernel
theorem dM_left_10 : decode cM_left 10 = .ok (.iconst 0, 1) := by decide +kernel
theorem dM_left_11 : decode cM_left 11 = .ok (.istore 4, 2) := by decide +kernel
theorem dM_left_13 : decode cM_left 13 = .ok (.iload 4, 2) := by decide +kernel
theorem dM_left_15 : decode cM_left 15 = .ok (.aload_n 0, 1) := by decide +kernel
theorem dM_left_16 : decode cM_left 16 = .ok (.iload_n 1, 1) := by decide +kernel
theorem dM_left_17 : decode cM_left 17 = .ok (.iload_n 3, 1) := by decide +kernel
theorem dM_left_18 : decode cM_left 18 = .ok (.invokevirtual 52, 3) := by decide +kernel
theorem dM_left_21 : decode cM_left 21 = .ok (.if_icmp .ge 23, 3) := by decide +kernel
theorem dM_left_24 : decode cM_left 24 = .ok (.aload_n 0, 1) := by decide +kernel
theorem dM_left_25 : decode cM_left 25 = .ok (.iload_n 1, 1) := by decide +kernel
theorem dM_left_26 : decode cM_left 26 = .ok (.iload_n 3, 1) := by decide +kernel
theorem dM_left_27 : decode cM_left 27 = .ok (.iload 4, 2) := by decide +kernel
theorem dM_left_29 : decode cM_left 29 = .ok (.invokevirtual 64, 3) := by decide +kernel
theorem dM_left_32 : decode cM_left 32 = .ok (.ifCond .ge 6, 3) := by decide +kernel
theorem dM_left_35 : decode cM_left 35 = .ok (.iinc 2 1, 3) := by decide +kernel
theorem dM_left_38 : decode cM_left 38 = .ok (.iinc 4 1, 3) := by decide +kernel
theorem dM_left_41 : decode cM_left 41 = .ok (.goto (-28), 3) := by decide +kernel
theorem dM_left_44 : decode cM_left 44 = .ok (.iinc 3 1, 3) := by decide +kernel
theorem dM_left_47 : decode cM_left 47 = .ok (.goto (-43), 3) := by decide +kernel
theorem dM_left_50 : decode cM_left 50 = .ok (.iload_n 2, 1) := by decide +kernel
theorem dM_left_51 : decode cM_left 51 = .ok (.ireturn, 1) := by decide +kernel
theorem dM_whole_0 : decode cM_whole 0 = .ok (.aload_n 0, 1) := by decide +kernel
theorem dM_whole_1 : decode cM_whole 1 = .ok (.iconst 0, 1) := by decide +kernel
theorem dM_whole_2 : decode cM_whole 2 = .ok (.putfield 27, 3) := by decide +kernel
theorem dM_whole_5 : decode cM_whole 5 = .ok (.aload_n 0, 1) := by decide +kernel
theorem dM_whole_6 : decode cM_whole 6 = .ok (.iload_n 1, 1) := by decide +kernel
theorem dM_whole_7 : decode cM_whole 7 = .ok (.invokestatic 39, 3) := by decide +kernel
theorem dM_whole_10 : decode cM_whole 10 = .ok (.ifCond .ne 7, 3) := by decide +kernel
theorem dM_whole_13 : decode cM_whole 13 = .ok (.iconst 1, 1) := by decide +kernel
theorem dM_whole_14 : decode cM_whole 14 = .ok (.goto 4, 3) := by decide +kernel
theorem dM_whole_17 : decode cM_whole 17 = .ok (.iconst 0, 1) := by decide +kernel
theorem dM_whole_18 : decode cM_whole 18 = .ok (.iconst 1, 1) := by decide +kernel
theorem dM_whole_19 : decode cM_whole 19 = .ok (.invokevirtual 46, 3) := by decide +kernel
theorem dM_whole_22 : decode cM_whole 22 = .ok (.ifCond .ne 15, 3) := by decide +kernel
theorem dM_whole_25 : decode cM_whole 25 = .ok (.aload_n 0, 1) := by decide +kernel
theorem dM_whole_26 : decode cM_whole 26 = .ok (.iload_n 1, 1) := by decide +kernel
theorem dM_whole_27 : decode cM_whole 27 = .ok (.invokevirtual 68, 3) := by decide +kernel
theorem dM_whole_30 : decode cM_whole 30 = .ok (.ifCond .ne 7, 3) := by decide +kernel
theorem dM_whole_33 : decode cM_whole 33 = .ok (.iconst 1, 1) := by decide +kernel
theorem dM_whole_34 : decode cM_whole 34 = .ok (.goto 4, 3) := by decide +kernel
theorem dM_whole_37 : decode cM_whole 37 = .ok (.iconst 0, 1) := by decide +kernel
theorem dM_whole_38 : decode cM_whole 38 = .ok (.ireturn, 1) := by decide +kernel
theorem dM_number_0 : decode cM_number 0 = .ok (.aload_n 0, 1) := by decide +kernel
theorem dM_number_1 : decode cM_number 1 = .ok (.iconst 0, 1) := by decide +kernel
theorem dM_number_2 : decode cM_number 2 = .ok (.putfield 27, 3) := by decide +kernel
theorem dM_number_5 : decode cM_number 5 = .ok (.aload_n 0, 1) := by decide +kernel
theorem dM_number_6 : decode cM_number 6 = .ok (.iload_n 1, 1) := by decide +kernel
theorem dM_number_7 : decode cM_number 7 = .ok (.invokestatic 43, 3) := by decide +kernel
theorem dM_number_10 : decode cM_number 10 = .ok (.ifCond .ne 7, 3) := by decide +kernel
theorem dM_number_13 : decode cM_number 13 = .ok (.iconst 1, 1) := by decide +kernel
theorem dM_number_14 : decode cM_number 14 = .ok (.goto 4, 3) := by decide +kernel
theorem dM_number_17 : decode cM_number 17 = .ok (.iconst 0, 1) := by decide +kernel
theorem dM_number_18 : decode cM_number 18 = .ok (.iconst 1, 1) := by decide +kernel
theorem dM_number_19 : decode cM_number 19 = .ok (.invokevirtual 46, 3) := by decide +kernel
theorem dM_number_22 : decode cM_number 22 = .ok (.ifCond .eq 4, 3) := by decide +kernel
theorem dM_number_25 : decode cM_number 25 = .ok (.return_, 1) := by decide +kernel
theorem dM_number_26 : decode cM_number 26 = .ok (.aload_n 0, 1) := by decide +kernel
theorem dM_number_27 : decode cM_number 27 = .ok (.getfield 23, 3) := by decide +kernel
theorem dM_number_30 : decode cM_number 30 = .ok (.iload_n 1, 1) := by decide +kernel
theorem dM_number_31 : decode cM_number 31 = .ok (.lload_n 2, 1) := by decide +kernel
theorem dM_number_32 : decode cM_number 32 = .ok (.lastore, 1) := by decide +kernel
theorem dM_number_33 : decode cM_number 33 = .ok (.return_, 1) := by decide +kernel
theorem dM_holds_0 : decode cM_holds 0 = .ok (.aload_n 0, 1) := by decide +kernel
theorem dM_holds_1 : decode cM_holds 1 = .ok (.iload_n 1, 1) := by decide +kernel
theorem dM_holds_2 : decode cM_holds 2 = .ok (.iload_n 2, 1) := by decide +kernel
theorem dM_holds_3 : decode cM_holds 3 = .ok (.invokevirtual 52, 3) := by decide +kernel
theorem dM_holds_6 : decode cM_holds 6 = .ok (.istore 5, 2) := by decide +kernel
theorem dM_holds_8 : decode cM_holds 8 = .ok (.iload 5, 2) := by decide +kernel
theorem dM_holds_10 : decode cM_holds 10 = .ok (.bipush 64, 2) := by decide +kernel
theorem dM_holds_12 : decode cM_holds 12 = .ok (.if_icmp .ne 5, 3) := by decide +kernel
theorem dM_holds_15 : decode cM_holds 15 = .ok (.iconst 1, 1) := by decide +kernel
theorem dM_holds_16 : decode cM_holds 16 = .ok (.ireturn, 1) := by decide +kernel
theorem dM_holds_17 : decode cM_holds 17 = .ok (.aload_n 0, 1) := by decide +kernel
theorem dM_holds_18 : decode cM_holds 18 = .ok (.getfield 19, 3) := by decide +kernel
theorem dM_holds_21 : decode cM_holds 21 = .ok (.bipush 6, 2) := by decide +kernel
theorem dM_holds_23 : decode cM_holds 23 = .ok (.iload_n 1, 1) := by decide +kernel
theorem dM_holds_24 : decode cM_holds 24 = .ok (.imul, 1) := by decide +kernel
theorem dM_holds_25 : decode cM_holds 25 = .ok (.iload_n 2, 1) := by decide +kernel
theorem dM_holds_26 : decode cM_holds 26 = .ok (.iadd, 1) := by decide +kernel
theorem dM_holds_27 : decode cM_holds 27 = .ok (.baload, 1) := by decide +kernel
theorem dM_holds_28 : decode cM_holds 28 = .ok (.istore 6, 2) := by decide +kernel
theorem dM_holds_30 : decode cM_holds 30 = .ok (.iload 6, 2) := by decide +kernel
theorem dM_holds_32 : decode cM_holds 32 = .ok (.ifCond .eq 14, 3) := by decide +kernel
theorem dM_holds_35 : decode cM_holds 35 = .ok (.lload_n 3, 1) := by decide +kernel
theorem dM_holds_36 : decode cM_holds 36 = .ok (.iload 5, 2) := by decide +kernel
theorem dM_holds_38 : decode cM_holds 38 = .ok (.iconst 1, 1) := by decide +kernel
theorem dM_holds_39 : decode cM_holds 39 = .ok (.isub, 1) := by decide +kernel
theorem dM_holds_40 : decode cM_holds 40 = .ok (.invokestatic 56, 3) := by decide +kernel
theorem dM_holds_43 : decode cM_holds 43 = .ok (.goto 4, 3) := by decide +kernel
theorem dM_holds_46 : decode cM_holds 46 = .ok (.iconst 0, 1) := by decide +kernel
theorem dM_holds_47 : decode cM_holds 47 = .ok (.istore 7, 2) := by decide +kernel
theorem dM_holds_49 : decode cM_holds 49 = .ok (.iload 5, 2) := by decide +kernel
theorem dM_holds_51 : decode cM_holds 51 = .ok (.istore 8, 2) := by decide +kernel
theorem dM_holds_53 : decode cM_holds 53 = .ok (.iload 8, 2) := by decide +kernel
theorem dM_holds_55 : decode cM_holds 55 = .ok (.bipush 64, 2) := by decide +kernel
theorem dM_holds_57 : decode cM_holds 57 = .ok (.if_icmp .ge 22, 3) := by decide +kernel
theorem dM_holds_60 : decode cM_holds 60 = .ok (.lload_n 3, 1) := by decide +kernel
theorem dM_holds_61 : decode cM_holds 61 = .ok (.iload 8, 2) := by decide +kernel
theorem dM_holds_63 : decode cM_holds 63 = .ok (.invokestatic 56, 3) := by decide +kernel
theorem dM_holds_66 : decode cM_holds 66 = .ok (.iload 7, 2) := by decide +kernel
theorem dM_holds_68 : decode cM_holds 68 = .ok (.if_icmp .eq 5, 3) := by decide +kernel
theorem dM_holds_71 : decode cM_holds 71 = .ok (.iconst 0, 1) := by decide +kernel
theorem dM_holds_72 : decode cM_holds 72 = .ok (.ireturn, 1) := by decide +kernel
theorem dM_holds_73 : decode cM_holds 73 = .ok (.iinc 8 1, 3) := by decide +kernel
theorem dM_holds_76 : decode cM_holds 76 = .ok (.goto (-23), 3) := by decide +kernel
theorem dM_holds_79 : decode cM_holds 79 = .ok (.iconst 1, 1) := by decide +kernel
theorem dM_holds_80 : decode cM_holds 80 = .ok (.ireturn, 1) := by decide +kernel
theorem dM_fits_0 : decode cM_fits 0 = .ok (.aload_n 0, 1) := by decide +kernel
theorem dM_fits_1 : decode cM_fits 1 = .ok (.iconst 0, 1) := by decide +kernel
theorem dM_fits_2 : decode cM_fits 2 = .ok (.putfield 27, 3) := by decide +kernel
theorem dM_fits_5 : decode cM_fits 5 = .ok (.aload_n 0, 1) := by decide +kernel
theorem dM_fits_6 : decode cM_fits 6 = .ok (.aload_n 0, 1) := by decide +kernel
theorem dM_fits_7 : decode cM_fits 7 = .ok (.iload_n 1, 1) := by decide +kernel
theorem dM_fits_8 : decode cM_fits 8 = .ok (.iload_n 2, 1) := by decide +kernel
theorem dM_fits_9 : decode cM_fits 9 = .ok (.invokevirtual 60, 3) := by decide +kernel
theorem dM_fits_12 : decode cM_fits 12 = .ok (.ifCond .ne 7, 3) := by decide +kernel
theorem dM_fits_15 : decode cM_fits 15 = .ok (.iconst 1, 1) := by decide +kernel
theorem dM_fits_16 : decode cM_fits 16 = .ok (.goto 4, 3) := by decide +kernel
theorem dM_fits_19 : decode cM_fits 19 = .ok (.iconst 0, 1) := by decide +kernel
theorem dM_fits_20 : decode cM_fits 20 = .ok (.iconst 1, 1) := by decide +kernel
theorem dM_fits_21 : decode cM_fits 21 = .ok (.invokevirtual 46, 3) := by decide +kernel
theorem dM_fits_24 : decode cM_fits 24 = .ok (.ifCond .ne 17, 3) := by decide +kernel
theorem dM_fits_27 : decode cM_fits 27 = .ok (.aload_n 0, 1) := by decide +kernel
theorem dM_fits_28 : decode cM_fits 28 = .ok (.iload_n 1, 1) := by decide +kernel
theorem dM_fits_29 : decode cM_fits 29 = .ok (.iload_n 2, 1) := by decide +kernel
theorem dM_fits_30 : decode cM_fits 30 = .ok (.lload_n 3, 1) := by decide +kernel
theorem dM_fits_31 : decode cM_fits 31 = .ok (.invokevirtual 72, 3) := by decide +kernel
theorem dM_fits_34 : decode cM_fits 34 = .ok (.ifCond .eq 7, 3) := by decide +kernel
theorem dM_fits_37 : decode cM_fits 37 = .ok (.iconst 1, 1) := by decide +kernel
theorem dM_fits_38 : decode cM_fits 38 = .ok (.goto 4, 3) := by decide +kernel
theorem dM_fits_41 : decode cM_fits 41 = .ok (.iconst 0, 1) := by decide +kernel
theorem dM_fits_42 : decode cM_fits 42 = .ok (.ireturn, 1) := by decide +kernel
theorem dM_encode_0 : decode cM_encode 0 = .ok (.aload_n 0, 1) := by decide +kernel
theorem dM_encode_1 : decode cM_encode 1 = .ok (.iconst 0, 1) := by decide +kernel
theorem dM_encode_2 : decode cM_encode 2 = .ok (.putfield 27, 3) := by decide +kernel
theorem dM_encode_5 : decode cM_encode 5 = .ok (.aload_n 0, 1) := by decide +kernel
theorem dM_encode_6 : decode cM_encode 6 = .ok (.iload_n 1, 1) := by decide +kernel
theorem dM_encode_7 : decode cM_encode 7 = .ok (.invokestatic 39, 3) := by decide +kernel
theorem dM_encode_10 : decode cM_encode 10 = .ok (.ifCond .ne 7, 3) := by decide +kernel
theorem dM_encode_13 : decode cM_encode 13 = .ok (.iconst 1, 1) := by decide +kernel
theorem dM_encode_14 : decode cM_encode 14 = .ok (.goto 4, 3) := by decide +kernel
theorem dM_encode_17 : decode cM_encode 17 = .ok (.iconst 0, 1) := by decide +kernel
theorem dM_encode_18 : decode cM_encode 18 = .ok (.iconst 1, 1) := by decide +kernel
theorem dM_encode_19 : decode cM_encode 19 = .ok (.invokevirtual 46, 3) := by decide +kernel
theorem dM_encode_22 : decode cM_encode 22 = .ok (.ifCond .ne 24, 3) := by decide +kernel
theorem dM_encode_25 : decode cM_encode 25 = .ok (.aload_n 0, 1) := by decide +kernel
theorem dM_encode_26 : decode cM_encode 26 = .ok (.aload_n 0, 1) := by decide +kernel
theorem dM_encode_27 : decode cM_encode 27 = .ok (.iload_n 1, 1) := by decide +kernel
theorem dM_encode_28 : decode cM_encode 28 = .ok (.invokevirtual 68, 3) := by decide +kernel
theorem dM_encode_31 : decode cM_encode 31 = .ok (.ifCond .le 7, 3) := by decide +kernel
theorem dM_encode_34 : decode cM_encode 34 = .ok (.iconst 1, 1) := by decide +kernel
theorem dM_encode_35 : decode cM_encode 35 = .ok (.goto 4, 3) := by decide +kernel
theorem dM_encode_38 : decode cM_encode 38 = .ok (.iconst 0, 1) := by decide +kernel
theorem dM_encode_39 : decode cM_encode 39 = .ok (.iconst 2, 1) := by decide +kernel
theorem dM_encode_40 : decode cM_encode 40 = .ok (.invokevirtual 46, 3) := by decide +kernel
theorem dM_encode_43 : decode cM_encode 43 = .ok (.ifCond .eq 5, 3) := by decide +kernel
theorem dM_encode_46 : decode cM_encode 46 = .ok (.lconst 0, 1) := by decide +kernel
theorem dM_encode_47 : decode cM_encode 47 = .ok (.lreturn, 1) := by decide +kernel
theorem dM_encode_48 : decode cM_encode 48 = .ok (.iconst 0, 1) := by decide +kernel
theorem dM_encode_49 : decode cM_encode 49 = .ok (.istore_n 2, 1) := by decide +kernel
theorem dM_encode_50 : decode cM_encode 50 = .ok (.iload_n 2, 1) := by decide +kernel
theorem dM_encode_51 : decode cM_encode 51 = .ok (.bipush 6, 2) := by decide +kernel
theorem dM_encode_53 : decode cM_encode 53 = .ok (.if_icmp .ge 48, 3) := by decide +kernel
theorem dM_encode_56 : decode cM_encode 56 = .ok (.aload_n 0, 1) := by decide +kernel
theorem dM_encode_57 : decode cM_encode 57 = .ok (.aload_n 0, 1) := by decide +kernel
theorem dM_encode_58 : decode cM_encode 58 = .ok (.iload_n 1, 1) := by decide +kernel
theorem dM_encode_59 : decode cM_encode 59 = .ok (.iload_n 2, 1) := by decide +kernel
theorem dM_encode_60 : decode cM_encode 60 = .ok (.invokevirtual 52, 3) := by decide +kernel
theorem dM_encode_63 : decode cM_encode 63 = .ok (.ifCond .le 22, 3) := by decide +kernel
theorem dM_encode_66 : decode cM_encode 66 = .ok (.aload_n 0, 1) := by decide +kernel
theorem dM_encode_67 : decode cM_encode 67 = .ok (.iload_n 1, 1) := by decide +kernel
theorem dM_encode_68 : decode cM_encode 68 = .ok (.iload_n 2, 1) := by decide +kernel
theorem dM_encode_69 : decode cM_encode 69 = .ok (.aload_n 0, 1) := by decide +kernel
theorem dM_encode_70 : decode cM_encode 70 = .ok (.getfield 23, 3) := by decide +kernel
theorem dM_encode_73 : decode cM_encode 73 = .ok (.iload_n 2, 1) := by decide +kernel
theorem dM_encode_74 : decode cM_encode 74 = .ok (.laload, 1) := by decide +kernel
theorem dM_encode_75 : decode cM_encode 75 = .ok (.invokevirtual 72, 3) := by decide +kernel
theorem dM_encode_78 : decode cM_encode 78 = .ok (.ifCond .ne 7, 3) := by decide +kernel
theorem dM_encode_81 : decode cM_encode 81 = .ok (.iconst 1, 1) := by decide +kernel
theorem dM_encode_82 : decode cM_encode 82 = .ok (.goto 4, 3) := by decide +kernel
theorem dM_encode_85 : decode cM_encode 85 = .ok (.iconst 0, 1) := by decide +kernel
theorem dM_encode_86 : decode cM_encode 86 = .ok (.iconst 3, 1) := by decide +kernel
theorem dM_encode_87 : decode cM_encode 87 = .ok (.invokevirtual 46, 3) := by decide +kernel
theorem dM_encode_90 : decode cM_encode 90 = .ok (.ifCond .eq 5, 3) := by decide +kernel
theorem dM_encode_93 : decode cM_encode 93 = .ok (.lconst 0, 1) := by decide +kernel
theorem dM_encode_94 : decode cM_encode 94 = .ok (.lreturn, 1) := by decide +kernel
theorem dM_encode_95 : decode cM_encode 95 = .ok (.iinc 2 1, 3) := by decide +kernel
theorem dM_encode_98 : decode cM_encode 98 = .ok (.goto (-48), 3) := by decide +kernel
theorem dM_encode_101 : decode cM_encode 101 = .ok (.lconst 0, 1) := by decide +kernel
theorem dM_encode_102 : decode cM_encode 102 = .ok (.lstore_n 2, 1) := by decide +kernel
theorem dM_encode_103 : decode cM_encode 103 = .ok (.iconst 0, 1) := by decide +kernel
theorem dM_encode_104 : decode cM_encode 104 = .ok (.istore 4, 2) := by decide +kernel
theorem dM_encode_106 : decode cM_encode 106 = .ok (.iload 4, 2) := by decide +kernel
theorem dM_encode_108 : decode cM_encode 108 = .ok (.aload_n 0, 1) := by decide +kernel
theorem dM_encode_109 : decode cM_encode 109 = .ok (.getfield 9, 3) := by decide +kernel
theorem dM_encode_112 : decode cM_encode 112 = .ok (.iload_n 1, 1) := by decide +kernel
theorem dM_encode_113 : decode cM_encode 113 = .ok (.iaload, 1) := by decide +kernel
theorem dM_encode_114 : decode cM_encode 114 = .ok (.if_icmp .ge 66, 3) := by decide +kernel
theorem dM_encode_117 : decode cM_encode 117 = .ok (.aload_n 0, 1) := by decide +kernel
theorem dM_encode_118 : decode cM_encode 118 = .ok (.iload_n 1, 1) := by decide +kernel
theorem dM_encode_119 : decode cM_encode 119 = .ok (.iload 4, 2) := by decide +kernel
theorem dM_encode_121 : decode cM_encode 121 = .ok (.invokevirtual 76, 3) := by decide +kernel
theorem dM_encode_124 : decode cM_encode 124 = .ok (.istore 5, 2) := by decide +kernel
theorem dM_encode_126 : decode cM_encode 126 = .ok (.iload 5, 2) := by decide +kernel
theorem dM_encode_128 : decode cM_encode 128 = .ok (.iconst 2, 1) := by decide +kernel
theorem dM_encode_129 : decode cM_encode 129 = .ok (.if_icmp .ge 8, 3) := by decide +kernel
theorem dM_encode_132 : decode cM_encode 132 = .ok (.iload 5, 2) := by decide +kernel
theorem dM_encode_134 : decode cM_encode 134 = .ok (.goto 25, 3) := by decide +kernel
theorem dM_encode_137 : decode cM_encode 137 = .ok (.aload_n 0, 1) := by decide +kernel
theorem dM_encode_138 : decode cM_encode 138 = .ok (.getfield 23, 3) := by decide +kernel
theorem dM_encode_141 : decode cM_encode 141 = .ok (.iload 5, 2) := by decide +kernel
theorem dM_encode_143 : decode cM_encode 143 = .ok (.iconst 2, 1) := by decide +kernel
theorem dM_encode_144 : decode cM_encode 144 = .ok (.isub, 1) := by decide +kernel
theorem dM_encode_145 : decode cM_encode 145 = .ok (.bipush 64, 2) := by decide +kernel
theorem dM_encode_147 : decode cM_encode 147 = .ok (.idiv, 1) := by decide +kernel
theorem dM_encode_148 : decode cM_encode 148 = .ok (.laload, 1) := by decide +kernel
theorem dM_encode_149 : decode cM_encode 149 = .ok (.iload 5, 2) := by decide +kernel
theorem dM_encode_151 : decode cM_encode 151 = .ok (.iconst 2, 1) := by decide +kernel
theorem dM_encode_152 : decode cM_encode 152 = .ok (.isub, 1) := by decide +kernel
theorem dM_encode_153 : decode cM_encode 153 = .ok (.bipush 64, 2) := by decide +kernel
theorem dM_encode_155 : decode cM_encode 155 = .ok (.irem, 1) := by decide +kernel
theorem dM_encode_156 : decode cM_encode 156 = .ok (.invokestatic 56, 3) := by decide +kernel
theorem dM_encode_159 : decode cM_encode 159 = .ok (.istore 6, 2) := by decide +kernel
theorem dM_encode_161 : decode cM_encode 161 = .ok (.iload 6, 2) := by decide +kernel
theorem dM_encode_163 : decode cM_encode 163 = .ok (.iconst 1, 1) := by decide +kernel
theorem dM_encode_164 : decode cM_encode 164 = .ok (.if_icmp .ne 10, 3) := by decide +kernel
theorem dM_encode_167 : decode cM_encode 167 = .ok (.lload_n 2, 1) := by decide +kernel
theorem dM_encode_168 : decode cM_encode 168 = .ok (.lconst 1, 1) := by decide +kernel
theorem dM_encode_169 : decode cM_encode 169 = .ok (.iload 4, 2) := by decide +kernel
theorem dM_encode_171 : decode cM_encode 171 = .ok (.lshl, 1) := by decide +kernel
theorem dM_encode_172 : decode cM_encode 172 = .ok (.lor, 1) := by decide +kernel
theorem dM_encode_173 : decode cM_encode 173 = .ok (.lstore_n 2, 1) := by decide +kernel
theorem dM_encode_174 : decode cM_encode 174 = .ok (.iinc 4 1, 3) := by decide +kernel
theorem dM_encode_177 : decode cM_encode 177 = .ok (.goto (-71), 3) := by decide +kernel
theorem dM_encode_180 : decode cM_encode 180 = .ok (.lload_n 2, 1) := by decide +kernel
theorem dM_encode_181 : decode cM_encode 181 = .ok (.lreturn, 1) := by decide +kernel
theorem dM_isOf_0 : decode cM_isOf 0 = .ok (.iconst 0, 1) := by decide +kernel
theorem dM_isOf_1 : decode cM_isOf 1 = .ok (.istore 4, 2) := by decide +kernel
theorem dM_isOf_3 : decode cM_isOf 3 = .ok (.iload 4, 2) := by decide +kernel
theorem dM_isOf_5 : decode cM_isOf 5 = .ok (.bipush 64, 2) := by decide +kernel
theorem dM_isOf_7 : decode cM_isOf 7 = .ok (.if_icmp .ge 61, 3) := by decide +kernel
theorem dM_isOf_10 : decode cM_isOf 10 = .ok (.iload 4, 2) := by decide +kernel
theorem dM_isOf_12 : decode cM_isOf 12 = .ok (.aload_n 0, 1) := by decide +kernel
theorem dM_isOf_13 : decode cM_isOf 13 = .ok (.getfield 9, 3) := by decide +kernel
theorem dM_isOf_16 : decode cM_isOf 16 = .ok (.iload_n 1, 1) := by decide +kernel
theorem dM_isOf_17 : decode cM_isOf 17 = .ok (.iaload, 1) := by decide +kernel
theorem dM_isOf_18 : decode cM_isOf 18 = .ok (.if_icmp .lt 15, 3) := by decide +kernel
theorem dM_isOf_21 : decode cM_isOf 21 = .ok (.lload_n 2, 1) := by decide +kernel
theorem dM_isOf_22 : decode cM_isOf 22 = .ok (.iload 4, 2) := by decide +kernel
theorem dM_isOf_24 : decode cM_isOf 24 = .ok (.invokestatic 56, 3) := by decide +kernel
theorem dM_isOf_27 : decode cM_isOf 27 = .ok (.ifCond .eq 35, 3) := by decide +kernel
theorem dM_isOf_30 : decode cM_isOf 30 = .ok (.goto 30, 3) := by decide +kernel
theorem dM_isOf_33 : decode cM_isOf 33 = .ok (.aload_n 0, 1) := by decide +kernel
theorem dM_isOf_34 : decode cM_isOf 34 = .ok (.iload_n 1, 1) := by decide +kernel
theorem dM_isOf_35 : decode cM_isOf 35 = .ok (.iload 4, 2) := by decide +kernel
theorem dM_isOf_37 : decode cM_isOf 37 = .ok (.invokevirtual 76, 3) := by decide +kernel
theorem dM_isOf_40 : decode cM_isOf 40 = .ok (.iconst 2, 1) := by decide +kernel
theorem dM_isOf_41 : decode cM_isOf 41 = .ok (.if_icmp .ge 21, 3) := by decide +kernel
theorem dM_isOf_44 : decode cM_isOf 44 = .ok (.aload_n 0, 1) := by decide +kernel
theorem dM_isOf_45 : decode cM_isOf 45 = .ok (.iload_n 1, 1) := by decide +kernel
theorem dM_isOf_46 : decode cM_isOf 46 = .ok (.iload 4, 2) := by decide +kernel
theorem dM_isOf_48 : decode cM_isOf 48 = .ok (.invokevirtual 76, 3) := by decide +kernel
theorem dM_isOf_51 : decode cM_isOf 51 = .ok (.lload_n 2, 1) := by decide +kernel
theorem dM_isOf_52 : decode cM_isOf 52 = .ok (.iload 4, 2) := by decide +kernel
theorem dM_isOf_54 : decode cM_isOf 54 = .ok (.invokestatic 56, 3) := by decide +kernel
theorem dM_isOf_57 : decode cM_isOf 57 = .ok (.if_icmp .eq 5, 3) := by decide +kernel
theorem dM_isOf_60 : decode cM_isOf 60 = .ok (.iconst 0, 1) := by decide +kernel
theorem dM_isOf_61 : decode cM_isOf 61 = .ok (.ireturn, 1) := by decide +kernel
theorem dM_isOf_62 : decode cM_isOf 62 = .ok (.iinc 4 1, 3) := by decide +kernel
theorem dM_isOf_65 : decode cM_isOf 65 = .ok (.goto (-62), 3) := by decide +kernel
theorem dM_isOf_68 : decode cM_isOf 68 = .ok (.iconst 1, 1) := by decide +kernel
theorem dM_isOf_69 : decode cM_isOf 69 = .ok (.ireturn, 1) := by decide +kernel
theorem dM_is_0 : decode cM_is 0 = .ok (.aload_n 0, 1) := by decide +kernel
theorem dM_is_1 : decode cM_is 1 = .ok (.iconst 0, 1) := by decide +kernel
theorem dM_is_2 : decode cM_is 2 = .ok (.putfield 27, 3) := by decide +kernel
theorem dM_is_5 : decode cM_is 5 = .ok (.aload_n 0, 1) := by decide +kernel
theorem dM_is_6 : decode cM_is 6 = .ok (.iload_n 1, 1) := by decide +kernel
theorem dM_is_7 : decode cM_is 7 = .ok (.invokestatic 39, 3) := by decide +kernel
theorem dM_is_10 : decode cM_is 10 = .ok (.ifCond .ne 7, 3) := by decide +kernel
theorem dM_is_13 : decode cM_is 13 = .ok (.iconst 1, 1) := by decide +kernel
theorem dM_is_14 : decode cM_is 14 = .ok (.goto 4, 3) := by decide +kernel
theorem dM_is_17 : decode cM_is 17 = .ok (.iconst 0, 1) := by decide +kernel
theorem dM_is_18 : decode cM_is 18 = .ok (.iconst 1, 1) := by decide +kernel
theorem dM_is_19 : decode cM_is 19 = .ok (.invokevirtual 46, 3) := by decide +kernel
theorem dM_is_22 : decode cM_is 22 = .ok (.ifCond .ne 16, 3) := by decide +kernel
theorem dM_is_25 : decode cM_is 25 = .ok (.aload_n 0, 1) := by decide +kernel
theorem dM_is_26 : decode cM_is 26 = .ok (.iload_n 1, 1) := by decide +kernel
theorem dM_is_27 : decode cM_is 27 = .ok (.lload_n 2, 1) := by decide +kernel
theorem dM_is_28 : decode cM_is 28 = .ok (.invokevirtual 79, 3) := by decide +kernel
theorem dM_is_31 : decode cM_is 31 = .ok (.ifCond .eq 7, 3) := by decide +kernel
theorem dM_is_34 : decode cM_is 34 = .ok (.iconst 1, 1) := by decide +kernel
theorem dM_is_35 : decode cM_is 35 = .ok (.goto 4, 3) := by decide +kernel
theorem dM_is_38 : decode cM_is 38 = .ok (.iconst 0, 1) := by decide +kernel
theorem dM_is_39 : decode cM_is 39 = .ok (.ireturn, 1) := by decide +kernel
theorem dM_decode_0 : decode cM_decode 0 = .ok (.aload_n 0, 1) := by decide +kernel
theorem dM_decode_1 : decode cM_decode 1 = .ok (.iconst 0, 1) := by decide +kernel
theorem dM_decode_2 : decode cM_decode 2 = .ok (.putfield 27, 3) := by decide +kernel
theorem dM_decode_5 : decode cM_decode 5 = .ok (.aload_n 0, 1) := by decide +kernel
theorem dM_decode_6 : decode cM_decode 6 = .ok (.aload_n 0, 1) := by decide +kernel
theorem dM_decode_7 : decode cM_decode 7 = .ok (.iload_n 1, 1) := by decide +kernel
theorem dM_decode_8 : decode cM_decode 8 = .ok (.iload_n 2, 1) := by decide +kernel
theorem dM_decode_9 : decode cM_decode 9 = .ok (.invokevirtual 60, 3) := by decide +kernel
theorem dM_decode_12 : decode cM_decode 12 = .ok (.ifCond .ne 7, 3) := by decide +kernel
theorem dM_decode_15 : decode cM_decode 15 = .ok (.iconst 1, 1) := by decide +kernel
theorem dM_decode_16 : decode cM_decode 16 = .ok (.goto 4, 3) := by decide +kernel
theorem dM_decode_19 : decode cM_decode 19 = .ok (.iconst 0, 1) := by decide +kernel
theorem dM_decode_20 : decode cM_decode 20 = .ok (.iconst 1, 1) := by decide +kernel
theorem dM_decode_21 : decode cM_decode 21 = .ok (.invokevirtual 46, 3) := by decide +kernel
theorem dM_decode_24 : decode cM_decode 24 = .ok (.ifCond .ne 46, 3) := by decide +kernel
theorem dM_decode_27 : decode cM_decode 27 = .ok (.aload_n 0, 1) := by decide +kernel
theorem dM_decode_28 : decode cM_decode 28 = .ok (.aload_n 0, 1) := by decide +kernel
theorem dM_decode_29 : decode cM_decode 29 = .ok (.iload_n 1, 1) := by decide +kernel
theorem dM_decode_30 : decode cM_decode 30 = .ok (.invokevirtual 68, 3) := by decide +kernel
theorem dM_decode_33 : decode cM_decode 33 = .ok (.ifCond .le 7, 3) := by decide +kernel
theorem dM_decode_36 : decode cM_decode 36 = .ok (.iconst 1, 1) := by decide +kernel
theorem dM_decode_37 : decode cM_decode 37 = .ok (.goto 4, 3) := by decide +kernel
theorem dM_decode_40 : decode cM_decode 40 = .ok (.iconst 0, 1) := by decide +kernel
theorem dM_decode_41 : decode cM_decode 41 = .ok (.iconst 2, 1) := by decide +kernel
theorem dM_decode_42 : decode cM_decode 42 = .ok (.invokevirtual 46, 3) := by decide +kernel
theorem dM_decode_45 : decode cM_decode 45 = .ok (.ifCond .ne 25, 3) := by decide +kernel
theorem dM_decode_48 : decode cM_decode 48 = .ok (.aload_n 0, 1) := by decide +kernel
theorem dM_decode_49 : decode cM_decode 49 = .ok (.aload_n 0, 1) := by decide +kernel
theorem dM_decode_50 : decode cM_decode 50 = .ok (.iload_n 1, 1) := by decide +kernel
theorem dM_decode_51 : decode cM_decode 51 = .ok (.lload_n 3, 1) := by decide +kernel
theorem dM_decode_52 : decode cM_decode 52 = .ok (.invokevirtual 79, 3) := by decide +kernel
theorem dM_decode_55 : decode cM_decode 55 = .ok (.ifCond .ne 7, 3) := by decide +kernel
theorem dM_decode_58 : decode cM_decode 58 = .ok (.iconst 1, 1) := by decide +kernel
theorem dM_decode_59 : decode cM_decode 59 = .ok (.goto 4, 3) := by decide +kernel
theorem dM_decode_62 : decode cM_decode 62 = .ok (.iconst 0, 1) := by decide +kernel
theorem dM_decode_63 : decode cM_decode 63 = .ok (.iconst 3, 1) := by decide +kernel
theorem dM_decode_64 : decode cM_decode 64 = .ok (.invokevirtual 46, 3) := by decide +kernel
theorem dM_decode_67 : decode cM_decode 67 = .ok (.ifCond .eq 5, 3) := by decide +kernel
theorem dM_decode_70 : decode cM_decode 70 = .ok (.lconst 0, 1) := by decide +kernel
theorem dM_decode_71 : decode cM_decode 71 = .ok (.lreturn, 1) := by decide +kernel
theorem dM_decode_72 : decode cM_decode 72 = .ok (.aload_n 0, 1) := by decide +kernel
theorem dM_decode_73 : decode cM_decode 73 = .ok (.iload_n 1, 1) := by decide +kernel
theorem dM_decode_74 : decode cM_decode 74 = .ok (.iload_n 2, 1) := by decide +kernel
theorem dM_decode_75 : decode cM_decode 75 = .ok (.invokevirtual 52, 3) := by decide +kernel
theorem dM_decode_78 : decode cM_decode 78 = .ok (.istore 5, 2) := by decide +kernel
theorem dM_decode_80 : decode cM_decode 80 = .ok (.lconst 0, 1) := by decide +kernel
theorem dM_decode_81 : decode cM_decode 81 = .ok (.lstore 6, 2) := by decide +kernel
theorem dM_decode_83 : decode cM_decode 83 = .ok (.iconst 0, 1) := by decide +kernel
theorem dM_decode_84 : decode cM_decode 84 = .ok (.istore 8, 2) := by decide +kernel
theorem dM_decode_86 : decode cM_decode 86 = .ok (.iload 8, 2) := by decide +kernel
theorem dM_decode_88 : decode cM_decode 88 = .ok (.bipush 64, 2) := by decide +kernel
theorem dM_decode_90 : decode cM_decode 90 = .ok (.if_icmp .ge 95, 3) := by decide +kernel
theorem dM_decode_93 : decode cM_decode 93 = .ok (.iload 8, 2) := by decide +kernel
theorem dM_decode_95 : decode cM_decode 95 = .ok (.iload 5, 2) := by decide +kernel
theorem dM_decode_97 : decode cM_decode 97 = .ok (.if_icmp .ge 7, 3) := by decide +kernel
theorem dM_decode_100 : decode cM_decode 100 = .ok (.iconst 1, 1) := by decide +kernel
theorem dM_decode_101 : decode cM_decode 101 = .ok (.goto 4, 3) := by decide +kernel
theorem dM_decode_104 : decode cM_decode 104 = .ok (.iconst 0, 1) := by decide +kernel
theorem dM_decode_105 : decode cM_decode 105 = .ok (.istore 9, 2) := by decide +kernel
theorem dM_decode_107 : decode cM_decode 107 = .ok (.iload 9, 2) := by decide +kernel
theorem dM_decode_109 : decode cM_decode 109 = .ok (.ifCond .ne 20, 3) := by decide +kernel
theorem dM_decode_112 : decode cM_decode 112 = .ok (.aload_n 0, 1) := by decide +kernel
theorem dM_decode_113 : decode cM_decode 113 = .ok (.getfield 19, 3) := by decide +kernel
theorem dM_decode_116 : decode cM_decode 116 = .ok (.bipush 6, 2) := by decide +kernel
theorem dM_decode_118 : decode cM_decode 118 = .ok (.iload_n 1, 1) := by decide +kernel
theorem dM_decode_119 : decode cM_decode 119 = .ok (.imul, 1) := by decide +kernel
theorem dM_decode_120 : decode cM_decode 120 = .ok (.iload_n 2, 1) := by decide +kernel
theorem dM_decode_121 : decode cM_decode 121 = .ok (.iadd, 1) := by decide +kernel
theorem dM_decode_122 : decode cM_decode 122 = .ok (.baload, 1) := by decide +kernel
theorem dM_decode_123 : decode cM_decode 123 = .ok (.ifCond .ne 6, 3) := by decide +kernel
theorem dM_decode_126 : decode cM_decode 126 = .ok (.goto 59, 3) := by decide +kernel
theorem dM_decode_129 : decode cM_decode 129 = .ok (.aload_n 0, 1) := by decide +kernel
theorem dM_decode_130 : decode cM_decode 130 = .ok (.getfield 9, 3) := by decide +kernel
theorem dM_decode_133 : decode cM_decode 133 = .ok (.iload_n 1, 1) := by decide +kernel
theorem dM_decode_134 : decode cM_decode 134 = .ok (.iaload, 1) := by decide +kernel
theorem dM_decode_135 : decode cM_decode 135 = .ok (.iconst 1, 1) := by decide +kernel
theorem dM_decode_136 : decode cM_decode 136 = .ok (.isub, 1) := by decide +kernel
theorem dM_decode_137 : decode cM_decode 137 = .ok (.aload_n 0, 1) := by decide +kernel
theorem dM_decode_138 : decode cM_decode 138 = .ok (.iload_n 1, 1) := by decide +kernel
theorem dM_decode_139 : decode cM_decode 139 = .ok (.iload_n 2, 1) := by decide +kernel
theorem dM_decode_140 : decode cM_decode 140 = .ok (.iload 9, 2) := by decide +kernel
theorem dM_decode_142 : decode cM_decode 142 = .ok (.ifCond .eq 8, 3) := by decide +kernel
theorem dM_decode_145 : decode cM_decode 145 = .ok (.iload 8, 2) := by decide +kernel
theorem dM_decode_147 : decode cM_decode 147 = .ok (.goto 7, 3) := by decide +kernel
theorem dM_decode_150 : decode cM_decode 150 = .ok (.iload 5, 2) := by decide +kernel
theorem dM_decode_152 : decode cM_decode 152 = .ok (.iconst 1, 1) := by decide +kernel
theorem dM_decode_153 : decode cM_decode 153 = .ok (.isub, 1) := by decide +kernel
theorem dM_decode_154 : decode cM_decode 154 = .ok (.invokevirtual 64, 3) := by decide +kernel
theorem dM_decode_157 : decode cM_decode 157 = .ok (.isub, 1) := by decide +kernel
theorem dM_decode_158 : decode cM_decode 158 = .ok (.istore 10, 2) := by decide +kernel
theorem dM_decode_160 : decode cM_decode 160 = .ok (.lload_n 3, 1) := by decide +kernel
theorem dM_decode_161 : decode cM_decode 161 = .ok (.iload 10, 2) := by decide +kernel
theorem dM_decode_163 : decode cM_decode 163 = .ok (.invokestatic 56, 3) := by decide +kernel
theorem dM_decode_166 : decode cM_decode 166 = .ok (.iconst 1, 1) := by decide +kernel
theorem dM_decode_167 : decode cM_decode 167 = .ok (.if_icmp .ne 12, 3) := by decide +kernel
theorem dM_decode_170 : decode cM_decode 170 = .ok (.lload 6, 2) := by decide +kernel
theorem dM_decode_172 : decode cM_decode 172 = .ok (.lconst 1, 1) := by decide +kernel
theorem dM_decode_173 : decode cM_decode 173 = .ok (.iload 8, 2) := by decide +kernel
theorem dM_decode_175 : decode cM_decode 175 = .ok (.lshl, 1) := by decide +kernel
theorem dM_decode_176 : decode cM_decode 176 = .ok (.lor, 1) := by decide +kernel
theorem dM_decode_177 : decode cM_decode 177 = .ok (.lstore 6, 2) := by decide +kernel
theorem dM_decode_179 : decode cM_decode 179 = .ok (.iinc 8 1, 3) := by decide +kernel
theorem dM_decode_182 : decode cM_decode 182 = .ok (.goto (-96), 3) := by decide +kernel
theorem dM_decode_185 : decode cM_decode 185 = .ok (.lload 6, 2) := by decide +kernel
theorem dM_decode_187 : decode cM_decode 187 = .ok (.lreturn, 1) := by decide +kernel
theorem dM_meet_0 : decode cM_meet 0 = .ok (.aload_n 0, 1) := by decide +kernel
theorem dM_meet_1 : decode cM_meet 1 = .ok (.iconst 0, 1) := by decide +kernel
theorem dM_meet_2 : decode cM_meet 2 = .ok (.putfield 27, 3) := by decide +kernel
theorem dM_meet_5 : decode cM_meet 5 = .ok (.aload_n 0, 1) := by decide +kernel
theorem dM_meet_6 : decode cM_meet 6 = .ok (.iload_n 1, 1) := by decide +kernel
theorem dM_meet_7 : decode cM_meet 7 = .ok (.invokestatic 39, 3) := by decide +kernel
theorem dM_meet_10 : decode cM_meet 10 = .ok (.ifCond .eq 10, 3) := by decide +kernel
theorem dM_meet_13 : decode cM_meet 13 = .ok (.iload_n 2, 1) := by decide +kernel
theorem dM_meet_14 : decode cM_meet 14 = .ok (.invokestatic 39, 3) := by decide +kernel
theorem dM_meet_17 : decode cM_meet 17 = .ok (.ifCond .ne 7, 3) := by decide +kernel
theorem dM_meet_20 : decode cM_meet 20 = .ok (.iconst 1, 1) := by decide +kernel
theorem dM_meet_21 : decode cM_meet 21 = .ok (.goto 4, 3) := by decide +kernel
theorem dM_meet_24 : decode cM_meet 24 = .ok (.iconst 0, 1) := by decide +kernel
theorem dM_meet_25 : decode cM_meet 25 = .ok (.iconst 1, 1) := by decide +kernel
theorem dM_meet_26 : decode cM_meet 26 = .ok (.invokevirtual 46, 3) := by decide +kernel
theorem dM_meet_29 : decode cM_meet 29 = .ok (.ifCond .eq 5, 3) := by decide +kernel
theorem dM_meet_32 : decode cM_meet 32 = .ok (.iconst 0, 1) := by decide +kernel
theorem dM_meet_33 : decode cM_meet 33 = .ok (.ireturn, 1) := by decide +kernel
theorem dM_meet_34 : decode cM_meet 34 = .ok (.iconst 0, 1) := by decide +kernel
theorem dM_meet_35 : decode cM_meet 35 = .ok (.istore_n 3, 1) := by decide +kernel
theorem dM_meet_36 : decode cM_meet 36 = .ok (.iload_n 3, 1) := by decide +kernel
theorem dM_meet_37 : decode cM_meet 37 = .ok (.bipush 64, 2) := by decide +kernel
theorem dM_meet_39 : decode cM_meet 39 = .ok (.if_icmp .ge 74, 3) := by decide +kernel
theorem dM_meet_42 : decode cM_meet 42 = .ok (.iload_n 3, 1) := by decide +kernel
theorem dM_meet_43 : decode cM_meet 43 = .ok (.aload_n 0, 1) := by decide +kernel
theorem dM_meet_44 : decode cM_meet 44 = .ok (.getfield 9, 3) := by decide +kernel
theorem dM_meet_47 : decode cM_meet 47 = .ok (.iload_n 1, 1) := by decide +kernel
theorem dM_meet_48 : decode cM_meet 48 = .ok (.iaload, 1) := by decide +kernel
theorem dM_meet_49 : decode cM_meet 49 = .ok (.if_icmp .ge 12, 3) := by decide +kernel
theorem dM_meet_52 : decode cM_meet 52 = .ok (.aload_n 0, 1) := by decide +kernel
theorem dM_meet_53 : decode cM_meet 53 = .ok (.iload_n 1, 1) := by decide +kernel
theorem dM_meet_54 : decode cM_meet 54 = .ok (.iload_n 3, 1) := by decide +kernel
theorem dM_meet_55 : decode cM_meet 55 = .ok (.invokevirtual 76, 3) := by decide +kernel
theorem dM_meet_58 : decode cM_meet 58 = .ok (.goto 4, 3) := by decide +kernel
theorem dM_meet_61 : decode cM_meet 61 = .ok (.iconst 0, 1) := by decide +kernel
theorem dM_meet_62 : decode cM_meet 62 = .ok (.istore 4, 2) := by decide +kernel
theorem dM_meet_64 : decode cM_meet 64 = .ok (.iload_n 3, 1) := by decide +kernel
theorem dM_meet_65 : decode cM_meet 65 = .ok (.aload_n 0, 1) := by decide +kernel
theorem dM_meet_66 : decode cM_meet 66 = .ok (.getfield 9, 3) := by decide +kernel
theorem dM_meet_69 : decode cM_meet 69 = .ok (.iload_n 2, 1) := by decide +kernel
theorem dM_meet_70 : decode cM_meet 70 = .ok (.iaload, 1) := by decide +kernel
theorem dM_meet_71 : decode cM_meet 71 = .ok (.if_icmp .ge 12, 3) := by decide +kernel
theorem dM_meet_74 : decode cM_meet 74 = .ok (.aload_n 0, 1) := by decide +kernel
theorem dM_meet_75 : decode cM_meet 75 = .ok (.iload_n 2, 1) := by decide +kernel
theorem dM_meet_76 : decode cM_meet 76 = .ok (.iload_n 3, 1) := by decide +kernel
theorem dM_meet_77 : decode cM_meet 77 = .ok (.invokevirtual 76, 3) := by decide +kernel
theorem dM_meet_80 : decode cM_meet 80 = .ok (.goto 4, 3) := by decide +kernel
theorem dM_meet_83 : decode cM_meet 83 = .ok (.iconst 0, 1) := by decide +kernel
theorem dM_meet_84 : decode cM_meet 84 = .ok (.istore 5, 2) := by decide +kernel
theorem dM_meet_86 : decode cM_meet 86 = .ok (.iload 4, 2) := by decide +kernel
theorem dM_meet_88 : decode cM_meet 88 = .ok (.iconst 2, 1) := by decide +kernel
theorem dM_meet_89 : decode cM_meet 89 = .ok (.if_icmp .ge 18, 3) := by decide +kernel
theorem dM_meet_92 : decode cM_meet 92 = .ok (.iload 5, 2) := by decide +kernel
theorem dM_meet_94 : decode cM_meet 94 = .ok (.iconst 2, 1) := by decide +kernel
theorem dM_meet_95 : decode cM_meet 95 = .ok (.if_icmp .ge 12, 3) := by decide +kernel
theorem dM_meet_98 : decode cM_meet 98 = .ok (.iload 4, 2) := by decide +kernel
theorem dM_meet_100 : decode cM_meet 100 = .ok (.iload 5, 2) := by decide +kernel
theorem dM_meet_102 : decode cM_meet 102 = .ok (.if_icmp .eq 5, 3) := by decide +kernel
theorem dM_meet_105 : decode cM_meet 105 = .ok (.iconst 0, 1) := by decide +kernel
theorem dM_meet_106 : decode cM_meet 106 = .ok (.ireturn, 1) := by decide +kernel
theorem dM_meet_107 : decode cM_meet 107 = .ok (.iinc 3 1, 3) := by decide +kernel
theorem dM_meet_110 : decode cM_meet 110 = .ok (.goto (-74), 3) := by decide +kernel
theorem dM_meet_113 : decode cM_meet 113 = .ok (.iconst 1, 1) := by decide +kernel
theorem dM_meet_114 : decode cM_meet 114 = .ok (.ireturn, 1) := by decide +kernel
theorem dM_count_0 : decode cM_count 0 = .ok (.aload_n 0, 1) := by decide +kernel
theorem dM_count_1 : decode cM_count 1 = .ok (.iconst 0, 1) := by decide +kernel
theorem dM_count_2 : decode cM_count 2 = .ok (.putfield 27, 3) := by decide +kernel
theorem dM_count_5 : decode cM_count 5 = .ok (.aload_n 0, 1) := by decide +kernel
theorem dM_count_6 : decode cM_count 6 = .ok (.iload_n 1, 1) := by decide +kernel
theorem dM_count_7 : decode cM_count 7 = .ok (.invokestatic 39, 3) := by decide +kernel
theorem dM_count_10 : decode cM_count 10 = .ok (.ifCond .eq 15, 3) := by decide +kernel
theorem dM_count_13 : decode cM_count 13 = .ok (.iload_n 2, 1) := by decide +kernel
theorem dM_count_14 : decode cM_count 14 = .ok (.i2l, 1) := by decide +kernel
theorem dM_count_15 : decode cM_count 15 = .ok (.lconst 0, 1) := by decide +kernel
theorem dM_count_16 : decode cM_count 16 = .ok (.ldc2_w 83, 3) := by decide +kernel
theorem dM_count_19 : decode cM_count 19 = .ok (.invokestatic 33, 3) := by decide +kernel
theorem dM_count_22 : decode cM_count 22 = .ok (.ifCond .ne 7, 3) := by decide +kernel
theorem dM_count_25 : decode cM_count 25 = .ok (.iconst 1, 1) := by decide +kernel
theorem dM_count_26 : decode cM_count 26 = .ok (.goto 4, 3) := by decide +kernel
theorem dM_count_29 : decode cM_count 29 = .ok (.iconst 0, 1) := by decide +kernel
theorem dM_count_30 : decode cM_count 30 = .ok (.iconst 1, 1) := by decide +kernel
theorem dM_count_31 : decode cM_count 31 = .ok (.invokevirtual 46, 3) := by decide +kernel
theorem dM_count_34 : decode cM_count 34 = .ok (.ifCond .eq 5, 3) := by decide +kernel
theorem dM_count_37 : decode cM_count 37 = .ok (.iconst 0, 1) := by decide +kernel
theorem dM_count_38 : decode cM_count 38 = .ok (.ireturn, 1) := by decide +kernel
theorem dM_count_39 : decode cM_count 39 = .ok (.iconst 0, 1) := by decide +kernel
theorem dM_count_40 : decode cM_count 40 = .ok (.istore_n 3, 1) := by decide +kernel
theorem dM_count_41 : decode cM_count 41 = .ok (.iload_n 2, 1) := by decide +kernel
theorem dM_count_42 : decode cM_count 42 = .ok (.tableswitch 100 0 2 #[26, 33, 69], 26) := by decide +kernel
theorem dM_count_68 : decode cM_count 68 = .ok (.aload_n 0, 1) := by decide +kernel
theorem dM_count_69 : decode cM_count 69 = .ok (.getfield 9, 3) := by decide +kernel
theorem dM_count_72 : decode cM_count 72 = .ok (.iload_n 1, 1) := by decide +kernel
theorem dM_count_73 : decode cM_count 73 = .ok (.iaload, 1) := by decide +kernel
theorem dM_count_74 : decode cM_count 74 = .ok (.ireturn, 1) := by decide +kernel
theorem dM_count_75 : decode cM_count 75 = .ok (.iconst 0, 1) := by decide +kernel
theorem dM_count_76 : decode cM_count 76 = .ok (.istore 4, 2) := by decide +kernel
theorem dM_count_78 : decode cM_count 78 = .ok (.iload 4, 2) := by decide +kernel
theorem dM_count_80 : decode cM_count 80 = .ok (.aload_n 0, 1) := by decide +kernel
theorem dM_count_81 : decode cM_count 81 = .ok (.getfield 9, 3) := by decide +kernel
theorem dM_count_84 : decode cM_count 84 = .ok (.iload_n 1, 1) := by decide +kernel
theorem dM_count_85 : decode cM_count 85 = .ok (.iaload, 1) := by decide +kernel
theorem dM_count_86 : decode cM_count 86 = .ok (.if_icmp .ge 23, 3) := by decide +kernel
theorem dM_count_89 : decode cM_count 89 = .ok (.aload_n 0, 1) := by decide +kernel
theorem dM_count_90 : decode cM_count 90 = .ok (.iload_n 1, 1) := by decide +kernel
theorem dM_count_91 : decode cM_count 91 = .ok (.iload 4, 2) := by decide +kernel
theorem dM_count_93 : decode cM_count 93 = .ok (.invokevirtual 76, 3) := by decide +kernel
theorem dM_count_96 : decode cM_count 96 = .ok (.iconst 2, 1) := by decide +kernel
theorem dM_count_97 : decode cM_count 97 = .ok (.if_icmp .ge 6, 3) := by decide +kernel
theorem dM_count_100 : decode cM_count 100 = .ok (.iinc 3 1, 3) := by decide +kernel
theorem dM_count_103 : decode cM_count 103 = .ok (.iinc 4 1, 3) := by decide +kernel
theorem dM_count_106 : decode cM_count 106 = .ok (.goto (-28), 3) := by decide +kernel
theorem dM_count_109 : decode cM_count 109 = .ok (.iload_n 3, 1) := by decide +kernel
theorem dM_count_110 : decode cM_count 110 = .ok (.ireturn, 1) := by decide +kernel
theorem dM_count_111 : decode cM_count 111 = .ok (.iconst 0, 1) := by decide +kernel
theorem dM_count_112 : decode cM_count 112 = .ok (.istore 4, 2) := by decide +kernel
theorem dM_count_114 : decode cM_count 114 = .ok (.iload 4, 2) := by decide +kernel
theorem dM_count_116 : decode cM_count 116 = .ok (.bipush 6, 2) := by decide +kernel
theorem dM_count_118 : decode cM_count 118 = .ok (.if_icmp .ge 22, 3) := by decide +kernel
theorem dM_count_121 : decode cM_count 121 = .ok (.aload_n 0, 1) := by decide +kernel
theorem dM_count_122 : decode cM_count 122 = .ok (.iload_n 1, 1) := by decide +kernel
theorem dM_count_123 : decode cM_count 123 = .ok (.iload 4, 2) := by decide +kernel
theorem dM_count_125 : decode cM_count 125 = .ok (.invokevirtual 52, 3) := by decide +kernel
theorem dM_count_128 : decode cM_count 128 = .ok (.ifCond .le 6, 3) := by decide +kernel
theorem dM_count_131 : decode cM_count 131 = .ok (.iinc 3 1, 3) := by decide +kernel
theorem dM_count_134 : decode cM_count 134 = .ok (.iinc 4 1, 3) := by decide +kernel
theorem dM_count_137 : decode cM_count 137 = .ok (.goto (-23), 3) := by decide +kernel
theorem dM_count_140 : decode cM_count 140 = .ok (.iload_n 3, 1) := by decide +kernel
theorem dM_count_141 : decode cM_count 141 = .ok (.ireturn, 1) := by decide +kernel
theorem dM_count_142 : decode cM_count 142 = .ok (.aload_n 0, 1) := by decide +kernel
theorem dM_count_143 : decode cM_count 143 = .ok (.iload_n 1, 1) := by decide +kernel
theorem dM_count_144 : decode cM_count 144 = .ok (.invokevirtual 68, 3) := by decide +kernel
theorem dM_count_147 : decode cM_count 147 = .ok (.ireturn, 1) := by decide +kernel
theorem dL_clear_0 : decode cL_clear 0 = .ok (.aload_n 0, 1) := by decide +kernel
theorem dL_clear_1 : decode cL_clear 1 = .ok (.iload_n 1, 1) := by decide +kernel
theorem dL_clear_2 : decode cL_clear 2 = .ok (.invokevirtual 7, 3) := by decide +kernel
theorem dL_clear_5 : decode cL_clear 5 = .ok (.goto 6, 3) := by decide +kernel
theorem dL_clear_8 : decode cL_clear 8 = .ok (.astore_n 2, 1) := by decide +kernel
theorem dL_clear_9 : decode cL_clear 9 = .ok (.iconst 1, 1) := by decide +kernel
theorem dL_clear_10 : decode cL_clear 10 = .ok (.ireturn, 1) := by decide +kernel
theorem dL_clear_11 : decode cL_clear 11 = .ok (.iconst 0, 1) := by decide +kernel
theorem dL_clear_12 : decode cL_clear 12 = .ok (.ireturn, 1) := by decide +kernel
theorem dL_operand_0 : decode cL_operand 0 = .ok (.aload_n 0, 1) := by decide +kernel
theorem dL_operand_1 : decode cL_operand 1 = .ok (.iload_n 1, 1) := by decide +kernel
theorem dL_operand_2 : decode cL_operand 2 = .ok (.iload_n 2, 1) := by decide +kernel
theorem dL_operand_3 : decode cL_operand 3 = .ok (.iload_n 3, 1) := by decide +kernel
theorem dL_operand_4 : decode cL_operand 4 = .ok (.iload 4, 2) := by decide +kernel
theorem dL_operand_6 : decode cL_operand 6 = .ok (.invokevirtual 15, 3) := by decide +kernel
theorem dL_operand_9 : decode cL_operand 9 = .ok (.goto 11, 3) := by decide +kernel
theorem dL_operand_12 : decode cL_operand 12 = .ok (.astore 5, 2) := by decide +kernel
theorem dL_operand_14 : decode cL_operand 14 = .ok (.iconst 1, 1) := by decide +kernel
theorem dL_operand_15 : decode cL_operand 15 = .ok (.ireturn, 1) := by decide +kernel
theorem dL_operand_16 : decode cL_operand 16 = .ok (.astore 5, 2) := by decide +kernel
theorem dL_operand_18 : decode cL_operand 18 = .ok (.iconst 2, 1) := by decide +kernel
theorem dL_operand_19 : decode cL_operand 19 = .ok (.ireturn, 1) := by decide +kernel
theorem dL_operand_20 : decode cL_operand 20 = .ok (.iconst 0, 1) := by decide +kernel
theorem dL_operand_21 : decode cL_operand 21 = .ok (.ireturn, 1) := by decide +kernel
theorem dL_fixed_0 : decode cL_fixed 0 = .ok (.aload 5, 2) := by decide +kernel
theorem dL_fixed_2 : decode cL_fixed 2 = .ok (.iconst 0, 1) := by decide +kernel
theorem dL_fixed_3 : decode cL_fixed 3 = .ok (.aload_n 0, 1) := by decide +kernel
theorem dL_fixed_4 : decode cL_fixed 4 = .ok (.iload_n 1, 1) := by decide +kernel
theorem dL_fixed_5 : decode cL_fixed 5 = .ok (.iload_n 2, 1) := by decide +kernel
theorem dL_fixed_6 : decode cL_fixed 6 = .ok (.lload_n 3, 1) := by decide +kernel
theorem dL_fixed_7 : decode cL_fixed 7 = .ok (.invokevirtual 21, 3) := by decide +kernel
theorem dL_fixed_10 : decode cL_fixed 10 = .ok (.i2l, 1) := by decide +kernel
theorem dL_fixed_11 : decode cL_fixed 11 = .ok (.lastore, 1) := by decide +kernel
theorem dL_fixed_12 : decode cL_fixed 12 = .ok (.goto 11, 3) := by decide +kernel
theorem dL_fixed_15 : decode cL_fixed 15 = .ok (.astore 6, 2) := by decide +kernel
theorem dL_fixed_17 : decode cL_fixed 17 = .ok (.iconst 1, 1) := by decide +kernel
theorem dL_fixed_18 : decode cL_fixed 18 = .ok (.ireturn, 1) := by decide +kernel
theorem dL_fixed_19 : decode cL_fixed 19 = .ok (.astore 6, 2) := by decide +kernel
theorem dL_fixed_21 : decode cL_fixed 21 = .ok (.iconst 2, 1) := by decide +kernel
theorem dL_fixed_22 : decode cL_fixed 22 = .ok (.ireturn, 1) := by decide +kernel
theorem dL_fixed_23 : decode cL_fixed 23 = .ok (.iconst 0, 1) := by decide +kernel
theorem dL_fixed_24 : decode cL_fixed 24 = .ok (.ireturn, 1) := by decide +kernel
theorem dL_slice_0 : decode cL_slice 0 = .ok (.aload 5, 2) := by decide +kernel
theorem dL_slice_2 : decode cL_slice 2 = .ok (.iconst 0, 1) := by decide +kernel
theorem dL_slice_3 : decode cL_slice 3 = .ok (.aload_n 0, 1) := by decide +kernel
theorem dL_slice_4 : decode cL_slice 4 = .ok (.iload_n 1, 1) := by decide +kernel
theorem dL_slice_5 : decode cL_slice 5 = .ok (.iload_n 2, 1) := by decide +kernel
theorem dL_slice_6 : decode cL_slice 6 = .ok (.iload_n 3, 1) := by decide +kernel
theorem dL_slice_7 : decode cL_slice 7 = .ok (.iload 4, 2) := by decide +kernel
theorem dL_slice_9 : decode cL_slice 9 = .ok (.invokevirtual 27, 3) := by decide +kernel
theorem dL_slice_12 : decode cL_slice 12 = .ok (.i2l, 1) := by decide +kernel
theorem dL_slice_13 : decode cL_slice 13 = .ok (.lastore, 1) := by decide +kernel
theorem dL_slice_14 : decode cL_slice 14 = .ok (.goto 15, 3) := by decide +kernel
theorem dL_slice_17 : decode cL_slice 17 = .ok (.astore 6, 2) := by decide +kernel
theorem dL_slice_19 : decode cL_slice 19 = .ok (.iconst 1, 1) := by decide +kernel
theorem dL_slice_20 : decode cL_slice 20 = .ok (.ireturn, 1) := by decide +kernel
theorem dL_slice_21 : decode cL_slice 21 = .ok (.astore 6, 2) := by decide +kernel
theorem dL_slice_23 : decode cL_slice 23 = .ok (.iconst 2, 1) := by decide +kernel
theorem dL_slice_24 : decode cL_slice 24 = .ok (.ireturn, 1) := by decide +kernel
theorem dL_slice_25 : decode cL_slice 25 = .ok (.astore 6, 2) := by decide +kernel
theorem dL_slice_27 : decode cL_slice 27 = .ok (.iconst 3, 1) := by decide +kernel
theorem dL_slice_28 : decode cL_slice 28 = .ok (.ireturn, 1) := by decide +kernel
theorem dL_slice_29 : decode cL_slice 29 = .ok (.iconst 0, 1) := by decide +kernel
theorem dL_slice_30 : decode cL_slice 30 = .ok (.ireturn, 1) := by decide +kernel
theorem dL_whole_0 : decode cL_whole 0 = .ok (.aload_n 2, 1) := by decide +kernel
theorem dL_whole_1 : decode cL_whole 1 = .ok (.iconst 0, 1) := by decide +kernel
theorem dL_whole_2 : decode cL_whole 2 = .ok (.aload_n 0, 1) := by decide +kernel
theorem dL_whole_3 : decode cL_whole 3 = .ok (.iload_n 1, 1) := by decide +kernel
theorem dL_whole_4 : decode cL_whole 4 = .ok (.invokevirtual 31, 3) := by decide +kernel
theorem dL_whole_7 : decode cL_whole 7 = .ok (.ifCond .eq 7, 3) := by decide +kernel
theorem dL_whole_10 : decode cL_whole 10 = .ok (.lconst 1, 1) := by decide +kernel
theorem dL_whole_11 : decode cL_whole 11 = .ok (.goto 4, 3) := by decide +kernel
theorem dL_whole_14 : decode cL_whole 14 = .ok (.lconst 0, 1) := by decide +kernel
theorem dL_whole_15 : decode cL_whole 15 = .ok (.lastore, 1) := by decide +kernel
theorem dL_whole_16 : decode cL_whole 16 = .ok (.goto 6, 3) := by decide +kernel
theorem dL_whole_19 : decode cL_whole 19 = .ok (.astore_n 3, 1) := by decide +kernel
theorem dL_whole_20 : decode cL_whole 20 = .ok (.iconst 1, 1) := by decide +kernel
theorem dL_whole_21 : decode cL_whole 21 = .ok (.ireturn, 1) := by decide +kernel
theorem dL_whole_22 : decode cL_whole 22 = .ok (.iconst 0, 1) := by decide +kernel
theorem dL_whole_23 : decode cL_whole 23 = .ok (.ireturn, 1) := by decide +kernel
theorem dL_number_0 : decode cL_number 0 = .ok (.aload_n 0, 1) := by decide +kernel
theorem dL_number_1 : decode cL_number 1 = .ok (.iload_n 1, 1) := by decide +kernel
theorem dL_number_2 : decode cL_number 2 = .ok (.lload_n 2, 1) := by decide +kernel
theorem dL_number_3 : decode cL_number 3 = .ok (.invokevirtual 35, 3) := by decide +kernel
theorem dL_number_6 : decode cL_number 6 = .ok (.goto 7, 3) := by decide +kernel
theorem dL_number_9 : decode cL_number 9 = .ok (.astore 4, 2) := by decide +kernel
theorem dL_number_11 : decode cL_number 11 = .ok (.iconst 1, 1) := by decide +kernel
theorem dL_number_12 : decode cL_number 12 = .ok (.ireturn, 1) := by decide +kernel
theorem dL_number_13 : decode cL_number 13 = .ok (.iconst 0, 1) := by decide +kernel
theorem dL_number_14 : decode cL_number 14 = .ok (.ireturn, 1) := by decide +kernel
theorem dL_fits_0 : decode cL_fits 0 = .ok (.aload 5, 2) := by decide +kernel
theorem dL_fits_2 : decode cL_fits 2 = .ok (.iconst 0, 1) := by decide +kernel
theorem dL_fits_3 : decode cL_fits 3 = .ok (.aload_n 0, 1) := by decide +kernel
theorem dL_fits_4 : decode cL_fits 4 = .ok (.iload_n 1, 1) := by decide +kernel
theorem dL_fits_5 : decode cL_fits 5 = .ok (.iload_n 2, 1) := by decide +kernel
theorem dL_fits_6 : decode cL_fits 6 = .ok (.lload_n 3, 1) := by decide +kernel
theorem dL_fits_7 : decode cL_fits 7 = .ok (.invokevirtual 39, 3) := by decide +kernel
theorem dL_fits_10 : decode cL_fits 10 = .ok (.ifCond .eq 7, 3) := by decide +kernel
theorem dL_fits_13 : decode cL_fits 13 = .ok (.lconst 1, 1) := by decide +kernel
theorem dL_fits_14 : decode cL_fits 14 = .ok (.goto 4, 3) := by decide +kernel
theorem dL_fits_17 : decode cL_fits 17 = .ok (.lconst 0, 1) := by decide +kernel
theorem dL_fits_18 : decode cL_fits 18 = .ok (.lastore, 1) := by decide +kernel
theorem dL_fits_19 : decode cL_fits 19 = .ok (.goto 7, 3) := by decide +kernel
theorem dL_fits_22 : decode cL_fits 22 = .ok (.astore 6, 2) := by decide +kernel
theorem dL_fits_24 : decode cL_fits 24 = .ok (.iconst 1, 1) := by decide +kernel
theorem dL_fits_25 : decode cL_fits 25 = .ok (.ireturn, 1) := by decide +kernel
theorem dL_fits_26 : decode cL_fits 26 = .ok (.iconst 0, 1) := by decide +kernel
theorem dL_fits_27 : decode cL_fits 27 = .ok (.ireturn, 1) := by decide +kernel
theorem dL_encode_0 : decode cL_encode 0 = .ok (.aload_n 2, 1) := by decide +kernel
theorem dL_encode_1 : decode cL_encode 1 = .ok (.iconst 0, 1) := by decide +kernel
theorem dL_encode_2 : decode cL_encode 2 = .ok (.aload_n 0, 1) := by decide +kernel
theorem dL_encode_3 : decode cL_encode 3 = .ok (.iload_n 1, 1) := by decide +kernel
theorem dL_encode_4 : decode cL_encode 4 = .ok (.invokevirtual 43, 3) := by decide +kernel
theorem dL_encode_7 : decode cL_encode 7 = .ok (.lastore, 1) := by decide +kernel
theorem dL_encode_8 : decode cL_encode 8 = .ok (.goto 12, 3) := by decide +kernel
theorem dL_encode_11 : decode cL_encode 11 = .ok (.astore_n 3, 1) := by decide +kernel
theorem dL_encode_12 : decode cL_encode 12 = .ok (.iconst 1, 1) := by decide +kernel
theorem dL_encode_13 : decode cL_encode 13 = .ok (.ireturn, 1) := by decide +kernel
theorem dL_encode_14 : decode cL_encode 14 = .ok (.astore_n 3, 1) := by decide +kernel
theorem dL_encode_15 : decode cL_encode 15 = .ok (.iconst 2, 1) := by decide +kernel
theorem dL_encode_16 : decode cL_encode 16 = .ok (.ireturn, 1) := by decide +kernel
theorem dL_encode_17 : decode cL_encode 17 = .ok (.astore_n 3, 1) := by decide +kernel
theorem dL_encode_18 : decode cL_encode 18 = .ok (.iconst 3, 1) := by decide +kernel
theorem dL_encode_19 : decode cL_encode 19 = .ok (.ireturn, 1) := by decide +kernel
theorem dL_encode_20 : decode cL_encode 20 = .ok (.iconst 0, 1) := by decide +kernel
theorem dL_encode_21 : decode cL_encode 21 = .ok (.ireturn, 1) := by decide +kernel
theorem dL_is_0 : decode cL_is 0 = .ok (.aload 4, 2) := by decide +kernel
theorem dL_is_2 : decode cL_is 2 = .ok (.iconst 0, 1) := by decide +kernel
theorem dL_is_3 : decode cL_is 3 = .ok (.aload_n 0, 1) := by decide +kernel
theorem dL_is_4 : decode cL_is 4 = .ok (.iload_n 1, 1) := by decide +kernel
theorem dL_is_5 : decode cL_is 5 = .ok (.lload_n 2, 1) := by decide +kernel
theorem dL_is_6 : decode cL_is 6 = .ok (.invokevirtual 49, 3) := by decide +kernel
theorem dL_is_9 : decode cL_is 9 = .ok (.ifCond .eq 7, 3) := by decide +kernel
theorem dL_is_12 : decode cL_is 12 = .ok (.lconst 1, 1) := by decide +kernel
theorem dL_is_13 : decode cL_is 13 = .ok (.goto 4, 3) := by decide +kernel
theorem dL_is_16 : decode cL_is 16 = .ok (.lconst 0, 1) := by decide +kernel
theorem dL_is_17 : decode cL_is 17 = .ok (.lastore, 1) := by decide +kernel
theorem dL_is_18 : decode cL_is 18 = .ok (.goto 7, 3) := by decide +kernel
theorem dL_is_21 : decode cL_is 21 = .ok (.astore 5, 2) := by decide +kernel
theorem dL_is_23 : decode cL_is 23 = .ok (.iconst 1, 1) := by decide +kernel
theorem dL_is_24 : decode cL_is 24 = .ok (.ireturn, 1) := by decide +kernel
theorem dL_is_25 : decode cL_is 25 = .ok (.iconst 0, 1) := by decide +kernel
theorem dL_is_26 : decode cL_is 26 = .ok (.ireturn, 1) := by decide +kernel
theorem dL_decode_0 : decode cL_decode 0 = .ok (.aload 5, 2) := by decide +kernel
theorem dL_decode_2 : decode cL_decode 2 = .ok (.iconst 0, 1) := by decide +kernel
theorem dL_decode_3 : decode cL_decode 3 = .ok (.aload_n 0, 1) := by decide +kernel
theorem dL_decode_4 : decode cL_decode 4 = .ok (.iload_n 1, 1) := by decide +kernel
theorem dL_decode_5 : decode cL_decode 5 = .ok (.iload_n 2, 1) := by decide +kernel
theorem dL_decode_6 : decode cL_decode 6 = .ok (.lload_n 3, 1) := by decide +kernel
theorem dL_decode_7 : decode cL_decode 7 = .ok (.invokevirtual 53, 3) := by decide +kernel
theorem dL_decode_10 : decode cL_decode 10 = .ok (.lastore, 1) := by decide +kernel
theorem dL_decode_11 : decode cL_decode 11 = .ok (.goto 15, 3) := by decide +kernel
theorem dL_decode_14 : decode cL_decode 14 = .ok (.astore 6, 2) := by decide +kernel
theorem dL_decode_16 : decode cL_decode 16 = .ok (.iconst 1, 1) := by decide +kernel
theorem dL_decode_17 : decode cL_decode 17 = .ok (.ireturn, 1) := by decide +kernel
theorem dL_decode_18 : decode cL_decode 18 = .ok (.astore 6, 2) := by decide +kernel
theorem dL_decode_20 : decode cL_decode 20 = .ok (.iconst 2, 1) := by decide +kernel
theorem dL_decode_21 : decode cL_decode 21 = .ok (.ireturn, 1) := by decide +kernel
theorem dL_decode_22 : decode cL_decode 22 = .ok (.astore 6, 2) := by decide +kernel
theorem dL_decode_24 : decode cL_decode 24 = .ok (.iconst 3, 1) := by decide +kernel
theorem dL_decode_25 : decode cL_decode 25 = .ok (.ireturn, 1) := by decide +kernel
theorem dL_decode_26 : decode cL_decode 26 = .ok (.iconst 0, 1) := by decide +kernel
theorem dL_decode_27 : decode cL_decode 27 = .ok (.ireturn, 1) := by decide +kernel
theorem dL_meet_0 : decode cL_meet 0 = .ok (.aload_n 3, 1) := by decide +kernel
theorem dL_meet_1 : decode cL_meet 1 = .ok (.iconst 0, 1) := by decide +kernel
theorem dL_meet_2 : decode cL_meet 2 = .ok (.aload_n 0, 1) := by decide +kernel
theorem dL_meet_3 : decode cL_meet 3 = .ok (.iload_n 1, 1) := by decide +kernel
theorem dL_meet_4 : decode cL_meet 4 = .ok (.iload_n 2, 1) := by decide +kernel
theorem dL_meet_5 : decode cL_meet 5 = .ok (.invokevirtual 57, 3) := by decide +kernel
theorem dL_meet_8 : decode cL_meet 8 = .ok (.ifCond .eq 7, 3) := by decide +kernel
theorem dL_meet_11 : decode cL_meet 11 = .ok (.lconst 1, 1) := by decide +kernel
theorem dL_meet_12 : decode cL_meet 12 = .ok (.goto 4, 3) := by decide +kernel
theorem dL_meet_15 : decode cL_meet 15 = .ok (.lconst 0, 1) := by decide +kernel
theorem dL_meet_16 : decode cL_meet 16 = .ok (.lastore, 1) := by decide +kernel
theorem dL_meet_17 : decode cL_meet 17 = .ok (.goto 7, 3) := by decide +kernel
theorem dL_meet_20 : decode cL_meet 20 = .ok (.astore 4, 2) := by decide +kernel
theorem dL_meet_22 : decode cL_meet 22 = .ok (.iconst 1, 1) := by decide +kernel
theorem dL_meet_23 : decode cL_meet 23 = .ok (.ireturn, 1) := by decide +kernel
theorem dL_meet_24 : decode cL_meet 24 = .ok (.iconst 0, 1) := by decide +kernel
theorem dL_meet_25 : decode cL_meet 25 = .ok (.ireturn, 1) := by decide +kernel
theorem dL_count_0 : decode cL_count 0 = .ok (.aload_n 3, 1) := by decide +kernel
theorem dL_count_1 : decode cL_count 1 = .ok (.iconst 0, 1) := by decide +kernel
theorem dL_count_2 : decode cL_count 2 = .ok (.aload_n 0, 1) := by decide +kernel
theorem dL_count_3 : decode cL_count 3 = .ok (.iload_n 1, 1) := by decide +kernel
theorem dL_count_4 : decode cL_count 4 = .ok (.iload_n 2, 1) := by decide +kernel
theorem dL_count_5 : decode cL_count 5 = .ok (.invokevirtual 61, 3) := by decide +kernel
theorem dL_count_8 : decode cL_count 8 = .ok (.i2l, 1) := by decide +kernel
theorem dL_count_9 : decode cL_count 9 = .ok (.lastore, 1) := by decide +kernel
theorem dL_count_10 : decode cL_count 10 = .ok (.goto 7, 3) := by decide +kernel
theorem dL_count_13 : decode cL_count 13 = .ok (.astore 4, 2) := by decide +kernel
theorem dL_count_15 : decode cL_count 15 = .ok (.iconst 1, 1) := by decide +kernel
theorem dL_count_16 : decode cL_count 16 = .ok (.ireturn, 1) := by decide +kernel
theorem dL_count_17 : decode cL_count 17 = .ok (.iconst 0, 1) := by decide +kernel
theorem dL_count_18 : decode cL_count 18 = .ok (.ireturn, 1) := by decide +kernel
end
section
theorem wb_tb (n : Nat) : (lN n).toBitVec = BitVec.ofNat 64 n := rfl
theorem wb_inj {a b : Int64} (h : a.toBitVec = b.toBitVec) : a = b := Int64.toBitVec_inj.mp h
theorem wb_tn {n : Nat} (h : n < 2 ^ 64) : (lN n).toBitVec.toNat = n := by rw [wb_tb, BitVec.toNat_ofNat, Nat.mod_eq_of_lt h]
theorem wb_of (x : Int64) : ∃ n, n < 2 ^ 64 ∧ x = lN n := ⟨x.toBitVec.toNat, x.toBitVec.isLt, wb_inj (by rw [wb_tb]; simp)⟩
theorem wb_of32 (x : Int32) : ∃ n, n < 2 ^ 32 ∧ x = nI n := ⟨x.toBitVec.toNat, x.toBitVec.isLt, Int32.toBitVec_inj.mp (by show _ = BitVec.ofNat 32 _; simp)⟩
theorem wb_c : ∀ k, k < 64 → ((nI k).toInt64 &&& 63) = lN k := by decide +kernel
theorem wb_cu : ∀ k, k < 64 → ((nI k).toInt64.toUInt64 &&& Int64.toUInt64 63) = UInt64.ofNat k := by decide +kernel
theorem wb_sm : ∀ k, k < 64 → (BitVec.ofNat 64 k).smod 64 = BitVec.ofNat 64 k := by decide +kernel
theorem wb_pw {a b : Nat} (h : a ≤ b) : 2 ^ b = 2 ^ a * 2 ^ (b - a) := by rw [← Nat.pow_add]; congr 1; omega
theorem wb_lt2 {a b : Nat} (h : a < b) : 2 ^ a < 2 ^ b := Nat.pow_lt_pow_right (by decide) h
theorem wb_mod (n : Nat) : lN n = lN (n % 2 ^ 64) := wb_inj (by rw [wb_tb, wb_tb]; apply BitVec.eq_of_toNat_eq; rw [BitVec.toNat_ofNat, BitVec.toNat_ofNat, Nat.mod_mod])
theorem wb_shr {n k : Nat} (hn : n < 2 ^ 64) (hk : k < 64) : ((lN n).toUInt64 >>> ((nI k).toInt64.toUInt64 &&& Int64.toUInt64 63)).toInt64 = lN (n / 2 ^ k) := by
  rw [wb_cu k hk]
  apply wb_inj
  apply BitVec.eq_of_toNat_eq
  show ((lN n).toUInt64 >>> UInt64.ofNat k).toNat = (BitVec.ofNat 64 _).toNat
  have h1 : (UInt64.ofNat k).toNat = k := by
    show (BitVec.ofNat 64 k).toNat = k
    rw [BitVec.toNat_ofNat, Nat.mod_eq_of_lt (by omega)]
  have h2 : (lN n).toUInt64.toNat = n := wb_tn hn
  rw [UInt64.toNat_shiftRight, h1, h2, Nat.mod_eq_of_lt hk, Nat.shiftRight_eq_div_pow, BitVec.toNat_ofNat, Nat.mod_eq_of_lt (Nat.lt_of_le_of_lt (Nat.div_le_self _ _) hn)]
theorem wb_shl (n : Nat) {k : Nat} (hk : k < 64) : lN n <<< ((nI k).toInt64 &&& 63) = lN (n * 2 ^ k) := by
  rw [wb_c k hk]
  apply wb_inj
  rw [Int64.toBitVec_shiftLeft, wb_tb, wb_tb, wb_tb, wb_sm k hk]
  apply BitVec.eq_of_toNat_eq
  rw [BitVec.shiftLeft_eq', BitVec.toNat_shiftLeft, BitVec.toNat_ofNat, BitVec.toNat_ofNat, BitVec.toNat_ofNat, Nat.mod_eq_of_lt (show k < 2 ^ 64 by omega), Nat.shiftLeft_eq, Nat.mul_mod, Nat.mod_mod, ← Nat.mul_mod]
theorem wb_and {a b : Nat} (ha : a < 2 ^ 64) (hb : b < 2 ^ 64) : lN a &&& lN b = lN (a &&& b) := by
  apply wb_inj
  rw [Int64.toBitVec_and, wb_tb, wb_tb, wb_tb]
  apply BitVec.eq_of_toNat_eq
  rw [BitVec.toNat_and, BitVec.toNat_ofNat, BitVec.toNat_ofNat, BitVec.toNat_ofNat, Nat.mod_eq_of_lt ha, Nat.mod_eq_of_lt hb, Nat.mod_eq_of_lt (Nat.and_lt_two_pow _ hb)]
theorem wb_or {a b : Nat} (ha : a < 2 ^ 64) (hb : b < 2 ^ 64) : lN a ||| lN b = lN (a ||| b) := by
  apply wb_inj
  rw [Int64.toBitVec_or, wb_tb, wb_tb, wb_tb]
  apply BitVec.eq_of_toNat_eq
  rw [BitVec.toNat_or, BitVec.toNat_ofNat, BitVec.toNat_ofNat, BitVec.toNat_ofNat, Nat.mod_eq_of_lt ha, Nat.mod_eq_of_lt hb, Nat.mod_eq_of_lt (Nat.or_lt_two_pow ha hb)]
theorem wb_mask {n k : Nat} (hn : n < 2 ^ 64) (hk : k < 64) : lN n &&& lN (2 ^ k - 1) = lN (n % 2 ^ k) := by
  rw [wb_and hn (by have := wb_lt2 hk; omega), Nat.and_two_pow_sub_one_eq_mod]
theorem wb_a1 {n : Nat} (hn : n < 2 ^ 64) : lN n &&& 1 = lN (n % 2) := wb_mask (k := 1) hn (by decide)
theorem wb_bit {n k : Nat} (hn : n < 2 ^ 64) (hk : k < 64) : ((lN n).toUInt64 >>> ((nI k).toInt64.toUInt64 &&& Int64.toUInt64 63)).toInt64 &&& 1 = lN (n / 2 ^ k % 2) := by
  rw [wb_shr hn hk, wb_a1 (Nat.lt_of_le_of_lt (Nat.div_le_self _ _) hn)]
theorem wb_xor {q k : Nat} (hk : k < 63) (h : 2 ^ k ≤ q) (h2 : q < 2 ^ (k + 1)) : lN q ^^^ lN (2 ^ k) = lN (q - 2 ^ k) := by
  obtain ⟨r, rfl⟩ : ∃ r, q = 2 ^ k + r := ⟨q - 2 ^ k, by omega⟩
  have hr : r < 2 ^ k := by rw [Nat.pow_succ] at h2; omega
  have hx : (2 ^ k + r) ^^^ 2 ^ k = r := by
    apply Nat.eq_of_testBit_eq
    intro i
    rw [Nat.testBit_xor, Nat.testBit_two_pow]
    rcases Nat.lt_trichotomy i k with h | h | h
    · rw [Nat.testBit_two_pow_add_gt h]
      simp [show ¬ k = i by omega]
    · subst h
      rw [Nat.testBit_two_pow_add_eq]
      simp
    · have a1 : 2 ^ (k + 1) ≤ 2 ^ i := Nat.pow_le_pow_right (by decide) h
      rw [Nat.testBit_lt_two_pow (show 2 ^ k + r < 2 ^ i by omega), Nat.testBit_lt_two_pow (show r < 2 ^ i by omega)]
      simp [show ¬ k = i by omega]
  have b1 := wb_lt2 (show k + 1 < 64 by omega)
  have b2 := wb_lt2 (show k < 64 by omega)
  apply wb_inj
  rw [Int64.toBitVec_xor, wb_tb, wb_tb, wb_tb]
  apply BitVec.eq_of_toNat_eq
  rw [BitVec.toNat_xor, BitVec.toNat_ofNat, BitVec.toNat_ofNat, BitVec.toNat_ofNat, Nat.mod_eq_of_lt (by omega : 2 ^ k + r < 2 ^ 64), Nat.mod_eq_of_lt b2, hx, Nat.add_sub_cancel_left, Nat.mod_eq_of_lt (by omega)]
/-! ===== lN: masks, 'or' of parts that don't overlap is a sum ===== -/
theorem u_tn {n : Nat} (h : n < 2 ^ 64) : (UInt64.ofNat n).toNat = n := Nat.mod_eq_of_lt h
theorem g_and {a b c : Nat} (ha : a < 2 ^ 64) (hb : b < 2 ^ 64) (hc : a &&& b = c) : lN a &&& lN b = lN c := by
  subst hc
  have h : UInt64.ofNat a &&& UInt64.ofNat b = UInt64.ofNat (a &&& b) := UInt64.toNat_inj.mp (by rw [UInt64.toNat_and, u_tn ha, u_tn hb, u_tn (Nat.and_lt_two_pow a hb)])
  have h2 := congrArg UInt64.toInt64 h
  exact h2
theorem g_and1 {a : Nat} (ha : a < 2 ^ 64) : lN a &&& 1 = lN (a % 2) := g_and (b := 1) ha (by decide) (Nat.and_two_pow_sub_one_eq_mod a 1)
theorem g_mask {a s p : Nat} (hp : 2 ^ s = p) (hs : s < 64) (ha : a < 2 ^ 64) : lN a &&& lN (p - 1) = lN (a % p) := by
  subst hp
  have := Nat.pow_lt_pow_right (show 1 < 2 by decide) hs
  exact g_and ha (by omega) (Nat.and_two_pow_sub_one_eq_mod a s)
theorem g_or {k p a b : Nat} (hp : 2 ^ k = p) (ha : a < p) (h : b * p + a < 2 ^ 64) : lN (b * p) ||| lN a = lN (b * p + a) := by
  subst hp
  have h1 : b * 2 ^ k ||| a = b * 2 ^ k + a := by rw [← Nat.shiftLeft_eq, Nat.shiftLeft_add_eq_or_of_lt ha]
  have h3 : UInt64.ofNat (b * 2 ^ k) ||| UInt64.ofNat a = UInt64.ofNat (b * 2 ^ k + a) := UInt64.toNat_inj.mp (by rw [UInt64.toNat_or, u_tn (by omega), u_tn (by omega), u_tn h, h1])
  have h2 := congrArg UInt64.toInt64 h3
  exact h2
theorem g_or' {k p a b : Nat} (hp : 2 ^ k = p) (ha : a < p) (h : a + b * p < 2 ^ 64) : lN a ||| lN (b * p) = lN (a + b * p) := by
  rw [Int64.or_comm, g_or hp ha (by omega), Nat.add_comm]
theorem g_ushr {a k p : Nat} {y : UInt64} (hy : y = UInt64.ofNat k) (hk : k < 64) (hp : 2 ^ k = p) (ha : a < 2 ^ 64) : ((lN a).toUInt64 >>> y).toInt64 = lN (a / p) := by
  subst hy hp
  have h : UInt64.ofNat a >>> UInt64.ofNat k = UInt64.ofNat (a / 2 ^ k) := UInt64.toNat_inj.mp (by rw [UInt64.toNat_shiftRight, u_tn ha, u_tn (by omega), u_tn (Nat.lt_of_le_of_lt (Nat.div_le_self _ _) ha), Nat.mod_eq_of_lt hk, Nat.shiftRight_eq_div_pow])
  have h2 := congrArg UInt64.toInt64 h
  exact h2
theorem g_shl {a k p : Nat} {y : Int64} (hy : y.toBitVec.smod 64 = BitVec.ofNat 64 k) (hk : k < 64) (hp : 2 ^ k = p) (ha : a < 2 ^ 64) : lN a <<< y = lN (a * p) := by
  subst hp
  apply Int64.toBitVec_inj.mp
  rw [Int64.toBitVec_shiftLeft, hy]
  apply BitVec.eq_of_toNat_eq
  have hb : (lN a).toBitVec.toNat = a := Nat.mod_eq_of_lt ha
  have hk' : (BitVec.ofNat 64 k).toNat = k := Nat.mod_eq_of_lt (by omega)
  have h : ((lN a).toBitVec <<< BitVec.ofNat 64 k).toNat = (a * 2 ^ k) % 2 ^ 64 := by simp only [BitVec.shiftLeft_eq', BitVec.toNat_shiftLeft, hb, hk', Nat.shiftLeft_eq]
  exact h
/-! the state by numbers: a form has n items (0, 1: a fixed bit; 2 + 64 * o + k: bit k of operand o), widths w and signs; both class and reference hold it -/
def cw_O (x : Nat) : Int32 := if x < 2 then (-1) else nI ((x - 2) / 64)
def cw_C (x : Nat) : Int32 := if x < 2 then nI x else nI ((x - 2) % 64)
def cw_fix (it : Nat → Nat) : Nat → Nat
  | 0 => 0
  | i + 1 => cw_fix it i + if it i < 2 then 1 else 0
def cw_ops (w : Nat → Nat) : Nat → Nat
  | 0 => 0
  | i + 1 => cw_ops w i + if 0 < w i then 1 else 0
def cw_sum (w : Nat → Nat) : Nat → Nat
  | 0 => 0
  | i + 1 => cw_sum w i + w i
def cw_has (it : Nat → Nat) (x : Nat) : Nat → Bool
  | 0 => false
  | n + 1 => cw_has it x n || (it n == x)
def cw_lft1 (it : Nat → Nat) (n o : Nat) : Nat → Nat
  | 0 => 0
  | k + 1 => cw_lft1 it n o k + if cw_has it (2 + 64 * o + k) n = true then 0 else 1
def cw_lft (it : Nat → Nat) (n : Nat) (w : Nat → Nat) : Nat → Nat
  | 0 => 0
  | o + 1 => cw_lft it n w o + cw_lft1 it n o (w o)
/-- the items are bits of operands that are there, none twice -/
def cw_ok (it : Nat → Nat) (n : Nat) (w : Nat → Nat) : Prop :=
  n ≤ 64 ∧ (∀ o, o < 6 → w o ≤ 64) ∧ (∀ j, j < n → it j < 2 ∨ ∃ o k, o < 6 ∧ k < w o ∧ it j = 2 + 64 * o + k) ∧ ∀ i j, i < n → j < n → 2 ≤ it i → it i = it j → i = j
theorem cw_has_iff (it : Nat → Nat) (x n : Nat) : cw_has it x n = true ↔ ∃ j, j < n ∧ it j = x := by
  induction n with
  | zero => simp [cw_has]
  | succ n ih =>
    simp only [cw_has, Bool.or_eq_true, ih, beq_iff_eq]
    constructor
    · rintro (⟨j, h1, h2⟩ | h)
      · exact ⟨j, by omega, h2⟩
      · exact ⟨n, by omega, h⟩
    · rintro ⟨j, h1, h2⟩
      by_cases hj : j = n
      · subst hj; exact Or.inr h2
      · exact Or.inl ⟨j, by omega, h2⟩
theorem cw_fix_le (it : Nat → Nat) (n : Nat) : cw_fix it n ≤ n := by
  induction n with
  | zero => exact Nat.le_refl _
  | succ n ih => simp only [cw_fix]; split <;> omega
theorem cw_ops_le (w : Nat → Nat) (n : Nat) : cw_ops w n ≤ n := by
  induction n with
  | zero => exact Nat.le_refl _
  | succ n ih => simp only [cw_ops]; split <;> omega
theorem cw_sum_le (w : Nat → Nat) (n : Nat) (h : ∀ o, o < n → w o ≤ 64) : cw_sum w n ≤ 64 * n := by
  induction n with
  | zero => simp [cw_sum]
  | succ n ih =>
    have h1 := ih (fun o ho => h o (by omega))
    have h2 := h n (by omega)
    simp only [cw_sum]; omega
/-- one item more: which bits of an operand are not there -/
theorem cw_lft1_fix (it : Nat → Nat) (n o K : Nat) (h : it n < 2) : cw_lft1 it (n + 1) o K = cw_lft1 it n o K := by
  induction K with
  | zero => rfl
  | succ k ih =>
    have e : cw_has it (2 + 64 * o + k) (n + 1) = cw_has it (2 + 64 * o + k) n := by
      have : (it n == 2 + 64 * o + k) = false := by simp; omega
      simp only [cw_has, this, Bool.or_false]
    simp only [cw_lft1, ih, e]
theorem cw_lft1_new (it : Nat → Nat) (n o K o' k' : Nat) (hk' : k' < 64) (hx : it n = 2 + 64 * o' + k') (hno : cw_has it (it n) n = false) (hK : K ≤ 64) :
    cw_lft1 it (n + 1) o K + (if o = o' ∧ k' < K then 1 else 0) = cw_lft1 it n o K := by
  induction K with
  | zero => simp [cw_lft1]
  | succ k ih =>
    have ih := ih (by omega)
    by_cases hc : o = o' ∧ k = k'
    · obtain ⟨rfl, rfl⟩ := hc
      have e1 : cw_has it (2 + 64 * o + k) n = false := by rw [← hx]; exact hno
      have e2 : cw_has it (2 + 64 * o + k) (n + 1) = true := by simp [cw_has, hx]
      simp only [cw_lft1, e1, e2] at ih ⊢
      simp at ih ⊢
      omega
    · have e : cw_has it (2 + 64 * o + k) (n + 1) = cw_has it (2 + 64 * o + k) n := by
        have : (it n == 2 + 64 * o + k) = false := by
          simp only [beq_eq_false_iff_ne, ne_eq, hx]
          intro h
          exact hc ⟨by omega, by omega⟩
        simp only [cw_has, this, Bool.or_false]
      simp only [cw_lft1, e]
      have h3 : (if o = o' ∧ k' < k + 1 then 1 else 0) = (if o = o' ∧ k' < k then 1 else 0) := by
        by_cases h1 : o = o'
        · have : k ≠ k' := fun h => hc ⟨h1, h⟩
          by_cases h2 : k' < k
          · simp [h1, h2, show k' < k + 1 by omega]
          · simp [h1, h2, show ¬ k' < k + 1 by omega]
        · simp [h1]
      rw [h3]
      omega
theorem cw_lft_fix (it : Nat → Nat) (n : Nat) (w : Nat → Nat) (O : Nat) (h : it n < 2) : cw_lft it (n + 1) w O = cw_lft it n w O := by
  induction O with
  | zero => rfl
  | succ o ih => simp only [cw_lft, ih, cw_lft1_fix it n o _ h]
theorem cw_lft_new (it : Nat → Nat) (n : Nat) (w : Nat → Nat) (O o' k' : Nat) (hk' : k' < w o') (hw : ∀ o, o < 6 → w o ≤ 64) (ho' : o' < 6) (hO : O ≤ 6) (hx : it n = 2 + 64 * o' + k') (hno : cw_has it (it n) n = false) :
    cw_lft it (n + 1) w O + (if o' < O then 1 else 0) = cw_lft it n w O := by
  have h64 := hw o' ho'
  induction O with
  | zero => simp [cw_lft]
  | succ o ih =>
    have ih := ih (by omega)
    have h1 := cw_lft1_new it n o (w o) o' k' (by omega) hx hno (hw o (by omega))
    simp only [cw_lft]
    by_cases hc : o = o'
    · subst hc
      rw [if_pos ⟨rfl, hk'⟩] at h1
      rw [if_neg (by omega)] at ih
      rw [if_pos (by omega)]
      omega
    · rw [if_neg (fun h => hc h.1)] at h1
      have : (if o' < o + 1 then 1 else 0) = (if o' < o then 1 else 0) := by
        by_cases h2 : o' < o
        · simp [h2, show o' < o + 1 by omega]
        · simp [h2, show ¬ o' < o + 1 by omega]
      rw [this]
      omega
theorem cw_lft1_0 (it : Nat → Nat) (o K : Nat) : cw_lft1 it 0 o K = K := by
  induction K with
  | zero => rfl
  | succ k ih => simp [cw_lft1, cw_has, ih]
theorem cw_lft_0 (it : Nat → Nat) (w : Nat → Nat) (O : Nat) : cw_lft it 0 w O = cw_sum w O := by
  induction O with
  | zero => rfl
  | succ o ih => simp [cw_lft, cw_sum, ih, cw_lft1_0]
/-- the class's count of bits that are wanting is the reference's -/
theorem cw_missing (it : Nat → Nat) (w : Nat → Nat) : ∀ n, cw_ok it n w → cw_lft it n w 6 + (n - cw_fix it n) = cw_sum w 6 := by
  intro n
  induction n with
  | zero => intro _; simp [cw_fix, cw_lft_0]
  | succ n ih =>
    rintro ⟨h1, h2, h3, h4⟩
    have ih := ih ⟨by omega, h2, fun j hj => h3 j (by omega), fun i j hi hj => h4 i j (by omega) (by omega)⟩
    have hle := cw_fix_le it n
    rcases h3 n (by omega) with hf | ⟨o, k, ho, hk, hx⟩
    · rw [cw_lft_fix it n w 6 hf]
      simp only [cw_fix, if_pos hf]
      omega
    · have hno : cw_has it (it n) n = false := by
        cases hh : cw_has it (it n) n with
        | false => rfl
        | true =>
          obtain ⟨j, hj, e⟩ := (cw_has_iff it (it n) n).mp hh
          have := h4 j n (by omega) (by omega) (by omega) e
          omega
      have hn := cw_lft_new it n w 6 o k hk h2 ho (Nat.le_refl _) hx hno
      rw [if_pos ho] at hn
      simp only [cw_fix, if_neg (show ¬ it n < 2 by omega)]
      omega
/-! bits of a long, by numbers -/
def bq (v : Int64) (k : Nat) : Nat := v.toBitVec.toNat / 2 ^ k % 2
theorem bq_lt (v : Int64) (k : Nat) : bq v k < 2 := Nat.mod_lt _ (by decide)
theorem bq_lsb (v : Int64) (k : Nat) : bq v k = (v.toBitVec.getLsbD k).toNat := by
  show v.toBitVec.toNat / 2 ^ k % 2 = (v.toBitVec.toNat.testBit k).toNat
  rw [Nat.toNat_testBit]
theorem bq_1 (v : Int64) (k : Nat) : bq v k = 1 ↔ v.toBitVec.getLsbD k = true := by
  rw [bq_lsb]; cases v.toBitVec.getLsbD k <;> simp
theorem bq_0 (v : Int64) (k : Nat) : bq v k = 0 ↔ v.toBitVec.getLsbD k = false := by
  rw [bq_lsb]; cases v.toBitVec.getLsbD k <;> simp
theorem bq_ext {v w : Int64} (h : ∀ k, k < 64 → bq v k = bq w k) : v = w := by
  apply Int64.toBitVec_inj.mp
  apply BitVec.eq_of_getLsbD_eq
  intro k hk
  have h1 := h k hk
  rw [bq_lsb, bq_lsb] at h1
  cases a : v.toBitVec.getLsbD k <;> cases b : w.toBitVec.getLsbD k <;> simp [a, b] at h1 <;> rfl
/-- the class's bitOf -/
theorem bq_u (v : Int64) {k : Nat} (hk : k < 64) : ((v.toUInt64 >>> ((nI k).toInt64.toUInt64 &&& Int64.toUInt64 63)).toInt64 &&& lN 1).toInt32 = nI (bq v k) := by
  obtain ⟨n, hn, rfl⟩ := wb_of v
  have h1 : lN 1 = (1 : Int64) := by decide +kernel
  rw [h1, wb_bit hn hk, lN_i, bq, wb_tn hn]
theorem bq_and1 (x : Int32) : x &&& nI 1 = nI (x.toBitVec.getLsbD 0).toNat := by
  rw [pk_and x 1 (by decide +kernel)]
  congr 1
  show x.toBitVec.toNat % 2 ^ 1 = (x.toBitVec.toNat.testBit 0).toNat
  rw [Nat.toNat_testBit]
  simp
/-- the reference's bit -/
theorem bq_s (v : Int64) {k : Nat} (hk : k < 64) : (v >>> ((nI k).toInt64 &&& 63)).toInt32 &&& nI 1 = nI (bq v k) := by
  rw [bq_and1, bq_lsb, wb_c k hk]
  congr 2
  show ((v >>> lN k).toBitVec.signExtend 32).getLsbD 0 = _
  rw [BitVec.getLsbD_signExtend, Int64.toBitVec_shiftRight, wb_tb, wb_sm k hk]
  simp only [BitVec.sshiftRight']
  rw [BitVec.getLsbD_sshiftRight]
  have h2 : (BitVec.ofNat 64 k).toNat = k := by rw [BitVec.toNat_ofNat]; omega
  simp [h2, hk]
def allb (P : Nat → Bool) : Nat → Bool
  | 0 => true
  | n + 1 => allb P n && P n
theorem allb_iff (P : Nat → Bool) (n : Nat) : allb P n = true ↔ ∀ k, k < n → P k = true := by
  induction n with
  | zero => simp [allb]
  | succ n ih =>
    simp only [allb, Bool.and_eq_true, ih]
    constructor
    · rintro ⟨h1, h2⟩ k hk
      by_cases e : k = n
      · subst e; exact h2
      · exact h1 k (by omega)
    · intro h
      exact ⟨fun k hk => h k (by omega), h n (by omega)⟩
theorem allb_f (P : Nat → Bool) (n : Nat) {k : Nat} (hk : k < n) (h : P k = false) : allb P n = false := by
  cases e : allb P n with
  | false => rfl
  | true =>
    have := (allb_iff P n).mp e k hk
    rw [h] at this
    cases this
/-- whether an operand of w bits can be the number v -/
def fitB (w : Nat) (sg : Bool) (v : Int64) : Bool := allb (fun k => decide (k < w) || (bq v k == if sg = true then bq v (w - 1) else 0)) 64
theorem fitB_iff (w : Nat) (sg : Bool) (v : Int64) : fitB w sg v = true ↔ ∀ k, w ≤ k → k < 64 → bq v k = if sg = true then bq v (w - 1) else 0 := by
  simp only [fitB, allb_iff, Bool.or_eq_true, decide_eq_true_eq, beq_iff_eq]
  constructor
  · intro h k h1 h2
    rcases h k h2 with h3 | h3
    · omega
    · exact h3
  · intro h k hk
    by_cases hw : k < w
    · exact Or.inl hw
    · exact Or.inr (h k (by omega) hk)
/-- unsigned: nothing is left when the w lowest bits go -/
theorem fit_u (v : Int64) {w : Nat} (hw : w < 64) : (v.toUInt64 >>> ((nI w).toInt64.toUInt64 &&& Int64.toUInt64 63)).toInt64 = lN 0 ↔ fitB w false v = true := by
  obtain ⟨n, hn, rfl⟩ := wb_of v
  rw [wb_shr hn hw, fitB_iff]
  have hd : n / 2 ^ w < 2 ^ 64 := Nat.lt_of_le_of_lt (Nat.div_le_self _ _) hn
  constructor
  · intro h k h1 h2
    have h3 : n / 2 ^ w = 0 := by
      have h4 := congrArg (fun z : Int64 => z.toBitVec.toNat) h
      simp only [wb_tn hd, wb_tn (show (0 : Nat) < 2 ^ 64 by decide)] at h4
      exact h4
    have h5 : n < 2 ^ w := (Nat.div_eq_zero_iff_lt (Nat.two_pow_pos w)).mp h3
    have h6 : n < 2 ^ k := Nat.lt_of_lt_of_le h5 (Nat.pow_le_pow_right (by decide) h1)
    rw [bq, wb_tn hn, Nat.div_eq_of_lt h6]
    simp
  · intro h
    have h5 : n < 2 ^ w := by
      apply Nat.lt_pow_two_of_testBit
      intro k hk
      by_cases h2 : k < 64
      · have h3 := h k hk h2
        simp only [Bool.false_eq_true, if_false] at h3
        rw [bq_0] at h3
        have h4 : (lN n).toBitVec.getLsbD k = n.testBit k := by
          show (lN n).toBitVec.toNat.testBit k = _
          rw [wb_tn hn]
        rw [← h4]; exact h3
      · exact Nat.testBit_lt_two_pow (Nat.lt_of_lt_of_le hn (Nat.pow_le_pow_right (by decide) (by omega)))
    rw [Nat.div_eq_of_lt h5]
/-- with sign: what is left is all of the sign -/
theorem fit_s (v : Int64) {w : Nat} (h1 : 1 ≤ w) (hw : w ≤ 64) : (v >>> ((nI (w - 1)).toInt64 &&& 63) = lN 0 ∨ v >>> ((nI (w - 1)).toInt64 &&& 63) = -1) ↔ fitB w true v = true := by
  rw [fitB_iff, wb_c (w - 1) (by omega)]
  have hb : ∀ i, i < 64 → (v >>> lN (w - 1)).toBitVec.getLsbD i = if w - 1 + i < 64 then v.toBitVec.getLsbD (w - 1 + i) else v.toBitVec.msb := by
    intro i hi
    rw [Int64.toBitVec_shiftRight, wb_tb, wb_sm (w - 1) (by omega)]
    simp only [BitVec.sshiftRight']
    rw [BitVec.getLsbD_sshiftRight]
    have h2 : (BitVec.ofNat 64 (w - 1)).toNat = w - 1 := by rw [BitVec.toNat_ofNat]; omega
    simp [h2, show ¬ 64 ≤ i by omega]
  have hm : v.toBitVec.msb = v.toBitVec.getLsbD 63 := BitVec.msb_eq_getLsbD_last _
  have z0 : ∀ i, (lN 0).toBitVec.getLsbD i = false := fun i => by rw [wb_tb]; simp
  have z1 : ∀ i, i < 64 → (-1 : Int64).toBitVec.getLsbD i = true := by decide +kernel
  have all : ∀ t : Bool, (∀ i, i < 64 → (v >>> lN (w - 1)).toBitVec.getLsbD i = t) ↔ (∀ k, w - 1 ≤ k → k < 64 → v.toBitVec.getLsbD k = t) := by
    intro t
    constructor
    · intro h k h2 h3
      have h4 := h (k - (w - 1)) (by omega)
      rw [hb _ (by omega), if_pos (by omega), show w - 1 + (k - (w - 1)) = k by omega] at h4
      exact h4
    · intro h i hi
      rw [hb i hi]
      split
      · exact h _ (by omega) (by omega)
      · rw [hm]; exact h 63 (by omega) (by omega)
  have e0 : v >>> lN (w - 1) = lN 0 ↔ ∀ i, i < 64 → (v >>> lN (w - 1)).toBitVec.getLsbD i = false := by
    constructor
    · intro h i hi; rw [h, z0]
    · intro h; exact Int64.toBitVec_inj.mp (BitVec.eq_of_getLsbD_eq fun i hi => by rw [h i hi, z0])
  have e1 : v >>> lN (w - 1) = -1 ↔ ∀ i, i < 64 → (v >>> lN (w - 1)).toBitVec.getLsbD i = true := by
    constructor
    · intro h i hi; rw [h, z1 i hi]
    · intro h; exact Int64.toBitVec_inj.mp (BitVec.eq_of_getLsbD_eq fun i hi => by rw [h i hi, z1 i hi])
  rw [e0, e1, all, all]
  simp only [if_true]
  constructor
  · rintro (h | h) k h2 h3
    · rw [(bq_0 v k).mpr (h k (by omega) h3), (bq_0 v (w - 1)).mpr (h (w - 1) (by omega) (by omega))]
    · rw [(bq_1 v k).mpr (h k (by omega) h3), (bq_1 v (w - 1)).mpr (h (w - 1) (by omega) (by omega))]
  · intro h
    have key : ∀ k, w - 1 ≤ k → k < 64 → bq v k = bq v (w - 1) := by
      intro k h2 h3
      by_cases e : k = w - 1
      · rw [e]
      · exact h k (by omega) h3
    have hl := bq_lt v (w - 1)
    by_cases ht : bq v (w - 1) = 0
    · exact Or.inl fun k h2 h3 => (bq_0 v k).mp ((key k h2 h3).trans ht)
    · exact Or.inr fun k h2 h3 => (bq_1 v k).mp ((key k h2 h3).trans (by omega))
/-! words: by the class from the highest bit on, by the reference from the lowest -/
def wrd (b : Nat → Nat) : Nat → Nat
  | 0 => 0
  | i + 1 => wrd b i * 2 + b i
def wrp (b : Nat → Nat) (n : Nat) : Nat → Nat
  | 0 => 0
  | j + 1 => wrp b n j + b (n - 1 - j) * 2 ^ j
theorem wrd_lt (b : Nat → Nat) (n : Nat) (h : ∀ i, i < n → b i < 2) : wrd b n < 2 ^ n := by
  induction n with
  | zero => simp [wrd]
  | succ n ih =>
    have h1 := ih (fun i hi => h i (by omega))
    have h2 := h n (by omega)
    simp only [wrd, Nat.pow_succ]
    omega
theorem wrp_lt (b : Nat → Nat) (n : Nat) (h : ∀ i, i < n → b i < 2) : ∀ j, j ≤ n → wrp b n j < 2 ^ j := by
  intro j
  induction j with
  | zero => intro _; simp [wrp]
  | succ j ih =>
    intro hj
    have h1 := ih (by omega)
    have h2 := h (n - 1 - j) (by omega)
    simp only [wrp, Nat.pow_succ]
    have h3 : b (n - 1 - j) * 2 ^ j ≤ 1 * 2 ^ j := Nat.mul_le_mul_right _ (by omega)
    omega
theorem wrd_wrp (b : Nat → Nat) (n : Nat) : ∀ j, j ≤ n → wrd b (n - j) * 2 ^ j + wrp b n j = wrd b n := by
  intro j
  induction j with
  | zero => intro _; simp [wrp]
  | succ j ih =>
    intro hj
    have h1 := ih (by omega)
    have e : n - j = (n - (j + 1)) + 1 := by omega
    rw [e] at h1
    simp only [wrd] at h1
    have e2 : n - (j + 1) = n - 1 - j := by omega
    simp only [wrp, Nat.pow_succ]
    rw [e2] at h1 ⊢
    rw [← h1, Nat.add_mul, Nat.mul_assoc, Nat.mul_comm 2 (2 ^ j)]
    omega
theorem wrp_all (b : Nat → Nat) (n : Nat) : wrp b n n = wrd b n := by
  have h := wrd_wrp b n n (Nat.le_refl _)
  simp [wrd] at h
  exact h
/-- one bit more, by the class -/
theorem wrd_step (b : Nat → Nat) {i : Nat} (hi : i < 64) (h : ∀ j, j < i + 1 → b j < 2) : (lN (wrd b i) <<< ((nI 1).toInt64 &&& 63)) ||| (nI (b i)).toInt64 = lN (wrd b (i + 1)) := by
  have h1 := wrd_lt b (i + 1) h
  have h2 := h i (by omega)
  have h3 : 2 ^ (i + 1) ≤ 2 ^ 64 := Nat.pow_le_pow_right (by decide) (by omega)
  rw [wb_shl _ (by decide), nI_l (by omega), g_or (k := 1) (p := 2 ^ 1) rfl (by omega) (by simp only [wrd] at h1; omega)]
  rfl
/-- one bit more, by the reference -/
theorem wrp_step (b : Nat → Nat) (n : Nat) {j : Nat} (hj : j < 64) (hn : j < n) (h : ∀ i, i < n → b i < 2) (h1 : b (n - 1 - j) = 1) : lN (wrp b n j) ||| (lN 1 <<< ((nI j).toInt64 &&& 63)) = lN (wrp b n (j + 1)) := by
  have h2 := wrp_lt b n h j (by omega)
  have h3 : 2 ^ (j + 1) ≤ 2 ^ 64 := Nat.pow_le_pow_right (by decide) (by omega)
  rw [Nat.pow_succ] at h3
  rw [wb_shl _ hj, g_or' (k := j) (p := 2 ^ j) rfl h2 (by omega)]
  simp only [wrp, h1]
theorem wrp_stay (b : Nat → Nat) (n : Nat) {j : Nat} (h1 : b (n - 1 - j) = 0) : wrp b n (j + 1) = wrp b n j := by
  simp [wrp, h1]
/-- bits of x ||| (b << k) -/
theorem bq_or (x y : Int64) (k : Nat) : bq (x ||| y) k = if bq x k = 1 ∨ bq y k = 1 then 1 else 0 := by
  have e : (x ||| y).toBitVec.getLsbD k = (x.toBitVec.getLsbD k || y.toBitVec.getLsbD k) := by
    rw [Int64.toBitVec_or, BitVec.getLsbD_or]
  simp only [bq_lsb, e]
  cases x.toBitVec.getLsbD k <;> cases y.toBitVec.getLsbD k <;> simp
theorem bq_lN {n : Nat} (hn : n < 2 ^ 64) (k : Nat) : bq (lN n) k = n / 2 ^ k % 2 := by rw [bq, wb_tn hn]
theorem bq_one (b c k : Nat) (hb : b < 2) (hc : c < 64) : bq (lN b <<< ((nI c).toInt64 &&& 63)) k = if k = c then b else 0 := by
  have h3 : 2 ^ (c + 1) ≤ 2 ^ 64 := Nat.pow_le_pow_right (by decide) (by omega)
  rw [Nat.pow_succ] at h3
  have h4 : b * 2 ^ c ≤ 1 * 2 ^ c := Nat.mul_le_mul_right _ (by omega)
  rw [wb_shl _ hc, bq_lN (by omega)]
  by_cases e : k = c
  · subst e
    rw [if_pos rfl, Nat.mul_div_cancel _ (Nat.two_pow_pos k)]
    omega
  · rw [if_neg e]
    by_cases hk : k < c
    · have : b * 2 ^ c = (b * 2 ^ (c - k - 1) * 2) * 2 ^ k := by
        rw [Nat.mul_assoc, Nat.mul_assoc, ← Nat.pow_succ', ← Nat.pow_add]
        congr 2; omega
      rw [this, Nat.mul_div_cancel _ (Nat.two_pow_pos k)]
      omega
    · have h5 : 2 ^ (c + 1) ≤ 2 ^ k := Nat.pow_le_pow_right (by decide) (by omega)
      rw [Nat.pow_succ] at h5
      rw [Nat.div_eq_of_lt (by have := Nat.two_pow_pos c; omega)]
/-- the sign goes up -/
theorem bq_sx (x : Int64) {w : Nat} (h1 : 1 ≤ w) (hw : w ≤ 64) {k : Nat} (hk : k < 64) : bq ((x <<< ((nI (64 - w)).toInt64 &&& 63)) >>> ((nI (64 - w)).toInt64 &&& 63)) k = if k < w then bq x k else bq x (w - 1) := by
  have hu : 64 - w < 64 := by omega
  rw [wb_c _ hu]
  have h2 : (BitVec.ofNat 64 (64 - w)).toNat = 64 - w := by rw [BitVec.toNat_ofNat]; omega
  have hs : ∀ i, i < 64 → (x <<< lN (64 - w)).toBitVec.getLsbD i = (!decide (i < 64 - w) && x.toBitVec.getLsbD (i - (64 - w))) := by
    intro i hi
    rw [Int64.toBitVec_shiftLeft, wb_tb, wb_sm _ hu, BitVec.shiftLeft_eq', h2, BitVec.getLsbD_shiftLeft]
    simp [hi]
  have e : ((x <<< lN (64 - w)) >>> lN (64 - w)).toBitVec.getLsbD k = if k < w then x.toBitVec.getLsbD k else x.toBitVec.getLsbD (w - 1) := by
    rw [Int64.toBitVec_shiftRight, wb_tb, wb_sm _ hu]
    simp only [BitVec.sshiftRight']
    rw [BitVec.getLsbD_sshiftRight, h2]
    simp only [show ¬ 64 ≤ k by omega, decide_false, Bool.not_false, Bool.true_and]
    by_cases hc : k < w
    · rw [if_pos hc, if_pos (by omega), hs _ (by omega), show 64 - w + k - (64 - w) = k by omega]
      simp [show ¬ 64 - w + k < 64 - w by omega]
    · rw [if_neg hc, if_neg (by omega), BitVec.msb_eq_getLsbD_last, hs _ (by omega), show 64 - 1 - (64 - w) = w - 1 by omega]
      simp [show ¬ 63 < 64 - w by omega]
  rw [bq_lsb, e]
  by_cases hc : k < w
  · rw [if_pos hc, if_pos hc, bq_lsb]
  · rw [if_neg hc, if_neg hc, bq_lsb]
end
section
/-! short rows for contracts that only read, and for those that write -/
theorem cw_inc (a : Nat) : nI a + Int32.ofInt 1 = nI (a + 1) := nI_1 a
theorem cw_dec {a : Nat} (h : 0 < a) : nI a - nI 1 + Int32.ofInt (-1) = nI (a - 1) - nI 1 := by
  obtain ⟨b, rfl⟩ : ∃ b, a = b + 1 := ⟨a - 1, by omega⟩
  have h1 : nI (b + 1) - nI 1 = nI b := nI_pred b
  rw [h1, Nat.add_sub_cancel]
  show nI b + Int32.ofInt (-1) = nI b - nI 1
  rw [Int32.sub_eq_add_neg]
  rfl
theorem cw_m1 {a : Nat} (h : 0 < a) : nI a - nI 1 = nI (a - 1) := by
  obtain ⟨b, rfl⟩ : ∃ b, a = b + 1 := ⟨a - 1, by omega⟩
  exact nI_pred b
theorem cw_lvx {ls : Array Slot} {nL : Nat} {l l' : List (Nat × Value)} (h : lv_has ls nL l) (e : l = l') : lv_has ls nL l' := e ▸ h
section CWR
variable {p : Program} {l : Launch} {e : Env} {R : Room} {s : State} {m : MethodId} {args : Array Value} {below : List Frame} {meth : Method} {c : Code} {H : Heap} {locs : List Loc} {cells slots : Nat} {Q : State → Prop} {pc : Nat} {ls : Array Slot} {rest : List Value}
theorem cw_topr {v v' : Value} (h : v = v') (k : W p l e R s m args below meth c H locs cells slots Q (F0 m pc ls (v' :: rest))) : W p l e R s m args below meth c H locs cells slots Q (F0 m pc ls (v :: rest)) := by
  rw [h]; exact k
variable {D : va_G} {cl : List vw_C} {ws : va_W} {tys : List (ClassId × FieldType)} {C : String} {T : u_T} {N ci q0 sz : Nat} {b : Nat} {As av : List Value} {fs : List Value} {A : Nat → Prop}
def ro_Pc (D : va_G) (cl : List vw_C) (ws : va_W) (tys : List (ClassId × FieldType)) (av : List Value) : Array Value → State → Prop := va_Pc av (fun U => va_P D cl ws U.heap ∧ va_K D cl tys U)
theorem ro_blind : FrameBlind (ro_Pc D cl ws tys av) := fun a U g mk q => ⟨q.1, q.2.1, va_K.moved (u := U) (U := U.calling g mk a) (Vm.Alike.refl U.vm) q.2.2⟩
theorem ro_preV (hK : va_K D cl tys s) (hP : va_P D cl ws H) (he : ws[q0]? = some (b, .inr (ci, fs))) (hc : cl[ci]? = some (C, T, N)) : PreV s H C b (ro_Pc D cl ws tys (.ref b :: As)) As :=
  ⟨ro_blind, va_recv hK hP hc he, fun U hU hW => ⟨rfl, by rw [hU]; exact hP, va_K.moved hW.alike hK⟩⟩
theorem ro_preS (hK : va_K D cl tys s) (hP : va_P D cl ws H) : PreS s H (ro_Pc D cl ws tys As) As :=
  ⟨ro_blind, fun U hU hW => ⟨rfl, by rw [hU]; exact hP, va_K.moved hW.alike hK⟩⟩
def rw_Pc (D : va_G) (cl : List vw_C) (ws : va_W) (tys : List (ClassId × FieldType)) (sz : Nat) (av : List Value) : Array Value → State → Prop := va_Pc av (fun U => U.heap.size = sz ∧ va_P D cl ws U.heap ∧ va_K D cl tys U ∧ va_D (fun _ => True) ws)
theorem rw_blind : FrameBlind (rw_Pc D cl ws tys sz av) := fun a U g mk q => ⟨q.1, q.2.1, q.2.2.1, va_K.moved (u := U) (U := U.calling g mk a) (Vm.Alike.refl U.vm) q.2.2.2.1, q.2.2.2.2⟩
theorem rw_preV (hK : va_K D cl tys s) (hP : va_P D cl ws H) (hD : va_D A ws) (he : ws[q0]? = some (b, .inr (ci, fs))) (hc : cl[ci]? = some (C, T, N)) : PreV s H C b (rw_Pc D cl ws tys H.size (.ref b :: As)) As :=
  ⟨rw_blind, va_recv hK hP hc he, fun U hU hW => ⟨rfl, by rw [hU], by rw [hU]; exact hP, va_K.moved hW.alike hK, hD.weaken (fun _ _ _ _ => trivial)⟩⟩
theorem rw_preS (hK : va_K D cl tys s) (hP : va_P D cl ws H) (hD : va_D A ws) : PreS s H (rw_Pc D cl ws tys H.size As) As :=
  ⟨rw_blind, fun U hU hW => ⟨rfl, by rw [hU], by rw [hU]; exact hP, va_K.moved hW.alike hK, hD.weaken (fun _ _ _ _ => trivial)⟩⟩
end CWR
/-! a method that throws: its contract, its calls, what leaves and what is caught -/
def tx_Q (E : String) (mc ms : Nat) : Array Value → State → Outcome → State → Prop := fun _ st o t =>
  ∃ (q : Addr) (ce : Cell), o = .threw q ∧ t.heap[q]? = some ce ∧ ce.vm = .none ∧ st.vm.findClass E = some ce.cls ∧ st.WarmedH t.vm ∧ st.sameButNew ({ t with vm := st.vm } : State) [] mc ms
def tx_Met (l : Launch) (y : MethodName) (ws : List Cond) (rm : Room) (Pc : Array Value → State → Prop) (E : String) (mc ms : Nat) : Prop :=
  MetFree l y (headSpec ws rm) Pc (fun _ _ _ _ _ => True) (tx_Q E mc ms)
def tx_E (below : List Frame) (E : String) (a : Array Value) (s : State) (mc ms : Nat) : State → Prop := fun t =>
  ∃ o, t.status = .running ∧ Ended t below o ∧ tx_Q E mc ms a s o t
/-- the frame g of the method, the reference q thrown over it -/
def tx_W (p : Program) (l : Launch) (e : Env) (R : Room) (s : State) (m : MethodId) (args : Array Value) (below : List Frame) (meth : Method) (c : Code) (H : Heap) (locs : List Loc) (cells slots : Nat) (Q : State → Prop) (g : JFrame) (q : Addr) : Prop :=
  ∀ T : State, T.heap = H → Stand p l e R s m args below meth c T locs cells slots → ∃ t, Steps p.tables e below ((T.setTop g).pushFrame (.throwing q)) t ∧ Q t
section TXA
variable {l : Launch}
theorem tx_ofW {y : MethodName} {ws ws' : List Cond} {rm : Room} {Pc : Array Value → State → Prop} {E : String} {mc ms : Nat} {cc : ByteArray} {maxL : Nat} {ret : Option FieldType}
    (hy : plainName y.cls = true) (hw : ws = Cond.code y cc maxL ret :: ws')
    (body : ∀ p e s m args below meth c s₁, BodyLoose p l y (headSpec ws rm) cc maxL ret e s m args below meth c s₁ → c.maxLocals = maxL → Pc args s →
      W p l e (headSpec ws rm).room s m args below meth c s.heap [] 0 0 (tx_E below E args s mc ms) (entryFrame m args maxL)) : tx_Met l y ws rm Pc E mc ms := by
  refine MetFree.of_bodyS (code := cc) (maxLocals := maxL) (ret := ret) hy ?_ ?_
  · intro args s m h hn
    obtain ⟨meth, c, h1, h2, h3, h4, h5, h6, -, -⟩ := Cond.code_spec hn (atoms_spec (ws := ws) h _ (by rw [hw]; exact List.mem_cons_self))
    exact ⟨meth, c, h1, h2, h3, h4, h5, h6⟩
  · intro p e s m args below meth c s₁ B hml hP _
    have hh0 : s₁.heap = s.heap := by rw [B.state]; rfl
    obtain ⟨t, a1, o, b1, b2, b3⟩ := body p e s m args below meth c s₁ B hml hP s₁ hh0 (Stand.of_body B)
    exact ⟨t, o, a1, b1, b2, b3⟩
end TXA
section TXB
variable {l : Launch} {R : Room} {p : Program} {e : Env} {below : List Frame} {s : State} {sargs : Array Value} {y : MethodName} {len W9 : Nat}
/-- old cells stay where nothing old was written -/
theorem tx_keep {U V : State} {k n : Nat} (h : U.sameButNew V [] k n) : U.heap.size ≤ V.heap.size ∧ ∀ z : Nat, z < U.heap.size → V.heap[z]? = U.heap[z]? := by
  obtain ⟨-, h2, -, -, -, h6⟩ := h
  refine ⟨h2, fun z hz => ?_⟩
  obtain ⟨c9, e1, e2, -, e4⟩ := h6 z _ (Array.getElem?_eq_getElem hz)
  have hs : c9.slots = (U.heap[z]).slots := Array.ext_getElem? fun i => e4 i List.not_mem_nil
  rw [e1, Array.getElem?_eq_getElem hz]
  rw [hs] at e2
  exact congrArg some e2
theorem tx_back {ws : List Cond} {rm : Room} {Pc : Array Value → State → Prop} {E : String} {mc ms : Nat} {bytes : ByteArray} {maxL : Nat} {ret : Option FieldType}
    (hM : tx_Met l y ws rm Pc E mc ms) (hrc : rm.cells = mc) (hrs : rm.slots = ms) (hframes : rm.frames + 1 ≤ R.frames) (hlocals : W9 + (maxL + 11) + rm.locals ≤ R.locals)
    (hws : ∀ w ∈ ws, ∀ a' U, s.WarmedH U.vm → w.before a' U = true) (hcode : Cond.code y bytes maxL ret ∈ ws) (hinit : (Cond.initialized y.cls).before sargs s = true)
    {m : MethodId} {meth : Method} {c : Code} {U : State} {Ls : List Loc} {c0 s0 : Nat} {g : JFrame} {ig : Instr} {mk : MethodId} {a : Array Value}
    (X : Stand p l e R s m sargs below meth c U Ls c0 s0) (hg : g.method = m) (hsize : g.locals.size = c.maxLocals) (hdg : decode c.code g.pc = .ok (ig, len))
    (hW : 2 * g.monitorRoom + (g.stack.map fun v => v.category).sum ≤ W9) (hn : U.methodNamed? y = some mk) (h4 : c0 + mc ≤ R.cells) (h5 : s0 + ms ≤ R.slots) (hPc : Pc a (U.calling g mk a)) :
    ∃ (q : Addr) (ce : Cell) (B : State), Stand p l e R s m sargs below meth c B Ls (c0 + mc) (s0 + ms) ∧ B.heap[q]? = some ce ∧ ce.vm = .none ∧ s.vm.findClass E = some ce.cls ∧ U.heap.size ≤ B.heap.size ∧ (∀ z : Nat, z < U.heap.size → B.heap[z]? = U.heap[z]?) ∧
      Steps p.tables e below (doInvoke e (U.setTop g) [] mk a).1 ((B.setTop g).pushFrame (.throwing q)) := by
  have h1 : (headSpec ws rm).pre.before a U = true := atoms_intro fun w hw => hws w hw _ _ X.warmed
  have h2 : (Cond.code y bytes maxL ret).before a U = true := hws _ hcode _ _ X.warmed
  have h3 : (Cond.initialized y.cls).before a U = true := word_at X.warmed (Or.inl (by first | rfl | simp [Cond.onTables, Cond.keeps, Cond.steady])) hinit
  obtain ⟨methY, cY, hmY, hcY, -, hlY, -, -, -, -⟩ := Cond.code_spec hn h2
  obtain ⟨kY, hkY, -⟩ := className_of_methodNamed hn
  have hiY : kY.init = .initialized := Cond.initialized_spec (findClass_of_methodNamed hn) hkY h3
  have hAt : At U g.method c below := by rw [hg]; exact X.here
  have h4' : c0 + (headSpec ws rm).room.cells ≤ R.cells := by rw [show (headSpec ws rm).room.cells = mc from hrc]; exact h4
  have h5' : s0 + (headSpec ws rm).room.slots ≤ R.slots := by rw [show (headSpec ws rm).room.slots = ms from hrs]; exact h5
  have hl9 : W9 + (maxL + 11) + (headSpec ws rm).room.locals ≤ R.locals := hlocals
  have happ : (headSpec ws rm).appliesLoose y e.platform (U.calling g mk a) = true :=
    Spec.appliesLoose_calling (g := g) hAt hdg hn hkY hiY (X.room_calling (g := g) (R' := (headSpec ws rm).room) hsize hmY hcY hframes (by rw [hlY]; omega) h4' h5') h1
  obtain ⟨mid, hmid⟩ := hAt.above
  have hfr : (U.setTop g).frames = (.java g :: mid) ++ below := by rw [State.frames_setTop' g hAt.top, hmid]; rfl
  obtain ⟨o, s₂, hsteps, -, hend, hq⟩ := Steps.callFree hM p X.admits X.cas X.clock (acts := []) hfr happ hPc trivial
  have hq' : tx_Q E mc ms a (U.calling g mk a) o s₂ := hq
  obtain ⟨q, ce, rfl, hce, hcv, hcl, hW₂, hsm⟩ := hq'
  rw [State.frames_setTop' g hAt.top] at hend
  have hf₂ : s₂.frames = .throwing q :: .java g :: U.frames.tail := hend
  obtain ⟨e2, q2, q3, q4, q5, q6⟩ := id hsm
  have hW' : U.WarmedH s₂.vm := hW₂
  have e3 : s₂ = ({ (U.calling g mk a).setFrames s₂.frames with heap := s₂.heap, slotsUsed := s₂.slotsUsed } : State).setVm s₂.vm := by
    have h9 : s₂ = ({ s₂ with vm := (U.calling g mk a).vm } : State).setVm s₂.vm := rfl
    rw [e2] at h9
    exact h9
  obtain ⟨g₀, hg0⟩ := Option.isSome_iff_exists.mp hAt.top
  obtain ⟨r, hr⟩ := State.topJava?_eq_some.mp hg0
  have hr' : (({ U with heap := s₂.heap, slotsUsed := s₂.slotsUsed } : State).setVm s₂.vm).frames = .java g₀ :: r := hr
  have hs₂ : s₂ = ((({ U with heap := s₂.heap, slotsUsed := s₂.slotsUsed } : State).setVm s₂.vm).setTop g).pushFrame (.throwing q) := by
    refine e3.trans ?_
    rw [hf₂, State.calling_eq hAt.top, State.setFrames_setFrames, State.pushFrame, State.frames_setTop _ hr', State.setTop_of_frames _ hr', State.setFrames_setFrames, hr]
    rfl
  have hsame : U.sameButNew ({ U with heap := s₂.heap, slotsUsed := s₂.slotsUsed } : State) [] mc ms := by
    refine ⟨?_, q2, q3, q4, q5, q6⟩
    obtain ⟨t, ht, -⟩ := State.frames_cons hr
    show ({ U with heap := s₂.heap, slotsUsed := s₂.slotsUsed } : State) = { U.setFrames U.frames with heap := s₂.heap, slotsUsed := s₂.slotsUsed }
    rw [State.setFrames_self ht]
  obtain ⟨k1, k2⟩ := tx_keep hsame
  have hcls : s.vm.findClass E = some ce.cls := by
    have h9 : U.vm.findClass E = some ce.cls := hcl
    rw [X.warmed.alike.findClass] at h9
    exact h9
  subst hg
  have hall := X.same.trans (hsame.setVm s.vm)
  rw [List.append_nil] at hall
  refine ⟨q, ce, (({ U with heap := s₂.heap, slotsUsed := s₂.slotsUsed } : State).setVm s₂.vm),
    ⟨X.admits, X.cas, X.clock, X.frames, X.room, X.hears, X.method, X.code, (X.here.setHeapUsed s₂.heap s₂.slotsUsed).setVm hW'.alike, X.tail, State.WarmedH.trans X.warmed hW', X.limits, X.bytes, hall⟩,
    hce, hcv, hcls, k1, k2, ?_⟩
  rw [← hs₂]
  exact hsteps
end TXB
section TXC
variable {p : Program} {l : Launch} {e : Env} {R : Room} {s : State} {m : MethodId} {args : Array Value} {below : List Frame} {meth : Method} {c : Code} {H : Heap} {locs : List Loc} {cells slots : Nat} {Q : State → Prop}
variable {Ts ws : List Cond} {cc bytes : ByteArray} {nL maxL index n mc ms : Nat} {own C host E : String} {y : MethodName} {ret : Option FieldType} {rm : Room} {Pc : Array Value → State → Prop}
variable {b : Addr} {As rest : List Value} {pc : Nat} {ls : Array Slot} {st0 : List Value}
/-- invokevirtual of a method that throws -/
theorem tx_callV (S : CallFix p m c cc nL s args Ts own) (hM : tx_Met l y ws rm Pc E mc ms) (cw : CallW R s args own C index y bytes maxL ret ws rm mc ms n) (hp : PreV s H C b Pc As)
    (hn : As.length = n) (hsize : ls.size = nL) (hstack : st0 = As.reverse ++ .ref b :: rest) (hW : 2 * (F0 m pc ls rest).monitorRoom + (rest.map fun v => v.category).sum ≤ 8) (hdg : decode cc pc = .ok (.invokevirtual index, 3)) (hf : cells + mc ≤ R.cells ∧ slots + ms ≤ R.slots)
    (kk : ∀ (q : Addr) (ce : Cell) (H1 : Heap), H1[q]? = some ce → ce.vm = .none → s.vm.findClass E = some ce.cls → H.size ≤ H1.size → (∀ z : Nat, z < H.size → H1[z]? = H[z]?) → tx_W p l e R s m args below meth c H1 locs (cells + mc) (slots + ms) Q (F0 m pc ls rest) q) :
    W p l e R s m args below meth c H locs cells slots Q (F0 m pc ls st0) := by
  obtain ⟨⟨hrc, hrs, hfr, hlo, hws, hcw, hcode, hini, hy, hlen, hl⟩, hin, hse⟩ := cw
  obtain ⟨hx, hb, hml, ho, -⟩ := S
  obtain ⟨hbl, ⟨cellB, hcB, hoB, hclB⟩, hPc⟩ := hp
  intro T hT X
  obtain ⟨mk, methM, hnamed, hmethM, hstM, habM⟩ := Cond.instanceMethod_spec hin
  obtain ⟨methM', cM, hmethM', -, -, -, -, -, -, hsigM⟩ := Cond.code_spec hnamed hcode
  cases hmethM.symm.trans hmethM'
  obtain ⟨c2, r2, m2, q1, q2, q3, q4, kP, hkP, hkPi⟩ := Cond.selects_spec hse
  cases hclB.symm.trans q1
  cases (State.methodFound?_of_named hnamed hy).symm.trans q2
  cases hnamed.symm.trans q3
  have hselP : selectMethod e.platform s.vm cellB.cls mk = .method mk := by rw [Launch.admits_selectMethod X.admits]; exact q4
  obtain ⟨vm₁, X₁, hstep₁⟩ := X.invokevirtual hx ho hl hnamed hmethM hstM hkP hkPi hy (a := b) (cell := cellB) (by rw [hT]; exact hcB)
    (fun z h => by rw [h] at hoB; cases hoB) hselP hmethM habM hkP hkPi (g := F0 m pc ls st0) rfl (argsL := As) (rest := rest) (hn.trans (hlen _ hsigM)) hstack (by rw [hb]; exact hdg)
  obtain ⟨q, ce, B, X', k1, k2, k3, k4, k5, st⟩ := tx_back (len := 3) (W9 := 8) hM hrc hrs hfr hlo hws hcw hini X₁ (g := F0 m pc ls rest) rfl (hsize.trans hml.symm) (by rw [hb]; exact hdg) hW (X₁.named hnamed) hf.1 hf.2 (hbl _ _ _ _ (hPc (T.setVm vm₁) hT X₁.warmed))
  obtain ⟨t, a1, b1⟩ := kk q ce B.heap k1 k2 k3 (by rw [← hT]; exact k4) (fun z hz => by rw [← hT]; exact k5 z (by rw [← hT] at hz; exact hz)) B rfl X'
  exact ⟨t, hstep₁ _ fun acts => by rw [doInvoke_state]; exact st.trans a1, b1⟩
/-- invokestatic of a method that throws -/
theorem tx_callS (S : CallFix p m c cc nL s args Ts own) (hM : tx_Met l y ws rm Pc E mc ms) (cw : CallB R s args own index y bytes maxL ret ws rm mc ms n ∧ (Cond.static y).before args s = true) (hp : PreS s H Pc As)
    (hn : As.length = n) (hsize : ls.size = nL) (hstack : st0 = As.reverse ++ rest) (hW : 2 * (F0 m pc ls rest).monitorRoom + (rest.map fun v => v.category).sum ≤ 8) (hdg : decode cc pc = .ok (.invokestatic index, 3)) (hf : cells + mc ≤ R.cells ∧ slots + ms ≤ R.slots)
    (kk : ∀ (q : Addr) (ce : Cell) (H1 : Heap), H1[q]? = some ce → ce.vm = .none → s.vm.findClass E = some ce.cls → H.size ≤ H1.size → (∀ z : Nat, z < H.size → H1[z]? = H[z]?) → tx_W p l e R s m args below meth c H1 locs (cells + mc) (slots + ms) Q (F0 m pc ls rest) q) :
    W p l e R s m args below meth c H locs cells slots Q (F0 m pc ls st0) := by
  obtain ⟨⟨hrc, hrs, hfr, hlo, hws, hcw, hcode, hini, hy, hlen, hl⟩, hst⟩ := cw
  obtain ⟨hx, hb, hml, ho, -⟩ := S
  obtain ⟨hbl, hPc⟩ := hp
  intro T hT X
  obtain ⟨mk, hnamed⟩ := Cond.code_named hcode
  obtain ⟨methM, cM, hmethM, -, -, -, -, -, -, hsigM⟩ := Cond.code_spec hnamed hcode
  have hstatic : methM.isStatic = true := Cond.static_spec hnamed hmethM hst
  obtain ⟨kP, hkP, -⟩ := className_of_methodNamed hnamed
  have hinitP : kP.init = .initialized := Cond.initialized_spec (findClass_of_methodNamed hnamed) hkP hini
  obtain ⟨vm₁, X₁, hstep₁⟩ := X.invokestatic hx ho hl hnamed hmethM hstatic hkP hinitP hy (g := F0 m pc ls st0) rfl (argsL := As) (rest := rest) (hn.trans (hlen _ hsigM)) hstack (by rw [hb]; exact hdg)
  obtain ⟨q, ce, B, X', k1, k2, k3, k4, k5, st⟩ := tx_back (len := 3) (W9 := 8) hM hrc hrs hfr hlo hws hcw hini X₁ (g := F0 m pc ls rest) rfl (hsize.trans hml.symm) (by rw [hb]; exact hdg) hW (X₁.named hnamed) hf.1 hf.2 (hbl _ _ _ _ (hPc (T.setVm vm₁) hT X₁.warmed))
  obtain ⟨t, a1, b1⟩ := kk q ce B.heap k1 k2 k3 (by rw [← hT]; exact k4) (fun z hz => by rw [← hT]; exact k5 z (by rw [← hT] at hz; exact hz)) B rfl X'
  exact ⟨t, hstep₁ _ fun acts => by rw [doInvoke_state]; exact st.trans a1, b1⟩
/-- the method's own word says that it has no table of handlers -/
theorem tx_none {T : State} (X : Stand p l e R s m args below meth c T locs cells slots) (hn : s.methodNamed? y = some m) (hcode : (Cond.code y cc maxL ret).before args s = true) : c.exceptionTable.toList = [] := by
  obtain ⟨me, co, h1, h2, -, -, -, -, h7, -⟩ := Cond.code_spec hn hcode
  cases Option.some.inj (X.method.symm.trans h1)
  cases Option.some.inj (X.code.symm.trans h2)
  have h8 : c.exceptionTable.size = 0 := by simpa [Array.isEmpty] using h7
  exact List.eq_nil_of_length_eq_zero (by rw [Array.length_toList]; exact h8)
/-- it leaves the method -/
theorem tx_out {q : Addr} {ce : Cell} (hn : s.methodNamed? y = some m) (hcode : (Cond.code y cc maxL ret).before args s = true) (hlocks : meth.locks = false) (hcell : H[q]? = some ce) (hv : ce.vm = .none) (hcl : s.vm.findClass E = some ce.cls) (hc : cells ≤ mc) (hs : slots ≤ ms) :
    tx_W p l e R s m args below meth c H [] cells slots (tx_E below E args s mc ms) (F0 m pc ls rest) q := by
  intro T hT X
  have hno := tx_none X hn hcode
  obtain ⟨st1, hrun, hend, hW, hsm⟩ := X.leaveThrown q (g := F0 m pc ls rest) rfl rfl rfl (fun x hx => by rw [hno] at hx; cases hx) hlocks
  exact ⟨_, st1, .threw q, hrun, hend, q, ce, rfl, (by show T.heap[q]? = some ce; rw [hT]; exact hcell), hv, hcl, hW, hsm.mono hc hs⟩
/-- 'throw new E("text")' -/
theorem tx_throwS {cls text : String} {names : List String} {ik is ic sa : Nat} (hexec : p.tables.exec = Jvm.exec) (hb : c.code = cc) (hl : l.stackTraces = false) (hn : s.methodNamed? y = some m) (hcode : (Cond.code y cc maxL ret).before args s = true) (hlocks : meth.locks = false)
    (hown : s.vm.findClass own = some m.cls) (hcls : Bundle.fit cls = true) (hnames : ∀ n ∈ names, Bundle.fit n = true) (hk : (Cond.classLink own ik cls).before args s = true) (hini : (Cond.initialized cls).before args s = true) (hstr : vk_R own is text sa s) (hat : ∀ w ∈ Bundle.ownAtoms own ic cls names, w.before args s = true)
    (hS : s.heap.size ≤ H.size) (hsize : ls.size = c.maxLocals)
    (d0 : decode cc pc = .ok (.new ik, 3)) (d3 : decode cc (pc + 3) = .ok (.dup, 1)) (d4 : decode cc (pc + 4) = .ok (.ldc is, 2)) (d6 : decode cc (pc + 6) = .ok (.invokespecial ic, 3)) (d9 : decode cc (pc + 9) = .ok (.athrow, 1))
    (hRf : names.length + 3 < R.frames) (hRl : (rest.map fun v => v.category).sum + (13 * (names.length + 1) + 43) ≤ R.locals) (hRc : cells + 1 ≤ R.cells) (hRs : slots + 6 ≤ R.slots) (hc : cells + 1 ≤ mc) (hs : slots + 6 ≤ ms) :
    W p l e R s m args below meth c H [] cells slots (tx_E below cls args s mc ms) (F0 m pc ls rest) := by
  refine W.newc (n := 6) hexec hb hown hk (hat _ (by simp [Bundle.ownAtoms])) hini (g := F0 m pc ls rest) rfl d0 hRc hRs (fun cX kX h1 h2 h3 h4 => ?_)
  refine W.eq (g2 := F0 m (pc + 3) ls (.ref H.size :: rest)) rfl ?_
  refine lv_dup hexec hb d3 rfl ?_
  refine va_ldcS hexec hb hown hstr d4 ?_
  intro T hT X
  have htr : e.platform.stackTraces = false := (show e.platform.stackTraces = l.stackTraces by rw [X.admits.platform]).trans hl
  have hno := tx_none X hn hcode
  have hcell : T.heap[H.size]? = some (freshCell cX kX) := by
    rw [hT]
    simp [freshCell]
  have hm0 : (F0 m (pc + 6) ls (.ref sa :: .ref H.size :: .ref H.size :: rest)).monitorRoom = 0 := rfl
  obtain ⟨U, hsteps, hrun, hend, hW, hsame, ce, hce, hO⟩ := X.ctorThrowS hexec htr (own := own) (cls := cls) (names := names) (ic := ic) hown hcls hnames hat (fun x hx => nomatch hx) h1 h2 (a := H.size) hcell hS (msg := .ref sa) rfl
    (g := F0 m (pc + 6) ls (.ref sa :: .ref H.size :: .ref H.size :: rest)) rfl hsize rfl rfl (rest := rest) rfl (by rw [hb]; exact d6) (by rw [hb]; exact d9) (fun x hx => by rw [hno] at hx; cases hx) hRf
    (by rw [hm0]; simp only [List.map_cons, List.sum_cons, show (Value.ref H.size).category = 1 from rfl]; omega) hlocks
  exact ⟨U, hsteps, .threw H.size, hrun, hend, H.size, ce, rfl, hce, hO.vm, hO.cls, hW, hsame.mono hc hs⟩
end TXC
section TXD
/-- one entry of the table, whose class may have to be linked first -/
theorem tx_go1 {Q : Handler → Pre} {E : CtlPost} {e : Env} {d : Bool} {acts : List Action} {s : State} {f : JFrame} {a : Addr} {x : ExceptionTableEntry} {t : List ExceptionTableEntry} {c : ClassId} {cell : Cell} (hx : covers x f.pc = true) (h0 : x.catchType ≠ 0)
    (hl : s.vm.ClassLinks e.platform f.method.cls x.catchType c) (hcell : s.heap[a]? = some cell) (hobj : ∀ k, cell.vm ≠ .statics k) (hk : ∃ k, s.vm.classes[cell.cls]? = some k) (hc : ∃ k, s.vm.classes[c]? = some k) :
    wp (findHandler.go f a (x :: t)) Q E e d acts s ↔ (if s.vm.assignable cell.cls c = true then Q (.found x.handlerPc) d acts (s.setVm (s.vm.noted f.method.cls x.catchType (.cls c))) else wp (findHandler.go f a t) Q E e d acts (s.setVm (s.vm.noted f.method.cls x.catchType (.cls c)))) := by
  simp only [covers] at hx
  obtain ⟨ha, ht⟩ := (resolveClass_links e.toSetting hl).op (op := VmOp.resolveClass f.method.cls x.catchType) rfl
  have hal : s.vm.Alike (s.vm.noted f.method.cls x.catchType (.cls c)) := (Vm.Alike.refl s.vm).noted _ _ _
  obtain ⟨k1, hk1⟩ := hk
  obtain ⟨k2, hk2⟩ := hc
  obtain ⟨k1', hk1', -⟩ := hal.2.2 _ _ hk1
  obtain ⟨k2', hk2', -⟩ := hal.2.2 _ _ hk2
  have has : (s.vm.noted f.method.cls x.catchType (.cls c)).assignable cell.cls c = s.vm.assignable cell.cls c := hal.assignable _ _
  by_cases hf : s.vm.assignable cell.cls c = true
  · rw [hf] at has
    rw [if_pos hf]
    simp [findHandler.go, hx, h0, ha, ht, hcell, hobj, hk1', hk2', has, VmOp.dirties, VmOp.acts]
  · rw [if_neg hf]
    have hf' : s.vm.assignable cell.cls c = false := by simpa using hf
    rw [hf'] at has
    simp [findHandler.go, hx, h0, ha, ht, hcell, hobj, hk1', hk2', has, VmOp.dirties, VmOp.acts]
/-- the entries ahead don't take it, x does -/
theorem tx_go {e : Env} {s₀ : State} {f : JFrame} {a : Addr} {cell : Cell} (hobj : ∀ k, cell.vm ≠ .statics k) (hk0 : ∃ k, s₀.vm.classes[cell.cls]? = some k) (x : ExceptionTableEntry) (rest : List ExceptionTableEntry) (hx : covers x f.pc = true) (h0 : x.catchType ≠ 0)
    {cT : ClassId} (hl : s₀.vm.ClassLinks e.platform f.method.cls x.catchType cT) (hfit : s₀.vm.assignable cell.cls cT = true) :
    ∀ (pre : List ExceptionTableEntry) (S : State), s₀.WarmedH S.vm → S.heap[a]? = some cell → (∀ y ∈ pre, covers y f.pc = true ∧ y.catchType ≠ 0 ∧ ∃ c, s₀.vm.ClassLinks e.platform f.method.cls y.catchType c ∧ s₀.vm.assignable cell.cls c = false) →
      ∃ vm', s₀.WarmedH vm' ∧ ∀ (Q : Handler → Pre) (E : CtlPost) (d : Bool) (acts : List Action), wp (findHandler.go f a (pre ++ x :: rest)) Q E e d acts S ↔ Q (.found x.handlerPc) d acts (S.setVm vm') := by
  obtain ⟨k0, hk0⟩ := hk0
  intro pre
  induction pre with
  | nil =>
    intro S hW hcell _
    obtain ⟨k0', hk0', -⟩ := hW.alike.2.2 _ _ hk0
    obtain ⟨dk, _, _, kt, hd, _, _, _, _, hkt, _, hopen⟩ := hl.here
    obtain ⟨kt', hkt', -⟩ := hW.alike.2.2 _ _ hkt
    refine ⟨_, hW.noted hd hopen (State.rightAt_cls hl), fun Q E d acts => ?_⟩
    rw [List.nil_append, tx_go1 hx h0 (hW.classLinks hl) hcell hobj ⟨k0', hk0'⟩ ⟨kt', hkt'⟩, if_pos (by rw [hW.alike.assignable]; exact hfit)]
  | cons y ys ih =>
    intro S hW hcell hpass
    obtain ⟨hcov, hy0, c, hyl, hno⟩ := hpass y List.mem_cons_self
    obtain ⟨k0', hk0', -⟩ := hW.alike.2.2 _ _ hk0
    obtain ⟨dk, _, _, kt, hd, _, _, _, _, hkt, _, hopen⟩ := hyl.here
    obtain ⟨kt', hkt', -⟩ := hW.alike.2.2 _ _ hkt
    obtain ⟨vm', hW', hq⟩ := ih (S.setVm (S.vm.noted f.method.cls y.catchType (.cls c))) (hW.noted hd hopen (State.rightAt_cls hyl)) hcell (fun z hz => hpass z (List.mem_cons_of_mem _ hz))
    refine ⟨vm', hW', fun Q E d acts => ?_⟩
    rw [List.cons_append, tx_go1 hcov hy0 (hW.classLinks hyl) hcell hobj ⟨k0', hk0'⟩ ⟨kt', hkt'⟩, if_neg (by rw [hW.alike.assignable, hno]; decide)]
    exact hq Q E d acts
variable {p : Program} {l : Launch} {e : Env} {R : Room} {s : State} {m : MethodId} {args : Array Value} {below : List Frame} {meth : Method} {c : Code} {H : Heap} {locs : List Loc} {cells slots : Nat} {Q : State → Prop} {pc : Nat} {ls : Array Slot} {rest : List Value}
/-- caught here: the walk goes on at the handler -/
theorem tx_catch {own name E : String} {ce : Cell} {q : Addr} (hown : s.vm.findClass own = some m.cls) (pre : List ExceptionTableEntry) (x : ExceptionTableEntry) (suf : List ExceptionTableEntry) (hsplit : c.exceptionTable.toList = pre ++ x :: suf)
    (hpass : ∀ z ∈ pre, covers z pc = true ∧ z.catchType ≠ 0 ∧ ∃ nm : String, (Cond.classLink own z.catchType nm).before args s = true ∧ va_Nc E nm s) (hx : covers x pc = true) (h0 : x.catchType ≠ 0)
    (hlink : (Cond.classLink own x.catchType name).before args s = true) (hcast : (Cond.castable E name).before args s = true) (hcell : H[q]? = some ce) (hv : ce.vm = .none) (hcl : s.vm.findClass E = some ce.cls)
    (kk : W p l e R s m args below meth c H locs cells slots Q (F0 m x.handlerPc ls [.ref q])) : tx_W p l e R s m args below meth c H locs cells slots Q (F0 m pc ls rest) q := by
  intro T hT X
  have hpl : e.platform.magicAccessors = ({} : Platform).magicAccessors := by rw [X.admits.platform]
  obtain ⟨c3, c4, hc3, hc4, hasg⟩ := Cond.castable_spec hcast
  cases Option.some.inj (hc3.symm.trans hcl)
  obtain ⟨c5, hc5, hcl5⟩ := Cond.classLink_spec hown hlink e.platform hpl
  cases Option.some.inj (hc4.symm.trans hc5)
  have hk0 : ∃ k, s.vm.classes[ce.cls]? = some k := by
    obtain ⟨k9, h9, -⟩ := Vm.findClass_spec hcl
    exact ⟨k9, h9⟩
  obtain ⟨vm', hW', hq⟩ := tx_go (e := e) (s₀ := s) (f := F0 m pc ls rest) (a := q) (cell := ce) (VmData.ne_statics_of (by rw [hv]; rfl)) hk0 x suf hx h0 hcl5 hasg pre ((T.setTop (F0 m pc ls rest)).pushFrame (.throwing q)) X.warmed (by show T.heap[q]? = some ce; rw [hT]; exact hcell)
    (fun z hz => by
      obtain ⟨z1, z0, nm, hl1, a8, b8, g1, g2, g3⟩ := hpass z hz
      obtain ⟨c6, hc6, hcl6⟩ := Cond.classLink_spec hown hl1 e.platform hpl
      cases Option.some.inj (g1.symm.trans hcl)
      cases Option.some.inj (g2.symm.trans hc6)
      exact ⟨z1, z0, _, hcl6, g3⟩)
  obtain ⟨t, a1, b1⟩ := kk (T.setVm vm') hT (X.noted hW')
  refine ⟨t, ?_, b1⟩
  obtain ⟨hgo, hw⟩ := (show At T (F0 m pc ls rest).method c below from X.here).throwing q
  refine Steps.head hgo hw ?_
  have hfind : ∀ (Q : Handler → Pre) (E : CtlPost) (d : Bool) (acts : List Action), wp (findHandler (F0 m pc ls rest) q) Q E e d acts ((T.setTop (F0 m pc ls rest)).pushFrame (.throwing q)) ↔ Q (.found x.handlerPc) d acts (((T.setTop (F0 m pc ls rest)).pushFrame (.throwing q)).setVm vm') := fun Q E d acts => by
    rw [W.findHandler_eq (meth := meth) (code := c) X.method' X.code, hsplit]
    exact hq Q E d acts
  have hIs : (stepThrowing e ((T.setTop (F0 m pc ls rest)).pushFrame (.throwing q)) q (.java (F0 m pc ls rest) :: T.frames.tail)).Is ((((T.setTop (F0 m pc ls rest)).pushFrame (.throwing q)).setVm vm').setFrames (.java (F0 m x.handlerPc ls [.ref q]) :: T.frames.tail)) [] := by
    simp only [stepThrowing, searchFrame, vmDo]
    generalize hr : Sem.go _ e false [] _ = res
    obtain ⟨as, rfl, ha⟩ := Sem.eq_ok_of hr (a := Handler.found x.handlerPc) (s' := ((T.setTop (F0 m pc ls rest)).pushFrame (.throwing q)).setVm vm') (acts' := []) (by simp [hfind _ _ _ _])
    exact ⟨rfl, ha⟩
  obtain ⟨g₀, hg⟩ := Option.isSome_iff_exists.mp X.here.top
  obtain ⟨r, hr⟩ := State.topJava?_eq_some.mp hg
  rw [stepThread_throwing (frames_entered X.here.top _), hIs.1]
  have hr' : (T.setVm vm').frames = .java g₀ :: r := hr
  rw [State.setTop_of_frames _ hr'] at a1
  have hswap : ∀ (u : State) (F G : List Frame), ((u.setFrames F).setVm vm').setFrames G = (u.setVm vm').setFrames G := fun u F G => by
    have h1 : (u.setFrames F).setVm vm' = (u.setVm vm').setFrames F := rfl
    rw [h1, State.setFrames_setFrames]
  rw [hr, List.tail_cons, State.pushFrame, hswap, State.setTop_of_frames _ hr, hswap]
  exact a1
end TXD
end
section
/-! the class's Form by numbers -/
def fR (n : Nat) (it w : Nat → Nat) (sb : Nat → Bool) (wd sg ow co : Nat → Int32) : Prop :=
  cw_ok it n w ∧ (∀ o, o < 6 → wd o = nI (w o)) ∧ (∀ o, o < 6 → sg o = nI (sb o).toNat) ∧ ∀ j, j < n → ow j = cw_O (it j) ∧ co j = cw_C (it j)
theorem cw_it {it : Nat → Nat} {n : Nat} {w : Nat → Nat} (h : cw_ok it n w) : ∀ j, j < n → it j < 386 := by
  obtain ⟨h1, h2, h3, -⟩ := h
  intro j hj
  rcases h3 j hj with h | ⟨o, k, ho, hk, e⟩
  · omega
  · have := h2 o ho
    omega
theorem cw_O_m1 {x : Nat} (h : x < 386) : cw_O x = (-1) ↔ x < 2 := by
  unfold cw_O
  by_cases hx : x < 2
  · simp [hx]
  · rw [if_neg hx]
    constructor
    · intro e
      have h1 := congrArg Int32.toInt e
      rw [nI_toInt (by omega)] at h1
      have h2 : ((-1 : Int32)).toInt = -1 := by decide
      omega
    · intro e; exact absurd e hx
theorem cw_O_hi {x : Nat} (h : ¬ x < 2) : cw_O x = nI ((x - 2) / 64) := by unfold cw_O; rw [if_neg h]
theorem cw_C_hi {x : Nat} (h : ¬ x < 2) : cw_C x = nI ((x - 2) % 64) := by unfold cw_C; rw [if_neg h]
theorem cw_C_lo {x : Nat} (h : x < 2) : cw_C x = nI x := by unfold cw_C; rw [if_pos h]
theorem cw_O_eq {x o : Nat} (h : x < 386) (ho : o < 6) : cw_O x = nI o ↔ ¬ x < 2 ∧ (x - 2) / 64 = o := by
  by_cases hx : x < 2
  · have h1 : cw_O x = -1 := (cw_O_m1 h).mpr hx
    rw [h1]
    constructor
    · intro e
      have h2 := congrArg Int32.toInt e
      rw [nI_toInt (by omega)] at h2
      have h3 : ((-1 : Int32)).toInt = -1 := by decide
      omega
    · intro e; exact absurd hx e.1
  · rw [cw_O_hi hx, nI_eq (by omega) (by omega)]
    simp [hx]
def hop (w : Nat → Nat) (x : Int32) : Bool := decide (0 ≤ x.toInt ∧ x.toInt < 6) && decide (0 < w x.toInt.toNat)
theorem hop_neg {w : Nat → Nat} {x : Int32} (h : x < 0) : nI 0 = nI (hop w x).toNat := by
  have h1 : x.toInt < 0 := by simpa using Int32.lt_iff_toInt_lt.mp h
  have : hop w x = false := by simp only [hop, show ¬ (0 ≤ x.toInt ∧ x.toInt < 6) by omega, decide_false, Bool.false_and]
  rw [this]; rfl
theorem hop_big {w : Nat → Nat} {x : Int32} (h : nI 6 ≤ x) : nI 0 = nI (hop w x).toNat := by
  have h1 : (6 : Int) ≤ x.toInt := by simpa [nI_toInt] using Int32.le_iff_toInt_le.mp h
  have : hop w x = false := by simp only [hop, show ¬ (0 ≤ x.toInt ∧ x.toInt < 6) by omega, decide_false, Bool.false_and]
  rw [this]; rfl
theorem hop_nI (w : Nat → Nat) {o : Nat} (h : o < 6) : hop w (nI o) = decide (0 < w o) := by
  have h1 : (nI o).toInt = (o : Int) := nI_toInt (by omega)
  have h2 : (0 ≤ (nI o).toInt ∧ (nI o).toInt < 6) := by omega
  have h3 : (nI o).toInt.toNat = o := by omega
  unfold hop
  rw [decide_eq_true h2, h3, Bool.true_and]
theorem hop_iff (w : Nat → Nat) (x : Int32) : hop w x = true ↔ ∃ o, o < 6 ∧ x = nI o ∧ 0 < w o := by
  constructor
  · intro h
    simp only [hop, Bool.and_eq_true, decide_eq_true_eq] at h
    obtain ⟨⟨h1, h2⟩, h3⟩ := h
    refine ⟨x.toInt.toNat, by omega, ?_, h3⟩
    apply Int32.toInt_inj.mp
    rw [nI_toInt (by omega)]
    omega
  · rintro ⟨o, ho, rfl, hw⟩
    rw [hop_nI w ho]; simpa using hw
theorem nI_le0 {k : Nat} (h : k < 2 ^ 31) : nI k ≤ 0 ↔ k = 0 := by
  have := nI_leI (a := k) (b := 0) h (by decide)
  rw [nI_0] at this
  rw [this]; omega
theorem nI_eq0 {k : Nat} (h : k < 2 ^ 31) : nI k = 0 ↔ k = 0 := by
  have := nI_eq (a := k) (b := 0) h (by decide)
  rw [nI_0] at this
  exact this
theorem nI_lt0 {k : Nat} (h : k < 2 ^ 31) : ¬ nI k < 0 := nI_pos h
theorem b_nat0 (b : Bool) : nI b.toNat = 0 ↔ b = false := by cases b <;> decide +kernel
theorem b_nar (b : Bool) : narrow .boolean (.int (nI b.toNat)) = .int (nI b.toNat) := by cases b <;> decide +kernel
theorem nI_cases {k : Nat} (h : k < 2 ^ 31) : (nI k = 0 ∧ k = 0) ∨ (¬ nI k = 0 ∧ 0 < k) := by
  by_cases e : k = 0
  · exact Or.inl ⟨(nI_eq0 h).mpr e, e⟩
  · exact Or.inr ⟨fun q => e ((nI_eq0 h).mp q), by omega⟩
theorem b_nf {b : Bool} (h : ¬ nI b.toNat = 0) : b = true := by
  cases b with
  | true => rfl
  | false => exact absurd ((b_nat0 false).mpr rfl) h
/-- whether the bit b may stand at place j, counted from the lowest -/
def alw (it : Nat → Nat) (n j b : Nat) : Bool := if n ≤ j then b == 0 else (decide (2 ≤ it (n - 1 - j)) || it (n - 1 - j) == b)
theorem alw_a {it : Nat → Nat} {n j b : Nat} (h : ¬ j < n) (h2 : b = 0) : nI 1 = nI (alw it n j b).toNat := by
  unfold alw; rw [if_pos (by omega), h2]; rfl
theorem alw_b {it : Nat → Nat} {n j b : Nat} (h : ¬ j < n) (h2 : ¬ b = 0) : nI 0 = nI (alw it n j b).toNat := by
  unfold alw; rw [if_pos (by omega), beq_eq_false_iff_ne.mpr h2]; rfl
theorem alw_c {it : Nat → Nat} {n j b : Nat} (h : j < n) (h2 : ¬ it (n - 1 - j) < 2) : nI 1 = nI (alw it n j b).toNat := by
  unfold alw; rw [if_neg (by omega), decide_eq_true (by omega)]; rfl
theorem alw_d {it : Nat → Nat} {n j b : Nat} (h : j < n) (h2 : it (n - 1 - j) < 2) (h3 : it (n - 1 - j) = b) : nI 1 = nI (alw it n j b).toNat := by
  unfold alw; rw [if_neg (by omega), h3, beq_self_eq_true, Bool.or_true]; rfl
theorem alw_e {it : Nat → Nat} {n j b : Nat} (h : j < n) (h2 : it (n - 1 - j) < 2) (h3 : ¬ it (n - 1 - j) = b) : nI 0 = nI (alw it n j b).toNat := by
  unfold alw; rw [if_neg (by omega), decide_eq_false (by omega), beq_eq_false_iff_ne.mpr h3]; rfl
end
section
set_option maxHeartbeats 4000000 in
set_option maxRecDepth 100000 in
theorem c_F_bitOf (l : Launch) (v : Int64) (k : Nat) (hk : k < 64) : Met l yF_bitOf wF_bitOf { frames := 0, cells := 0, slots := 0, locals := 0 } (fun av9 _ => av9 = ([.long v, .int (nI k)] : List Value).toArray) (vp_Si (fun r => r = nI (bq v k))) 0 0 (fun _ => False) := by
  refine Met.ofW (cc := cF_bitOf) (maxL := 3) (ret := (some .int)) (by decide) rfl ?_
  intro p e s m args below meth c s₁ B hml hv
  obtain rfl := hv
  have hx := B.exec
  have hb := B.bytes
  have hr := B.returns
  have hts := atoms_spec (ws := wF_bitOf) B.pre
  have hw : ∀ w ∈ wA, w.before _ s = true := fun w h => hts w (List.mem_cons_of_mem _ h)
  have hown : s.vm.findClass RF = some m.cls := findClass_of_methodNamed B.named
  have hlocks := B.notSynchronized
  have hl := lv_entry ([.long v, .int (nI k)]) (n := 3) (Nat.le_of_ble_eq_true rfl)
  rw [lg_entry_eq]
  generalize (lg_sl ([.long v, .int (nI k)]) ++ List.replicate (3 - (lg_sl ([.long v, .int (nI k)])).length) Slot.unset).toArray = ls at hl ⊢
  have hl : lv_has ls 3 [(0, .long v), (2, .int (nI k))] := hl
  refine lv_lload_n hx hb dF_bitOf_0 rfl (lv_at hl 0 rfl) ?_
  refine lv_iload_n hx hb dF_bitOf_1 rfl (lv_at hl 1 rfl) ?_
  refine lv_lushr hx hb dF_bitOf_2 rfl ?_
  refine lv_topl (fun v2 e2 => ?_)
  refine lv_lconst (v := lN 1) hx hb dF_bitOf_3 (by decide +kernel) ?_
  refine lv_land hx hb dF_bitOf_4 ?_
  refine lv_topl (fun v4 e4 => ?_)
  refine lv_l2i hx hb dF_bitOf_5 rfl ?_
  refine lv_topi (fun v5 e5 => ?_)
  exact W.iret (v := v5) hx hb hr (fun t ht hW => ⟨_, rfl, (by rw [e5, e4, e2]; exact bq_u v hk), ht⟩) (fun q h => nomatch h) dF_bitOf_6

set_option maxHeartbeats 4000000 in
set_option maxRecDepth 100000 in
theorem c_F_fixedBits (l : Launch) (dC : Nat → ClassId) (dI : Nat → Nat → Nat) (cI cZ : ClassId) (h pw ps po pk n : Nat) (wd sg ow co : Nat → Int32) (it w : Nat → Nat) (sb : Nat → Bool) (hF : fR n it w sb wd sg ow co) : Met l yF_fixedBits wF_fixedBits { frames := 0, cells := 0, slots := 0, locals := 0 } (ro_Pc (dC, dI) cls3 [(h, .inr (0, [.ref pw, .ref ps, .ref po, .ref pk, .int (nI n)])), (pw, .inl (cI, 6, .inl wd)), (ps, .inl (cZ, 6, .inl sg)), (po, .inl (cI, 64, .inl ow)), (pk, .inl (cI, 64, .inl co))] [(cI, .int), (cZ, .boolean)] [.ref h]) (vp_Si (fun r => r = nI (cw_fix it n))) 0 0 (fun _ => False) := by
  refine Met.ofW (cc := cF_fixedBits) (maxL := 3) (ret := (some .int)) (by decide) rfl ?_
  intro p e s m args below meth c s₁ B hml hv
  obtain ⟨rfl, hP, hK⟩ := hv
  have hx := B.exec
  have hb := B.bytes
  have hr := B.returns
  have hts := atoms_spec (ws := wF_fixedBits) B.pre
  have hw : ∀ w ∈ wA, w.before _ s = true := fun w h => hts w (List.mem_cons_of_mem _ h)
  have hown : s.vm.findClass RF = some m.cls := findClass_of_methodNamed B.named
  have hlocks := B.notSynchronized
  have hl := lv_entry ([.ref h]) (n := 3) (Nat.le_of_ble_eq_true rfl)
  rw [lg_entry_eq]
  generalize (lg_sl ([.ref h]) ++ List.replicate (3 - (lg_sl ([.ref h])).length) Slot.unset).toArray = ls at hl ⊢
  have hl : lv_has ls 3 [(0, .ref h)] := hl
  have hn : n ≤ 64 := hF.1.1
  have hwd := hF.2.1
  have hsg := hF.2.2.1
  have hoc := hF.2.2.2
  have hit := cw_it hF.1
  have hw64 := hF.1.2.1
  refine lv_iconst (v := nI 0) hx hb dF_fixedBits_0 (by decide +kernel) ?_
  refine lv_istore_n hx hb dF_fixedBits_1 rfl hl (by decide) rfl (fun ls hl => ?_)
  have hl : lv_has ls 3 [(1, .int (nI 0)), (0, .ref h)] := hl
  refine lv_iconst (v := nI 0) hx hb dF_fixedBits_2 (by decide +kernel) ?_
  refine lv_istore_n hx hb dF_fixedBits_3 rfl hl (by decide) rfl (fun ls hl => ?_)
  have hl : lv_has ls 3 [(2, .int (nI 0)), (1, .int (nI 0)), (0, .ref h)] := hl
  refine (?_ : ∀ (kk : Nat) (i : Nat) (ls : Array Slot), kk = n - i → lv_has ls 3 [(2, .int (nI i)), (1, .int (nI (cw_fix it i))), (0, .ref h)] → (i ≤ n) → W p l e _ s m _ below meth c _ _ _ _ _ (F0 m 4 ls [])) _ 0 ls rfl (lv_sub hl [0, 1, 2] rfl) (by omega)
  intro kk
  induction kk using Nat.strongRecOn with
  | ind kk4 ih4 =>
    intro i ls hkk4 hl hi
    refine lv_iload_n hx hb dF_fixedBits_4 rfl (lv_at hl 0 rfl) ?_
    refine lv_aload_n hx hb dF_fixedBits_5 rfl (lv_at hl 2 rfl) ?_
    refine va_get (D := (dC, dI)) (ci := 0) (v := .int (nI n)) (C := RF) (T := TF) (N := 5) hx hb hw inF hown hK hP 0 rfl rfl 4 (by decide) (hw _ kw_44) (fun _ h9 => h9) rfl dF_fixedBits_6 ?_
    refine lv_icmp_ge (tgt := 31) hx hb dF_fixedBits_9 (by decide) (fun h9 => ?_) (fun h9 => ?_)
    · rw [nI_leI (by omega) (by omega)] at h9
      refine lv_iload_n hx hb dF_fixedBits_31 rfl (lv_at hl 1 rfl) ?_
      exact W.iret (v := nI (cw_fix it i)) hx hb hr (fun t ht hW => ⟨_, rfl, (by rw [show i = n by omega]), ht⟩) (fun q h => nomatch h) dF_fixedBits_32
    · rw [nI_leI (by omega) (by omega)] at h9
      refine lv_aload_n hx hb dF_fixedBits_12 rfl (lv_at hl 2 rfl) ?_
      refine va_get (D := (dC, dI)) (ci := 0) (v := .ref po) (C := RF) (T := TF) (N := 5) hx hb hw inF hown hK hP 0 rfl rfl 2 (by decide) (hw _ kw_42) (fun _ h9 => h9) rfl dF_fixedBits_13 ?_
      refine lv_iload_n hx hb dF_fixedBits_16 rfl (lv_at hl 0 rfl) ?_
      refine va_iald hx hb hK hP 3 0 rfl rfl (vp_in_nI (by omega) (by decide)) dF_fixedBits_17 ?_
      refine lv_topi (fun v17 e17 => ?_)
      rw [nI_clamp (by omega)] at e17
      obtain rfl : v17 = cw_O (it i) := e17.trans (hoc i (by omega)).1
      refine lv_iconst (v := (-1)) hx hb dF_fixedBits_18 (by decide +kernel) ?_
      refine lv_icmp_ne (tgt := 25) hx hb dF_fixedBits_19 (by decide) (fun h19 => ?_) (fun h19 => ?_)
      · rw [cw_O_m1 (hit i (by omega))] at h19
        refine lv_iinc (k := 0) (v := nI (i + 1)) hx hb dF_fixedBits_25 hl rfl (cw_inc _) (by decide) rfl (fun ls hl => ?_)
        have hl : lv_has ls 3 [(2, .int (nI (i + 1))), (1, .int (nI (cw_fix it i))), (0, .ref h)] := hl
        refine lv_goto (tgt := 4) hx hb dF_fixedBits_28 (by decide) ?_
        exact ih4 _ (by omega) (i + 1) ls rfl (cw_lvx (lv_sub (l' := [(2, .int (nI (i + 1))), (1, .int (nI (cw_fix it i))), (0, .ref h)]) hl [0, 1, 2] rfl) (by simp only [cw_fix]; first | (rw [if_neg h19]; rfl) | (rw [if_pos h19]))) (by omega)
      · rw [cw_O_m1 (hit i (by omega))] at h19
        refine lv_iinc (k := 1) (v := nI ((cw_fix it i) + 1)) hx hb dF_fixedBits_22 hl rfl (cw_inc _) (by decide) rfl (fun ls hl => ?_)
        have hl : lv_has ls 3 [(1, .int (nI ((cw_fix it i) + 1))), (2, .int (nI i)), (0, .ref h)] := hl
        refine lv_iinc (k := 1) (v := nI (i + 1)) hx hb dF_fixedBits_25 hl rfl (cw_inc _) (by decide) rfl (fun ls hl => ?_)
        have hl : lv_has ls 3 [(2, .int (nI (i + 1))), (1, .int (nI ((cw_fix it i) + 1))), (0, .ref h)] := hl
        refine lv_goto (tgt := 4) hx hb dF_fixedBits_28 (by decide) ?_
        exact ih4 _ (by omega) (i + 1) ls rfl (cw_lvx (lv_sub (l' := [(2, .int (nI (i + 1))), (1, .int (nI ((cw_fix it i) + 1))), (0, .ref h)]) hl [0, 1, 2] rfl) (by simp only [cw_fix]; first | (rw [if_neg h19]; rfl) | (rw [if_pos h19]))) (by omega)

set_option maxHeartbeats 4000000 in
set_option maxRecDepth 100000 in
theorem c_F_hasOperand (l : Launch) (dC : Nat → ClassId) (dI : Nat → Nat → Nat) (cI cZ : ClassId) (h pw ps po pk n : Nat) (wd sg ow co : Nat → Int32) (it w : Nat → Nat) (sb : Nat → Bool) (hF : fR n it w sb wd sg ow co) (x : Int32) : Met l yF_hasOperand wF_hasOperand { frames := 0, cells := 0, slots := 0, locals := 0 } (ro_Pc (dC, dI) cls3 [(h, .inr (0, [.ref pw, .ref ps, .ref po, .ref pk, .int (nI n)])), (pw, .inl (cI, 6, .inl wd)), (ps, .inl (cZ, 6, .inl sg)), (po, .inl (cI, 64, .inl ow)), (pk, .inl (cI, 64, .inl co))] [(cI, .int), (cZ, .boolean)] [.ref h, .int x]) (vp_Si (fun r => r = nI (hop w x).toNat)) 0 0 (fun _ => False) := by
  refine Met.ofW (cc := cF_hasOperand) (maxL := 2) (ret := (some .boolean)) (by decide) rfl ?_
  intro p e s m args below meth c s₁ B hml hv
  obtain ⟨rfl, hP, hK⟩ := hv
  have hx := B.exec
  have hb := B.bytes
  have hr := B.returns
  have hts := atoms_spec (ws := wF_hasOperand) B.pre
  have hw : ∀ w ∈ wA, w.before _ s = true := fun w h => hts w (List.mem_cons_of_mem _ h)
  have hown : s.vm.findClass RF = some m.cls := findClass_of_methodNamed B.named
  have hlocks := B.notSynchronized
  have hl := lv_entry ([.ref h, .int x]) (n := 2) (Nat.le_of_ble_eq_true rfl)
  rw [lg_entry_eq]
  generalize (lg_sl ([.ref h, .int x]) ++ List.replicate (2 - (lg_sl ([.ref h, .int x])).length) Slot.unset).toArray = ls at hl ⊢
  have hl : lv_has ls 2 [(0, .ref h), (1, .int x)] := hl
  have hn : n ≤ 64 := hF.1.1
  have hwd := hF.2.1
  have hsg := hF.2.2.1
  have hoc := hF.2.2.2
  have hit := cw_it hF.1
  have hw64 := hF.1.2.1
  refine lv_iload_n hx hb dF_hasOperand_0 rfl (lv_at hl 1 rfl) ?_
  refine lv_if_lt (tgt := 23) hx hb dF_hasOperand_1 (by decide) (fun h1 => ?_) (fun h1 => ?_)
  · refine lv_iconst (v := nI 0) hx hb dF_hasOperand_23 (by decide +kernel) ?_
    exact W.zret (v := nI 0) hx hb hr (by first | exact b_nar _ | decide +kernel) (fun t ht hW => ⟨_, rfl, (by first | exact hop_neg h1 | exact hop_big h7 | (rw [hop_nI w ho, h16]; rfl) | (rw [hop_nI w ho, decide_eq_true (by omega)]; rfl)), ht⟩) (fun q h => nomatch h) dF_hasOperand_24
  · refine lv_iload_n hx hb dF_hasOperand_4 rfl (lv_at hl 1 rfl) ?_
    refine lv_bipush (v := nI 6) hx hb dF_hasOperand_5 (by decide +kernel) ?_
    refine lv_icmp_ge (tgt := 23) hx hb dF_hasOperand_7 (by decide) (fun h7 => ?_) (fun h7 => ?_)
    · refine lv_iconst (v := nI 0) hx hb dF_hasOperand_23 (by decide +kernel) ?_
      exact W.zret (v := nI 0) hx hb hr (by first | exact b_nar _ | decide +kernel) (fun t ht hW => ⟨_, rfl, (by first | exact hop_neg h1 | exact hop_big h7 | (rw [hop_nI w ho, h16]; rfl) | (rw [hop_nI w ho, decide_eq_true (by omega)]; rfl)), ht⟩) (fun q h => nomatch h) dF_hasOperand_24
    · obtain ⟨o, ho, rfl⟩ : ∃ o : Nat, o < 6 ∧ x = nI o := by
        rcases pk_ix x (n := 6) (by decide) with q | q | q
        · exact absurd q h1
        · exact absurd q h7
        · exact q
      refine lv_aload_n hx hb dF_hasOperand_10 rfl (lv_at hl 0 rfl) ?_
      refine va_get (D := (dC, dI)) (ci := 0) (v := .ref pw) (C := RF) (T := TF) (N := 5) hx hb hw inF hown hK hP 0 rfl rfl 0 (by decide) (hw _ kw_39) (fun _ h9 => h9) rfl dF_hasOperand_11 ?_
      refine lv_iload_n hx hb dF_hasOperand_14 rfl (lv_at hl 1 rfl) ?_
      refine va_iald hx hb hK hP 1 0 rfl rfl (vp_in_nI (by omega) (by decide)) dF_hasOperand_15 ?_
      refine lv_topi (fun v15 e15 => ?_)
      rw [nI_clamp (by omega)] at e15
      obtain rfl : v15 = nI (w o) := e15.trans (hwd o (by omega))
      refine lv_if_le (tgt := 23) hx hb dF_hasOperand_16 (by decide) (fun h16 => ?_) (fun h16 => ?_)
      · rw [nI_le0 (by have := hw64 o ho; omega)] at h16
        refine lv_iconst (v := nI 0) hx hb dF_hasOperand_23 (by decide +kernel) ?_
        exact W.zret (v := nI 0) hx hb hr (by first | exact b_nar _ | decide +kernel) (fun t ht hW => ⟨_, rfl, (by first | exact hop_neg h1 | exact hop_big h7 | (rw [hop_nI w ho, h16]; rfl) | (rw [hop_nI w ho, decide_eq_true (by omega)]; rfl)), ht⟩) (fun q h => nomatch h) dF_hasOperand_24
      · rw [nI_le0 (by have := hw64 o ho; omega)] at h16
        refine lv_iconst (v := nI 1) hx hb dF_hasOperand_19 (by decide +kernel) ?_
        refine lv_goto (tgt := 24) hx hb dF_hasOperand_20 (by decide) ?_
        exact W.zret (v := nI 1) hx hb hr (by first | exact b_nar _ | decide +kernel) (fun t ht hW => ⟨_, rfl, (by first | exact hop_neg h1 | exact hop_big h7 | (rw [hop_nI w ho, h16]; rfl) | (rw [hop_nI w ho, decide_eq_true (by omega)]; rfl)), ht⟩) (fun q h => nomatch h) dF_hasOperand_24

set_option maxHeartbeats 4000000 in
set_option maxRecDepth 100000 in
theorem c_F_operands (l : Launch) (dC : Nat → ClassId) (dI : Nat → Nat → Nat) (cI cZ : ClassId) (h pw ps po pk n : Nat) (wd sg ow co : Nat → Int32) (it w : Nat → Nat) (sb : Nat → Bool) (hF : fR n it w sb wd sg ow co) : Met l yF_operands wF_operands { frames := 0, cells := 0, slots := 0, locals := 0 } (ro_Pc (dC, dI) cls3 [(h, .inr (0, [.ref pw, .ref ps, .ref po, .ref pk, .int (nI n)])), (pw, .inl (cI, 6, .inl wd)), (ps, .inl (cZ, 6, .inl sg)), (po, .inl (cI, 64, .inl ow)), (pk, .inl (cI, 64, .inl co))] [(cI, .int), (cZ, .boolean)] [.ref h]) (vp_Si (fun r => r = nI (cw_ops w 6))) 0 0 (fun _ => False) := by
  refine Met.ofW (cc := cF_operands) (maxL := 3) (ret := (some .int)) (by decide) rfl ?_
  intro p e s m args below meth c s₁ B hml hv
  obtain ⟨rfl, hP, hK⟩ := hv
  have hx := B.exec
  have hb := B.bytes
  have hr := B.returns
  have hts := atoms_spec (ws := wF_operands) B.pre
  have hw : ∀ w ∈ wA, w.before _ s = true := fun w h => hts w (List.mem_cons_of_mem _ h)
  have hown : s.vm.findClass RF = some m.cls := findClass_of_methodNamed B.named
  have hlocks := B.notSynchronized
  have hl := lv_entry ([.ref h]) (n := 3) (Nat.le_of_ble_eq_true rfl)
  rw [lg_entry_eq]
  generalize (lg_sl ([.ref h]) ++ List.replicate (3 - (lg_sl ([.ref h])).length) Slot.unset).toArray = ls at hl ⊢
  have hl : lv_has ls 3 [(0, .ref h)] := hl
  have hn : n ≤ 64 := hF.1.1
  have hwd := hF.2.1
  have hsg := hF.2.2.1
  have hoc := hF.2.2.2
  have hit := cw_it hF.1
  have hw64 := hF.1.2.1
  refine lv_iconst (v := nI 0) hx hb dF_operands_0 (by decide +kernel) ?_
  refine lv_istore_n hx hb dF_operands_1 rfl hl (by decide) rfl (fun ls hl => ?_)
  have hl : lv_has ls 3 [(1, .int (nI 0)), (0, .ref h)] := hl
  refine lv_iconst (v := nI 0) hx hb dF_operands_2 (by decide +kernel) ?_
  refine lv_istore_n hx hb dF_operands_3 rfl hl (by decide) rfl (fun ls hl => ?_)
  have hl : lv_has ls 3 [(2, .int (nI 0)), (1, .int (nI 0)), (0, .ref h)] := hl
  refine (?_ : ∀ (kk : Nat) (i : Nat) (ls : Array Slot), kk = 6 - i → lv_has ls 3 [(2, .int (nI i)), (1, .int (nI (cw_ops w i))), (0, .ref h)] → (i ≤ 6) → W p l e _ s m _ below meth c _ _ _ _ _ (F0 m 4 ls [])) _ 0 ls rfl (lv_sub hl [0, 1, 2] rfl) (by omega)
  intro kk
  induction kk using Nat.strongRecOn with
  | ind kk4 ih4 =>
    intro i ls hkk4 hl hi
    refine lv_iload_n hx hb dF_operands_4 rfl (lv_at hl 0 rfl) ?_
    refine lv_bipush (v := nI 6) hx hb dF_operands_5 (by decide +kernel) ?_
    refine lv_icmp_ge (tgt := 28) hx hb dF_operands_7 (by decide) (fun h7 => ?_) (fun h7 => ?_)
    · rw [nI_leI (by omega) (by omega)] at h7
      refine lv_iload_n hx hb dF_operands_28 rfl (lv_at hl 1 rfl) ?_
      exact W.iret (v := nI (cw_ops w i)) hx hb hr (fun t ht hW => ⟨_, rfl, (by rw [show i = 6 by omega]), ht⟩) (fun q h => nomatch h) dF_operands_29
    · rw [nI_leI (by omega) (by omega)] at h7
      refine lv_aload_n hx hb dF_operands_10 rfl (lv_at hl 2 rfl) ?_
      refine va_get (D := (dC, dI)) (ci := 0) (v := .ref pw) (C := RF) (T := TF) (N := 5) hx hb hw inF hown hK hP 0 rfl rfl 0 (by decide) (hw _ kw_39) (fun _ h9 => h9) rfl dF_operands_11 ?_
      refine lv_iload_n hx hb dF_operands_14 rfl (lv_at hl 0 rfl) ?_
      refine va_iald hx hb hK hP 1 0 rfl rfl (vp_in_nI (by omega) (by decide)) dF_operands_15 ?_
      refine lv_topi (fun v15 e15 => ?_)
      rw [nI_clamp (by omega)] at e15
      obtain rfl : v15 = nI (w i) := e15.trans (hwd i (by omega))
      refine lv_if_le (tgt := 22) hx hb dF_operands_16 (by decide) (fun h16 => ?_) (fun h16 => ?_)
      · rw [nI_le0 (by have := hw64 i (by omega); omega)] at h16
        refine lv_iinc (k := 0) (v := nI (i + 1)) hx hb dF_operands_22 hl rfl (cw_inc _) (by decide) rfl (fun ls hl => ?_)
        have hl : lv_has ls 3 [(2, .int (nI (i + 1))), (1, .int (nI (cw_ops w i))), (0, .ref h)] := hl
        refine lv_goto (tgt := 4) hx hb dF_operands_25 (by decide) ?_
        exact ih4 _ (by omega) (i + 1) ls rfl (cw_lvx (lv_sub (l' := [(2, .int (nI (i + 1))), (1, .int (nI (cw_ops w i))), (0, .ref h)]) hl [0, 1, 2] rfl) (by simp only [cw_ops]; first | (rw [if_neg (by omega)]; rfl) | (rw [if_pos (by omega)]))) (by omega)
      · rw [nI_le0 (by have := hw64 i (by omega); omega)] at h16
        refine lv_iinc (k := 1) (v := nI ((cw_ops w i) + 1)) hx hb dF_operands_19 hl rfl (cw_inc _) (by decide) rfl (fun ls hl => ?_)
        have hl : lv_has ls 3 [(1, .int (nI ((cw_ops w i) + 1))), (2, .int (nI i)), (0, .ref h)] := hl
        refine lv_iinc (k := 1) (v := nI (i + 1)) hx hb dF_operands_22 hl rfl (cw_inc _) (by decide) rfl (fun ls hl => ?_)
        have hl : lv_has ls 3 [(2, .int (nI (i + 1))), (1, .int (nI ((cw_ops w i) + 1))), (0, .ref h)] := hl
        refine lv_goto (tgt := 4) hx hb dF_operands_25 (by decide) ?_
        exact ih4 _ (by omega) (i + 1) ls rfl (cw_lvx (lv_sub (l' := [(2, .int (nI (i + 1))), (1, .int (nI ((cw_ops w i) + 1))), (0, .ref h)]) hl [0, 1, 2] rfl) (by simp only [cw_ops]; first | (rw [if_neg (by omega)]; rfl) | (rw [if_pos (by omega)]))) (by omega)

set_option maxHeartbeats 4000000 in
set_option maxRecDepth 100000 in
theorem c_F_missingBits (l : Launch) (dC : Nat → ClassId) (dI : Nat → Nat → Nat) (cI cZ : ClassId) (h pw ps po pk n : Nat) (wd sg ow co : Nat → Int32) (it w : Nat → Nat) (sb : Nat → Bool) (hF : fR n it w sb wd sg ow co) : Met l yF_missingBits wF_missingBits { frames := 1, cells := 0, slots := 0, locals := 22 } (ro_Pc (dC, dI) cls3 [(h, .inr (0, [.ref pw, .ref ps, .ref po, .ref pk, .int (nI n)])), (pw, .inl (cI, 6, .inl wd)), (ps, .inl (cZ, 6, .inl sg)), (po, .inl (cI, 64, .inl ow)), (pk, .inl (cI, 64, .inl co))] [(cI, .int), (cZ, .boolean)] [.ref h]) (vp_Si (fun r => r = nI (cw_lft it n w 6))) 0 0 (fun _ => False) := by
  refine Met.ofW (cc := cF_missingBits) (maxL := 3) (ret := (some .int)) (by decide) rfl ?_
  intro p e s m args below meth c s₁ B hml hv
  obtain ⟨rfl, hP, hK⟩ := hv
  have hx := B.exec
  have hb := B.bytes
  have hr := B.returns
  have hts := atoms_spec (ws := wF_missingBits) B.pre
  have hw : ∀ w ∈ wA, w.before _ s = true := fun w h => hts w (List.mem_cons_of_mem _ h)
  have hown : s.vm.findClass RF = some m.cls := findClass_of_methodNamed B.named
  have hlocks := B.notSynchronized
  have hl := lv_entry ([.ref h]) (n := 3) (Nat.le_of_ble_eq_true rfl)
  rw [lg_entry_eq]
  generalize (lg_sl ([.ref h]) ++ List.replicate (3 - (lg_sl ([.ref h])).length) Slot.unset).toArray = ls at hl ⊢
  have hl : lv_has ls 3 [(0, .ref h)] := hl
  have hn : n ≤ 64 := hF.1.1
  have hwd := hF.2.1
  have hsg := hF.2.2.1
  have hoc := hF.2.2.2
  have hit := cw_it hF.1
  have hw64 := hF.1.2.1
  refine lv_iconst (v := nI 0) hx hb dF_missingBits_0 (by decide +kernel) ?_
  refine lv_istore_n hx hb dF_missingBits_1 rfl hl (by decide) rfl (fun ls hl => ?_)
  have hl : lv_has ls 3 [(1, .int (nI 0)), (0, .ref h)] := hl
  refine lv_iconst (v := nI 0) hx hb dF_missingBits_2 (by decide +kernel) ?_
  refine lv_istore_n hx hb dF_missingBits_3 rfl hl (by decide) rfl (fun ls hl => ?_)
  have hl : lv_has ls 3 [(2, .int (nI 0)), (1, .int (nI 0)), (0, .ref h)] := hl
  refine (?_ : ∀ (kk : Nat) (i : Nat) (ls : Array Slot), kk = 6 - i → lv_has ls 3 [(2, .int (nI i)), (1, .int (nI (cw_sum w i))), (0, .ref h)] → (i ≤ 6) → W p l e _ s m _ below meth c _ _ _ _ _ (F0 m 4 ls [])) _ 0 ls rfl (lv_sub hl [0, 1, 2] rfl) (by omega)
  intro kk
  induction kk using Nat.strongRecOn with
  | ind kk4 ih4 =>
    intro i ls hkk4 hl hi
    refine lv_iload_n hx hb dF_missingBits_4 rfl (lv_at hl 0 rfl) ?_
    refine lv_bipush (v := nI 6) hx hb dF_missingBits_5 (by decide +kernel) ?_
    refine lv_icmp_ge (tgt := 25) hx hb dF_missingBits_7 (by decide) (fun h7 => ?_) (fun h7 => ?_)
    · rw [nI_leI (by omega) (by omega)] at h7
      refine lv_iload_n hx hb dF_missingBits_25 rfl (lv_at hl 1 rfl) ?_
      refine lv_aload_n hx hb dF_missingBits_26 rfl (lv_at hl 2 rfl) ?_
      refine va_get (D := (dC, dI)) (ci := 0) (v := .int (nI n)) (C := RF) (T := TF) (N := 5) hx hb hw inF hown hK hP 0 rfl rfl 4 (by decide) (hw _ kw_44) (fun _ h9 => h9) rfl dF_missingBits_27 ?_
      refine lv_aload_n hx hb dF_missingBits_30 rfl (lv_at hl 2 rfl) ?_
      refine vp_callSi (W.runV (As := []) (rest := [.int (nI n), .int (nI (cw_sum w i))]) ⟨hx, hb, hml, hown, hw⟩ (c_F_fixedBits l dC dI cI cZ h pw ps po pk n wd sg ow co it w sb hF) (cwV 0 hw (gV kw_268 kw_269 kw_270 kw_15 kw_271) rfl rfl rfl (by decide +kernel) ⟨Nat.le_of_ble_eq_true rfl, Nat.le_of_ble_eq_true rfl⟩) (ro_preV (q0 := 0) hK hP rfl rfl) rfl rfl hl.1 rfl (lv_room (Nat.le_of_ble_eq_true rfl)) dF_missingBits_31 ⟨Nat.zero_le _, Nat.zero_le _⟩) (fun v31 e31 => ?_)
      obtain rfl : v31 = nI (cw_fix it n) := e31
      refine lv_isub hx hb dF_missingBits_34 ?_
      refine lv_topi (fun v34 e34 => ?_)
      obtain rfl : v34 = nI (n - cw_fix it n) := e34.trans (pk_sub (cw_fix_le it n))
      refine lv_isub hx hb dF_missingBits_35 ?_
      refine lv_topi (fun v35 e35 => ?_)
      obtain rfl : v35 = nI (cw_sum w i - (n - cw_fix it n)) := e35.trans (pk_sub (by have := cw_missing it w n hF.1; rw [show i = 6 by omega]; omega))
      exact W.iret (v := nI (cw_sum w i - (n - cw_fix it n))) hx hb hr (fun t ht hW => ⟨_, rfl, (by have := cw_missing it w n hF.1; rw [show i = 6 by omega]; congr 1; omega), ht⟩) (fun q h => nomatch h) dF_missingBits_36
    · rw [nI_leI (by omega) (by omega)] at h7
      refine lv_iload_n hx hb dF_missingBits_10 rfl (lv_at hl 1 rfl) ?_
      refine lv_aload_n hx hb dF_missingBits_11 rfl (lv_at hl 2 rfl) ?_
      refine va_get (D := (dC, dI)) (ci := 0) (v := .ref pw) (C := RF) (T := TF) (N := 5) hx hb hw inF hown hK hP 0 rfl rfl 0 (by decide) (hw _ kw_39) (fun _ h9 => h9) rfl dF_missingBits_12 ?_
      refine lv_iload_n hx hb dF_missingBits_15 rfl (lv_at hl 0 rfl) ?_
      refine va_iald hx hb hK hP 1 0 rfl rfl (vp_in_nI (by omega) (by decide)) dF_missingBits_16 ?_
      refine lv_topi (fun v16 e16 => ?_)
      rw [nI_clamp (by omega)] at e16
      obtain rfl : v16 = nI (w i) := e16.trans (hwd i (by omega))
      refine lv_iadd hx hb dF_missingBits_17 ?_
      refine lv_topi (fun v17 e17 => ?_)
      obtain rfl : v17 = nI (cw_sum w i + w i) := e17.trans (nI_add _ _)
      refine lv_istore_n hx hb dF_missingBits_18 rfl hl (by decide) rfl (fun ls hl => ?_)
      have hl : lv_has ls 3 [(1, .int (nI (cw_sum w i + w i))), (2, .int (nI i)), (0, .ref h)] := hl
      refine lv_iinc (k := 1) (v := nI (i + 1)) hx hb dF_missingBits_19 hl rfl (cw_inc _) (by decide) rfl (fun ls hl => ?_)
      have hl : lv_has ls 3 [(2, .int (nI (i + 1))), (1, .int (nI (cw_sum w i + w i))), (0, .ref h)] := hl
      refine lv_goto (tgt := 4) hx hb dF_missingBits_22 (by decide) ?_
      exact ih4 _ (by omega) (i + 1) ls rfl (cw_lvx (lv_sub (l' := [(2, .int (nI (i + 1))), (1, .int (nI (cw_sum w i + w i))), (0, .ref h)]) hl [0, 1, 2] rfl) (rfl)) (by omega)

set_option maxHeartbeats 4000000 in
set_option maxRecDepth 100000 in
theorem c_F_isWhole (l : Launch) (dC : Nat → ClassId) (dI : Nat → Nat → Nat) (cI cZ : ClassId) (h pw ps po pk n : Nat) (wd sg ow co : Nat → Int32) (it w : Nat → Nat) (sb : Nat → Bool) (hF : fR n it w sb wd sg ow co) : Met l yF_isWhole wF_isWhole { frames := 2, cells := 0, slots := 0, locals := 44 } (ro_Pc (dC, dI) cls3 [(h, .inr (0, [.ref pw, .ref ps, .ref po, .ref pk, .int (nI n)])), (pw, .inl (cI, 6, .inl wd)), (ps, .inl (cZ, 6, .inl sg)), (po, .inl (cI, 64, .inl ow)), (pk, .inl (cI, 64, .inl co))] [(cI, .int), (cZ, .boolean)] [.ref h]) (vp_Si (fun r => r = nI (decide (cw_lft it n w 6 = 0)).toNat)) 0 0 (fun _ => False) := by
  refine Met.ofW (cc := cF_isWhole) (maxL := 1) (ret := (some .boolean)) (by decide) rfl ?_
  intro p e s m args below meth c s₁ B hml hv
  obtain ⟨rfl, hP, hK⟩ := hv
  have hx := B.exec
  have hb := B.bytes
  have hr := B.returns
  have hts := atoms_spec (ws := wF_isWhole) B.pre
  have hw : ∀ w ∈ wA, w.before _ s = true := fun w h => hts w (List.mem_cons_of_mem _ h)
  have hown : s.vm.findClass RF = some m.cls := findClass_of_methodNamed B.named
  have hlocks := B.notSynchronized
  have hl := lv_entry ([.ref h]) (n := 1) (Nat.le_of_ble_eq_true rfl)
  rw [lg_entry_eq]
  generalize (lg_sl ([.ref h]) ++ List.replicate (1 - (lg_sl ([.ref h])).length) Slot.unset).toArray = ls at hl ⊢
  have hl : lv_has ls 1 [(0, .ref h)] := hl
  have hn : n ≤ 64 := hF.1.1
  have hwd := hF.2.1
  have hsg := hF.2.2.1
  have hoc := hF.2.2.2
  have hit := cw_it hF.1
  have hw64 := hF.1.2.1
  have hlf : cw_lft it n w 6 ≤ 384 := by have := cw_missing it w n hF.1; have := cw_sum_le w 6 hw64; omega
  refine lv_aload_n hx hb dF_isWhole_0 rfl (lv_at hl 0 rfl) ?_
  refine vp_callSi (W.runV (As := []) (rest := []) ⟨hx, hb, hml, hown, hw⟩ (c_F_missingBits l dC dI cI cZ h pw ps po pk n wd sg ow co it w sb hF) (cwV 0 hw (gV kw_264 kw_265 kw_266 kw_15 kw_267) rfl rfl rfl (by decide +kernel) ⟨Nat.le_of_ble_eq_true rfl, Nat.le_of_ble_eq_true rfl⟩) (ro_preV (q0 := 0) hK hP rfl rfl) rfl rfl hl.1 rfl (lv_room (Nat.le_of_ble_eq_true rfl)) dF_isWhole_1 ⟨Nat.zero_le _, Nat.zero_le _⟩) (fun v1 e1 => ?_)
  obtain rfl : v1 = nI (cw_lft it n w 6) := e1
  refine lv_if_ne (tgt := 11) hx hb dF_isWhole_4 (by decide) (fun h4 => ?_) (fun h4 => ?_)
  · rw [nI_eq0 (by omega)] at h4
    refine lv_iconst (v := nI 0) hx hb dF_isWhole_11 (by decide +kernel) ?_
    exact W.zret (v := nI 0) hx hb hr (by first | exact b_nar _ | decide +kernel) (fun t ht hW => ⟨_, rfl, (by first | (rw [decide_eq_false h4]; rfl) | (rw [decide_eq_true h4]; rfl)), ht⟩) (fun q h => nomatch h) dF_isWhole_12
  · rw [nI_eq0 (by omega)] at h4
    refine lv_iconst (v := nI 1) hx hb dF_isWhole_7 (by decide +kernel) ?_
    refine lv_goto (tgt := 12) hx hb dF_isWhole_8 (by decide) ?_
    exact W.zret (v := nI 1) hx hb hr (by first | exact b_nar _ | decide +kernel) (fun t ht hW => ⟨_, rfl, (by first | (rw [decide_eq_false h4]; rfl) | (rw [decide_eq_true h4]; rfl)), ht⟩) (fun q h => nomatch h) dF_isWhole_12

set_option maxHeartbeats 4000000 in
set_option maxRecDepth 100000 in
theorem c_F_allows (l : Launch) (dC : Nat → ClassId) (dI : Nat → Nat → Nat) (cI cZ : ClassId) (h pw ps po pk n : Nat) (wd sg ow co : Nat → Int32) (it w : Nat → Nat) (sb : Nat → Bool) (hF : fR n it w sb wd sg ow co) (j b : Nat) (hj : j < 64) (hb2 : b < 2) : Met l yF_allows wF_allows { frames := 0, cells := 0, slots := 0, locals := 0 } (ro_Pc (dC, dI) cls3 [(h, .inr (0, [.ref pw, .ref ps, .ref po, .ref pk, .int (nI n)])), (pw, .inl (cI, 6, .inl wd)), (ps, .inl (cZ, 6, .inl sg)), (po, .inl (cI, 64, .inl ow)), (pk, .inl (cI, 64, .inl co))] [(cI, .int), (cZ, .boolean)] [.ref h, .int (nI j), .int (nI b)]) (vp_Si (fun r => r = nI (alw it n j b).toNat)) 0 0 (fun _ => False) := by
  refine Met.ofW (cc := cF_allows) (maxL := 4) (ret := (some .boolean)) (by decide) rfl ?_
  intro p e s m args below meth c s₁ B hml hv
  obtain ⟨rfl, hP, hK⟩ := hv
  have hx := B.exec
  have hb := B.bytes
  have hr := B.returns
  have hts := atoms_spec (ws := wF_allows) B.pre
  have hw : ∀ w ∈ wA, w.before _ s = true := fun w h => hts w (List.mem_cons_of_mem _ h)
  have hown : s.vm.findClass RF = some m.cls := findClass_of_methodNamed B.named
  have hlocks := B.notSynchronized
  have hl := lv_entry ([.ref h, .int (nI j), .int (nI b)]) (n := 4) (Nat.le_of_ble_eq_true rfl)
  rw [lg_entry_eq]
  generalize (lg_sl ([.ref h, .int (nI j), .int (nI b)]) ++ List.replicate (4 - (lg_sl ([.ref h, .int (nI j), .int (nI b)])).length) Slot.unset).toArray = ls at hl ⊢
  have hl : lv_has ls 4 [(0, .ref h), (1, .int (nI j)), (2, .int (nI b))] := hl
  have hn : n ≤ 64 := hF.1.1
  have hwd := hF.2.1
  have hsg := hF.2.2.1
  have hoc := hF.2.2.2
  have hit := cw_it hF.1
  have hw64 := hF.1.2.1
  refine lv_iload_n hx hb dF_allows_0 rfl (lv_at hl 1 rfl) ?_
  refine lv_aload_n hx hb dF_allows_1 rfl (lv_at hl 0 rfl) ?_
  refine va_get (D := (dC, dI)) (ci := 0) (v := .int (nI n)) (C := RF) (T := TF) (N := 5) hx hb hw inF hown hK hP 0 rfl rfl 4 (by decide) (hw _ kw_44) (fun _ h9 => h9) rfl dF_allows_2 ?_
  refine lv_icmp_lt (tgt := 18) hx hb dF_allows_5 (by decide) (fun h5 => ?_) (fun h5 => ?_)
  · rw [nI_ltI (by omega) (by omega)] at h5
    refine lv_aload_n hx hb dF_allows_18 rfl (lv_at hl 0 rfl) ?_
    refine va_get (D := (dC, dI)) (ci := 0) (v := .int (nI n)) (C := RF) (T := TF) (N := 5) hx hb hw inF hown hK hP 0 rfl rfl 4 (by decide) (hw _ kw_44) (fun _ h9 => h9) rfl dF_allows_19 ?_
    refine lv_iconst (v := nI 1) hx hb dF_allows_22 (by decide +kernel) ?_
    refine lv_isub hx hb dF_allows_23 ?_
    refine lv_topi (fun v23 e23 => ?_)
    obtain rfl : v23 = nI (n - 1) := e23.trans (pk_sub (by omega))
    refine lv_iload_n hx hb dF_allows_24 rfl (lv_at hl 1 rfl) ?_
    refine lv_isub hx hb dF_allows_25 ?_
    refine lv_topi (fun v25 e25 => ?_)
    obtain rfl : v25 = nI (n - 1 - j) := e25.trans (pk_sub (by omega))
    refine lv_istore_n hx hb dF_allows_26 rfl hl (by decide) rfl (fun ls hl => ?_)
    have hl : lv_has ls 4 [(3, .int (nI (n - 1 - j))), (0, .ref h), (1, .int (nI j)), (2, .int (nI b))] := hl
    refine lv_aload_n hx hb dF_allows_27 rfl (lv_at hl 1 rfl) ?_
    refine va_get (D := (dC, dI)) (ci := 0) (v := .ref po) (C := RF) (T := TF) (N := 5) hx hb hw inF hown hK hP 0 rfl rfl 2 (by decide) (hw _ kw_42) (fun _ h9 => h9) rfl dF_allows_28 ?_
    refine lv_iload_n hx hb dF_allows_31 rfl (lv_at hl 0 rfl) ?_
    refine va_iald hx hb hK hP 3 0 rfl rfl (vp_in_nI (by omega) (by decide)) dF_allows_32 ?_
    refine lv_topi (fun v32 e32 => ?_)
    rw [nI_clamp (by omega)] at e32
    obtain rfl : v32 = cw_O (it (n - 1 - j)) := e32.trans (hoc (n - 1 - j) (by omega)).1
    refine lv_iconst (v := (-1)) hx hb dF_allows_33 (by decide +kernel) ?_
    refine lv_icmp_ne (tgt := 47) hx hb dF_allows_34 (by decide) (fun h34 => ?_) (fun h34 => ?_)
    · rw [cw_O_m1 (hit _ (by omega))] at h34
      refine lv_iconst (v := nI 1) hx hb dF_allows_47 (by decide +kernel) ?_
      refine lv_goto (tgt := 52) hx hb dF_allows_48 (by decide) ?_
      exact W.zret (v := nI 1) hx hb hr (by first | exact b_nar _ | decide +kernel) (fun t ht hW => ⟨_, rfl, (by first | exact alw_a h5 h9 | exact alw_b h5 h9 | exact alw_c h5 h34 | exact alw_d h5 h34 h44 | exact alw_e h5 h34 h44), ht⟩) (fun q h => nomatch h) dF_allows_52
    · rw [cw_O_m1 (hit _ (by omega))] at h34
      refine lv_aload_n hx hb dF_allows_37 rfl (lv_at hl 1 rfl) ?_
      refine va_get (D := (dC, dI)) (ci := 0) (v := .ref pk) (C := RF) (T := TF) (N := 5) hx hb hw inF hown hK hP 0 rfl rfl 3 (by decide) (hw _ kw_43) (fun _ h9 => h9) rfl dF_allows_38 ?_
      refine lv_iload_n hx hb dF_allows_41 rfl (lv_at hl 0 rfl) ?_
      refine va_iald hx hb hK hP 4 0 rfl rfl (vp_in_nI (by omega) (by decide)) dF_allows_42 ?_
      refine lv_topi (fun v42 e42 => ?_)
      rw [nI_clamp (by omega)] at e42
      obtain rfl : v42 = cw_C (it (n - 1 - j)) := e42.trans (hoc (n - 1 - j) (by omega)).2
      refine lv_iload_n hx hb dF_allows_43 rfl (lv_at hl 3 rfl) ?_
      refine lv_icmp_ne (tgt := 51) hx hb dF_allows_44 (by decide) (fun h44 => ?_) (fun h44 => ?_)
      · rw [cw_C_lo h34, nI_eq (by omega) (by omega)] at h44
        refine lv_iconst (v := nI 0) hx hb dF_allows_51 (by decide +kernel) ?_
        exact W.zret (v := nI 0) hx hb hr (by first | exact b_nar _ | decide +kernel) (fun t ht hW => ⟨_, rfl, (by first | exact alw_a h5 h9 | exact alw_b h5 h9 | exact alw_c h5 h34 | exact alw_d h5 h34 h44 | exact alw_e h5 h34 h44), ht⟩) (fun q h => nomatch h) dF_allows_52
      · rw [cw_C_lo h34, nI_eq (by omega) (by omega)] at h44
        refine lv_iconst (v := nI 1) hx hb dF_allows_47 (by decide +kernel) ?_
        refine lv_goto (tgt := 52) hx hb dF_allows_48 (by decide) ?_
        exact W.zret (v := nI 1) hx hb hr (by first | exact b_nar _ | decide +kernel) (fun t ht hW => ⟨_, rfl, (by first | exact alw_a h5 h9 | exact alw_b h5 h9 | exact alw_c h5 h34 | exact alw_d h5 h34 h44 | exact alw_e h5 h34 h44), ht⟩) (fun q h => nomatch h) dF_allows_52
  · rw [nI_ltI (by omega) (by omega)] at h5
    refine lv_iload_n hx hb dF_allows_8 rfl (lv_at hl 2 rfl) ?_
    refine lv_if_ne (tgt := 16) hx hb dF_allows_9 (by decide) (fun h9 => ?_) (fun h9 => ?_)
    · rw [nI_eq0 (by omega)] at h9
      refine lv_iconst (v := nI 0) hx hb dF_allows_16 (by decide +kernel) ?_
      exact W.zret (v := nI 0) hx hb hr (by first | exact b_nar _ | decide +kernel) (fun t ht hW => ⟨_, rfl, (by first | exact alw_a h5 h9 | exact alw_b h5 h9 | exact alw_c h5 h34 | exact alw_d h5 h34 h44 | exact alw_e h5 h34 h44), ht⟩) (fun q h => nomatch h) dF_allows_17
    · rw [nI_eq0 (by omega)] at h9
      refine lv_iconst (v := nI 1) hx hb dF_allows_12 (by decide +kernel) ?_
      refine lv_goto (tgt := 17) hx hb dF_allows_13 (by decide) ?_
      exact W.zret (v := nI 1) hx hb hr (by first | exact b_nar _ | decide +kernel) (fun t ht hW => ⟨_, rfl, (by first | exact alw_a h5 h9 | exact alw_b h5 h9 | exact alw_c h5 h34 | exact alw_d h5 h34 h44 | exact alw_e h5 h34 h44), ht⟩) (fun q h => nomatch h) dF_allows_17

set_option maxHeartbeats 4000000 in
set_option maxRecDepth 100000 in
theorem c_F_matches (l : Launch) (dC : Nat → ClassId) (dI : Nat → Nat → Nat) (cI cZ : ClassId) (h pw ps po pk n : Nat) (wd sg ow co : Nat → Int32) (it w : Nat → Nat) (sb : Nat → Bool) (hF : fR n it w sb wd sg ow co) (wo : Int64) : Met l yF_matches wF_matches { frames := 1, cells := 0, slots := 0, locals := 23 } (ro_Pc (dC, dI) cls3 [(h, .inr (0, [.ref pw, .ref ps, .ref po, .ref pk, .int (nI n)])), (pw, .inl (cI, 6, .inl wd)), (ps, .inl (cZ, 6, .inl sg)), (po, .inl (cI, 64, .inl ow)), (pk, .inl (cI, 64, .inl co))] [(cI, .int), (cZ, .boolean)] [.ref h, .long wo]) (vp_Si (fun r => r = nI (allb (fun j => alw it n j (bq wo j)) 64).toNat)) 0 0 (fun _ => False) := by
  refine Met.ofW (cc := cF_matches) (maxL := 4) (ret := (some .boolean)) (by decide) rfl ?_
  intro p e s m args below meth c s₁ B hml hv
  obtain ⟨rfl, hP, hK⟩ := hv
  have hx := B.exec
  have hb := B.bytes
  have hr := B.returns
  have hts := atoms_spec (ws := wF_matches) B.pre
  have hw : ∀ w ∈ wA, w.before _ s = true := fun w h => hts w (List.mem_cons_of_mem _ h)
  have hown : s.vm.findClass RF = some m.cls := findClass_of_methodNamed B.named
  have hlocks := B.notSynchronized
  have hl := lv_entry ([.ref h, .long wo]) (n := 4) (Nat.le_of_ble_eq_true rfl)
  rw [lg_entry_eq]
  generalize (lg_sl ([.ref h, .long wo]) ++ List.replicate (4 - (lg_sl ([.ref h, .long wo])).length) Slot.unset).toArray = ls at hl ⊢
  have hl : lv_has ls 4 [(0, .ref h), (1, .long wo)] := hl
  have hn : n ≤ 64 := hF.1.1
  have hwd := hF.2.1
  have hsg := hF.2.2.1
  have hoc := hF.2.2.2
  have hit := cw_it hF.1
  have hw64 := hF.1.2.1
  refine lv_iconst (v := nI 0) hx hb dF_matches_0 (by decide +kernel) ?_
  refine lv_istore_n hx hb dF_matches_1 rfl hl (by decide) rfl (fun ls hl => ?_)
  have hl : lv_has ls 4 [(3, .int (nI 0)), (0, .ref h), (1, .long wo)] := hl
  refine (?_ : ∀ (kk : Nat) (j : Nat) (ls : Array Slot), kk = 64 - j → lv_has ls 4 [(3, .int (nI j)), (0, .ref h), (1, .long wo)] → (j ≤ 64) → (allb (fun j => alw it n j (bq wo j)) j = true) → W p l e _ s m _ below meth c _ _ _ _ _ (F0 m 2 ls [])) _ 0 ls rfl (lv_sub hl [0, 1, 2] rfl) (by omega) rfl
  intro kk
  induction kk using Nat.strongRecOn with
  | ind kk2 ih2 =>
    intro j ls hkk2 hl hj ha
    refine lv_iload_n hx hb dF_matches_2 rfl (lv_at hl 0 rfl) ?_
    refine lv_bipush (v := nI 64) hx hb dF_matches_3 (by decide +kernel) ?_
    refine lv_icmp_ge (tgt := 29) hx hb dF_matches_5 (by decide) (fun h5 => ?_) (fun h5 => ?_)
    · rw [nI_leI (by omega) (by omega)] at h5
      refine lv_iconst (v := nI 1) hx hb dF_matches_29 (by decide +kernel) ?_
      exact W.zret (v := nI 1) hx hb hr (by first | exact b_nar _ | decide +kernel) (fun t ht hW => ⟨_, rfl, (by first | (rw [show j = 64 by omega] at ha; rw [ha]; rfl) | (rw [allb_f _ 64 (k := j) (by omega) ((b_nat0 _).mp h18)]; rfl)), ht⟩) (fun q h => nomatch h) dF_matches_30
    · rw [nI_leI (by omega) (by omega)] at h5
      refine lv_aload_n hx hb dF_matches_8 rfl (lv_at hl 1 rfl) ?_
      refine lv_iload_n hx hb dF_matches_9 rfl (lv_at hl 0 rfl) ?_
      refine lv_lload_n hx hb dF_matches_10 rfl (lv_at hl 2 rfl) ?_
      refine lv_iload_n hx hb dF_matches_11 rfl (lv_at hl 0 rfl) ?_
      refine vp_callSi (W.runS (As := [.long wo, .int (nI j)]) (rest := [.int (nI j), .ref h]) ⟨hx, hb, hml, hown, hw⟩ (c_F_bitOf l wo j (by omega)) (cwS 2 hw (gS kw_223 kw_224 kw_15 kw_225) rfl rfl rfl (by decide +kernel) ⟨Nat.le_of_ble_eq_true rfl, Nat.le_of_ble_eq_true rfl⟩) preEq rfl rfl hl.1 rfl (lv_room (Nat.le_of_ble_eq_true rfl)) dF_matches_12 ⟨Nat.zero_le _, Nat.zero_le _⟩) (fun v12 e12 => ?_)
      obtain rfl : v12 = nI (bq wo j) := e12
      refine vp_callSi (W.runV (As := [.int (nI j), .int (nI (bq wo j))]) (rest := []) ⟨hx, hb, hml, hown, hw⟩ (c_F_allows l dC dI cI cZ h pw ps po pk n wd sg ow co it w sb hF j (bq wo j) (by omega) (bq_lt _ _)) (cwV 2 hw (gV kw_339 kw_341 kw_4 kw_15 kw_342) rfl rfl rfl (by decide +kernel) ⟨Nat.le_of_ble_eq_true rfl, Nat.le_of_ble_eq_true rfl⟩) (ro_preV (q0 := 0) hK hP rfl rfl) rfl rfl hl.1 rfl (lv_room (Nat.le_of_ble_eq_true rfl)) dF_matches_15 ⟨Nat.zero_le _, Nat.zero_le _⟩) (fun v15 e15 => ?_)
      obtain rfl : v15 = nI (alw it n j (bq wo j)).toNat := e15
      refine lv_if_ne (tgt := 23) hx hb dF_matches_18 (by decide) (fun h18 => ?_) (fun h18 => ?_)
      · refine lv_iinc (k := 0) (v := nI (j + 1)) hx hb dF_matches_23 hl rfl (cw_inc _) (by decide) rfl (fun ls hl => ?_)
        have hl : lv_has ls 4 [(3, .int (nI (j + 1))), (0, .ref h), (1, .long wo)] := hl
        refine lv_goto (tgt := 2) hx hb dF_matches_26 (by decide) ?_
        exact ih2 _ (by omega) (j + 1) ls rfl (lv_sub (l' := [(3, .int (nI (j + 1))), (0, .ref h), (1, .long wo)]) hl [0, 1, 2] rfl) (by omega) (by simp only [allb, ha, Bool.true_and]; exact b_nf h18)
      · refine lv_iconst (v := nI 0) hx hb dF_matches_21 (by decide +kernel) ?_
        exact W.zret (v := nI 0) hx hb hr (by first | exact b_nar _ | decide +kernel) (fun t ht hW => ⟨_, rfl, (by first | (rw [show j = 64 by omega] at ha; rw [ha]; rfl) | (rw [allb_f _ 64 (k := j) (by omega) ((b_nat0 _).mp h18)]; rfl)), ht⟩) (fun q h => nomatch h) dF_matches_22
end
section
def hcd (it : Nat → Nat) (o hi lo j : Nat) : Bool := decide (¬ it j < 2 ∧ (it j - 2) / 64 = o ∧ lo ≤ (it j - 2) % 64 ∧ (it j - 2) % 64 ≤ hi)
theorem hcd_f {it : Nat → Nat} {o hi lo j : Nat} (h : ¬ (¬ it j < 2 ∧ (it j - 2) / 64 = o ∧ lo ≤ (it j - 2) % 64 ∧ (it j - 2) % 64 ≤ hi)) : (!hcd it o hi lo j) = true := by
  unfold hcd; rw [decide_eq_false h]; rfl
theorem hcd_t {it : Nat → Nat} {o hi lo j : Nat} (h : ¬ it j < 2 ∧ (it j - 2) / 64 = o ∧ lo ≤ (it j - 2) % 64 ∧ (it j - 2) % 64 ≤ hi) : (!hcd it o hi lo j) = false := by
  unfold hcd; rw [decide_eq_true h]; rfl
theorem b_ff {b : Bool} (h : ¬ b = true) : b = false := by cases b <;> simp_all
theorem fitB_64 (sg : Bool) (v : Int64) : fitB 64 sg v = true := (fitB_iff 64 sg v).mpr (fun k h1 h2 => by omega)
/-- bit i of a word by the numbers of the operands -/
def ebit (it : Nat → Nat) (nu : Nat → Int64) (i : Nat) : Nat := if it i < 2 then it i else bq (nu ((it i - 2) / 64)) ((it i - 2) % 64)
theorem ebit_lt (it : Nat → Nat) (nu : Nat → Int64) (i : Nat) : ebit it nu i < 2 := by
  unfold ebit; split
  · assumption
  · exact bq_lt _ _
theorem ebit_lo {it : Nat → Nat} {nu : Nat → Int64} {i : Nat} (h : it i < 2) : cw_C (it i) = nI (ebit it nu i) := by
  rw [cw_C_lo h]; unfold ebit; rw [if_pos h]
theorem ebit_hi {it : Nat → Nat} {nu : Nat → Int64} {i : Nat} (h : ¬ it i < 2) : nI (bq (nu ((it i - 2) / 64)) ((it i - 2) % 64)) = nI (ebit it nu i) := by
  unfold ebit; rw [if_neg h]
/-- bit k of operand o in a word, as far as i items tell -/
def dsp (it : Nat → Nat) (n o : Nat) (wo : Int64) : Nat → Nat → Nat
  | 0, _ => 0
  | i + 1, k => if it i = 2 + 64 * o + k then bq wo (n - 1 - i) else dsp it n o wo i k
theorem dsp_0 (it : Nat → Nat) (n o : Nat) (wo : Int64) : ∀ k, k < 64 → bq (lN 0) k = dsp it n o wo 0 k := by
  intro k _
  rw [bq_lN (by decide)]
  simp [dsp]
theorem dsp_none {it : Nat → Nat} {n o : Nat} {wo : Int64} {k : Nat} : ∀ i, (∀ j, j < i → it j ≠ 2 + 64 * o + k) → dsp it n o wo i k = 0 := by
  intro i
  induction i with
  | zero => intro _; rfl
  | succ i ih =>
    intro h
    simp only [dsp]
    rw [if_neg (h i (by omega))]
    exact ih (fun j hj => h j (by omega))
theorem dsp_at {it w : Nat → Nat} {n o : Nat} {wo : Int64} {k : Nat} (hok : cw_ok it n w) {j : Nat} (hj : j < n) (e : it j = 2 + 64 * o + k) : ∀ i, j < i → i ≤ n → dsp it n o wo i k = bq wo (n - 1 - j) := by
  intro i
  induction i with
  | zero => intro h; omega
  | succ i ih =>
    intro h1 h2
    simp only [dsp]
    by_cases hi : it i = 2 + 64 * o + k
    · have : i = j := hok.2.2.2 i j (by omega) hj (by omega) (by omega)
      rw [if_pos hi, this]
    · rw [if_neg hi]
      have : j ≠ i := fun q => hi (by rw [← q]; exact e)
      exact ih (by omega) (by omega)
theorem dsp_skip {it : Nat → Nat} {n o i : Nat} {wo x : Int64} (hd : ∀ k, k < 64 → bq x k = dsp it n o wo i k) (h : ¬ (¬ it i < 2 ∧ (it i - 2) / 64 = o)) : ∀ k, k < 64 → bq x k = dsp it n o wo (i + 1) k := by
  intro k hk
  simp only [dsp]
  rw [if_neg (fun q => h ⟨by omega, by omega⟩)]
  exact hd k hk
theorem dsp_put {it w : Nat → Nat} {n o i : Nat} {wo x : Int64} (hok : cw_ok it n w) (hi : i < n) (ho : o < 6) (hd : ∀ k, k < 64 → bq x k = dsp it n o wo i k) (h : ¬ it i < 2 ∧ (it i - 2) / 64 = o) :
    ∀ k, k < 64 → bq (x ||| (lN (bq wo (n - 1 - i)) <<< ((nI ((it i - 2) % 64)).toInt64 &&& 63))) k = dsp it n o wo (i + 1) k := by
  intro k hk
  have hb := bq_lt wo (n - 1 - i)
  rw [bq_or, bq_one _ _ _ hb (by omega), hd k hk]
  simp only [dsp]
  by_cases e : k = (it i - 2) % 64
  · have hx : it i = 2 + 64 * o + k := by omega
    rw [if_pos hx, if_pos e]
    rw [dsp_none i (fun j hj q => by
      have := hok.2.2.2 j i (by omega) hi (by omega) (by omega)
      omega)]
    by_cases h1 : bq wo (n - 1 - i) = 1
    · rw [if_pos (Or.inr h1), h1]
    · rw [if_neg (by omega)]; omega
  · have hx : ¬ it i = 2 + 64 * o + k := by omega
    rw [if_neg hx, if_neg e]
    have hl : dsp it n o wo i k < 2 := by rw [← hd k hk]; exact bq_lt _ _
    by_cases h1 : dsp it n o wo i k = 1
    · rw [if_pos (Or.inl h1), h1]
    · rw [if_neg (by omega)]; omega
/-- r is the number of operand o (w bits, signed or not) in the word -/
def dcP (it : Nat → Nat) (n w : Nat) (sg : Bool) (o : Nat) (wo : Int64) (r : Int64) : Prop :=
  ∀ k, k < 64 → ∀ j, j < n → it j = 2 + 64 * o + (if k < w then k else w - 1) → bq r k = if k < w ∨ sg = true then bq wo (n - 1 - j) else 0
theorem dsp_over {it w : Nat → Nat} {n o : Nat} {wo : Int64} (hok : cw_ok it n w) (ho : o < 6) {k : Nat} (hk : k < 64) (h : ¬ k < w o) : dsp it n o wo n k = 0 :=
  dsp_none n (fun j hj q => by
    rcases hok.2.2.1 j hj with h1 | ⟨o', k', ho', hk', e⟩
    · omega
    · have := hok.2.1 o' ho'
      have e1 : o' = o := by omega
      subst e1
      omega)
theorem dcP_u {it w : Nat → Nat} {n o : Nat} {wo x : Int64} (hok : cw_ok it n w) (ho : o < 6) (hw1 : 0 < w o) (hd : ∀ k, k < 64 → bq x k = dsp it n o wo n k) : dcP it n (w o) false o wo x := by
  intro k hk j hj e
  rw [hd k hk]
  by_cases hc : k < w o
  · rw [if_pos hc] at e
    rw [if_pos (Or.inl hc), dsp_at hok hj e n hj (Nat.le_refl _)]
  · rw [if_neg (by simp [hc]), dsp_over hok ho hk hc]
theorem dcP_s {it w : Nat → Nat} {n o : Nat} {wo x : Int64} (hok : cw_ok it n w) (ho : o < 6) (hw1 : 0 < w o) (hd : ∀ k, k < 64 → bq x k = dsp it n o wo n k) : dcP it n (w o) true o wo ((x <<< ((nI (64 - w o)).toInt64 &&& 63)) >>> ((nI (64 - w o)).toInt64 &&& 63)) := by
  intro k hk j hj e
  have hwo := hok.2.1 o ho
  rw [bq_sx x (by omega) hwo hk, if_pos (Or.inr rfl)]
  by_cases hc : k < w o
  · rw [if_pos hc] at e ⊢
    rw [hd k hk, dsp_at hok hj e n hj (Nat.le_refl _)]
  · rw [if_neg hc] at e ⊢
    rw [hd _ (by omega), dsp_at hok hj e n hj (Nat.le_refl _)]
/-- a bit that both forms allow there -/
def shw (it : Nat → Nat) (n : Nat) (it2 : Nat → Nat) (n2 : Nat) (j : Nat) : Bool := (alw it n j 0 && alw it2 n2 j 0) || (alw it n j 1 && alw it2 n2 j 1)
theorem shw_0 {it it2 : Nat → Nat} {n n2 j : Nat} (h1 : alw it n j 0 = true) (h2 : alw it2 n2 j 0 = true) : shw it n it2 n2 j = true := by unfold shw; rw [h1, h2]; rfl
theorem shw_1 {it it2 : Nat → Nat} {n n2 j : Nat} (h1 : alw it n j 1 = true) (h2 : alw it2 n2 j 1 = true) : shw it n it2 n2 j = true := by unfold shw; rw [h1, h2]; simp
theorem shw_f {it it2 : Nat → Nat} {n n2 j : Nat} (h1 : alw it n j 0 = false ∨ alw it2 n2 j 0 = false) (h2 : alw it n j 1 = false ∨ alw it2 n2 j 1 = false) : shw it n it2 n2 j = false := by
  unfold shw
  rcases h1 with h1 | h1 <;> rcases h2 with h2 | h2 <;> simp [h1, h2]
set_option maxHeartbeats 4000000 in
set_option maxRecDepth 100000 in
theorem c_F_holdsAny (l : Launch) (dC : Nat → ClassId) (dI : Nat → Nat → Nat) (cI cZ : ClassId) (h pw ps po pk n : Nat) (wd sg ow co : Nat → Int32) (it w : Nat → Nat) (sb : Nat → Bool) (hF : fR n it w sb wd sg ow co) (o hi lo : Nat) (ho : o < 6) (hhi : hi < 64) (hlo : lo ≤ hi) : Met l yF_holdsAny wF_holdsAny { frames := 0, cells := 0, slots := 0, locals := 0 } (ro_Pc (dC, dI) cls3 [(h, .inr (0, [.ref pw, .ref ps, .ref po, .ref pk, .int (nI n)])), (pw, .inl (cI, 6, .inl wd)), (ps, .inl (cZ, 6, .inl sg)), (po, .inl (cI, 64, .inl ow)), (pk, .inl (cI, 64, .inl co))] [(cI, .int), (cZ, .boolean)] [.ref h, .int (nI o), .int (nI hi), .int (nI lo)]) (vp_Si (fun r => r = nI (!(allb (fun j => !(hcd it o hi lo j)) n)).toNat)) 0 0 (fun _ => False) := by
  refine Met.ofW (cc := cF_holdsAny) (maxL := 5) (ret := (some .boolean)) (by decide) rfl ?_
  intro p e s m args below meth c s₁ B hml hv
  obtain ⟨rfl, hP, hK⟩ := hv
  have hx := B.exec
  have hb := B.bytes
  have hr := B.returns
  have hts := atoms_spec (ws := wF_holdsAny) B.pre
  have hw : ∀ w ∈ wA, w.before _ s = true := fun w h => hts w (List.mem_cons_of_mem _ h)
  have hown : s.vm.findClass RF = some m.cls := findClass_of_methodNamed B.named
  have hlocks := B.notSynchronized
  have hl := lv_entry ([.ref h, .int (nI o), .int (nI hi), .int (nI lo)]) (n := 5) (Nat.le_of_ble_eq_true rfl)
  rw [lg_entry_eq]
  generalize (lg_sl ([.ref h, .int (nI o), .int (nI hi), .int (nI lo)]) ++ List.replicate (5 - (lg_sl ([.ref h, .int (nI o), .int (nI hi), .int (nI lo)])).length) Slot.unset).toArray = ls at hl ⊢
  have hl : lv_has ls 5 [(0, .ref h), (1, .int (nI o)), (2, .int (nI hi)), (3, .int (nI lo))] := hl
  have hn : n ≤ 64 := hF.1.1
  have hwd := hF.2.1
  have hsg := hF.2.2.1
  have hoc := hF.2.2.2
  have hit := cw_it hF.1
  have hw64 := hF.1.2.1
  refine lv_iconst (v := nI 0) hx hb dF_holdsAny_0 (by decide +kernel) ?_
  refine lv_istore hx hb dF_holdsAny_1 hl (by decide) rfl (fun ls hl => ?_)
  have hl : lv_has ls 5 [(4, .int (nI 0)), (0, .ref h), (1, .int (nI o)), (2, .int (nI hi)), (3, .int (nI lo))] := hl
  refine (?_ : ∀ (kk : Nat) (j : Nat) (ls : Array Slot), kk = n - j → lv_has ls 5 [(4, .int (nI j)), (0, .ref h), (1, .int (nI o)), (2, .int (nI hi)), (3, .int (nI lo))] → (j ≤ n) → (allb (fun j => !(hcd it o hi lo j)) j = true) → W p l e _ s m _ below meth c _ _ _ _ _ (F0 m 3 ls [])) _ 0 ls rfl (lv_sub hl [0, 1, 2, 3, 4] rfl) (by omega) rfl
  intro kk
  induction kk using Nat.strongRecOn with
  | ind kk3 ih3 =>
    intro j ls hkk3 hl hj ha
    refine lv_iload hx hb dF_holdsAny_3 (lv_at hl 0 rfl) ?_
    refine lv_aload_n hx hb dF_holdsAny_5 rfl (lv_at hl 1 rfl) ?_
    refine va_get (D := (dC, dI)) (ci := 0) (v := .int (nI n)) (C := RF) (T := TF) (N := 5) hx hb hw inF hown hK hP 0 rfl rfl 4 (by decide) (hw _ kw_44) (fun _ h9 => h9) rfl dF_holdsAny_6 ?_
    refine lv_icmp_ge (tgt := 53) hx hb dF_holdsAny_9 (by decide) (fun h9 => ?_) (fun h9 => ?_)
    · rw [nI_leI (by omega) (by omega)] at h9
      refine lv_iconst (v := nI 0) hx hb dF_holdsAny_53 (by decide +kernel) ?_
      exact W.zret (v := nI 0) hx hb hr (by first | exact b_nar _ | decide +kernel) (fun t ht hW => ⟨_, rfl, (by first | (rw [show j = n by omega] at ha; rw [ha]; rfl) | (rw [allb_f _ n (k := j) (by omega) (hcd_t ⟨h20.1, h20.2, by omega, by omega⟩)]; rfl)), ht⟩) (fun q h => nomatch h) dF_holdsAny_54
    · rw [nI_leI (by omega) (by omega)] at h9
      refine lv_aload_n hx hb dF_holdsAny_12 rfl (lv_at hl 1 rfl) ?_
      refine va_get (D := (dC, dI)) (ci := 0) (v := .ref po) (C := RF) (T := TF) (N := 5) hx hb hw inF hown hK hP 0 rfl rfl 2 (by decide) (hw _ kw_42) (fun _ h9 => h9) rfl dF_holdsAny_13 ?_
      refine lv_iload hx hb dF_holdsAny_16 (lv_at hl 0 rfl) ?_
      refine va_iald hx hb hK hP 3 0 rfl rfl (vp_in_nI (by omega) (by decide)) dF_holdsAny_18 ?_
      refine lv_topi (fun v18 e18 => ?_)
      rw [nI_clamp (by omega)] at e18
      obtain rfl : v18 = cw_O (it j) := e18.trans (hoc j (by omega)).1
      refine lv_iload_n hx hb dF_holdsAny_19 rfl (lv_at hl 2 rfl) ?_
      refine lv_icmp_ne (tgt := 47) hx hb dF_holdsAny_20 (by decide) (fun h20 => ?_) (fun h20 => ?_)
      · rw [cw_O_eq (hit j (by omega)) ho] at h20
        refine lv_iinc (k := 0) (v := nI (j + 1)) hx hb dF_holdsAny_47 hl rfl (cw_inc _) (by decide) rfl (fun ls hl => ?_)
        have hl : lv_has ls 5 [(4, .int (nI (j + 1))), (0, .ref h), (1, .int (nI o)), (2, .int (nI hi)), (3, .int (nI lo))] := hl
        refine lv_goto (tgt := 3) hx hb dF_holdsAny_50 (by decide) ?_
        exact ih3 _ (by omega) (j + 1) ls rfl (lv_sub (l' := [(4, .int (nI (j + 1))), (0, .ref h), (1, .int (nI o)), (2, .int (nI hi)), (3, .int (nI lo))]) hl [0, 1, 2, 3, 4] rfl) (by omega) (by simp only [allb, ha, Bool.true_and]; exact hcd_f (fun q => by first | exact h20 ⟨q.1, q.2.1⟩ | omega))
      · rw [cw_O_eq (hit j (by omega)) ho] at h20
        refine lv_aload_n hx hb dF_holdsAny_23 rfl (lv_at hl 1 rfl) ?_
        refine va_get (D := (dC, dI)) (ci := 0) (v := .ref pk) (C := RF) (T := TF) (N := 5) hx hb hw inF hown hK hP 0 rfl rfl 3 (by decide) (hw _ kw_43) (fun _ h9 => h9) rfl dF_holdsAny_24 ?_
        refine lv_iload hx hb dF_holdsAny_27 (lv_at hl 0 rfl) ?_
        refine va_iald hx hb hK hP 4 0 rfl rfl (vp_in_nI (by omega) (by decide)) dF_holdsAny_29 ?_
        refine lv_topi (fun v29 e29 => ?_)
        rw [nI_clamp (by omega)] at e29
        obtain rfl : v29 = cw_C (it j) := e29.trans (hoc j (by omega)).2
        refine lv_iload_n hx hb dF_holdsAny_30 rfl (lv_at hl 4 rfl) ?_
        refine lv_icmp_lt (tgt := 47) hx hb dF_holdsAny_31 (by decide) (fun h31 => ?_) (fun h31 => ?_)
        · rw [cw_C_hi h20.1, nI_ltI (by omega) (by omega)] at h31
          refine lv_iinc (k := 0) (v := nI (j + 1)) hx hb dF_holdsAny_47 hl rfl (cw_inc _) (by decide) rfl (fun ls hl => ?_)
          have hl : lv_has ls 5 [(4, .int (nI (j + 1))), (0, .ref h), (1, .int (nI o)), (2, .int (nI hi)), (3, .int (nI lo))] := hl
          refine lv_goto (tgt := 3) hx hb dF_holdsAny_50 (by decide) ?_
          exact ih3 _ (by omega) (j + 1) ls rfl (lv_sub (l' := [(4, .int (nI (j + 1))), (0, .ref h), (1, .int (nI o)), (2, .int (nI hi)), (3, .int (nI lo))]) hl [0, 1, 2, 3, 4] rfl) (by omega) (by simp only [allb, ha, Bool.true_and]; exact hcd_f (fun q => by first | exact h20 ⟨q.1, q.2.1⟩ | omega))
        · rw [cw_C_hi h20.1, nI_ltI (by omega) (by omega)] at h31
          refine lv_aload_n hx hb dF_holdsAny_34 rfl (lv_at hl 1 rfl) ?_
          refine va_get (D := (dC, dI)) (ci := 0) (v := .ref pk) (C := RF) (T := TF) (N := 5) hx hb hw inF hown hK hP 0 rfl rfl 3 (by decide) (hw _ kw_43) (fun _ h9 => h9) rfl dF_holdsAny_35 ?_
          refine lv_iload hx hb dF_holdsAny_38 (lv_at hl 0 rfl) ?_
          refine va_iald hx hb hK hP 4 0 rfl rfl (vp_in_nI (by omega) (by decide)) dF_holdsAny_40 ?_
          refine lv_topi (fun v40 e40 => ?_)
          rw [nI_clamp (by omega)] at e40
          obtain rfl : v40 = cw_C (it j) := e40.trans (hoc j (by omega)).2
          refine lv_iload_n hx hb dF_holdsAny_41 rfl (lv_at hl 3 rfl) ?_
          refine lv_icmp_gt (tgt := 47) hx hb dF_holdsAny_42 (by decide) (fun h42 => ?_) (fun h42 => ?_)
          · rw [cw_C_hi h20.1, nI_ltI (by omega) (by omega)] at h42
            refine lv_iinc (k := 0) (v := nI (j + 1)) hx hb dF_holdsAny_47 hl rfl (cw_inc _) (by decide) rfl (fun ls hl => ?_)
            have hl : lv_has ls 5 [(4, .int (nI (j + 1))), (0, .ref h), (1, .int (nI o)), (2, .int (nI hi)), (3, .int (nI lo))] := hl
            refine lv_goto (tgt := 3) hx hb dF_holdsAny_50 (by decide) ?_
            exact ih3 _ (by omega) (j + 1) ls rfl (lv_sub (l' := [(4, .int (nI (j + 1))), (0, .ref h), (1, .int (nI o)), (2, .int (nI hi)), (3, .int (nI lo))]) hl [0, 1, 2, 3, 4] rfl) (by omega) (by simp only [allb, ha, Bool.true_and]; exact hcd_f (fun q => by first | exact h20 ⟨q.1, q.2.1⟩ | omega))
          · rw [cw_C_hi h20.1, nI_ltI (by omega) (by omega)] at h42
            refine lv_iconst (v := nI 1) hx hb dF_holdsAny_45 (by decide +kernel) ?_
            exact W.zret (v := nI 1) hx hb hr (by first | exact b_nar _ | decide +kernel) (fun t ht hW => ⟨_, rfl, (by first | (rw [show j = n by omega] at ha; rw [ha]; rfl) | (rw [allb_f _ n (k := j) (by omega) (hcd_t ⟨h20.1, h20.2, by omega, by omega⟩)]; rfl)), ht⟩) (fun q h => nomatch h) dF_holdsAny_46

set_option maxHeartbeats 4000000 in
set_option maxRecDepth 100000 in
theorem c_F_canBe (l : Launch) (dC : Nat → ClassId) (dI : Nat → Nat → Nat) (cI cZ : ClassId) (h pw ps po pk n : Nat) (wd sg ow co : Nat → Int32) (it w : Nat → Nat) (sb : Nat → Bool) (hF : fR n it w sb wd sg ow co) (o : Nat) (ho : o < 6) (hw1 : 0 < w o) (v : Int64) : Met l yF_canBe wF_canBe { frames := 0, cells := 0, slots := 0, locals := 0 } (ro_Pc (dC, dI) cls3 [(h, .inr (0, [.ref pw, .ref ps, .ref po, .ref pk, .int (nI n)])), (pw, .inl (cI, 6, .inl wd)), (ps, .inl (cZ, 6, .inl sg)), (po, .inl (cI, 64, .inl ow)), (pk, .inl (cI, 64, .inl co))] [(cI, .int), (cZ, .boolean)] [.ref h, .int (nI o), .long v]) (vp_Si (fun r => r = nI (fitB (w o) (sb o) v).toNat)) 0 0 (fun _ => False) := by
  refine Met.ofW (cc := cF_canBe) (maxL := 7) (ret := (some .boolean)) (by decide) rfl ?_
  intro p e s m args below meth c s₁ B hml hv
  obtain ⟨rfl, hP, hK⟩ := hv
  have hx := B.exec
  have hb := B.bytes
  have hr := B.returns
  have hts := atoms_spec (ws := wF_canBe) B.pre
  have hw : ∀ w ∈ wA, w.before _ s = true := fun w h => hts w (List.mem_cons_of_mem _ h)
  have hown : s.vm.findClass RF = some m.cls := findClass_of_methodNamed B.named
  have hlocks := B.notSynchronized
  have hl := lv_entry ([.ref h, .int (nI o), .long v]) (n := 7) (Nat.le_of_ble_eq_true rfl)
  rw [lg_entry_eq]
  generalize (lg_sl ([.ref h, .int (nI o), .long v]) ++ List.replicate (7 - (lg_sl ([.ref h, .int (nI o), .long v])).length) Slot.unset).toArray = ls at hl ⊢
  have hl : lv_has ls 7 [(0, .ref h), (1, .int (nI o)), (2, .long v)] := hl
  have hn : n ≤ 64 := hF.1.1
  have hwd := hF.2.1
  have hsg := hF.2.2.1
  have hoc := hF.2.2.2
  have hit := cw_it hF.1
  have hw64 := hF.1.2.1
  have hwo := hw64 o ho
  refine lv_aload_n hx hb dF_canBe_0 rfl (lv_at hl 0 rfl) ?_
  refine va_get (D := (dC, dI)) (ci := 0) (v := .ref pw) (C := RF) (T := TF) (N := 5) hx hb hw inF hown hK hP 0 rfl rfl 0 (by decide) (hw _ kw_39) (fun _ h9 => h9) rfl dF_canBe_1 ?_
  refine lv_iload_n hx hb dF_canBe_4 rfl (lv_at hl 1 rfl) ?_
  refine va_iald hx hb hK hP 1 0 rfl rfl (vp_in_nI (by omega) (by decide)) dF_canBe_5 ?_
  refine lv_topi (fun v5 e5 => ?_)
  rw [nI_clamp (by omega)] at e5
  obtain rfl : v5 = nI (w o) := e5.trans (hwd o (by omega))
  refine lv_istore hx hb dF_canBe_6 hl (by decide) rfl (fun ls hl => ?_)
  have hl : lv_has ls 7 [(4, .int (nI (w o))), (0, .ref h), (1, .int (nI o)), (2, .long v)] := hl
  refine lv_iload hx hb dF_canBe_8 (lv_at hl 0 rfl) ?_
  refine lv_bipush (v := nI 64) hx hb dF_canBe_10 (by decide +kernel) ?_
  refine lv_icmp_ne (tgt := 17) hx hb dF_canBe_12 (by decide) (fun h12 => ?_) (fun h12 => ?_)
  · rw [nI_eq (by omega) (by omega)] at h12
    refine lv_aload_n hx hb dF_canBe_17 rfl (lv_at hl 1 rfl) ?_
    refine va_get (D := (dC, dI)) (ci := 0) (v := .ref ps) (C := RF) (T := TF) (N := 5) hx hb hw inF hown hK hP 0 rfl rfl 1 (by decide) (hw _ kw_41) (fun _ h9 => h9) rfl dF_canBe_18 ?_
    refine lv_iload_n hx hb dF_canBe_21 rfl (lv_at hl 2 rfl) ?_
    refine va_zald hx hb hK hP 2 1 rfl rfl (vp_in_nI (by omega) (by decide)) dF_canBe_22 ?_
    refine lv_topi (fun v22 e22 => ?_)
    rw [nI_clamp (by omega)] at e22
    obtain rfl : v22 = nI (sb o).toNat := e22.trans (hsg o (by omega))
    refine lv_if_eq (tgt := 56) hx hb dF_canBe_23 (by decide) (fun h23 => ?_) (fun h23 => ?_)
    · rw [b_nat0] at h23
      refine lv_lload_n hx hb dF_canBe_56 rfl (lv_at hl 3 rfl) ?_
      refine lv_iload hx hb dF_canBe_57 (lv_at hl 0 rfl) ?_
      refine lv_lushr hx hb dF_canBe_59 rfl ?_
      refine lv_topl (fun v59 e59 => ?_)
      refine lv_lconst (v := lN 0) hx hb dF_canBe_60 (by decide +kernel) ?_
      refine W.lcmp hx hb dF_canBe_61 ?_
      refine lv_topi (fun v61 e61 => ?_)
      refine lv_if_ne (tgt := 69) hx hb dF_canBe_62 (by decide) (fun h62 => ?_) (fun h62 => ?_)
      · rw [e61, lg_cmp_eq, e59] at h62
        refine lv_iconst (v := nI 0) hx hb dF_canBe_69 (by decide +kernel) ?_
        exact W.zret (v := nI 0) hx hb hr (by first | exact b_nar _ | decide +kernel) (fun t ht hW => ⟨_, rfl, (by first | (rw [h12, fitB_64]; rfl) | (rw [h23, (fit_s v (by omega) hwo).mp (Or.inl h38)]; rfl) | (rw [h23, (fit_s v (by omega) hwo).mp (Or.inr h47)]; rfl) | (rw [h23, b_ff (fun q => (fun z => z.elim h38 h47) ((fit_s v (by omega) hwo).mpr q))]; rfl) | (rw [h23, (fit_u v (by omega)).mp h62]; rfl) | (rw [h23, b_ff (fun q => h62 ((fit_u v (by omega)).mpr q))]; rfl)), ht⟩) (fun q h => nomatch h) dF_canBe_70
      · rw [e61, lg_cmp_eq, e59] at h62
        refine lv_iconst (v := nI 1) hx hb dF_canBe_65 (by decide +kernel) ?_
        refine lv_goto (tgt := 70) hx hb dF_canBe_66 (by decide) ?_
        exact W.zret (v := nI 1) hx hb hr (by first | exact b_nar _ | decide +kernel) (fun t ht hW => ⟨_, rfl, (by first | (rw [h12, fitB_64]; rfl) | (rw [h23, (fit_s v (by omega) hwo).mp (Or.inl h38)]; rfl) | (rw [h23, (fit_s v (by omega) hwo).mp (Or.inr h47)]; rfl) | (rw [h23, b_ff (fun q => (fun z => z.elim h38 h47) ((fit_s v (by omega) hwo).mpr q))]; rfl) | (rw [h23, (fit_u v (by omega)).mp h62]; rfl) | (rw [h23, b_ff (fun q => h62 ((fit_u v (by omega)).mpr q))]; rfl)), ht⟩) (fun q h => nomatch h) dF_canBe_70
    · have h23 := b_nf h23
      refine lv_lload_n hx hb dF_canBe_26 rfl (lv_at hl 3 rfl) ?_
      refine lv_iload hx hb dF_canBe_27 (lv_at hl 0 rfl) ?_
      refine lv_iconst (v := nI 1) hx hb dF_canBe_29 (by decide +kernel) ?_
      refine lv_isub hx hb dF_canBe_30 ?_
      refine lv_topi (fun v30 e30 => ?_)
      obtain rfl : v30 = nI (w o - 1) := e30.trans (pk_sub (by omega))
      refine lv_lshr hx hb dF_canBe_31 rfl ?_
      refine lv_topl (fun v31 e31 => ?_)
      refine lv_lstore hx hb dF_canBe_32 hl (by decide) rfl (fun ls hl => ?_)
      have hl : lv_has ls 7 [(5, .long v31), (4, .int (nI (w o))), (0, .ref h), (1, .int (nI o)), (2, .long v)] := hl
      refine lv_lload hx hb dF_canBe_34 (lv_at hl 0 rfl) ?_
      refine lv_lconst (v := lN 0) hx hb dF_canBe_36 (by decide +kernel) ?_
      refine W.lcmp hx hb dF_canBe_37 ?_
      refine lv_topi (fun v37 e37 => ?_)
      refine lv_if_eq (tgt := 50) hx hb dF_canBe_38 (by decide) (fun h38 => ?_) (fun h38 => ?_)
      · rw [e37, lg_cmp_eq, e31] at h38
        refine lv_iconst (v := nI 1) hx hb dF_canBe_50 (by decide +kernel) ?_
        refine lv_goto (tgt := 55) hx hb dF_canBe_51 (by decide) ?_
        exact W.zret (v := nI 1) hx hb hr (by first | exact b_nar _ | decide +kernel) (fun t ht hW => ⟨_, rfl, (by first | (rw [h12, fitB_64]; rfl) | (rw [h23, (fit_s v (by omega) hwo).mp (Or.inl h38)]; rfl) | (rw [h23, (fit_s v (by omega) hwo).mp (Or.inr h47)]; rfl) | (rw [h23, b_ff (fun q => (fun z => z.elim h38 h47) ((fit_s v (by omega) hwo).mpr q))]; rfl) | (rw [h23, (fit_u v (by omega)).mp h62]; rfl) | (rw [h23, b_ff (fun q => h62 ((fit_u v (by omega)).mpr q))]; rfl)), ht⟩) (fun q h => nomatch h) dF_canBe_55
      · rw [e37, lg_cmp_eq, e31] at h38
        refine lv_lload hx hb dF_canBe_41 (lv_at hl 0 rfl) ?_
        refine lv_ldc2 (v := (-1)) hx hb hown (hw _ kw_290) dF_canBe_43 ?_
        refine W.lcmp hx hb dF_canBe_46 ?_
        refine lv_topi (fun v46 e46 => ?_)
        refine lv_if_ne (tgt := 54) hx hb dF_canBe_47 (by decide) (fun h47 => ?_) (fun h47 => ?_)
        · rw [e46, lg_cmp_eq, e31] at h47
          refine lv_iconst (v := nI 0) hx hb dF_canBe_54 (by decide +kernel) ?_
          exact W.zret (v := nI 0) hx hb hr (by first | exact b_nar _ | decide +kernel) (fun t ht hW => ⟨_, rfl, (by first | (rw [h12, fitB_64]; rfl) | (rw [h23, (fit_s v (by omega) hwo).mp (Or.inl h38)]; rfl) | (rw [h23, (fit_s v (by omega) hwo).mp (Or.inr h47)]; rfl) | (rw [h23, b_ff (fun q => (fun z => z.elim h38 h47) ((fit_s v (by omega) hwo).mpr q))]; rfl) | (rw [h23, (fit_u v (by omega)).mp h62]; rfl) | (rw [h23, b_ff (fun q => h62 ((fit_u v (by omega)).mpr q))]; rfl)), ht⟩) (fun q h => nomatch h) dF_canBe_55
        · rw [e46, lg_cmp_eq, e31] at h47
          refine lv_iconst (v := nI 1) hx hb dF_canBe_50 (by decide +kernel) ?_
          refine lv_goto (tgt := 55) hx hb dF_canBe_51 (by decide) ?_
          exact W.zret (v := nI 1) hx hb hr (by first | exact b_nar _ | decide +kernel) (fun t ht hW => ⟨_, rfl, (by first | (rw [h12, fitB_64]; rfl) | (rw [h23, (fit_s v (by omega) hwo).mp (Or.inl h38)]; rfl) | (rw [h23, (fit_s v (by omega) hwo).mp (Or.inr h47)]; rfl) | (rw [h23, b_ff (fun q => (fun z => z.elim h38 h47) ((fit_s v (by omega) hwo).mpr q))]; rfl) | (rw [h23, (fit_u v (by omega)).mp h62]; rfl) | (rw [h23, b_ff (fun q => h62 ((fit_u v (by omega)).mpr q))]; rfl)), ht⟩) (fun q h => nomatch h) dF_canBe_55
  · rw [nI_eq (by omega) (by omega)] at h12
    refine lv_iconst (v := nI 1) hx hb dF_canBe_15 (by decide +kernel) ?_
    exact W.zret (v := nI 1) hx hb hr (by first | exact b_nar _ | decide +kernel) (fun t ht hW => ⟨_, rfl, (by first | (rw [h12, fitB_64]; rfl) | (rw [h23, (fit_s v (by omega) hwo).mp (Or.inl h38)]; rfl) | (rw [h23, (fit_s v (by omega) hwo).mp (Or.inr h47)]; rfl) | (rw [h23, b_ff (fun q => (fun z => z.elim h38 h47) ((fit_s v (by omega) hwo).mpr q))]; rfl) | (rw [h23, (fit_u v (by omega)).mp h62]; rfl) | (rw [h23, b_ff (fun q => h62 ((fit_u v (by omega)).mpr q))]; rfl)), ht⟩) (fun q h => nomatch h) dF_canBe_16

set_option maxHeartbeats 4000000 in
set_option maxRecDepth 100000 in
theorem c_F_canBeAll (l : Launch) (dC : Nat → ClassId) (dI : Nat → Nat → Nat) (cI cZ : ClassId) (h pw ps po pk n : Nat) (wd sg ow co : Nat → Int32) (it w : Nat → Nat) (sb : Nat → Bool) (hF : fR n it w sb wd sg ow co) (cJ : ClassId) (hq : Nat) (nu : Nat → Int64) : Met l yF_canBeAll wF_canBeAll { frames := 1, cells := 0, slots := 0, locals := 26 } (ro_Pc (dC, dI) cls3 [(h, .inr (0, [.ref pw, .ref ps, .ref po, .ref pk, .int (nI n)])), (pw, .inl (cI, 6, .inl wd)), (ps, .inl (cZ, 6, .inl sg)), (po, .inl (cI, 64, .inl ow)), (pk, .inl (cI, 64, .inl co)), (hq, .inl (cJ, 6, .inr (.inl nu)))] [(cI, .int), (cZ, .boolean), (cJ, .long)] [.ref h, .ref hq]) (vp_Si (fun r => r = nI (allb (fun o => decide (w o = 0) || fitB (w o) (sb o) (nu o)) 6).toNat)) 0 0 (fun _ => False) := by
  refine Met.ofW (cc := cF_canBeAll) (maxL := 3) (ret := (some .boolean)) (by decide) rfl ?_
  intro p e s m args below meth c s₁ B hml hv
  obtain ⟨rfl, hP, hK⟩ := hv
  have hx := B.exec
  have hb := B.bytes
  have hr := B.returns
  have hts := atoms_spec (ws := wF_canBeAll) B.pre
  have hw : ∀ w ∈ wA, w.before _ s = true := fun w h => hts w (List.mem_cons_of_mem _ h)
  have hown : s.vm.findClass RF = some m.cls := findClass_of_methodNamed B.named
  have hlocks := B.notSynchronized
  have hl := lv_entry ([.ref h, .ref hq]) (n := 3) (Nat.le_of_ble_eq_true rfl)
  rw [lg_entry_eq]
  generalize (lg_sl ([.ref h, .ref hq]) ++ List.replicate (3 - (lg_sl ([.ref h, .ref hq])).length) Slot.unset).toArray = ls at hl ⊢
  have hl : lv_has ls 3 [(0, .ref h), (1, .ref hq)] := hl
  have hn : n ≤ 64 := hF.1.1
  have hwd := hF.2.1
  have hsg := hF.2.2.1
  have hoc := hF.2.2.2
  have hit := cw_it hF.1
  have hw64 := hF.1.2.1
  refine lv_iconst (v := nI 0) hx hb dF_canBeAll_0 (by decide +kernel) ?_
  refine lv_istore_n hx hb dF_canBeAll_1 rfl hl (by decide) rfl (fun ls hl => ?_)
  have hl : lv_has ls 3 [(2, .int (nI 0)), (0, .ref h), (1, .ref hq)] := hl
  refine (?_ : ∀ (kk : Nat) (i : Nat) (ls : Array Slot), kk = 6 - i → lv_has ls 3 [(2, .int (nI i)), (0, .ref h), (1, .ref hq)] → (i ≤ 6) → (allb (fun o => decide (w o = 0) || fitB (w o) (sb o) (nu o)) i = true) → W p l e _ s m _ below meth c _ _ _ _ _ (F0 m 2 ls [])) _ 0 ls rfl (lv_sub hl [0, 1, 2] rfl) (by omega) rfl
  intro kk
  induction kk using Nat.strongRecOn with
  | ind kk2 ih2 =>
    intro i ls hkk2 hl hi ha
    refine lv_iload_n hx hb dF_canBeAll_2 rfl (lv_at hl 0 rfl) ?_
    refine lv_bipush (v := nI 6) hx hb dF_canBeAll_3 (by decide +kernel) ?_
    refine lv_icmp_ge (tgt := 36) hx hb dF_canBeAll_5 (by decide) (fun h5 => ?_) (fun h5 => ?_)
    · rw [nI_leI (by omega) (by omega)] at h5
      refine lv_iconst (v := nI 1) hx hb dF_canBeAll_36 (by decide +kernel) ?_
      exact W.zret (v := nI 1) hx hb hr (by first | exact b_nar _ | decide +kernel) (fun t ht hW => ⟨_, rfl, (by first | (rw [show i = 6 by omega] at ha; rw [ha]; rfl) | (rw [allb_f _ 6 (k := i) (by omega) (by rw [decide_eq_false h14, (b_nat0 _).mp h25]; rfl)]; rfl)), ht⟩) (fun q h => nomatch h) dF_canBeAll_37
    · rw [nI_leI (by omega) (by omega)] at h5
      refine lv_aload_n hx hb dF_canBeAll_8 rfl (lv_at hl 1 rfl) ?_
      refine va_get (D := (dC, dI)) (ci := 0) (v := .ref pw) (C := RF) (T := TF) (N := 5) hx hb hw inF hown hK hP 0 rfl rfl 0 (by decide) (hw _ kw_39) (fun _ h9 => h9) rfl dF_canBeAll_9 ?_
      refine lv_iload_n hx hb dF_canBeAll_12 rfl (lv_at hl 0 rfl) ?_
      refine va_iald hx hb hK hP 1 0 rfl rfl (vp_in_nI (by omega) (by decide)) dF_canBeAll_13 ?_
      refine lv_topi (fun v13 e13 => ?_)
      rw [nI_clamp (by omega)] at e13
      obtain rfl : v13 = nI (w i) := e13.trans (hwd i (by omega))
      refine lv_if_le (tgt := 30) hx hb dF_canBeAll_14 (by decide) (fun h14 => ?_) (fun h14 => ?_)
      · rw [nI_le0 (by have := hw64 i (by omega); omega)] at h14
        refine lv_iinc (k := 0) (v := nI (i + 1)) hx hb dF_canBeAll_30 hl rfl (cw_inc _) (by decide) rfl (fun ls hl => ?_)
        have hl : lv_has ls 3 [(2, .int (nI (i + 1))), (0, .ref h), (1, .ref hq)] := hl
        refine lv_goto (tgt := 2) hx hb dF_canBeAll_33 (by decide) ?_
        exact ih2 _ (by omega) (i + 1) ls rfl (lv_sub (l' := [(2, .int (nI (i + 1))), (0, .ref h), (1, .ref hq)]) hl [0, 1, 2] rfl) (by omega) (by simp only [allb, ha, Bool.true_and]; first | (rw [decide_eq_true h14, Bool.true_or]) | (rw [b_nf h25, Bool.or_true]))
      · rw [nI_le0 (by have := hw64 i (by omega); omega)] at h14
        refine lv_aload_n hx hb dF_canBeAll_17 rfl (lv_at hl 1 rfl) ?_
        refine lv_iload_n hx hb dF_canBeAll_18 rfl (lv_at hl 0 rfl) ?_
        refine lv_aload_n hx hb dF_canBeAll_19 rfl (lv_at hl 2 rfl) ?_
        refine lv_iload_n hx hb dF_canBeAll_20 rfl (lv_at hl 0 rfl) ?_
        refine va_lald hx hb hK hP 5 2 rfl rfl (vp_in_nI (by omega) (by decide)) dF_canBeAll_21 ?_
        refine lv_topl (fun v21 e21 => ?_)
        rw [nI_clamp (by omega)] at e21
        obtain rfl : v21 = nu i := e21
        refine vp_callSi (W.runV (As := [.int (nI i), .long (nu i)]) (rest := []) ⟨hx, hb, hml, hown, hw⟩ (c_F_canBe l dC dI cI cZ h pw ps po pk n wd sg ow co it w sb hF i (by omega) (by omega) (nu i)) (cwV 2 hw (gV kw_307 kw_287 kw_288 kw_15 kw_289) rfl rfl rfl (by decide +kernel) ⟨Nat.le_of_ble_eq_true rfl, Nat.le_of_ble_eq_true rfl⟩) (ro_preV (q0 := 0) (hK.sub (tys' := [(cI, .int), (cZ, .boolean)]) [0, 1] rfl) (hP.sub (ws' := [(h, .inr (0, [.ref pw, .ref ps, .ref po, .ref pk, .int (nI n)])), (pw, .inl (cI, 6, .inl wd)), (ps, .inl (cZ, 6, .inl sg)), (po, .inl (cI, 64, .inl ow)), (pk, .inl (cI, 64, .inl co))]) [0, 1, 2, 3, 4] rfl) rfl rfl) rfl rfl hl.1 rfl (lv_room (Nat.le_of_ble_eq_true rfl)) dF_canBeAll_22 ⟨Nat.zero_le _, Nat.zero_le _⟩) (fun v22 e22 => ?_)
        obtain rfl : v22 = nI (fitB (w i) (sb i) (nu i)).toNat := e22
        refine lv_if_ne (tgt := 30) hx hb dF_canBeAll_25 (by decide) (fun h25 => ?_) (fun h25 => ?_)
        · refine lv_iinc (k := 0) (v := nI (i + 1)) hx hb dF_canBeAll_30 hl rfl (cw_inc _) (by decide) rfl (fun ls hl => ?_)
          have hl : lv_has ls 3 [(2, .int (nI (i + 1))), (0, .ref h), (1, .ref hq)] := hl
          refine lv_goto (tgt := 2) hx hb dF_canBeAll_33 (by decide) ?_
          exact ih2 _ (by omega) (i + 1) ls rfl (lv_sub (l' := [(2, .int (nI (i + 1))), (0, .ref h), (1, .ref hq)]) hl [0, 1, 2] rfl) (by omega) (by simp only [allb, ha, Bool.true_and]; first | (rw [decide_eq_true h14, Bool.true_or]) | (rw [b_nf h25, Bool.or_true]))
        · refine lv_iconst (v := nI 0) hx hb dF_canBeAll_28 (by decide +kernel) ?_
          exact W.zret (v := nI 0) hx hb hr (by first | exact b_nar _ | decide +kernel) (fun t ht hW => ⟨_, rfl, (by first | (rw [show i = 6 by omega] at ha; rw [ha]; rfl) | (rw [allb_f _ 6 (k := i) (by omega) (by rw [decide_eq_false h14, (b_nat0 _).mp h25]; rfl)]; rfl)), ht⟩) (fun q h => nomatch h) dF_canBeAll_29

set_option maxHeartbeats 4000000 in
set_option maxRecDepth 100000 in
theorem c_F_wordOf (l : Launch) (dC : Nat → ClassId) (dI : Nat → Nat → Nat) (cI cZ : ClassId) (h pw ps po pk n : Nat) (wd sg ow co : Nat → Int32) (it w : Nat → Nat) (sb : Nat → Bool) (hF : fR n it w sb wd sg ow co) (cJ : ClassId) (hq : Nat) (nu : Nat → Int64) : Met l yF_wordOf wF_wordOf { frames := 1, cells := 0, slots := 0, locals := 22 } (ro_Pc (dC, dI) cls3 [(h, .inr (0, [.ref pw, .ref ps, .ref po, .ref pk, .int (nI n)])), (pw, .inl (cI, 6, .inl wd)), (ps, .inl (cZ, 6, .inl sg)), (po, .inl (cI, 64, .inl ow)), (pk, .inl (cI, 64, .inl co)), (hq, .inl (cJ, 6, .inr (.inl nu)))] [(cI, .int), (cZ, .boolean), (cJ, .long)] [.ref h, .ref hq]) (vp_Sl (fun r => r = lN (wrd (ebit it nu) n))) 0 0 (fun _ => False) := by
  refine Met.ofW (cc := cF_wordOf) (maxL := 6) (ret := (some .long)) (by decide) rfl ?_
  intro p e s m args below meth c s₁ B hml hv
  obtain ⟨rfl, hP, hK⟩ := hv
  have hx := B.exec
  have hb := B.bytes
  have hr := B.returns
  have hts := atoms_spec (ws := wF_wordOf) B.pre
  have hw : ∀ w ∈ wA, w.before _ s = true := fun w h => hts w (List.mem_cons_of_mem _ h)
  have hown : s.vm.findClass RF = some m.cls := findClass_of_methodNamed B.named
  have hlocks := B.notSynchronized
  have hl := lv_entry ([.ref h, .ref hq]) (n := 6) (Nat.le_of_ble_eq_true rfl)
  rw [lg_entry_eq]
  generalize (lg_sl ([.ref h, .ref hq]) ++ List.replicate (6 - (lg_sl ([.ref h, .ref hq])).length) Slot.unset).toArray = ls at hl ⊢
  have hl : lv_has ls 6 [(0, .ref h), (1, .ref hq)] := hl
  have hn : n ≤ 64 := hF.1.1
  have hwd := hF.2.1
  have hsg := hF.2.2.1
  have hoc := hF.2.2.2
  have hit := cw_it hF.1
  have hw64 := hF.1.2.1
  refine lv_lconst (v := lN 0) hx hb dF_wordOf_0 (by decide +kernel) ?_
  refine lv_lstore_n hx hb dF_wordOf_1 rfl hl (by decide) rfl (fun ls hl => ?_)
  have hl : lv_has ls 6 [(2, .long (lN 0)), (0, .ref h), (1, .ref hq)] := hl
  refine lv_iconst (v := nI 0) hx hb dF_wordOf_2 (by decide +kernel) ?_
  refine lv_istore hx hb dF_wordOf_3 hl (by decide) rfl (fun ls hl => ?_)
  have hl : lv_has ls 6 [(4, .int (nI 0)), (2, .long (lN 0)), (0, .ref h), (1, .ref hq)] := hl
  refine (?_ : ∀ (kk : Nat) (i : Nat) (ls : Array Slot), kk = n - i → lv_has ls 6 [(4, .int (nI i)), (2, .long (lN (wrd (ebit it nu) i))), (0, .ref h), (1, .ref hq)] → (i ≤ n) → W p l e _ s m _ below meth c _ _ _ _ _ (F0 m 5 ls [])) _ 0 ls rfl (lv_sub hl [0, 1, 2, 3] rfl) (by omega)
  intro kk
  induction kk using Nat.strongRecOn with
  | ind kk5 ih5 =>
    intro i ls hkk5 hl hi
    refine lv_iload hx hb dF_wordOf_5 (lv_at hl 0 rfl) ?_
    refine lv_aload_n hx hb dF_wordOf_7 rfl (lv_at hl 2 rfl) ?_
    refine va_get (D := (dC, dI)) (ci := 0) (v := .int (nI n)) (C := RF) (T := TF) (N := 5) hx hb hw inF hown hK hP 0 rfl rfl 4 (by decide) (hw _ kw_44) (fun _ h9 => h9) rfl dF_wordOf_8 ?_
    refine lv_icmp_ge (tgt := 70) hx hb dF_wordOf_11 (by decide) (fun h11 => ?_) (fun h11 => ?_)
    · rw [nI_leI (by omega) (by omega)] at h11
      refine lv_lload_n hx hb dF_wordOf_70 rfl (lv_at hl 1 rfl) ?_
      exact W.lret (v := lN (wrd (ebit it nu) i)) hx hb hr (fun t ht hW => ⟨_, rfl, (by rw [show i = n by omega]), ht⟩) (fun q h => nomatch h) dF_wordOf_71
    · rw [nI_leI (by omega) (by omega)] at h11
      have hti := hit i (by omega)
      refine lv_aload_n hx hb dF_wordOf_14 rfl (lv_at hl 2 rfl) ?_
      refine va_get (D := (dC, dI)) (ci := 0) (v := .ref po) (C := RF) (T := TF) (N := 5) hx hb hw inF hown hK hP 0 rfl rfl 2 (by decide) (hw _ kw_42) (fun _ h9 => h9) rfl dF_wordOf_15 ?_
      refine lv_iload hx hb dF_wordOf_18 (lv_at hl 0 rfl) ?_
      refine va_iald hx hb hK hP 3 0 rfl rfl (vp_in_nI (by omega) (by decide)) dF_wordOf_20 ?_
      refine lv_topi (fun v20 e20 => ?_)
      rw [nI_clamp (by omega)] at e20
      obtain rfl : v20 = cw_O (it i) := e20.trans (hoc i (by omega)).1
      refine lv_iconst (v := (-1)) hx hb dF_wordOf_21 (by decide +kernel) ?_
      refine lv_icmp_ne (tgt := 35) hx hb dF_wordOf_22 (by decide) (fun h22 => ?_) (fun h22 => ?_)
      · rw [cw_O_m1 hti] at h22
        refine lv_aload_n hx hb dF_wordOf_35 rfl (lv_at hl 3 rfl) ?_
        refine lv_aload_n hx hb dF_wordOf_36 rfl (lv_at hl 2 rfl) ?_
        refine va_get (D := (dC, dI)) (ci := 0) (v := .ref po) (C := RF) (T := TF) (N := 5) hx hb hw inF hown hK hP 0 rfl rfl 2 (by decide) (hw _ kw_42) (fun _ h9 => h9) rfl dF_wordOf_37 ?_
        refine lv_iload hx hb dF_wordOf_40 (lv_at hl 0 rfl) ?_
        refine va_iald hx hb hK hP 3 0 rfl rfl (vp_in_nI (by omega) (by decide)) dF_wordOf_42 ?_
        refine lv_topi (fun v42 e42 => ?_)
        rw [nI_clamp (by omega)] at e42
        obtain rfl : v42 = nI ((it i - 2) / 64) := (e42.trans (hoc i (by omega)).1).trans (cw_O_hi h22)
        refine va_lald hx hb hK hP 5 2 rfl rfl (vp_in_nI (by omega) (by decide)) dF_wordOf_43 ?_
        refine lv_topl (fun v43 e43 => ?_)
        rw [nI_clamp (by omega)] at e43
        obtain rfl : v43 = nu ((it i - 2) / 64) := e43
        refine lv_aload_n hx hb dF_wordOf_44 rfl (lv_at hl 2 rfl) ?_
        refine va_get (D := (dC, dI)) (ci := 0) (v := .ref pk) (C := RF) (T := TF) (N := 5) hx hb hw inF hown hK hP 0 rfl rfl 3 (by decide) (hw _ kw_43) (fun _ h9 => h9) rfl dF_wordOf_45 ?_
        refine lv_iload hx hb dF_wordOf_48 (lv_at hl 0 rfl) ?_
        refine va_iald hx hb hK hP 4 0 rfl rfl (vp_in_nI (by omega) (by decide)) dF_wordOf_50 ?_
        refine lv_topi (fun v50 e50 => ?_)
        rw [nI_clamp (by omega)] at e50
        obtain rfl : v50 = nI ((it i - 2) % 64) := (e50.trans (hoc i (by omega)).2).trans (cw_C_hi h22)
        refine vp_callSi (W.runS (As := [.long (nu ((it i - 2) / 64)), .int (nI ((it i - 2) % 64))]) (rest := []) ⟨hx, hb, hml, hown, hw⟩ (c_F_bitOf l (nu ((it i - 2) / 64)) ((it i - 2) % 64) (by omega)) (cwS 2 hw (gS kw_223 kw_224 kw_15 kw_225) rfl rfl rfl (by decide +kernel) ⟨Nat.le_of_ble_eq_true rfl, Nat.le_of_ble_eq_true rfl⟩) preEq rfl rfl hl.1 rfl (lv_room (Nat.le_of_ble_eq_true rfl)) dF_wordOf_51 ⟨Nat.zero_le _, Nat.zero_le _⟩) (fun v51 e51 => ?_)
        obtain rfl : v51 = nI (ebit it nu i) := e51.trans (ebit_hi h22)
        refine lv_istore hx hb dF_wordOf_54 hl (by decide) rfl (fun ls hl => ?_)
        have hl : lv_has ls 6 [(5, .int (nI (ebit it nu i))), (4, .int (nI i)), (2, .long (lN (wrd (ebit it nu) i))), (0, .ref h), (1, .ref hq)] := hl
        refine lv_lload_n hx hb dF_wordOf_56 rfl (lv_at hl 2 rfl) ?_
        refine lv_iconst (v := nI 1) hx hb dF_wordOf_57 (by decide +kernel) ?_
        refine lv_lshl hx hb dF_wordOf_58 rfl ?_
        refine lv_topl (fun v58 e58 => ?_)
        refine lv_iload hx hb dF_wordOf_59 (lv_at hl 0 rfl) ?_
        refine lv_i2l hx hb dF_wordOf_61 rfl ?_
        refine lv_topl (fun v61 e61 => ?_)
        refine lv_lor hx hb dF_wordOf_62 ?_
        refine lv_topl (fun v62 e62 => ?_)
        obtain rfl : v62 = lN (wrd (ebit it nu) (i + 1)) := e62.trans (by rw [e58, e61]; exact wrd_step _ (by omega) (fun j _ => ebit_lt it nu j))
        refine lv_lstore_n hx hb dF_wordOf_63 rfl hl (by decide) rfl (fun ls hl => ?_)
        have hl : lv_has ls 6 [(2, .long (lN (wrd (ebit it nu) (i + 1)))), (5, .int (nI (ebit it nu i))), (4, .int (nI i)), (0, .ref h), (1, .ref hq)] := hl
        refine lv_iinc (k := 2) (v := nI (i + 1)) hx hb dF_wordOf_64 hl rfl (cw_inc _) (by decide) rfl (fun ls hl => ?_)
        have hl : lv_has ls 6 [(4, .int (nI (i + 1))), (2, .long (lN (wrd (ebit it nu) (i + 1)))), (5, .int (nI (ebit it nu i))), (0, .ref h), (1, .ref hq)] := hl
        refine lv_goto (tgt := 5) hx hb dF_wordOf_67 (by decide) ?_
        exact ih5 _ (by omega) (i + 1) ls rfl (lv_sub (l' := [(4, .int (nI (i + 1))), (2, .long (lN (wrd (ebit it nu) (i + 1)))), (0, .ref h), (1, .ref hq)]) hl [0, 1, 3, 4] rfl) (by omega)
      · rw [cw_O_m1 hti] at h22
        refine lv_aload_n hx hb dF_wordOf_25 rfl (lv_at hl 2 rfl) ?_
        refine va_get (D := (dC, dI)) (ci := 0) (v := .ref pk) (C := RF) (T := TF) (N := 5) hx hb hw inF hown hK hP 0 rfl rfl 3 (by decide) (hw _ kw_43) (fun _ h9 => h9) rfl dF_wordOf_26 ?_
        refine lv_iload hx hb dF_wordOf_29 (lv_at hl 0 rfl) ?_
        refine va_iald hx hb hK hP 4 0 rfl rfl (vp_in_nI (by omega) (by decide)) dF_wordOf_31 ?_
        refine lv_topi (fun v31 e31 => ?_)
        rw [nI_clamp (by omega)] at e31
        obtain rfl : v31 = nI (ebit it nu i) := (e31.trans (hoc i (by omega)).2).trans (ebit_lo h22)
        refine lv_goto (tgt := 54) hx hb dF_wordOf_32 (by decide) ?_
        refine lv_istore hx hb dF_wordOf_54 hl (by decide) rfl (fun ls hl => ?_)
        have hl : lv_has ls 6 [(5, .int (nI (ebit it nu i))), (4, .int (nI i)), (2, .long (lN (wrd (ebit it nu) i))), (0, .ref h), (1, .ref hq)] := hl
        refine lv_lload_n hx hb dF_wordOf_56 rfl (lv_at hl 2 rfl) ?_
        refine lv_iconst (v := nI 1) hx hb dF_wordOf_57 (by decide +kernel) ?_
        refine lv_lshl hx hb dF_wordOf_58 rfl ?_
        refine lv_topl (fun v58 e58 => ?_)
        refine lv_iload hx hb dF_wordOf_59 (lv_at hl 0 rfl) ?_
        refine lv_i2l hx hb dF_wordOf_61 rfl ?_
        refine lv_topl (fun v61 e61 => ?_)
        refine lv_lor hx hb dF_wordOf_62 ?_
        refine lv_topl (fun v62 e62 => ?_)
        obtain rfl : v62 = lN (wrd (ebit it nu) (i + 1)) := e62.trans (by rw [e58, e61]; exact wrd_step _ (by omega) (fun j _ => ebit_lt it nu j))
        refine lv_lstore_n hx hb dF_wordOf_63 rfl hl (by decide) rfl (fun ls hl => ?_)
        have hl : lv_has ls 6 [(2, .long (lN (wrd (ebit it nu) (i + 1)))), (5, .int (nI (ebit it nu i))), (4, .int (nI i)), (0, .ref h), (1, .ref hq)] := hl
        refine lv_iinc (k := 2) (v := nI (i + 1)) hx hb dF_wordOf_64 hl rfl (cw_inc _) (by decide) rfl (fun ls hl => ?_)
        have hl : lv_has ls 6 [(4, .int (nI (i + 1))), (2, .long (lN (wrd (ebit it nu) (i + 1)))), (5, .int (nI (ebit it nu i))), (0, .ref h), (1, .ref hq)] := hl
        refine lv_goto (tgt := 5) hx hb dF_wordOf_67 (by decide) ?_
        exact ih5 _ (by omega) (i + 1) ls rfl (lv_sub (l' := [(4, .int (nI (i + 1))), (2, .long (lN (wrd (ebit it nu) (i + 1)))), (0, .ref h), (1, .ref hq)]) hl [0, 1, 3, 4] rfl) (by omega)

set_option maxHeartbeats 4000000 in
set_option maxRecDepth 100000 in
theorem c_F_numberIn (l : Launch) (dC : Nat → ClassId) (dI : Nat → Nat → Nat) (cI cZ : ClassId) (h pw ps po pk n : Nat) (wd sg ow co : Nat → Int32) (it w : Nat → Nat) (sb : Nat → Bool) (hF : fR n it w sb wd sg ow co) (o : Nat) (ho : o < 6) (hw1 : 0 < w o) (wo : Int64) : Met l yF_numberIn wF_numberIn { frames := 1, cells := 0, slots := 0, locals := 22 } (ro_Pc (dC, dI) cls3 [(h, .inr (0, [.ref pw, .ref ps, .ref po, .ref pk, .int (nI n)])), (pw, .inl (cI, 6, .inl wd)), (ps, .inl (cZ, 6, .inl sg)), (po, .inl (cI, 64, .inl ow)), (pk, .inl (cI, 64, .inl co))] [(cI, .int), (cZ, .boolean)] [.ref h, .int (nI o), .long wo]) (vp_Sl (fun r => dcP it n (w o) (sb o) o wo r)) 0 0 (fun _ => False) := by
  refine Met.ofW (cc := cF_numberIn) (maxL := 7) (ret := (some .long)) (by decide) rfl ?_
  intro p e s m args below meth c s₁ B hml hv
  obtain ⟨rfl, hP, hK⟩ := hv
  have hx := B.exec
  have hb := B.bytes
  have hr := B.returns
  have hts := atoms_spec (ws := wF_numberIn) B.pre
  have hw : ∀ w ∈ wA, w.before _ s = true := fun w h => hts w (List.mem_cons_of_mem _ h)
  have hown : s.vm.findClass RF = some m.cls := findClass_of_methodNamed B.named
  have hlocks := B.notSynchronized
  have hl := lv_entry ([.ref h, .int (nI o), .long wo]) (n := 7) (Nat.le_of_ble_eq_true rfl)
  rw [lg_entry_eq]
  generalize (lg_sl ([.ref h, .int (nI o), .long wo]) ++ List.replicate (7 - (lg_sl ([.ref h, .int (nI o), .long wo])).length) Slot.unset).toArray = ls at hl ⊢
  have hl : lv_has ls 7 [(0, .ref h), (1, .int (nI o)), (2, .long wo)] := hl
  have hn : n ≤ 64 := hF.1.1
  have hwd := hF.2.1
  have hsg := hF.2.2.1
  have hoc := hF.2.2.2
  have hit := cw_it hF.1
  have hw64 := hF.1.2.1
  have hwo := hw64 o ho
  refine lv_lconst (v := lN 0) hx hb dF_numberIn_0 (by decide +kernel) ?_
  refine lv_lstore hx hb dF_numberIn_1 hl (by decide) rfl (fun ls hl => ?_)
  have hl : lv_has ls 7 [(4, .long (lN 0)), (0, .ref h), (1, .int (nI o)), (2, .long wo)] := hl
  refine lv_iconst (v := nI 0) hx hb dF_numberIn_3 (by decide +kernel) ?_
  refine lv_istore hx hb dF_numberIn_4 hl (by decide) rfl (fun ls hl => ?_)
  have hl : lv_has ls 7 [(6, .int (nI 0)), (4, .long (lN 0)), (0, .ref h), (1, .int (nI o)), (2, .long wo)] := hl
  refine (?_ : ∀ (kk : Nat) (i : Nat) (x : Int64) (ls : Array Slot), kk = n - i → lv_has ls 7 [(6, .int (nI i)), (4, .long x), (0, .ref h), (1, .int (nI o)), (2, .long wo)] → (i ≤ n) → (∀ k, k < 64 → bq x k = dsp it n o wo i k) → W p l e _ s m _ below meth c _ _ _ _ _ (F0 m 6 ls [])) _ 0 (lN 0) ls rfl (lv_sub hl [0, 1, 2, 3, 4] rfl) (by omega) (dsp_0 it n o wo)
  intro kk
  induction kk using Nat.strongRecOn with
  | ind kk6 ih6 =>
    intro i x ls hkk6 hl hi hd
    refine lv_iload hx hb dF_numberIn_6 (lv_at hl 0 rfl) ?_
    refine lv_aload_n hx hb dF_numberIn_8 rfl (lv_at hl 2 rfl) ?_
    refine va_get (D := (dC, dI)) (ci := 0) (v := .int (nI n)) (C := RF) (T := TF) (N := 5) hx hb hw inF hown hK hP 0 rfl rfl 4 (by decide) (hw _ kw_44) (fun _ h9 => h9) rfl dF_numberIn_9 ?_
    refine lv_icmp_ge (tgt := 59) hx hb dF_numberIn_12 (by decide) (fun h12 => ?_) (fun h12 => ?_)
    · rw [nI_leI (by omega) (by omega)] at h12
      refine lv_bipush (v := nI 64) hx hb dF_numberIn_59 (by decide +kernel) ?_
      refine lv_aload_n hx hb dF_numberIn_61 rfl (lv_at hl 2 rfl) ?_
      refine va_get (D := (dC, dI)) (ci := 0) (v := .ref pw) (C := RF) (T := TF) (N := 5) hx hb hw inF hown hK hP 0 rfl rfl 0 (by decide) (hw _ kw_39) (fun _ h9 => h9) rfl dF_numberIn_62 ?_
      refine lv_iload_n hx hb dF_numberIn_65 rfl (lv_at hl 3 rfl) ?_
      refine va_iald hx hb hK hP 1 0 rfl rfl (vp_in_nI (by omega) (by decide)) dF_numberIn_66 ?_
      refine lv_topi (fun v66 e66 => ?_)
      rw [nI_clamp (by omega)] at e66
      obtain rfl : v66 = nI (w o) := e66.trans (hwd o (by omega))
      refine lv_isub hx hb dF_numberIn_67 ?_
      refine lv_topi (fun v67 e67 => ?_)
      obtain rfl : v67 = nI (64 - w o) := e67.trans (pk_sub (by omega))
      refine lv_istore hx hb dF_numberIn_68 hl (by decide) rfl (fun ls hl => ?_)
      have hl : lv_has ls 7 [(6, .int (nI (64 - w o))), (4, .long x), (0, .ref h), (1, .int (nI o)), (2, .long wo)] := hl
      refine lv_aload_n hx hb dF_numberIn_70 rfl (lv_at hl 2 rfl) ?_
      refine va_get (D := (dC, dI)) (ci := 0) (v := .ref ps) (C := RF) (T := TF) (N := 5) hx hb hw inF hown hK hP 0 rfl rfl 1 (by decide) (hw _ kw_41) (fun _ h9 => h9) rfl dF_numberIn_71 ?_
      refine lv_iload_n hx hb dF_numberIn_74 rfl (lv_at hl 3 rfl) ?_
      refine va_zald hx hb hK hP 2 1 rfl rfl (vp_in_nI (by omega) (by decide)) dF_numberIn_75 ?_
      refine lv_topi (fun v75 e75 => ?_)
      rw [nI_clamp (by omega)] at e75
      obtain rfl : v75 = nI (sb o).toNat := e75.trans (hsg o (by omega))
      refine lv_if_eq (tgt := 90) hx hb dF_numberIn_76 (by decide) (fun h76 => ?_) (fun h76 => ?_)
      · rw [b_nat0] at h76
        refine lv_lload hx hb dF_numberIn_90 (lv_at hl 1 rfl) ?_
        exact W.lret (v := x) hx hb hr (fun t ht hW => ⟨_, rfl, (by obtain rfl : i = n := (by omega); first | (rw [h76]; exact dcP_u hF.1 ho hw1 hd) | (rw [h76, e86, e83]; exact dcP_s hF.1 ho hw1 hd)), ht⟩) (fun q h => nomatch h) dF_numberIn_92
      · have h76 := b_nf h76
        refine lv_lload hx hb dF_numberIn_79 (lv_at hl 1 rfl) ?_
        refine lv_iload hx hb dF_numberIn_81 (lv_at hl 0 rfl) ?_
        refine lv_lshl hx hb dF_numberIn_83 rfl ?_
        refine lv_topl (fun v83 e83 => ?_)
        refine lv_iload hx hb dF_numberIn_84 (lv_at hl 0 rfl) ?_
        refine lv_lshr hx hb dF_numberIn_86 rfl ?_
        refine lv_topl (fun v86 e86 => ?_)
        refine lv_goto (tgt := 92) hx hb dF_numberIn_87 (by decide) ?_
        exact W.lret (v := v86) hx hb hr (fun t ht hW => ⟨_, rfl, (by obtain rfl : i = n := (by omega); first | (rw [h76]; exact dcP_u hF.1 ho hw1 hd) | (rw [h76, e86, e83]; exact dcP_s hF.1 ho hw1 hd)), ht⟩) (fun q h => nomatch h) dF_numberIn_92
    · rw [nI_leI (by omega) (by omega)] at h12
      have hti := hit i (by omega)
      refine lv_aload_n hx hb dF_numberIn_15 rfl (lv_at hl 2 rfl) ?_
      refine va_get (D := (dC, dI)) (ci := 0) (v := .ref po) (C := RF) (T := TF) (N := 5) hx hb hw inF hown hK hP 0 rfl rfl 2 (by decide) (hw _ kw_42) (fun _ h9 => h9) rfl dF_numberIn_16 ?_
      refine lv_iload hx hb dF_numberIn_19 (lv_at hl 0 rfl) ?_
      refine va_iald hx hb hK hP 3 0 rfl rfl (vp_in_nI (by omega) (by decide)) dF_numberIn_21 ?_
      refine lv_topi (fun v21 e21 => ?_)
      rw [nI_clamp (by omega)] at e21
      obtain rfl : v21 = cw_O (it i) := e21.trans (hoc i (by omega)).1
      refine lv_iload_n hx hb dF_numberIn_22 rfl (lv_at hl 3 rfl) ?_
      refine lv_icmp_ne (tgt := 53) hx hb dF_numberIn_23 (by decide) (fun h23 => ?_) (fun h23 => ?_)
      · rw [cw_O_eq hti ho] at h23
        refine lv_iinc (k := 0) (v := nI (i + 1)) hx hb dF_numberIn_53 hl rfl (cw_inc _) (by decide) rfl (fun ls hl => ?_)
        have hl : lv_has ls 7 [(6, .int (nI (i + 1))), (4, .long x), (0, .ref h), (1, .int (nI o)), (2, .long wo)] := hl
        refine lv_goto (tgt := 6) hx hb dF_numberIn_56 (by decide) ?_
        exact ih6 _ (by omega) (i + 1) x ls rfl (lv_sub (l' := [(6, .int (nI (i + 1))), (4, .long x), (0, .ref h), (1, .int (nI o)), (2, .long wo)]) hl [0, 1, 2, 3, 4] rfl) (by omega) (by first | (rw [e50, e49]; exact dsp_put hF.1 (by omega) ho hd h23) | exact dsp_skip hd h23)
      · rw [cw_O_eq hti ho] at h23
        refine lv_lload hx hb dF_numberIn_26 (lv_at hl 1 rfl) ?_
        refine lv_lload_n hx hb dF_numberIn_28 rfl (lv_at hl 4 rfl) ?_
        refine lv_aload_n hx hb dF_numberIn_29 rfl (lv_at hl 2 rfl) ?_
        refine va_get (D := (dC, dI)) (ci := 0) (v := .int (nI n)) (C := RF) (T := TF) (N := 5) hx hb hw inF hown hK hP 0 rfl rfl 4 (by decide) (hw _ kw_44) (fun _ h9 => h9) rfl dF_numberIn_30 ?_
        refine lv_iconst (v := nI 1) hx hb dF_numberIn_33 (by decide +kernel) ?_
        refine lv_isub hx hb dF_numberIn_34 ?_
        refine lv_topi (fun v34 e34 => ?_)
        obtain rfl : v34 = nI (n - 1) := e34.trans (pk_sub (by omega))
        refine lv_iload hx hb dF_numberIn_35 (lv_at hl 0 rfl) ?_
        refine lv_isub hx hb dF_numberIn_37 ?_
        refine lv_topi (fun v37 e37 => ?_)
        obtain rfl : v37 = nI (n - 1 - i) := e37.trans (pk_sub (by omega))
        refine vp_callSi (W.runS (As := [.long wo, .int (nI (n - 1 - i))]) (rest := [.long x]) ⟨hx, hb, hml, hown, hw⟩ (c_F_bitOf l wo (n - 1 - i) (by omega)) (cwS 2 hw (gS kw_223 kw_224 kw_15 kw_225) rfl rfl rfl (by decide +kernel) ⟨Nat.le_of_ble_eq_true rfl, Nat.le_of_ble_eq_true rfl⟩) preEq rfl rfl hl.1 rfl (lv_room (Nat.le_of_ble_eq_true rfl)) dF_numberIn_38 ⟨Nat.zero_le _, Nat.zero_le _⟩) (fun v38 e38 => ?_)
        obtain rfl : v38 = nI (bq wo (n - 1 - i)) := e38
        refine lv_i2l hx hb dF_numberIn_41 rfl ?_
        refine lv_topl (fun v41 e41 => ?_)
        obtain rfl : v41 = lN (bq wo (n - 1 - i)) := e41.trans (nI_l (by have := bq_lt wo (n - 1 - i); omega))
        refine lv_aload_n hx hb dF_numberIn_42 rfl (lv_at hl 2 rfl) ?_
        refine va_get (D := (dC, dI)) (ci := 0) (v := .ref pk) (C := RF) (T := TF) (N := 5) hx hb hw inF hown hK hP 0 rfl rfl 3 (by decide) (hw _ kw_43) (fun _ h9 => h9) rfl dF_numberIn_43 ?_
        refine lv_iload hx hb dF_numberIn_46 (lv_at hl 0 rfl) ?_
        refine va_iald hx hb hK hP 4 0 rfl rfl (vp_in_nI (by omega) (by decide)) dF_numberIn_48 ?_
        refine lv_topi (fun v48 e48 => ?_)
        rw [nI_clamp (by omega)] at e48
        obtain rfl : v48 = nI ((it i - 2) % 64) := (e48.trans (hoc i (by omega)).2).trans (cw_C_hi h23.1)
        refine lv_lshl hx hb dF_numberIn_49 rfl ?_
        refine lv_topl (fun v49 e49 => ?_)
        refine lv_lor hx hb dF_numberIn_50 ?_
        refine lv_topl (fun v50 e50 => ?_)
        refine lv_lstore hx hb dF_numberIn_51 hl (by decide) rfl (fun ls hl => ?_)
        have hl : lv_has ls 7 [(4, .long v50), (6, .int (nI i)), (0, .ref h), (1, .int (nI o)), (2, .long wo)] := hl
        refine lv_iinc (k := 1) (v := nI (i + 1)) hx hb dF_numberIn_53 hl rfl (cw_inc _) (by decide) rfl (fun ls hl => ?_)
        have hl : lv_has ls 7 [(6, .int (nI (i + 1))), (4, .long v50), (0, .ref h), (1, .int (nI o)), (2, .long wo)] := hl
        refine lv_goto (tgt := 6) hx hb dF_numberIn_56 (by decide) ?_
        exact ih6 _ (by omega) (i + 1) v50 ls rfl (lv_sub (l' := [(6, .int (nI (i + 1))), (4, .long v50), (0, .ref h), (1, .int (nI o)), (2, .long wo)]) hl [0, 1, 2, 3, 4] rfl) (by omega) (by first | (rw [e50, e49]; exact dsp_put hF.1 (by omega) ho hd h23) | exact dsp_skip hd h23)

set_option maxHeartbeats 4000000 in
set_option maxRecDepth 100000 in
theorem c_F_sharesWordWith (l : Launch) (dC : Nat → ClassId) (dI : Nat → Nat → Nat) (cI cZ : ClassId) (h pw ps po pk n : Nat) (wd sg ow co : Nat → Int32) (it w : Nat → Nat) (sb : Nat → Bool) (hF : fR n it w sb wd sg ow co) (h2 pw2 ps2 po2 pk2 n2 : Nat) (wd2 sg2 ow2 co2 : Nat → Int32) (it2 w2 : Nat → Nat) (sb2 : Nat → Bool) (hF2 : fR n2 it2 w2 sb2 wd2 sg2 ow2 co2) : Met l yF_sharesWordWith wF_sharesWordWith { frames := 1, cells := 0, slots := 0, locals := 23 } (ro_Pc (dC, dI) cls3 [(h, .inr (0, [.ref pw, .ref ps, .ref po, .ref pk, .int (nI n)])), (pw, .inl (cI, 6, .inl wd)), (ps, .inl (cZ, 6, .inl sg)), (po, .inl (cI, 64, .inl ow)), (pk, .inl (cI, 64, .inl co)), (h2, .inr (0, [.ref pw2, .ref ps2, .ref po2, .ref pk2, .int (nI n2)])), (pw2, .inl (cI, 6, .inl wd2)), (ps2, .inl (cZ, 6, .inl sg2)), (po2, .inl (cI, 64, .inl ow2)), (pk2, .inl (cI, 64, .inl co2))] [(cI, .int), (cZ, .boolean)] [.ref h, .ref h2]) (vp_Si (fun r => r = nI (allb (shw it n it2 n2) 64).toNat)) 0 0 (fun _ => False) := by
  refine Met.ofW (cc := cF_sharesWordWith) (maxL := 5) (ret := (some .boolean)) (by decide) rfl ?_
  intro p e s m args below meth c s₁ B hml hv
  obtain ⟨rfl, hP, hK⟩ := hv
  have hx := B.exec
  have hb := B.bytes
  have hr := B.returns
  have hts := atoms_spec (ws := wF_sharesWordWith) B.pre
  have hw : ∀ w ∈ wA, w.before _ s = true := fun w h => hts w (List.mem_cons_of_mem _ h)
  have hown : s.vm.findClass RF = some m.cls := findClass_of_methodNamed B.named
  have hlocks := B.notSynchronized
  have hl := lv_entry ([.ref h, .ref h2]) (n := 5) (Nat.le_of_ble_eq_true rfl)
  rw [lg_entry_eq]
  generalize (lg_sl ([.ref h, .ref h2]) ++ List.replicate (5 - (lg_sl ([.ref h, .ref h2])).length) Slot.unset).toArray = ls at hl ⊢
  have hl : lv_has ls 5 [(0, .ref h), (1, .ref h2)] := hl
  refine lv_iconst (v := nI 0) hx hb dF_sharesWordWith_0 (by decide +kernel) ?_
  refine lv_istore_n hx hb dF_sharesWordWith_1 rfl hl (by decide) rfl (fun ls hl => ?_)
  have hl : lv_has ls 5 [(2, .int (nI 0)), (0, .ref h), (1, .ref h2)] := hl
  refine (?_ : ∀ (kk : Nat) (j : Nat) (ls : Array Slot), kk = 64 - j → lv_has ls 5 [(2, .int (nI j)), (0, .ref h), (1, .ref h2)] → (j ≤ 64) → (allb (shw it n it2 n2) j = true) → W p l e _ s m _ below meth c _ _ _ _ _ (F0 m 2 ls [])) _ 0 ls rfl (lv_sub hl [0, 1, 2] rfl) (by omega) rfl
  intro kk
  induction kk using Nat.strongRecOn with
  | ind kk2 ih2 =>
    intro j ls hkk2 hl hj ha
    refine lv_iload_n hx hb dF_sharesWordWith_2 rfl (lv_at hl 0 rfl) ?_
    refine lv_bipush (v := nI 64) hx hb dF_sharesWordWith_3 (by decide +kernel) ?_
    refine lv_icmp_ge (tgt := 74) hx hb dF_sharesWordWith_5 (by decide) (fun h5 => ?_) (fun h5 => ?_)
    · rw [nI_leI (by omega) (by omega)] at h5
      refine lv_iconst (v := nI 1) hx hb dF_sharesWordWith_74 (by decide +kernel) ?_
      exact W.zret (v := nI 1) hx hb hr (by first | exact b_nar _ | decide +kernel) (fun t ht hW => ⟨_, rfl, (by first | (rw [show j = 64 by omega] at ha; rw [ha]; rfl) | (rw [allb_f _ 64 (k := j) (by omega) (by first | exact shw_f (Or.inl ((b_nat0 _).mp h14)) (Or.inl ((b_nat0 _).mp h38)) | exact shw_f (Or.inl ((b_nat0 _).mp h14)) (Or.inr ((b_nat0 _).mp h47)) | exact shw_f (Or.inr ((b_nat0 _).mp h23)) (Or.inl ((b_nat0 _).mp h38)) | exact shw_f (Or.inr ((b_nat0 _).mp h23)) (Or.inr ((b_nat0 _).mp h47)))]; rfl)), ht⟩) (fun q h => nomatch h) dF_sharesWordWith_75
    · rw [nI_leI (by omega) (by omega)] at h5
      refine lv_aload_n hx hb dF_sharesWordWith_8 rfl (lv_at hl 1 rfl) ?_
      refine lv_iload_n hx hb dF_sharesWordWith_9 rfl (lv_at hl 0 rfl) ?_
      refine lv_iconst (v := nI 0) hx hb dF_sharesWordWith_10 (by decide +kernel) ?_
      refine vp_callSi (W.runV (As := [.int (nI j), .int (nI 0)]) (rest := []) ⟨hx, hb, hml, hown, hw⟩ (c_F_allows l dC dI cI cZ h pw ps po pk n wd sg ow co it w sb hF j 0 (by omega) (by omega)) (cwV 2 hw (gV kw_339 kw_341 kw_4 kw_15 kw_342) rfl rfl rfl (by decide +kernel) ⟨Nat.le_of_ble_eq_true rfl, Nat.le_of_ble_eq_true rfl⟩) (ro_preV (q0 := 0) hK (hP.sub (ws' := [(h, .inr (0, [.ref pw, .ref ps, .ref po, .ref pk, .int (nI n)])), (pw, .inl (cI, 6, .inl wd)), (ps, .inl (cZ, 6, .inl sg)), (po, .inl (cI, 64, .inl ow)), (pk, .inl (cI, 64, .inl co))]) [0, 1, 2, 3, 4] rfl) rfl rfl) rfl rfl hl.1 rfl (lv_room (Nat.le_of_ble_eq_true rfl)) dF_sharesWordWith_11 ⟨Nat.zero_le _, Nat.zero_le _⟩) (fun v11 e11 => ?_)
      obtain rfl : v11 = nI (alw it n j 0).toNat := e11
      refine lv_if_eq (tgt := 30) hx hb dF_sharesWordWith_14 (by decide) (fun h14 => ?_) (fun h14 => ?_)
      · refine lv_iconst (v := nI 0) hx hb dF_sharesWordWith_30 (by decide +kernel) ?_
        refine lv_istore_n hx hb dF_sharesWordWith_31 rfl hl (by decide) rfl (fun ls hl => ?_)
        have hl : lv_has ls 5 [(3, .int (nI 0)), (2, .int (nI j)), (0, .ref h), (1, .ref h2)] := hl
        refine lv_aload_n hx hb dF_sharesWordWith_32 rfl (lv_at hl 2 rfl) ?_
        refine lv_iload_n hx hb dF_sharesWordWith_33 rfl (lv_at hl 1 rfl) ?_
        refine lv_iconst (v := nI 1) hx hb dF_sharesWordWith_34 (by decide +kernel) ?_
        refine vp_callSi (W.runV (As := [.int (nI j), .int (nI 1)]) (rest := []) ⟨hx, hb, hml, hown, hw⟩ (c_F_allows l dC dI cI cZ h pw ps po pk n wd sg ow co it w sb hF j 1 (by omega) (by omega)) (cwV 2 hw (gV kw_339 kw_341 kw_4 kw_15 kw_342) rfl rfl rfl (by decide +kernel) ⟨Nat.le_of_ble_eq_true rfl, Nat.le_of_ble_eq_true rfl⟩) (ro_preV (q0 := 0) hK (hP.sub (ws' := [(h, .inr (0, [.ref pw, .ref ps, .ref po, .ref pk, .int (nI n)])), (pw, .inl (cI, 6, .inl wd)), (ps, .inl (cZ, 6, .inl sg)), (po, .inl (cI, 64, .inl ow)), (pk, .inl (cI, 64, .inl co))]) [0, 1, 2, 3, 4] rfl) rfl rfl) rfl rfl hl.1 rfl (lv_room (Nat.le_of_ble_eq_true rfl)) dF_sharesWordWith_35 ⟨Nat.zero_le _, Nat.zero_le _⟩) (fun v35 e35 => ?_)
        obtain rfl : v35 = nI (alw it n j 1).toNat := e35
        refine lv_if_eq (tgt := 54) hx hb dF_sharesWordWith_38 (by decide) (fun h38 => ?_) (fun h38 => ?_)
        · refine lv_iconst (v := nI 0) hx hb dF_sharesWordWith_54 (by decide +kernel) ?_
          refine lv_istore hx hb dF_sharesWordWith_55 hl (by decide) rfl (fun ls hl => ?_)
          have hl : lv_has ls 5 [(4, .int (nI 0)), (3, .int (nI 0)), (2, .int (nI j)), (0, .ref h), (1, .ref h2)] := hl
          refine lv_iload_n hx hb dF_sharesWordWith_57 rfl (lv_at hl 1 rfl) ?_
          refine lv_if_ne (tgt := 68) hx hb dF_sharesWordWith_58 (by decide) (fun h58 => ?_) (fun h58 => ?_)
          · exfalso
            first | exact h58 (by decide +kernel) | exact absurd h58 (by decide +kernel)
          · refine lv_iload hx hb dF_sharesWordWith_61 (lv_at hl 0 rfl) ?_
            refine lv_if_ne (tgt := 68) hx hb dF_sharesWordWith_63 (by decide) (fun h63 => ?_) (fun h63 => ?_)
            · exfalso
              first | exact h63 (by decide +kernel) | exact absurd h63 (by decide +kernel)
            · refine lv_iconst (v := nI 0) hx hb dF_sharesWordWith_66 (by decide +kernel) ?_
              exact W.zret (v := nI 0) hx hb hr (by first | exact b_nar _ | decide +kernel) (fun t ht hW => ⟨_, rfl, (by first | (rw [show j = 64 by omega] at ha; rw [ha]; rfl) | (rw [allb_f _ 64 (k := j) (by omega) (by first | exact shw_f (Or.inl ((b_nat0 _).mp h14)) (Or.inl ((b_nat0 _).mp h38)) | exact shw_f (Or.inl ((b_nat0 _).mp h14)) (Or.inr ((b_nat0 _).mp h47)) | exact shw_f (Or.inr ((b_nat0 _).mp h23)) (Or.inl ((b_nat0 _).mp h38)) | exact shw_f (Or.inr ((b_nat0 _).mp h23)) (Or.inr ((b_nat0 _).mp h47)))]; rfl)), ht⟩) (fun q h => nomatch h) dF_sharesWordWith_67
        · refine lv_aload_n hx hb dF_sharesWordWith_41 rfl (lv_at hl 3 rfl) ?_
          refine lv_iload_n hx hb dF_sharesWordWith_42 rfl (lv_at hl 1 rfl) ?_
          refine lv_iconst (v := nI 1) hx hb dF_sharesWordWith_43 (by decide +kernel) ?_
          refine vp_callSi (W.runV (As := [.int (nI j), .int (nI 1)]) (rest := []) ⟨hx, hb, hml, hown, hw⟩ (c_F_allows l dC dI cI cZ h2 pw2 ps2 po2 pk2 n2 wd2 sg2 ow2 co2 it2 w2 sb2 hF2 j 1 (by omega) (by omega)) (cwV 2 hw (gV kw_339 kw_341 kw_4 kw_15 kw_342) rfl rfl rfl (by decide +kernel) ⟨Nat.le_of_ble_eq_true rfl, Nat.le_of_ble_eq_true rfl⟩) (ro_preV (q0 := 0) hK (hP.sub (ws' := [(h2, .inr (0, [.ref pw2, .ref ps2, .ref po2, .ref pk2, .int (nI n2)])), (pw2, .inl (cI, 6, .inl wd2)), (ps2, .inl (cZ, 6, .inl sg2)), (po2, .inl (cI, 64, .inl ow2)), (pk2, .inl (cI, 64, .inl co2))]) [5, 6, 7, 8, 9] rfl) rfl rfl) rfl rfl hl.1 rfl (lv_room (Nat.le_of_ble_eq_true rfl)) dF_sharesWordWith_44 ⟨Nat.zero_le _, Nat.zero_le _⟩) (fun v44 e44 => ?_)
          obtain rfl : v44 = nI (alw it2 n2 j 1).toNat := e44
          refine lv_if_eq (tgt := 54) hx hb dF_sharesWordWith_47 (by decide) (fun h47 => ?_) (fun h47 => ?_)
          · refine lv_iconst (v := nI 0) hx hb dF_sharesWordWith_54 (by decide +kernel) ?_
            refine lv_istore hx hb dF_sharesWordWith_55 hl (by decide) rfl (fun ls hl => ?_)
            have hl : lv_has ls 5 [(4, .int (nI 0)), (3, .int (nI 0)), (2, .int (nI j)), (0, .ref h), (1, .ref h2)] := hl
            refine lv_iload_n hx hb dF_sharesWordWith_57 rfl (lv_at hl 1 rfl) ?_
            refine lv_if_ne (tgt := 68) hx hb dF_sharesWordWith_58 (by decide) (fun h58 => ?_) (fun h58 => ?_)
            · exfalso
              first | exact h58 (by decide +kernel) | exact absurd h58 (by decide +kernel)
            · refine lv_iload hx hb dF_sharesWordWith_61 (lv_at hl 0 rfl) ?_
              refine lv_if_ne (tgt := 68) hx hb dF_sharesWordWith_63 (by decide) (fun h63 => ?_) (fun h63 => ?_)
              · exfalso
                first | exact h63 (by decide +kernel) | exact absurd h63 (by decide +kernel)
              · refine lv_iconst (v := nI 0) hx hb dF_sharesWordWith_66 (by decide +kernel) ?_
                exact W.zret (v := nI 0) hx hb hr (by first | exact b_nar _ | decide +kernel) (fun t ht hW => ⟨_, rfl, (by first | (rw [show j = 64 by omega] at ha; rw [ha]; rfl) | (rw [allb_f _ 64 (k := j) (by omega) (by first | exact shw_f (Or.inl ((b_nat0 _).mp h14)) (Or.inl ((b_nat0 _).mp h38)) | exact shw_f (Or.inl ((b_nat0 _).mp h14)) (Or.inr ((b_nat0 _).mp h47)) | exact shw_f (Or.inr ((b_nat0 _).mp h23)) (Or.inl ((b_nat0 _).mp h38)) | exact shw_f (Or.inr ((b_nat0 _).mp h23)) (Or.inr ((b_nat0 _).mp h47)))]; rfl)), ht⟩) (fun q h => nomatch h) dF_sharesWordWith_67
          · refine lv_iconst (v := nI 1) hx hb dF_sharesWordWith_50 (by decide +kernel) ?_
            refine lv_goto (tgt := 55) hx hb dF_sharesWordWith_51 (by decide) ?_
            refine lv_istore hx hb dF_sharesWordWith_55 hl (by decide) rfl (fun ls hl => ?_)
            have hl : lv_has ls 5 [(4, .int (nI 1)), (3, .int (nI 0)), (2, .int (nI j)), (0, .ref h), (1, .ref h2)] := hl
            refine lv_iload_n hx hb dF_sharesWordWith_57 rfl (lv_at hl 1 rfl) ?_
            refine lv_if_ne (tgt := 68) hx hb dF_sharesWordWith_58 (by decide) (fun h58 => ?_) (fun h58 => ?_)
            · exfalso
              first | exact h58 (by decide +kernel) | exact absurd h58 (by decide +kernel)
            · refine lv_iload hx hb dF_sharesWordWith_61 (lv_at hl 0 rfl) ?_
              refine lv_if_ne (tgt := 68) hx hb dF_sharesWordWith_63 (by decide) (fun h63 => ?_) (fun h63 => ?_)
              · refine lv_iinc (k := 2) (v := nI (j + 1)) hx hb dF_sharesWordWith_68 hl rfl (cw_inc _) (by decide) rfl (fun ls hl => ?_)
                have hl : lv_has ls 5 [(2, .int (nI (j + 1))), (4, .int (nI 1)), (3, .int (nI 0)), (0, .ref h), (1, .ref h2)] := hl
                refine lv_goto (tgt := 2) hx hb dF_sharesWordWith_71 (by decide) ?_
                exact ih2 _ (by omega) (j + 1) ls rfl (lv_sub (l' := [(2, .int (nI (j + 1))), (0, .ref h), (1, .ref h2)]) hl [0, 3, 4] rfl) (by omega) (by simp only [allb, ha, Bool.true_and]; first | exact shw_0 (b_nf h14) (b_nf h23) | exact shw_1 (b_nf h38) (b_nf h47))
              · exfalso
                first | exact h63 (by decide +kernel) | exact absurd h63 (by decide +kernel)
      · refine lv_aload_n hx hb dF_sharesWordWith_17 rfl (lv_at hl 2 rfl) ?_
        refine lv_iload_n hx hb dF_sharesWordWith_18 rfl (lv_at hl 0 rfl) ?_
        refine lv_iconst (v := nI 0) hx hb dF_sharesWordWith_19 (by decide +kernel) ?_
        refine vp_callSi (W.runV (As := [.int (nI j), .int (nI 0)]) (rest := []) ⟨hx, hb, hml, hown, hw⟩ (c_F_allows l dC dI cI cZ h2 pw2 ps2 po2 pk2 n2 wd2 sg2 ow2 co2 it2 w2 sb2 hF2 j 0 (by omega) (by omega)) (cwV 2 hw (gV kw_339 kw_341 kw_4 kw_15 kw_342) rfl rfl rfl (by decide +kernel) ⟨Nat.le_of_ble_eq_true rfl, Nat.le_of_ble_eq_true rfl⟩) (ro_preV (q0 := 0) hK (hP.sub (ws' := [(h2, .inr (0, [.ref pw2, .ref ps2, .ref po2, .ref pk2, .int (nI n2)])), (pw2, .inl (cI, 6, .inl wd2)), (ps2, .inl (cZ, 6, .inl sg2)), (po2, .inl (cI, 64, .inl ow2)), (pk2, .inl (cI, 64, .inl co2))]) [5, 6, 7, 8, 9] rfl) rfl rfl) rfl rfl hl.1 rfl (lv_room (Nat.le_of_ble_eq_true rfl)) dF_sharesWordWith_20 ⟨Nat.zero_le _, Nat.zero_le _⟩) (fun v20 e20 => ?_)
        obtain rfl : v20 = nI (alw it2 n2 j 0).toNat := e20
        refine lv_if_eq (tgt := 30) hx hb dF_sharesWordWith_23 (by decide) (fun h23 => ?_) (fun h23 => ?_)
        · refine lv_iconst (v := nI 0) hx hb dF_sharesWordWith_30 (by decide +kernel) ?_
          refine lv_istore_n hx hb dF_sharesWordWith_31 rfl hl (by decide) rfl (fun ls hl => ?_)
          have hl : lv_has ls 5 [(3, .int (nI 0)), (2, .int (nI j)), (0, .ref h), (1, .ref h2)] := hl
          refine lv_aload_n hx hb dF_sharesWordWith_32 rfl (lv_at hl 2 rfl) ?_
          refine lv_iload_n hx hb dF_sharesWordWith_33 rfl (lv_at hl 1 rfl) ?_
          refine lv_iconst (v := nI 1) hx hb dF_sharesWordWith_34 (by decide +kernel) ?_
          refine vp_callSi (W.runV (As := [.int (nI j), .int (nI 1)]) (rest := []) ⟨hx, hb, hml, hown, hw⟩ (c_F_allows l dC dI cI cZ h pw ps po pk n wd sg ow co it w sb hF j 1 (by omega) (by omega)) (cwV 2 hw (gV kw_339 kw_341 kw_4 kw_15 kw_342) rfl rfl rfl (by decide +kernel) ⟨Nat.le_of_ble_eq_true rfl, Nat.le_of_ble_eq_true rfl⟩) (ro_preV (q0 := 0) hK (hP.sub (ws' := [(h, .inr (0, [.ref pw, .ref ps, .ref po, .ref pk, .int (nI n)])), (pw, .inl (cI, 6, .inl wd)), (ps, .inl (cZ, 6, .inl sg)), (po, .inl (cI, 64, .inl ow)), (pk, .inl (cI, 64, .inl co))]) [0, 1, 2, 3, 4] rfl) rfl rfl) rfl rfl hl.1 rfl (lv_room (Nat.le_of_ble_eq_true rfl)) dF_sharesWordWith_35 ⟨Nat.zero_le _, Nat.zero_le _⟩) (fun v35 e35 => ?_)
          obtain rfl : v35 = nI (alw it n j 1).toNat := e35
          refine lv_if_eq (tgt := 54) hx hb dF_sharesWordWith_38 (by decide) (fun h38 => ?_) (fun h38 => ?_)
          · refine lv_iconst (v := nI 0) hx hb dF_sharesWordWith_54 (by decide +kernel) ?_
            refine lv_istore hx hb dF_sharesWordWith_55 hl (by decide) rfl (fun ls hl => ?_)
            have hl : lv_has ls 5 [(4, .int (nI 0)), (3, .int (nI 0)), (2, .int (nI j)), (0, .ref h), (1, .ref h2)] := hl
            refine lv_iload_n hx hb dF_sharesWordWith_57 rfl (lv_at hl 1 rfl) ?_
            refine lv_if_ne (tgt := 68) hx hb dF_sharesWordWith_58 (by decide) (fun h58 => ?_) (fun h58 => ?_)
            · exfalso
              first | exact h58 (by decide +kernel) | exact absurd h58 (by decide +kernel)
            · refine lv_iload hx hb dF_sharesWordWith_61 (lv_at hl 0 rfl) ?_
              refine lv_if_ne (tgt := 68) hx hb dF_sharesWordWith_63 (by decide) (fun h63 => ?_) (fun h63 => ?_)
              · exfalso
                first | exact h63 (by decide +kernel) | exact absurd h63 (by decide +kernel)
              · refine lv_iconst (v := nI 0) hx hb dF_sharesWordWith_66 (by decide +kernel) ?_
                exact W.zret (v := nI 0) hx hb hr (by first | exact b_nar _ | decide +kernel) (fun t ht hW => ⟨_, rfl, (by first | (rw [show j = 64 by omega] at ha; rw [ha]; rfl) | (rw [allb_f _ 64 (k := j) (by omega) (by first | exact shw_f (Or.inl ((b_nat0 _).mp h14)) (Or.inl ((b_nat0 _).mp h38)) | exact shw_f (Or.inl ((b_nat0 _).mp h14)) (Or.inr ((b_nat0 _).mp h47)) | exact shw_f (Or.inr ((b_nat0 _).mp h23)) (Or.inl ((b_nat0 _).mp h38)) | exact shw_f (Or.inr ((b_nat0 _).mp h23)) (Or.inr ((b_nat0 _).mp h47)))]; rfl)), ht⟩) (fun q h => nomatch h) dF_sharesWordWith_67
          · refine lv_aload_n hx hb dF_sharesWordWith_41 rfl (lv_at hl 3 rfl) ?_
            refine lv_iload_n hx hb dF_sharesWordWith_42 rfl (lv_at hl 1 rfl) ?_
            refine lv_iconst (v := nI 1) hx hb dF_sharesWordWith_43 (by decide +kernel) ?_
            refine vp_callSi (W.runV (As := [.int (nI j), .int (nI 1)]) (rest := []) ⟨hx, hb, hml, hown, hw⟩ (c_F_allows l dC dI cI cZ h2 pw2 ps2 po2 pk2 n2 wd2 sg2 ow2 co2 it2 w2 sb2 hF2 j 1 (by omega) (by omega)) (cwV 2 hw (gV kw_339 kw_341 kw_4 kw_15 kw_342) rfl rfl rfl (by decide +kernel) ⟨Nat.le_of_ble_eq_true rfl, Nat.le_of_ble_eq_true rfl⟩) (ro_preV (q0 := 0) hK (hP.sub (ws' := [(h2, .inr (0, [.ref pw2, .ref ps2, .ref po2, .ref pk2, .int (nI n2)])), (pw2, .inl (cI, 6, .inl wd2)), (ps2, .inl (cZ, 6, .inl sg2)), (po2, .inl (cI, 64, .inl ow2)), (pk2, .inl (cI, 64, .inl co2))]) [5, 6, 7, 8, 9] rfl) rfl rfl) rfl rfl hl.1 rfl (lv_room (Nat.le_of_ble_eq_true rfl)) dF_sharesWordWith_44 ⟨Nat.zero_le _, Nat.zero_le _⟩) (fun v44 e44 => ?_)
            obtain rfl : v44 = nI (alw it2 n2 j 1).toNat := e44
            refine lv_if_eq (tgt := 54) hx hb dF_sharesWordWith_47 (by decide) (fun h47 => ?_) (fun h47 => ?_)
            · refine lv_iconst (v := nI 0) hx hb dF_sharesWordWith_54 (by decide +kernel) ?_
              refine lv_istore hx hb dF_sharesWordWith_55 hl (by decide) rfl (fun ls hl => ?_)
              have hl : lv_has ls 5 [(4, .int (nI 0)), (3, .int (nI 0)), (2, .int (nI j)), (0, .ref h), (1, .ref h2)] := hl
              refine lv_iload_n hx hb dF_sharesWordWith_57 rfl (lv_at hl 1 rfl) ?_
              refine lv_if_ne (tgt := 68) hx hb dF_sharesWordWith_58 (by decide) (fun h58 => ?_) (fun h58 => ?_)
              · exfalso
                first | exact h58 (by decide +kernel) | exact absurd h58 (by decide +kernel)
              · refine lv_iload hx hb dF_sharesWordWith_61 (lv_at hl 0 rfl) ?_
                refine lv_if_ne (tgt := 68) hx hb dF_sharesWordWith_63 (by decide) (fun h63 => ?_) (fun h63 => ?_)
                · exfalso
                  first | exact h63 (by decide +kernel) | exact absurd h63 (by decide +kernel)
                · refine lv_iconst (v := nI 0) hx hb dF_sharesWordWith_66 (by decide +kernel) ?_
                  exact W.zret (v := nI 0) hx hb hr (by first | exact b_nar _ | decide +kernel) (fun t ht hW => ⟨_, rfl, (by first | (rw [show j = 64 by omega] at ha; rw [ha]; rfl) | (rw [allb_f _ 64 (k := j) (by omega) (by first | exact shw_f (Or.inl ((b_nat0 _).mp h14)) (Or.inl ((b_nat0 _).mp h38)) | exact shw_f (Or.inl ((b_nat0 _).mp h14)) (Or.inr ((b_nat0 _).mp h47)) | exact shw_f (Or.inr ((b_nat0 _).mp h23)) (Or.inl ((b_nat0 _).mp h38)) | exact shw_f (Or.inr ((b_nat0 _).mp h23)) (Or.inr ((b_nat0 _).mp h47)))]; rfl)), ht⟩) (fun q h => nomatch h) dF_sharesWordWith_67
            · refine lv_iconst (v := nI 1) hx hb dF_sharesWordWith_50 (by decide +kernel) ?_
              refine lv_goto (tgt := 55) hx hb dF_sharesWordWith_51 (by decide) ?_
              refine lv_istore hx hb dF_sharesWordWith_55 hl (by decide) rfl (fun ls hl => ?_)
              have hl : lv_has ls 5 [(4, .int (nI 1)), (3, .int (nI 0)), (2, .int (nI j)), (0, .ref h), (1, .ref h2)] := hl
              refine lv_iload_n hx hb dF_sharesWordWith_57 rfl (lv_at hl 1 rfl) ?_
              refine lv_if_ne (tgt := 68) hx hb dF_sharesWordWith_58 (by decide) (fun h58 => ?_) (fun h58 => ?_)
              · exfalso
                first | exact h58 (by decide +kernel) | exact absurd h58 (by decide +kernel)
              · refine lv_iload hx hb dF_sharesWordWith_61 (lv_at hl 0 rfl) ?_
                refine lv_if_ne (tgt := 68) hx hb dF_sharesWordWith_63 (by decide) (fun h63 => ?_) (fun h63 => ?_)
                · refine lv_iinc (k := 2) (v := nI (j + 1)) hx hb dF_sharesWordWith_68 hl rfl (cw_inc _) (by decide) rfl (fun ls hl => ?_)
                  have hl : lv_has ls 5 [(2, .int (nI (j + 1))), (4, .int (nI 1)), (3, .int (nI 0)), (0, .ref h), (1, .ref h2)] := hl
                  refine lv_goto (tgt := 2) hx hb dF_sharesWordWith_71 (by decide) ?_
                  exact ih2 _ (by omega) (j + 1) ls rfl (lv_sub (l' := [(2, .int (nI (j + 1))), (0, .ref h), (1, .ref h2)]) hl [0, 3, 4] rfl) (by omega) (by simp only [allb, ha, Bool.true_and]; first | exact shw_0 (b_nf h14) (b_nf h23) | exact shw_1 (b_nf h38) (b_nf h47))
                · exfalso
                  first | exact h63 (by decide +kernel) | exact absurd h63 (by decide +kernel)
        · refine lv_iconst (v := nI 1) hx hb dF_sharesWordWith_26 (by decide +kernel) ?_
          refine lv_goto (tgt := 31) hx hb dF_sharesWordWith_27 (by decide) ?_
          refine lv_istore_n hx hb dF_sharesWordWith_31 rfl hl (by decide) rfl (fun ls hl => ?_)
          have hl : lv_has ls 5 [(3, .int (nI 1)), (2, .int (nI j)), (0, .ref h), (1, .ref h2)] := hl
          refine lv_aload_n hx hb dF_sharesWordWith_32 rfl (lv_at hl 2 rfl) ?_
          refine lv_iload_n hx hb dF_sharesWordWith_33 rfl (lv_at hl 1 rfl) ?_
          refine lv_iconst (v := nI 1) hx hb dF_sharesWordWith_34 (by decide +kernel) ?_
          refine vp_callSi (W.runV (As := [.int (nI j), .int (nI 1)]) (rest := []) ⟨hx, hb, hml, hown, hw⟩ (c_F_allows l dC dI cI cZ h pw ps po pk n wd sg ow co it w sb hF j 1 (by omega) (by omega)) (cwV 2 hw (gV kw_339 kw_341 kw_4 kw_15 kw_342) rfl rfl rfl (by decide +kernel) ⟨Nat.le_of_ble_eq_true rfl, Nat.le_of_ble_eq_true rfl⟩) (ro_preV (q0 := 0) hK (hP.sub (ws' := [(h, .inr (0, [.ref pw, .ref ps, .ref po, .ref pk, .int (nI n)])), (pw, .inl (cI, 6, .inl wd)), (ps, .inl (cZ, 6, .inl sg)), (po, .inl (cI, 64, .inl ow)), (pk, .inl (cI, 64, .inl co))]) [0, 1, 2, 3, 4] rfl) rfl rfl) rfl rfl hl.1 rfl (lv_room (Nat.le_of_ble_eq_true rfl)) dF_sharesWordWith_35 ⟨Nat.zero_le _, Nat.zero_le _⟩) (fun v35 e35 => ?_)
          obtain rfl : v35 = nI (alw it n j 1).toNat := e35
          refine lv_if_eq (tgt := 54) hx hb dF_sharesWordWith_38 (by decide) (fun h38 => ?_) (fun h38 => ?_)
          · refine lv_iconst (v := nI 0) hx hb dF_sharesWordWith_54 (by decide +kernel) ?_
            refine lv_istore hx hb dF_sharesWordWith_55 hl (by decide) rfl (fun ls hl => ?_)
            have hl : lv_has ls 5 [(4, .int (nI 0)), (3, .int (nI 1)), (2, .int (nI j)), (0, .ref h), (1, .ref h2)] := hl
            refine lv_iload_n hx hb dF_sharesWordWith_57 rfl (lv_at hl 1 rfl) ?_
            refine lv_if_ne (tgt := 68) hx hb dF_sharesWordWith_58 (by decide) (fun h58 => ?_) (fun h58 => ?_)
            · refine lv_iinc (k := 2) (v := nI (j + 1)) hx hb dF_sharesWordWith_68 hl rfl (cw_inc _) (by decide) rfl (fun ls hl => ?_)
              have hl : lv_has ls 5 [(2, .int (nI (j + 1))), (4, .int (nI 0)), (3, .int (nI 1)), (0, .ref h), (1, .ref h2)] := hl
              refine lv_goto (tgt := 2) hx hb dF_sharesWordWith_71 (by decide) ?_
              exact ih2 _ (by omega) (j + 1) ls rfl (lv_sub (l' := [(2, .int (nI (j + 1))), (0, .ref h), (1, .ref h2)]) hl [0, 3, 4] rfl) (by omega) (by simp only [allb, ha, Bool.true_and]; first | exact shw_0 (b_nf h14) (b_nf h23) | exact shw_1 (b_nf h38) (b_nf h47))
            · exfalso
              first | exact h58 (by decide +kernel) | exact absurd h58 (by decide +kernel)
          · refine lv_aload_n hx hb dF_sharesWordWith_41 rfl (lv_at hl 3 rfl) ?_
            refine lv_iload_n hx hb dF_sharesWordWith_42 rfl (lv_at hl 1 rfl) ?_
            refine lv_iconst (v := nI 1) hx hb dF_sharesWordWith_43 (by decide +kernel) ?_
            refine vp_callSi (W.runV (As := [.int (nI j), .int (nI 1)]) (rest := []) ⟨hx, hb, hml, hown, hw⟩ (c_F_allows l dC dI cI cZ h2 pw2 ps2 po2 pk2 n2 wd2 sg2 ow2 co2 it2 w2 sb2 hF2 j 1 (by omega) (by omega)) (cwV 2 hw (gV kw_339 kw_341 kw_4 kw_15 kw_342) rfl rfl rfl (by decide +kernel) ⟨Nat.le_of_ble_eq_true rfl, Nat.le_of_ble_eq_true rfl⟩) (ro_preV (q0 := 0) hK (hP.sub (ws' := [(h2, .inr (0, [.ref pw2, .ref ps2, .ref po2, .ref pk2, .int (nI n2)])), (pw2, .inl (cI, 6, .inl wd2)), (ps2, .inl (cZ, 6, .inl sg2)), (po2, .inl (cI, 64, .inl ow2)), (pk2, .inl (cI, 64, .inl co2))]) [5, 6, 7, 8, 9] rfl) rfl rfl) rfl rfl hl.1 rfl (lv_room (Nat.le_of_ble_eq_true rfl)) dF_sharesWordWith_44 ⟨Nat.zero_le _, Nat.zero_le _⟩) (fun v44 e44 => ?_)
            obtain rfl : v44 = nI (alw it2 n2 j 1).toNat := e44
            refine lv_if_eq (tgt := 54) hx hb dF_sharesWordWith_47 (by decide) (fun h47 => ?_) (fun h47 => ?_)
            · refine lv_iconst (v := nI 0) hx hb dF_sharesWordWith_54 (by decide +kernel) ?_
              refine lv_istore hx hb dF_sharesWordWith_55 hl (by decide) rfl (fun ls hl => ?_)
              have hl : lv_has ls 5 [(4, .int (nI 0)), (3, .int (nI 1)), (2, .int (nI j)), (0, .ref h), (1, .ref h2)] := hl
              refine lv_iload_n hx hb dF_sharesWordWith_57 rfl (lv_at hl 1 rfl) ?_
              refine lv_if_ne (tgt := 68) hx hb dF_sharesWordWith_58 (by decide) (fun h58 => ?_) (fun h58 => ?_)
              · refine lv_iinc (k := 2) (v := nI (j + 1)) hx hb dF_sharesWordWith_68 hl rfl (cw_inc _) (by decide) rfl (fun ls hl => ?_)
                have hl : lv_has ls 5 [(2, .int (nI (j + 1))), (4, .int (nI 0)), (3, .int (nI 1)), (0, .ref h), (1, .ref h2)] := hl
                refine lv_goto (tgt := 2) hx hb dF_sharesWordWith_71 (by decide) ?_
                exact ih2 _ (by omega) (j + 1) ls rfl (lv_sub (l' := [(2, .int (nI (j + 1))), (0, .ref h), (1, .ref h2)]) hl [0, 3, 4] rfl) (by omega) (by simp only [allb, ha, Bool.true_and]; first | exact shw_0 (b_nf h14) (b_nf h23) | exact shw_1 (b_nf h38) (b_nf h47))
              · exfalso
                first | exact h58 (by decide +kernel) | exact absurd h58 (by decide +kernel)
            · refine lv_iconst (v := nI 1) hx hb dF_sharesWordWith_50 (by decide +kernel) ?_
              refine lv_goto (tgt := 55) hx hb dF_sharesWordWith_51 (by decide) ?_
              refine lv_istore hx hb dF_sharesWordWith_55 hl (by decide) rfl (fun ls hl => ?_)
              have hl : lv_has ls 5 [(4, .int (nI 1)), (3, .int (nI 1)), (2, .int (nI j)), (0, .ref h), (1, .ref h2)] := hl
              refine lv_iload_n hx hb dF_sharesWordWith_57 rfl (lv_at hl 1 rfl) ?_
              refine lv_if_ne (tgt := 68) hx hb dF_sharesWordWith_58 (by decide) (fun h58 => ?_) (fun h58 => ?_)
              · refine lv_iinc (k := 2) (v := nI (j + 1)) hx hb dF_sharesWordWith_68 hl rfl (cw_inc _) (by decide) rfl (fun ls hl => ?_)
                have hl : lv_has ls 5 [(2, .int (nI (j + 1))), (4, .int (nI 1)), (3, .int (nI 1)), (0, .ref h), (1, .ref h2)] := hl
                refine lv_goto (tgt := 2) hx hb dF_sharesWordWith_71 (by decide) ?_
                exact ih2 _ (by omega) (j + 1) ls rfl (lv_sub (l' := [(2, .int (nI (j + 1))), (0, .ref h), (1, .ref h2)]) hl [0, 3, 4] rfl) (by omega) (by simp only [allb, ha, Bool.true_and]; first | exact shw_0 (b_nf h14) (b_nf h23) | exact shw_1 (b_nf h38) (b_nf h47))
              · exfalso
                first | exact h58 (by decide +kernel) | exact absurd h58 (by decide +kernel)
end
section
theorem fR_congr {n : Nat} {it it2 w : Nat → Nat} {sb : Nat → Bool} {wd sg ow co : Nat → Int32} (h : fR n it w sb wd sg ow co) (e : ∀ j, j < n → it2 j = it j) : fR n it2 w sb wd sg ow co := by
  obtain ⟨⟨h1, h2, h3, h4⟩, h5, h6, h7⟩ := h
  refine ⟨⟨h1, h2, fun j hj => by rw [e j hj]; exact h3 j hj, fun i j hi hj => by rw [e i hi, e j hj]; exact h4 i j hi hj⟩, h5, h6, fun j hj => by rw [e j hj]; exact h7 j hj⟩
/-- one item more -/
theorem fR_app {n : Nat} {it w : Nat → Nat} {sb : Nat → Bool} {wd sg ow co : Nat → Int32} (h : fR n it w sb wd sg ow co) (hok : cw_ok it (n + 1) w) : fR (n + 1) it w sb wd sg (upd ow n (cw_O (it n))) (upd co n (cw_C (it n))) := by
  obtain ⟨-, h5, h6, h7⟩ := h
  refine ⟨hok, h5, h6, fun j hj => ?_⟩
  by_cases e : j = n
  · subst e; exact ⟨pk_us, pk_us⟩
  · rw [pk_un e, pk_un e]; exact h7 j (by omega)
/-- nothing is there any more -/
theorem fR_clear {n : Nat} {it w : Nat → Nat} {sb : Nat → Bool} {wd sg ow co wd2 : Nat → Int32} (h : fR n it w sb wd sg ow co) (hz : ∀ o, o < 6 → wd2 o = nI 0) : fR 0 it (fun _ => 0) sb wd2 sg ow co := by
  obtain ⟨-, -, h6, -⟩ := h
  exact ⟨⟨by omega, fun _ _ => Nat.zero_le _, fun j hj => by omega, fun i j hi => by omega⟩, hz, h6, fun j hj => by omega⟩
/-- an operand more -/
theorem fR_op {n : Nat} {it w : Nat → Nat} {sb : Nat → Bool} {wd sg ow co : Nat → Int32} (h : fR n it w sb wd sg ow co) {o k : Nat} {b : Bool} (hk : k ≤ 64) (h0 : w o = 0) :
    fR n it (va_up w o k) (va_up sb o b) (upd wd o (nI k)) (upd sg o (vp_nar .boolean (nI b.toNat))) ow co := by
  obtain ⟨⟨h1, h2, h3, h4⟩, h5, h6, h7⟩ := h
  refine ⟨⟨h1, fun i hi => ?_, fun j hj => ?_, h4⟩, fun i hi => ?_, fun i hi => ?_, h7⟩
  · by_cases e : i = o
    · rw [e, va_up_self]; exact hk
    · rw [va_up_ne _ _ e]; exact h2 i hi
  · rcases h3 j hj with q | ⟨i, m, hi, hm, q⟩
    · exact Or.inl q
    · refine Or.inr ⟨i, m, hi, ?_, q⟩
      have : i ≠ o := fun z => by rw [z, h0] at hm; omega
      rw [va_up_ne _ _ this]; exact hm
  · by_cases e : i = o
    · rw [e, pk_us, va_up_self]
    · rw [pk_un e, va_up_ne _ _ e]; exact h5 i hi
  · by_cases e : i = o
    · rw [e, pk_us, va_up_self]; cases b <;> decide +kernel
    · rw [pk_un e, va_up_ne _ _ e]; exact h6 i hi
/-- the items behind fixed(cnt, v) -/
def itF (it : Nat → Nat) (n cnt : Nat) (v : Int64) : Nat → Nat := fun j => if j < n then it j else bq v (cnt - 1 - (j - n))
theorem itF_lt {it : Nat → Nat} {n cnt : Nat} {v : Int64} {j : Nat} (h : j < n) : itF it n cnt v j = it j := if_pos h
theorem itF_ge {it : Nat → Nat} {n cnt : Nat} {v : Int64} {j : Nat} (h : ¬ j < n) : itF it n cnt v j = bq v (cnt - 1 - (j - n)) := if_neg h
theorem itF_ok {it w : Nat → Nat} {n cnt : Nat} {v : Int64} (h : cw_ok it n w) {m : Nat} (h1 : n ≤ m) (h2 : m ≤ 64) : cw_ok (itF it n cnt v) m w := by
  obtain ⟨-, g2, g3, g4⟩ := h
  have lo : ∀ j, ¬ j < n → itF it n cnt v j < 2 := fun j hj => by rw [itF_ge hj]; exact bq_lt _ _
  refine ⟨h2, g2, fun j hj => ?_, fun i j hi hj q1 q2 => ?_⟩
  · by_cases e : j < n
    · rw [itF_lt e]; exact g3 j e
    · exact Or.inl (lo j e)
  · by_cases e : i < n
    · by_cases e2 : j < n
      · rw [itF_lt e] at q1 q2; rw [itF_lt e2] at q2; exact g4 i j e e2 q1 q2
      · have := lo j e2; omega
    · have := lo i e; omega
/-- the items behind slice(o, hi, lo) -/
def itS (it : Nat → Nat) (n o hi : Nat) : Nat → Nat := fun j => if j < n then it j else 2 + 64 * o + (hi - (j - n))
theorem itS_lt {it : Nat → Nat} {n o hi : Nat} {j : Nat} (h : j < n) : itS it n o hi j = it j := if_pos h
theorem itS_ge {it : Nat → Nat} {n o hi : Nat} {j : Nat} (h : ¬ j < n) : itS it n o hi j = 2 + 64 * o + (hi - (j - n)) := if_neg h
theorem itS_ok {it w : Nat → Nat} {n o hi lo : Nat} (h : cw_ok it n w) (ho : o < 6) (hh : hi < w o) (hl : lo ≤ hi) (hno : ∀ j, j < n → ∀ k, lo ≤ k → k ≤ hi → it j ≠ 2 + 64 * o + k) {m : Nat} (h1 : n ≤ m) (h2 : m ≤ n + (hi + 1 - lo)) (h3 : m ≤ 64) : cw_ok (itS it n o hi) m w := by
  obtain ⟨-, g2, g3, g4⟩ := h
  refine ⟨h3, g2, fun j hj => ?_, fun i j hi' hj q1 q2 => ?_⟩
  · by_cases e : j < n
    · rw [itS_lt e]; exact g3 j e
    · rw [itS_ge e]; exact Or.inr ⟨o, hi - (j - n), ho, by omega, rfl⟩
  · by_cases e : i < n
    · by_cases e2 : j < n
      · rw [itS_lt e] at q1 q2; rw [itS_lt e2] at q2; exact g4 i j e e2 q1 q2
      · rw [itS_lt e, itS_ge e2] at q2
        exact absurd q2 (hno i e _ (by omega) (by omega))
    · by_cases e2 : j < n
      · rw [itS_ge e, itS_lt e2] at q2
        exact absurd q2.symm (hno j e2 _ (by omega) (by omega))
      · rw [itS_ge e, itS_ge e2] at q2
        omega
theorem dn_lt {k lo : Nat} (hk : k ≤ 100) (hl : lo ≤ 100) : nI k - nI 1 < nI lo ↔ k ≤ lo := by
  rw [Int32.lt_iff_toInt_lt, pk_sub_toInt (by omega) (by omega), nI_toInt (by omega)]
  omega
theorem dn_0 {k : Nat} (hk : k ≤ 100) : nI k - nI 1 < 0 ↔ k = 0 := by
  rw [← nI_0, dn_lt hk (by omega)]
  omega
theorem dn_C {o k : Nat} (hk : 0 < k) (h : k ≤ 64) : nI k - nI 1 = cw_C (2 + 64 * o + (k - 1)) := by
  rw [cw_C_hi (by omega), cw_m1 hk]
  congr 1
  omega
theorem dn_O {o k : Nat} (h : k < 64) : nI o = cw_O (2 + 64 * o + k) := by
  rw [cw_O_hi (by omega)]
  congr 1
  omega
theorem lo_O {x : Nat} (h : x < 2) : (-1 : Int32) = cw_O x := by unfold cw_O; rw [if_pos h]
theorem lo_C {x : Nat} (h : x < 2) : nI x = cw_C x := (cw_C_lo h).symm
set_option maxHeartbeats 4000000 in
set_option maxRecDepth 100000 in
theorem c_F_forgetAll (l : Launch) (dC : Nat → ClassId) (dI : Nat → Nat → Nat) (sz : Nat) (cI cZ : ClassId) (h pw ps po pk n : Nat) (wd sg ow co : Nat → Int32) (it w : Nat → Nat) (sb : Nat → Bool) (hF : fR n it w sb wd sg ow co) : Met l yF_forgetAll wF_forgetAll { frames := 0, cells := 0, slots := 0, locals := 0 } (rw_Pc (dC, dI) cls3 [(h, .inr (0, [.ref pw, .ref ps, .ref po, .ref pk, .int (nI n)])), (pw, .inl (cI, 6, .inl wd)), (ps, .inl (cZ, 6, .inl sg)), (po, .inl (cI, 64, .inl ow)), (pk, .inl (cI, 64, .inl co))] [(cI, .int), (cZ, .boolean)] sz [.ref h]) (va_Qv (fun _ : Unit => True) (fun _ t => ∃ wd' : Nat → Int32, fR 0 it (fun _ => 0) sb wd' sg ow co ∧ va_P (dC, dI) cls3 [(h, .inr (0, [.ref pw, .ref ps, .ref po, .ref pk, .int (nI 0)])), (pw, .inl (cI, 6, .inl wd')), (ps, .inl (cZ, 6, .inl sg)), (po, .inl (cI, 64, .inl ow)), (pk, .inl (cI, 64, .inl co))] t.heap ∧ va_K (dC, dI) cls3 [(cI, .int), (cZ, .boolean)] t ∧ va_D (va_A [(h, .inr (0, [.ref pw, .ref ps, .ref po, .ref pk, .int (nI n)])), (pw, .inl (cI, 6, .inl wd)), (ps, .inl (cZ, 6, .inl sg)), (po, .inl (cI, 64, .inl ow)), (pk, .inl (cI, 64, .inl co))] sz) [(h, .inr (0, [.ref pw, .ref ps, .ref po, .ref pk, .int (nI 0)])), (pw, .inl (cI, 6, .inl wd')), (ps, .inl (cZ, 6, .inl sg)), (po, .inl (cI, 64, .inl ow)), (pk, .inl (cI, 64, .inl co))]) (va_A [(h, .inr (0, [.ref pw, .ref ps, .ref po, .ref pk, .int (nI n)])), (pw, .inl (cI, 6, .inl wd)), (ps, .inl (cZ, 6, .inl sg)), (po, .inl (cI, 64, .inl ow)), (pk, .inl (cI, 64, .inl co))] sz)) 0 0 (va_A [(h, .inr (0, [.ref pw, .ref ps, .ref po, .ref pk, .int (nI n)])), (pw, .inl (cI, 6, .inl wd)), (ps, .inl (cZ, 6, .inl sg)), (po, .inl (cI, 64, .inl ow)), (pk, .inl (cI, 64, .inl co))] sz) := by
  refine Met.ofW (cc := cF_forgetAll) (maxL := 2) (ret := none) (by decide) rfl ?_
  intro p e s m args below meth c s₁ B hml hv
  obtain ⟨rfl, hsz, hP, hK, hD0⟩ := hv
  have hx := B.exec
  have hb := B.bytes
  have hr := B.returns
  have hts := atoms_spec (ws := wF_forgetAll) B.pre
  have hw : ∀ w ∈ wA, w.before _ s = true := fun w h => hts w (List.mem_cons_of_mem _ h)
  have hown : s.vm.findClass RF = some m.cls := findClass_of_methodNamed B.named
  have hlocks := B.notSynchronized
  subst hsz
  have hD := hD0.self (sz := s.heap.size)
  generalize hAe : va_A [(h, .inr (0, [.ref pw, .ref ps, .ref po, .ref pk, .int (nI n)])), (pw, .inl (cI, 6, .inl wd)), (ps, .inl (cZ, 6, .inl sg)), (po, .inl (cI, 64, .inl ow)), (pk, .inl (cI, 64, .inl co))] s.heap.size = A at hD ⊢
  have hA : ∀ q : Nat, s.heap.size ≤ q → A q := fun q h => by rw [← hAe]; exact Or.inr h
  have hS : va_S A s.heap s.heap [] := va_S.rf
  have hl := lv_entry ([.ref h]) (n := 2) (Nat.le_of_ble_eq_true rfl)
  rw [lg_entry_eq]
  generalize (lg_sl ([.ref h]) ++ List.replicate (2 - (lg_sl ([.ref h])).length) Slot.unset).toArray = ls at hl ⊢
  have hl : lv_has ls 2 [(0, .ref h)] := hl
  have hn : n ≤ 64 := hF.1.1
  have hwd := hF.2.1
  have hsg := hF.2.2.1
  have hoc := hF.2.2.2
  have hit := cw_it hF.1
  have hw64 := hF.1.2.1
  refine lv_iconst (v := nI 0) hx hb dF_forgetAll_0 (by decide +kernel) ?_
  refine lv_istore_n hx hb dF_forgetAll_1 rfl hl (by decide) rfl (fun ls hl => ?_)
  have hl : lv_has ls 2 [(1, .int (nI 0)), (0, .ref h)] := hl
  refine (?_ : ∀ (kk : Nat) (i : Nat) (f : Nat → Int32) (H : Heap) (locs : List Loc) (ls : Array Slot), kk = 6 - i → lv_has ls 2 [(1, .int (nI i)), (0, .ref h)] → (i ≤ 6) → (∀ q, q < i → f q = nI 0) → va_P (dC, dI) cls3 [(h, .inr (0, [.ref pw, .ref ps, .ref po, .ref pk, .int (nI n)])), (pw, .inl (cI, 6, .inl f)), (ps, .inl (cZ, 6, .inl sg)), (po, .inl (cI, 64, .inl ow)), (pk, .inl (cI, 64, .inl co))] H → va_D A [(h, .inr (0, [.ref pw, .ref ps, .ref po, .ref pk, .int (nI n)])), (pw, .inl (cI, 6, .inl f)), (ps, .inl (cZ, 6, .inl sg)), (po, .inl (cI, 64, .inl ow)), (pk, .inl (cI, 64, .inl co))] → va_S A s.heap H locs → W p l e _ s m _ below meth c H locs _ _ _ (F0 m 2 ls [])) _ 0 wd _ _ ls rfl (lv_sub hl [0, 1] rfl) (by omega) (fun q hq => by omega) hP hD hS
  intro kk
  induction kk using Nat.strongRecOn with
  | ind kk2 ih2 =>
    intro i f H locs ls hkk2 hl hi hz hP hD hS
    refine lv_iload_n hx hb dF_forgetAll_2 rfl (lv_at hl 0 rfl) ?_
    refine lv_bipush (v := nI 6) hx hb dF_forgetAll_3 (by decide +kernel) ?_
    refine lv_icmp_ge (tgt := 21) hx hb dF_forgetAll_5 (by decide) (fun h5 => ?_) (fun h5 => ?_)
    · rw [nI_leI (by omega) (by omega)] at h5
      refine lv_aload_n hx hb dF_forgetAll_21 rfl (lv_at hl 1 rfl) ?_
      refine lv_iconst (v := nI 0) hx hb dF_forgetAll_22 (by decide +kernel) ?_
      refine va_put (D := (dC, dI)) (ci := 0) (v := .int (nI 0)) (ty := .int) (C := RF) (T := TF) (N := 5) hx hb hw inF tF tF_ok nF hown hK hP hD hS 0 rfl rfl 4 (by decide) (hw _ kw_44) (fun _ h9 => h9) rfl (by decide +kernel) rfl rfl (Nat.le_of_ble_eq_true rfl) dF_forgetAll_23 (fun H locs hP hD hS => ?_)
      have hP : va_P (dC, dI) cls3 [(h, .inr (0, [.ref pw, .ref ps, .ref po, .ref pk, .int (nI 0)])), (pw, .inl (cI, 6, .inl f)), (ps, .inl (cZ, 6, .inl sg)), (po, .inl (cI, 64, .inl ow)), (pk, .inl (cI, 64, .inl co))] H := hP
      have hD : va_D A [(h, .inr (0, [.ref pw, .ref ps, .ref po, .ref pk, .int (nI 0)])), (pw, .inl (cI, 6, .inl f)), (ps, .inl (cZ, 6, .inl sg)), (po, .inl (cI, 64, .inl ow)), (pk, .inl (cI, 64, .inl co))] := hD
      exact W.vret hx hb hr (fun t ht hW => ⟨⟨(), rfl, trivial, f, fR_clear hF (fun q hq => hz q (by omega)), by rw [ht]; exact hP, va_K.moved hW.alike hK, hD⟩, hS.F ht⟩) hS.2.2 dF_forgetAll_26
    · rw [nI_leI (by omega) (by omega)] at h5
      refine lv_aload_n hx hb dF_forgetAll_8 rfl (lv_at hl 1 rfl) ?_
      refine va_get (D := (dC, dI)) (ci := 0) (v := .ref pw) (C := RF) (T := TF) (N := 5) hx hb hw inF hown hK hP 0 rfl rfl 0 (by decide) (hw _ kw_39) (fun _ h9 => h9) rfl dF_forgetAll_9 ?_
      refine lv_iload_n hx hb dF_forgetAll_12 rfl (lv_at hl 0 rfl) ?_
      refine lv_iconst (v := nI 0) hx hb dF_forgetAll_13 (by decide +kernel) ?_
      refine va_iast hx hb hK hP hD hS 1 0 rfl rfl (vp_in_nI (by omega) (by decide)) dF_forgetAll_14 (fun H locs hP hD hS => ?_)
      rw [show (nI i).toNatClampNeg = i from nI_clamp (by omega)] at hP hD
      have hP : va_P (dC, dI) cls3 [(h, .inr (0, [.ref pw, .ref ps, .ref po, .ref pk, .int (nI n)])), (pw, .inl (cI, 6, .inl (upd f i (nI 0)))), (ps, .inl (cZ, 6, .inl sg)), (po, .inl (cI, 64, .inl ow)), (pk, .inl (cI, 64, .inl co))] H := hP
      have hD : va_D A [(h, .inr (0, [.ref pw, .ref ps, .ref po, .ref pk, .int (nI n)])), (pw, .inl (cI, 6, .inl (upd f i (nI 0)))), (ps, .inl (cZ, 6, .inl sg)), (po, .inl (cI, 64, .inl ow)), (pk, .inl (cI, 64, .inl co))] := hD
      refine lv_iinc (k := 0) (v := nI (i + 1)) hx hb dF_forgetAll_15 hl rfl (cw_inc _) (by decide) rfl (fun ls hl => ?_)
      have hl : lv_has ls 2 [(1, .int (nI (i + 1))), (0, .ref h)] := hl
      refine lv_goto (tgt := 2) hx hb dF_forgetAll_18 (by decide) ?_
      exact ih2 _ (by omega) (i + 1) (upd f i (nI 0)) _ _ ls rfl (lv_sub (l' := [(1, .int (nI (i + 1))), (0, .ref h)]) hl [0, 1] rfl) (by omega) (fun q hq => by (by_cases e9 : q = i); (· subst e9; exact pk_us); (· rw [pk_un e9]; exact hz q (by omega))) hP hD hS

set_option maxHeartbeats 4000000 in
set_option maxRecDepth 100000 in
theorem c_F_addOperand (l : Launch) (dC : Nat → ClassId) (dI : Nat → Nat → Nat) (sz : Nat) (cI cZ : ClassId) (h pw ps po pk n : Nat) (wd sg ow co : Nat → Int32) (it w : Nat → Nat) (sb : Nat → Bool) (hF : fR n it w sb wd sg ow co) (o k : Nat) (b : Bool) (ho : o < 6) (hk : k ≤ 64) (h0 : w o = 0) : Met l yF_addOperand wF_addOperand { frames := 0, cells := 0, slots := 0, locals := 0 } (rw_Pc (dC, dI) cls3 [(h, .inr (0, [.ref pw, .ref ps, .ref po, .ref pk, .int (nI n)])), (pw, .inl (cI, 6, .inl wd)), (ps, .inl (cZ, 6, .inl sg)), (po, .inl (cI, 64, .inl ow)), (pk, .inl (cI, 64, .inl co))] [(cI, .int), (cZ, .boolean)] sz [.ref h, .int (nI o), .int (nI k), .int (nI b.toNat)]) (va_Qv (fun _ : Unit => True) (fun _ t => ∃ wd' sg' : Nat → Int32, fR n it (va_up w o k) (va_up sb o b) wd' sg' ow co ∧ va_P (dC, dI) cls3 [(h, .inr (0, [.ref pw, .ref ps, .ref po, .ref pk, .int (nI n)])), (pw, .inl (cI, 6, .inl wd')), (ps, .inl (cZ, 6, .inl sg')), (po, .inl (cI, 64, .inl ow)), (pk, .inl (cI, 64, .inl co))] t.heap ∧ va_K (dC, dI) cls3 [(cI, .int), (cZ, .boolean)] t ∧ va_D (va_A [(h, .inr (0, [.ref pw, .ref ps, .ref po, .ref pk, .int (nI n)])), (pw, .inl (cI, 6, .inl wd)), (ps, .inl (cZ, 6, .inl sg)), (po, .inl (cI, 64, .inl ow)), (pk, .inl (cI, 64, .inl co))] sz) [(h, .inr (0, [.ref pw, .ref ps, .ref po, .ref pk, .int (nI n)])), (pw, .inl (cI, 6, .inl wd')), (ps, .inl (cZ, 6, .inl sg')), (po, .inl (cI, 64, .inl ow)), (pk, .inl (cI, 64, .inl co))]) (va_A [(h, .inr (0, [.ref pw, .ref ps, .ref po, .ref pk, .int (nI n)])), (pw, .inl (cI, 6, .inl wd)), (ps, .inl (cZ, 6, .inl sg)), (po, .inl (cI, 64, .inl ow)), (pk, .inl (cI, 64, .inl co))] sz)) 0 0 (va_A [(h, .inr (0, [.ref pw, .ref ps, .ref po, .ref pk, .int (nI n)])), (pw, .inl (cI, 6, .inl wd)), (ps, .inl (cZ, 6, .inl sg)), (po, .inl (cI, 64, .inl ow)), (pk, .inl (cI, 64, .inl co))] sz) := by
  refine Met.ofW (cc := cF_addOperand) (maxL := 4) (ret := none) (by decide) rfl ?_
  intro p e s m args below meth c s₁ B hml hv
  obtain ⟨rfl, hsz, hP, hK, hD0⟩ := hv
  have hx := B.exec
  have hb := B.bytes
  have hr := B.returns
  have hts := atoms_spec (ws := wF_addOperand) B.pre
  have hw : ∀ w ∈ wA, w.before _ s = true := fun w h => hts w (List.mem_cons_of_mem _ h)
  have hown : s.vm.findClass RF = some m.cls := findClass_of_methodNamed B.named
  have hlocks := B.notSynchronized
  subst hsz
  have hD := hD0.self (sz := s.heap.size)
  generalize hAe : va_A [(h, .inr (0, [.ref pw, .ref ps, .ref po, .ref pk, .int (nI n)])), (pw, .inl (cI, 6, .inl wd)), (ps, .inl (cZ, 6, .inl sg)), (po, .inl (cI, 64, .inl ow)), (pk, .inl (cI, 64, .inl co))] s.heap.size = A at hD ⊢
  have hA : ∀ q : Nat, s.heap.size ≤ q → A q := fun q h => by rw [← hAe]; exact Or.inr h
  have hS : va_S A s.heap s.heap [] := va_S.rf
  have hl := lv_entry ([.ref h, .int (nI o), .int (nI k), .int (nI b.toNat)]) (n := 4) (Nat.le_of_ble_eq_true rfl)
  rw [lg_entry_eq]
  generalize (lg_sl ([.ref h, .int (nI o), .int (nI k), .int (nI b.toNat)]) ++ List.replicate (4 - (lg_sl ([.ref h, .int (nI o), .int (nI k), .int (nI b.toNat)])).length) Slot.unset).toArray = ls at hl ⊢
  have hl : lv_has ls 4 [(0, .ref h), (1, .int (nI o)), (2, .int (nI k)), (3, .int (nI b.toNat))] := hl
  refine lv_aload_n hx hb dF_addOperand_0 rfl (lv_at hl 0 rfl) ?_
  refine va_get (D := (dC, dI)) (ci := 0) (v := .ref pw) (C := RF) (T := TF) (N := 5) hx hb hw inF hown hK hP 0 rfl rfl 0 (by decide) (hw _ kw_39) (fun _ h9 => h9) rfl dF_addOperand_1 ?_
  refine lv_iload_n hx hb dF_addOperand_4 rfl (lv_at hl 1 rfl) ?_
  refine lv_iload_n hx hb dF_addOperand_5 rfl (lv_at hl 2 rfl) ?_
  refine va_iast hx hb hK hP hD hS 1 0 rfl rfl (vp_in_nI (by omega) (by decide)) dF_addOperand_6 (fun H locs hP hD hS => ?_)
  rw [show (nI o).toNatClampNeg = o from nI_clamp (by omega)] at hP hD
  have hP : va_P (dC, dI) cls3 [(h, .inr (0, [.ref pw, .ref ps, .ref po, .ref pk, .int (nI n)])), (pw, .inl (cI, 6, .inl (upd wd o (nI k)))), (ps, .inl (cZ, 6, .inl sg)), (po, .inl (cI, 64, .inl ow)), (pk, .inl (cI, 64, .inl co))] H := hP
  have hD : va_D A [(h, .inr (0, [.ref pw, .ref ps, .ref po, .ref pk, .int (nI n)])), (pw, .inl (cI, 6, .inl (upd wd o (nI k)))), (ps, .inl (cZ, 6, .inl sg)), (po, .inl (cI, 64, .inl ow)), (pk, .inl (cI, 64, .inl co))] := hD
  refine lv_aload_n hx hb dF_addOperand_7 rfl (lv_at hl 0 rfl) ?_
  refine va_get (D := (dC, dI)) (ci := 0) (v := .ref ps) (C := RF) (T := TF) (N := 5) hx hb hw inF hown hK hP 0 rfl rfl 1 (by decide) (hw _ kw_41) (fun _ h9 => h9) rfl dF_addOperand_8 ?_
  refine lv_iload_n hx hb dF_addOperand_11 rfl (lv_at hl 1 rfl) ?_
  refine lv_iload_n hx hb dF_addOperand_12 rfl (lv_at hl 3 rfl) ?_
  refine va_zast hx hb hK hP hD hS 2 1 rfl rfl (vp_in_nI (by omega) (by decide)) dF_addOperand_13 (fun H locs hP hD hS => ?_)
  rw [show (nI o).toNatClampNeg = o from nI_clamp (by omega)] at hP hD
  have hP : va_P (dC, dI) cls3 [(h, .inr (0, [.ref pw, .ref ps, .ref po, .ref pk, .int (nI n)])), (pw, .inl (cI, 6, .inl (upd wd o (nI k)))), (ps, .inl (cZ, 6, .inl (upd sg o (vp_nar .boolean (nI b.toNat))))), (po, .inl (cI, 64, .inl ow)), (pk, .inl (cI, 64, .inl co))] H := hP
  have hD : va_D A [(h, .inr (0, [.ref pw, .ref ps, .ref po, .ref pk, .int (nI n)])), (pw, .inl (cI, 6, .inl (upd wd o (nI k)))), (ps, .inl (cZ, 6, .inl (upd sg o (vp_nar .boolean (nI b.toNat))))), (po, .inl (cI, 64, .inl ow)), (pk, .inl (cI, 64, .inl co))] := hD
  exact W.vret hx hb hr (fun t ht hW => ⟨⟨(), rfl, trivial, _, _, fR_op hF hk h0, by rw [ht]; exact hP, va_K.moved hW.alike hK, hD⟩, hS.F ht⟩) hS.2.2 dF_addOperand_14

set_option maxHeartbeats 4000000 in
set_option maxRecDepth 100000 in
theorem c_F_append (l : Launch) (dC : Nat → ClassId) (dI : Nat → Nat → Nat) (sz : Nat) (cI cZ : ClassId) (h pw ps po pk n : Nat) (wd sg ow co : Nat → Int32) (it w : Nat → Nat) (sb : Nat → Bool) (hF : fR n it w sb wd sg ow co) (hok : cw_ok it (n + 1) w) : Met l yF_append wF_append { frames := 0, cells := 0, slots := 0, locals := 0 } (rw_Pc (dC, dI) cls3 [(h, .inr (0, [.ref pw, .ref ps, .ref po, .ref pk, .int (nI n)])), (pw, .inl (cI, 6, .inl wd)), (ps, .inl (cZ, 6, .inl sg)), (po, .inl (cI, 64, .inl ow)), (pk, .inl (cI, 64, .inl co))] [(cI, .int), (cZ, .boolean)] sz [.ref h, .int (cw_O (it n)), .int (cw_C (it n))]) (va_Qv (fun _ : Unit => True) (fun _ t => va_P (dC, dI) cls3 [(h, .inr (0, [.ref pw, .ref ps, .ref po, .ref pk, .int (nI (n + 1))])), (pw, .inl (cI, 6, .inl wd)), (ps, .inl (cZ, 6, .inl sg)), (po, .inl (cI, 64, .inl (upd ow n (cw_O (it n))))), (pk, .inl (cI, 64, .inl (upd co n (cw_C (it n)))))] t.heap ∧ va_K (dC, dI) cls3 [(cI, .int), (cZ, .boolean)] t ∧ va_D (va_A [(h, .inr (0, [.ref pw, .ref ps, .ref po, .ref pk, .int (nI n)])), (pw, .inl (cI, 6, .inl wd)), (ps, .inl (cZ, 6, .inl sg)), (po, .inl (cI, 64, .inl ow)), (pk, .inl (cI, 64, .inl co))] sz) [(h, .inr (0, [.ref pw, .ref ps, .ref po, .ref pk, .int (nI (n + 1))])), (pw, .inl (cI, 6, .inl wd)), (ps, .inl (cZ, 6, .inl sg)), (po, .inl (cI, 64, .inl (upd ow n (cw_O (it n))))), (pk, .inl (cI, 64, .inl (upd co n (cw_C (it n)))))]) (va_A [(h, .inr (0, [.ref pw, .ref ps, .ref po, .ref pk, .int (nI n)])), (pw, .inl (cI, 6, .inl wd)), (ps, .inl (cZ, 6, .inl sg)), (po, .inl (cI, 64, .inl ow)), (pk, .inl (cI, 64, .inl co))] sz)) 0 0 (va_A [(h, .inr (0, [.ref pw, .ref ps, .ref po, .ref pk, .int (nI n)])), (pw, .inl (cI, 6, .inl wd)), (ps, .inl (cZ, 6, .inl sg)), (po, .inl (cI, 64, .inl ow)), (pk, .inl (cI, 64, .inl co))] sz) := by
  refine Met.ofW (cc := cF_append) (maxL := 3) (ret := none) (by decide) rfl ?_
  intro p e s m args below meth c s₁ B hml hv
  obtain ⟨rfl, hsz, hP, hK, hD0⟩ := hv
  have hx := B.exec
  have hb := B.bytes
  have hr := B.returns
  have hts := atoms_spec (ws := wF_append) B.pre
  have hw : ∀ w ∈ wA, w.before _ s = true := fun w h => hts w (List.mem_cons_of_mem _ h)
  have hown : s.vm.findClass RF = some m.cls := findClass_of_methodNamed B.named
  have hlocks := B.notSynchronized
  subst hsz
  have hD := hD0.self (sz := s.heap.size)
  generalize hAe : va_A [(h, .inr (0, [.ref pw, .ref ps, .ref po, .ref pk, .int (nI n)])), (pw, .inl (cI, 6, .inl wd)), (ps, .inl (cZ, 6, .inl sg)), (po, .inl (cI, 64, .inl ow)), (pk, .inl (cI, 64, .inl co))] s.heap.size = A at hD ⊢
  have hA : ∀ q : Nat, s.heap.size ≤ q → A q := fun q h => by rw [← hAe]; exact Or.inr h
  have hS : va_S A s.heap s.heap [] := va_S.rf
  have hl := lv_entry ([.ref h, .int (cw_O (it n)), .int (cw_C (it n))]) (n := 3) (Nat.le_of_ble_eq_true rfl)
  rw [lg_entry_eq]
  generalize (lg_sl ([.ref h, .int (cw_O (it n)), .int (cw_C (it n))]) ++ List.replicate (3 - (lg_sl ([.ref h, .int (cw_O (it n)), .int (cw_C (it n))])).length) Slot.unset).toArray = ls at hl ⊢
  have hl : lv_has ls 3 [(0, .ref h), (1, .int (cw_O (it n))), (2, .int (cw_C (it n)))] := hl
  have hn : n ≤ 64 := hF.1.1
  have hwd := hF.2.1
  have hsg := hF.2.2.1
  have hoc := hF.2.2.2
  have hit := cw_it hF.1
  have hw64 := hF.1.2.1
  have hn1 : n + 1 ≤ 64 := hok.1
  refine lv_aload_n hx hb dF_append_0 rfl (lv_at hl 0 rfl) ?_
  refine va_get (D := (dC, dI)) (ci := 0) (v := .ref po) (C := RF) (T := TF) (N := 5) hx hb hw inF hown hK hP 0 rfl rfl 2 (by decide) (hw _ kw_42) (fun _ h9 => h9) rfl dF_append_1 ?_
  refine lv_aload_n hx hb dF_append_4 rfl (lv_at hl 0 rfl) ?_
  refine va_get (D := (dC, dI)) (ci := 0) (v := .int (nI n)) (C := RF) (T := TF) (N := 5) hx hb hw inF hown hK hP 0 rfl rfl 4 (by decide) (hw _ kw_44) (fun _ h9 => h9) rfl dF_append_5 ?_
  refine lv_iload_n hx hb dF_append_8 rfl (lv_at hl 1 rfl) ?_
  refine va_iast hx hb hK hP hD hS 3 0 rfl rfl (vp_in_nI (by omega) (by decide)) dF_append_9 (fun H locs hP hD hS => ?_)
  rw [show (nI n).toNatClampNeg = n from nI_clamp (by omega)] at hP hD
  have hP : va_P (dC, dI) cls3 [(h, .inr (0, [.ref pw, .ref ps, .ref po, .ref pk, .int (nI n)])), (pw, .inl (cI, 6, .inl wd)), (ps, .inl (cZ, 6, .inl sg)), (po, .inl (cI, 64, .inl (upd ow n (cw_O (it n))))), (pk, .inl (cI, 64, .inl co))] H := hP
  have hD : va_D A [(h, .inr (0, [.ref pw, .ref ps, .ref po, .ref pk, .int (nI n)])), (pw, .inl (cI, 6, .inl wd)), (ps, .inl (cZ, 6, .inl sg)), (po, .inl (cI, 64, .inl (upd ow n (cw_O (it n))))), (pk, .inl (cI, 64, .inl co))] := hD
  refine lv_aload_n hx hb dF_append_10 rfl (lv_at hl 0 rfl) ?_
  refine va_get (D := (dC, dI)) (ci := 0) (v := .ref pk) (C := RF) (T := TF) (N := 5) hx hb hw inF hown hK hP 0 rfl rfl 3 (by decide) (hw _ kw_43) (fun _ h9 => h9) rfl dF_append_11 ?_
  refine lv_aload_n hx hb dF_append_14 rfl (lv_at hl 0 rfl) ?_
  refine va_get (D := (dC, dI)) (ci := 0) (v := .int (nI n)) (C := RF) (T := TF) (N := 5) hx hb hw inF hown hK hP 0 rfl rfl 4 (by decide) (hw _ kw_44) (fun _ h9 => h9) rfl dF_append_15 ?_
  refine lv_iload_n hx hb dF_append_18 rfl (lv_at hl 2 rfl) ?_
  refine va_iast hx hb hK hP hD hS 4 0 rfl rfl (vp_in_nI (by omega) (by decide)) dF_append_19 (fun H locs hP hD hS => ?_)
  rw [show (nI n).toNatClampNeg = n from nI_clamp (by omega)] at hP hD
  have hP : va_P (dC, dI) cls3 [(h, .inr (0, [.ref pw, .ref ps, .ref po, .ref pk, .int (nI n)])), (pw, .inl (cI, 6, .inl wd)), (ps, .inl (cZ, 6, .inl sg)), (po, .inl (cI, 64, .inl (upd ow n (cw_O (it n))))), (pk, .inl (cI, 64, .inl (upd co n (cw_C (it n)))))] H := hP
  have hD : va_D A [(h, .inr (0, [.ref pw, .ref ps, .ref po, .ref pk, .int (nI n)])), (pw, .inl (cI, 6, .inl wd)), (ps, .inl (cZ, 6, .inl sg)), (po, .inl (cI, 64, .inl (upd ow n (cw_O (it n))))), (pk, .inl (cI, 64, .inl (upd co n (cw_C (it n)))))] := hD
  refine lv_aload_n hx hb dF_append_20 rfl (lv_at hl 0 rfl) ?_
  refine lv_dup hx hb dF_append_21 rfl ?_
  refine va_get (D := (dC, dI)) (ci := 0) (v := .int (nI n)) (C := RF) (T := TF) (N := 5) hx hb hw inF hown hK hP 0 rfl rfl 4 (by decide) (hw _ kw_44) (fun _ h9 => h9) rfl dF_append_22 ?_
  refine lv_iconst (v := nI 1) hx hb dF_append_25 (by decide +kernel) ?_
  refine lv_iadd hx hb dF_append_26 ?_
  refine lv_topi (fun v26 e26 => ?_)
  obtain rfl : v26 = nI (n + 1) := e26.trans (nI_1 n)
  refine va_put (D := (dC, dI)) (ci := 0) (v := .int (nI (n + 1))) (ty := .int) (C := RF) (T := TF) (N := 5) hx hb hw inF tF tF_ok nF hown hK hP hD hS 0 rfl rfl 4 (by decide) (hw _ kw_44) (fun _ h9 => h9) rfl (by decide +kernel) rfl rfl (Nat.le_of_ble_eq_true rfl) dF_append_27 (fun H locs hP hD hS => ?_)
  have hP : va_P (dC, dI) cls3 [(h, .inr (0, [.ref pw, .ref ps, .ref po, .ref pk, .int (nI (n + 1))])), (pw, .inl (cI, 6, .inl wd)), (ps, .inl (cZ, 6, .inl sg)), (po, .inl (cI, 64, .inl (upd ow n (cw_O (it n))))), (pk, .inl (cI, 64, .inl (upd co n (cw_C (it n)))))] H := hP
  have hD : va_D A [(h, .inr (0, [.ref pw, .ref ps, .ref po, .ref pk, .int (nI (n + 1))])), (pw, .inl (cI, 6, .inl wd)), (ps, .inl (cZ, 6, .inl sg)), (po, .inl (cI, 64, .inl (upd ow n (cw_O (it n))))), (pk, .inl (cI, 64, .inl (upd co n (cw_C (it n)))))] := hD
  exact W.vret hx hb hr (fun t ht hW => ⟨⟨(), rfl, trivial, by rw [ht]; exact hP, va_K.moved hW.alike hK, hD⟩, hS.F ht⟩) hS.2.2 dF_append_30

set_option maxHeartbeats 4000000 in
set_option maxRecDepth 100000 in
theorem c_F_appendFixed (l : Launch) (dC : Nat → ClassId) (dI : Nat → Nat → Nat) (sz : Nat) (cI cZ : ClassId) (h pw ps po pk n : Nat) (wd sg ow co : Nat → Int32) (it w : Nat → Nat) (sb : Nat → Bool) (hF : fR n it w sb wd sg ow co) (cnt : Nat) (v : Int64) (hc : n + cnt ≤ 64) : Met l yF_appendFixed wF_appendFixed { frames := 1, cells := 0, slots := 0, locals := 22 } (rw_Pc (dC, dI) cls3 [(h, .inr (0, [.ref pw, .ref ps, .ref po, .ref pk, .int (nI n)])), (pw, .inl (cI, 6, .inl wd)), (ps, .inl (cZ, 6, .inl sg)), (po, .inl (cI, 64, .inl ow)), (pk, .inl (cI, 64, .inl co))] [(cI, .int), (cZ, .boolean)] sz [.ref h, .int (nI cnt), .long v]) (va_Qv (fun _ : Unit => True) (fun _ t => ∃ ow' co' : Nat → Int32, fR (n + cnt) (itF it n cnt v) w sb wd sg ow' co' ∧ va_P (dC, dI) cls3 [(h, .inr (0, [.ref pw, .ref ps, .ref po, .ref pk, .int (nI (n + cnt))])), (pw, .inl (cI, 6, .inl wd)), (ps, .inl (cZ, 6, .inl sg)), (po, .inl (cI, 64, .inl ow')), (pk, .inl (cI, 64, .inl co'))] t.heap ∧ va_K (dC, dI) cls3 [(cI, .int), (cZ, .boolean)] t ∧ va_D (va_A [(h, .inr (0, [.ref pw, .ref ps, .ref po, .ref pk, .int (nI n)])), (pw, .inl (cI, 6, .inl wd)), (ps, .inl (cZ, 6, .inl sg)), (po, .inl (cI, 64, .inl ow)), (pk, .inl (cI, 64, .inl co))] sz) [(h, .inr (0, [.ref pw, .ref ps, .ref po, .ref pk, .int (nI (n + cnt))])), (pw, .inl (cI, 6, .inl wd)), (ps, .inl (cZ, 6, .inl sg)), (po, .inl (cI, 64, .inl ow')), (pk, .inl (cI, 64, .inl co'))]) (va_A [(h, .inr (0, [.ref pw, .ref ps, .ref po, .ref pk, .int (nI n)])), (pw, .inl (cI, 6, .inl wd)), (ps, .inl (cZ, 6, .inl sg)), (po, .inl (cI, 64, .inl ow)), (pk, .inl (cI, 64, .inl co))] sz)) 0 0 (va_A [(h, .inr (0, [.ref pw, .ref ps, .ref po, .ref pk, .int (nI n)])), (pw, .inl (cI, 6, .inl wd)), (ps, .inl (cZ, 6, .inl sg)), (po, .inl (cI, 64, .inl ow)), (pk, .inl (cI, 64, .inl co))] sz) := by
  refine Met.ofW (cc := cF_appendFixed) (maxL := 5) (ret := none) (by decide) rfl ?_
  intro p e s m args below meth c s₁ B hml hv
  obtain ⟨rfl, hsz, hP, hK, hD0⟩ := hv
  have hx := B.exec
  have hb := B.bytes
  have hr := B.returns
  have hts := atoms_spec (ws := wF_appendFixed) B.pre
  have hw : ∀ w ∈ wA, w.before _ s = true := fun w h => hts w (List.mem_cons_of_mem _ h)
  have hown : s.vm.findClass RF = some m.cls := findClass_of_methodNamed B.named
  have hlocks := B.notSynchronized
  subst hsz
  have hD := hD0.self (sz := s.heap.size)
  generalize hAe : va_A [(h, .inr (0, [.ref pw, .ref ps, .ref po, .ref pk, .int (nI n)])), (pw, .inl (cI, 6, .inl wd)), (ps, .inl (cZ, 6, .inl sg)), (po, .inl (cI, 64, .inl ow)), (pk, .inl (cI, 64, .inl co))] s.heap.size = A at hD ⊢
  have hA : ∀ q : Nat, s.heap.size ≤ q → A q := fun q h => by rw [← hAe]; exact Or.inr h
  have hS : va_S A s.heap s.heap [] := va_S.rf
  have hl := lv_entry ([.ref h, .int (nI cnt), .long v]) (n := 5) (Nat.le_of_ble_eq_true rfl)
  rw [lg_entry_eq]
  generalize (lg_sl ([.ref h, .int (nI cnt), .long v]) ++ List.replicate (5 - (lg_sl ([.ref h, .int (nI cnt), .long v])).length) Slot.unset).toArray = ls at hl ⊢
  have hl : lv_has ls 5 [(0, .ref h), (1, .int (nI cnt)), (2, .long v)] := hl
  have hn : n ≤ 64 := hF.1.1
  have hwd := hF.2.1
  have hsg := hF.2.2.1
  have hoc := hF.2.2.2
  have hit := cw_it hF.1
  have hw64 := hF.1.2.1
  refine lv_iload_n hx hb dF_appendFixed_0 rfl (lv_at hl 1 rfl) ?_
  refine lv_iconst (v := nI 1) hx hb dF_appendFixed_1 (by decide +kernel) ?_
  refine lv_isub hx hb dF_appendFixed_2 ?_
  refine lv_topi (fun v2 e2 => ?_)
  obtain rfl : v2 = nI cnt - nI 1 := e2
  refine lv_istore hx hb dF_appendFixed_3 hl (by decide) rfl (fun ls hl => ?_)
  have hl : lv_has ls 5 [(4, .int (nI cnt - nI 1)), (0, .ref h), (1, .int (nI cnt)), (2, .long v)] := hl
  refine (?_ : ∀ (kk : Nat) (k : Nat) (ow2 : Nat → Int32) (co2 : Nat → Int32) (H : Heap) (locs : List Loc) (ls : Array Slot), kk = k → lv_has ls 5 [(4, .int (nI k - nI 1)), (0, .ref h), (1, .int (nI cnt)), (2, .long v)] → (k ≤ cnt) → (fR (n + cnt - k) (itF it n cnt v) w sb wd sg ow2 co2) → va_P (dC, dI) cls3 [(h, .inr (0, [.ref pw, .ref ps, .ref po, .ref pk, .int (nI (n + cnt - k))])), (pw, .inl (cI, 6, .inl wd)), (ps, .inl (cZ, 6, .inl sg)), (po, .inl (cI, 64, .inl ow2)), (pk, .inl (cI, 64, .inl co2))] H → va_D A [(h, .inr (0, [.ref pw, .ref ps, .ref po, .ref pk, .int (nI (n + cnt - k))])), (pw, .inl (cI, 6, .inl wd)), (ps, .inl (cZ, 6, .inl sg)), (po, .inl (cI, 64, .inl ow2)), (pk, .inl (cI, 64, .inl co2))] → va_S A s.heap H locs → W p l e _ s m _ below meth c H locs _ _ _ (F0 m 5 ls [])) _ cnt ow co _ _ ls rfl (lv_sub hl [0, 1, 2, 3] rfl) (by omega) (by rw [Nat.add_sub_cancel]; exact fR_congr hF (fun j hj => itF_lt hj)) (by rw [Nat.add_sub_cancel]; exact hP) (by rw [Nat.add_sub_cancel]; exact hD) hS
  intro kk
  induction kk using Nat.strongRecOn with
  | ind kk5 ih5 =>
    intro k ow2 co2 H locs ls hkk5 hl hk hR hP hD hS
    refine lv_iload hx hb dF_appendFixed_5 (lv_at hl 0 rfl) ?_
    refine lv_if_lt (tgt := 27) hx hb dF_appendFixed_7 (by decide) (fun h7 => ?_) (fun h7 => ?_)
    · rw [dn_0 (by omega)] at h7
      subst h7
      exact W.vret hx hb hr (fun t ht hW => ⟨⟨(), rfl, trivial, ow2, co2, hR, by rw [ht]; exact hP, va_K.moved hW.alike hK, hD⟩, hS.F ht⟩) hS.2.2 dF_appendFixed_27
    · rw [dn_0 (by omega)] at h7
      have hnn : n + cnt - (k - 1) = n + cnt - k + 1 := by omega
      have hok1 : cw_ok (itF it n cnt v) (n + cnt - k + 1) w := itF_ok hF.1 (by omega) (by omega)
      have hnx : itF it n cnt v (n + cnt - k) = bq v (k - 1) := by rw [itF_ge (by omega)]; congr 1; omega
      refine lv_aload_n hx hb dF_appendFixed_10 rfl (lv_at hl 1 rfl) ?_
      refine lv_iconst (v := (-1)) hx hb dF_appendFixed_11 (by decide +kernel) ?_
      refine lv_topi (fun w11 ew11 => ?_)
      obtain rfl : w11 = cw_O (itF it n cnt v (n + cnt - k)) := ew11.trans (by rw [hnx]; exact lo_O (bq_lt _ _))
      refine lv_lload_n hx hb dF_appendFixed_12 rfl (lv_at hl 3 rfl) ?_
      refine lv_iload hx hb dF_appendFixed_13 (lv_at hl 0 rfl) ?_
      refine lv_topi (fun w13 ew13 => ?_)
      obtain rfl : w13 = nI (k - 1) := ew13.trans (cw_m1 (by omega))
      refine vp_callSi (W.runS (As := [.long v, .int (nI (k - 1))]) (rest := [.int (cw_O (itF it n cnt v (n + cnt - k))), .ref h]) ⟨hx, hb, hml, hown, hw⟩ (c_F_bitOf l v (k - 1) (by omega)) (cwS 2 hw (gS kw_223 kw_224 kw_15 kw_225) rfl rfl rfl (by decide +kernel) ⟨Nat.le_of_ble_eq_true rfl, Nat.le_of_ble_eq_true rfl⟩) preEq rfl rfl hl.1 rfl (lv_room (Nat.le_of_ble_eq_true rfl)) dF_appendFixed_15 ⟨Nat.zero_le _, Nat.zero_le _⟩) (fun v15 e15 => ?_)
      obtain rfl : v15 = cw_C (itF it n cnt v (n + cnt - k)) := e15.trans (by rw [hnx]; exact lo_C (bq_lt _ _))
      have hPc := hP.sub (ws' := [(h, .inr (0, [.ref pw, .ref ps, .ref po, .ref pk, .int (nI (n + cnt - k))])), (pw, .inl (cI, 6, .inl wd)), (ps, .inl (cZ, 6, .inl sg)), (po, .inl (cI, 64, .inl ow2)), (pk, .inl (cI, 64, .inl co2))]) [0, 1, 2, 3, 4] rfl
      have hDc := hD.sub (ws' := [(h, .inr (0, [.ref pw, .ref ps, .ref po, .ref pk, .int (nI (n + cnt - k))])), (pw, .inl (cI, 6, .inl wd)), (ps, .inl (cZ, 6, .inl sg)), (po, .inl (cI, 64, .inl ow2)), (pk, .inl (cI, 64, .inl co2))]) [0, 1, 2, 3, 4] (by decide) rfl
      have hKc := hK.sub (tys' := [(cI, .int), (cZ, .boolean)]) [0, 1] rfl
      have hFc := va_free (wc := [(h, .inr (0, [.ref pw, .ref ps, .ref po, .ref pk, .int (nI (n + cnt - k))])), (pw, .inl (cI, 6, .inl wd)), (ps, .inl (cZ, 6, .inl sg)), (po, .inl (cI, 64, .inl ow2)), (pk, .inl (cI, 64, .inl co2))]) hD hS hA [0, 1, 2, 3, 4] rfl
      refine va_callv (va_runV (As := [.int (cw_O (itF it n cnt v (n + cnt - k))), .int (cw_C (itF it n cnt v (n + cnt - k)))]) (rest := []) ⟨hx, hb, hml, hown, hw⟩ (c_F_append l dC dI _ cI cZ h pw ps po pk (n + cnt - k) wd sg ow2 co2 (itF it n cnt v) w sb hR hok1) (cwV 2 hw (gV kw_226 kw_228 kw_2 kw_15 kw_229) rfl rfl rfl (by decide +kernel) ⟨Nat.le_of_ble_eq_true rfl, Nat.le_of_ble_eq_true rfl⟩) (rw_preV (q0 := 0) hKc hPc hDc rfl rfl) rfl rfl hl.1 rfl (lv_room (Nat.le_of_ble_eq_true rfl)) dF_appendFixed_18 ⟨Nat.zero_le _, Nat.zero_le _⟩) hS (fun q _ h => hFc q h) hFc (fun u t H1 locs ht hvm e18 hB hz1 hk1 hS => ?_)
      obtain ⟨hP1, hK1, hD1⟩ := hB
      rw [ht] at hP1
      obtain ⟨hP, hD⟩ := va_join (wr := []) (w1 := [(h, .inr (0, [.ref pw, .ref ps, .ref po, .ref pk, .int (nI (n + cnt - k + 1))])), (pw, .inl (cI, 6, .inl wd)), (ps, .inl (cZ, 6, .inl sg)), (po, .inl (cI, 64, .inl (upd ow2 (n + cnt - k) (cw_O (itF it n cnt v (n + cnt - k)))))), (pk, .inl (cI, 64, .inl (upd co2 (n + cnt - k) (cw_C (itF it n cnt v (n + cnt - k))))))]) hP hD [0, 1, 2, 3, 4] [] rfl rfl (by decide) (by decide) hk1 hFc hP1 hD1
      generalize H1 = H at hP hS ⊢
      have hP : va_P (dC, dI) cls3 [(h, .inr (0, [.ref pw, .ref ps, .ref po, .ref pk, .int (nI (n + cnt - k + 1))])), (pw, .inl (cI, 6, .inl wd)), (ps, .inl (cZ, 6, .inl sg)), (po, .inl (cI, 64, .inl (upd ow2 (n + cnt - k) (cw_O (itF it n cnt v (n + cnt - k)))))), (pk, .inl (cI, 64, .inl (upd co2 (n + cnt - k) (cw_C (itF it n cnt v (n + cnt - k))))))] H := hP
      have hD : va_D A [(h, .inr (0, [.ref pw, .ref ps, .ref po, .ref pk, .int (nI (n + cnt - k + 1))])), (pw, .inl (cI, 6, .inl wd)), (ps, .inl (cZ, 6, .inl sg)), (po, .inl (cI, 64, .inl (upd ow2 (n + cnt - k) (cw_O (itF it n cnt v (n + cnt - k)))))), (pk, .inl (cI, 64, .inl (upd co2 (n + cnt - k) (cw_C (itF it n cnt v (n + cnt - k))))))] := hD
      refine lv_iinc (k := 0) (v := nI (k - 1) - nI 1) hx hb dF_appendFixed_21 hl rfl (cw_dec (by omega)) (by decide) rfl (fun ls hl => ?_)
      have hl : lv_has ls 5 [(4, .int (nI (k - 1) - nI 1)), (0, .ref h), (1, .int (nI cnt)), (2, .long v)] := hl
      refine lv_goto (tgt := 5) hx hb dF_appendFixed_24 (by decide) ?_
      exact ih5 _ (by omega) (k - 1) (upd ow2 (n + cnt - k) (cw_O (itF it n cnt v (n + cnt - k)))) (upd co2 (n + cnt - k) (cw_C (itF it n cnt v (n + cnt - k)))) _ _ ls rfl (lv_sub (l' := [(4, .int (nI (k - 1) - nI 1)), (0, .ref h), (1, .int (nI cnt)), (2, .long v)]) hl [0, 1, 2, 3] rfl) (by omega) (by rw [hnn]; exact fR_app hR hok1) (by rw [hnn]; exact hP) (by rw [hnn]; exact hD) hS

set_option maxHeartbeats 4000000 in
set_option maxRecDepth 100000 in
theorem c_F_appendSlice (l : Launch) (dC : Nat → ClassId) (dI : Nat → Nat → Nat) (sz : Nat) (cI cZ : ClassId) (h pw ps po pk n : Nat) (wd sg ow co : Nat → Int32) (it w : Nat → Nat) (sb : Nat → Bool) (hF : fR n it w sb wd sg ow co) (o hi lo : Nat) (ho : o < 6) (hh : hi < w o) (hlo : lo ≤ hi) (hc : n + (hi + 1 - lo) ≤ 64) (hno : ∀ j, j < n → ∀ k, lo ≤ k → k ≤ hi → it j ≠ 2 + 64 * o + k) : Met l yF_appendSlice wF_appendSlice { frames := 1, cells := 0, slots := 0, locals := 22 } (rw_Pc (dC, dI) cls3 [(h, .inr (0, [.ref pw, .ref ps, .ref po, .ref pk, .int (nI n)])), (pw, .inl (cI, 6, .inl wd)), (ps, .inl (cZ, 6, .inl sg)), (po, .inl (cI, 64, .inl ow)), (pk, .inl (cI, 64, .inl co))] [(cI, .int), (cZ, .boolean)] sz [.ref h, .int (nI o), .int (nI hi), .int (nI lo)]) (va_Qv (fun _ : Unit => True) (fun _ t => ∃ ow' co' : Nat → Int32, fR (n + (hi + 1 - lo)) (itS it n o hi) w sb wd sg ow' co' ∧ va_P (dC, dI) cls3 [(h, .inr (0, [.ref pw, .ref ps, .ref po, .ref pk, .int (nI (n + (hi + 1 - lo)))])), (pw, .inl (cI, 6, .inl wd)), (ps, .inl (cZ, 6, .inl sg)), (po, .inl (cI, 64, .inl ow')), (pk, .inl (cI, 64, .inl co'))] t.heap ∧ va_K (dC, dI) cls3 [(cI, .int), (cZ, .boolean)] t ∧ va_D (va_A [(h, .inr (0, [.ref pw, .ref ps, .ref po, .ref pk, .int (nI n)])), (pw, .inl (cI, 6, .inl wd)), (ps, .inl (cZ, 6, .inl sg)), (po, .inl (cI, 64, .inl ow)), (pk, .inl (cI, 64, .inl co))] sz) [(h, .inr (0, [.ref pw, .ref ps, .ref po, .ref pk, .int (nI (n + (hi + 1 - lo)))])), (pw, .inl (cI, 6, .inl wd)), (ps, .inl (cZ, 6, .inl sg)), (po, .inl (cI, 64, .inl ow')), (pk, .inl (cI, 64, .inl co'))]) (va_A [(h, .inr (0, [.ref pw, .ref ps, .ref po, .ref pk, .int (nI n)])), (pw, .inl (cI, 6, .inl wd)), (ps, .inl (cZ, 6, .inl sg)), (po, .inl (cI, 64, .inl ow)), (pk, .inl (cI, 64, .inl co))] sz)) 0 0 (va_A [(h, .inr (0, [.ref pw, .ref ps, .ref po, .ref pk, .int (nI n)])), (pw, .inl (cI, 6, .inl wd)), (ps, .inl (cZ, 6, .inl sg)), (po, .inl (cI, 64, .inl ow)), (pk, .inl (cI, 64, .inl co))] sz) := by
  refine Met.ofW (cc := cF_appendSlice) (maxL := 5) (ret := none) (by decide) rfl ?_
  intro p e s m args below meth c s₁ B hml hv
  obtain ⟨rfl, hsz, hP, hK, hD0⟩ := hv
  have hx := B.exec
  have hb := B.bytes
  have hr := B.returns
  have hts := atoms_spec (ws := wF_appendSlice) B.pre
  have hw : ∀ w ∈ wA, w.before _ s = true := fun w h => hts w (List.mem_cons_of_mem _ h)
  have hown : s.vm.findClass RF = some m.cls := findClass_of_methodNamed B.named
  have hlocks := B.notSynchronized
  subst hsz
  have hD := hD0.self (sz := s.heap.size)
  generalize hAe : va_A [(h, .inr (0, [.ref pw, .ref ps, .ref po, .ref pk, .int (nI n)])), (pw, .inl (cI, 6, .inl wd)), (ps, .inl (cZ, 6, .inl sg)), (po, .inl (cI, 64, .inl ow)), (pk, .inl (cI, 64, .inl co))] s.heap.size = A at hD ⊢
  have hA : ∀ q : Nat, s.heap.size ≤ q → A q := fun q h => by rw [← hAe]; exact Or.inr h
  have hS : va_S A s.heap s.heap [] := va_S.rf
  have hl := lv_entry ([.ref h, .int (nI o), .int (nI hi), .int (nI lo)]) (n := 5) (Nat.le_of_ble_eq_true rfl)
  rw [lg_entry_eq]
  generalize (lg_sl ([.ref h, .int (nI o), .int (nI hi), .int (nI lo)]) ++ List.replicate (5 - (lg_sl ([.ref h, .int (nI o), .int (nI hi), .int (nI lo)])).length) Slot.unset).toArray = ls at hl ⊢
  have hl : lv_has ls 5 [(0, .ref h), (1, .int (nI o)), (2, .int (nI hi)), (3, .int (nI lo))] := hl
  have hn : n ≤ 64 := hF.1.1
  have hwd := hF.2.1
  have hsg := hF.2.2.1
  have hoc := hF.2.2.2
  have hit := cw_it hF.1
  have hw64 := hF.1.2.1
  have hwo := hw64 o ho
  refine lv_iload_n hx hb dF_appendSlice_0 rfl (lv_at hl 2 rfl) ?_
  refine lv_istore hx hb dF_appendSlice_1 hl (by decide) rfl (fun ls hl => ?_)
  have hl : lv_has ls 5 [(4, .int (nI hi)), (0, .ref h), (1, .int (nI o)), (2, .int (nI hi)), (3, .int (nI lo))] := hl
  refine (?_ : ∀ (kk : Nat) (k : Nat) (ow2 : Nat → Int32) (co2 : Nat → Int32) (H : Heap) (locs : List Loc) (ls : Array Slot), kk = k → lv_has ls 5 [(4, .int (nI k - nI 1)), (0, .ref h), (1, .int (nI o)), (2, .int (nI hi)), (3, .int (nI lo))] → (k ≤ hi + 1) → (lo ≤ k) → (fR (n + (hi + 1 - k)) (itS it n o hi) w sb wd sg ow2 co2) → va_P (dC, dI) cls3 [(h, .inr (0, [.ref pw, .ref ps, .ref po, .ref pk, .int (nI (n + (hi + 1 - k)))])), (pw, .inl (cI, 6, .inl wd)), (ps, .inl (cZ, 6, .inl sg)), (po, .inl (cI, 64, .inl ow2)), (pk, .inl (cI, 64, .inl co2))] H → va_D A [(h, .inr (0, [.ref pw, .ref ps, .ref po, .ref pk, .int (nI (n + (hi + 1 - k)))])), (pw, .inl (cI, 6, .inl wd)), (ps, .inl (cZ, 6, .inl sg)), (po, .inl (cI, 64, .inl ow2)), (pk, .inl (cI, 64, .inl co2))] → va_S A s.heap H locs → W p l e _ s m _ below meth c H locs _ _ _ (F0 m 3 ls [])) _ (hi + 1) ow co _ _ ls rfl (cw_lvx (lv_sub (l' := [(4, .int (nI hi)), (0, .ref h), (1, .int (nI o)), (2, .int (nI hi)), (3, .int (nI lo))]) hl [0, 1, 2, 3, 4] rfl) (by rw [show nI (hi + 1) - nI 1 = nI hi from nI_pred hi])) (by omega) (by omega) (by rw [Nat.sub_self, Nat.add_zero]; exact fR_congr hF (fun j hj => itS_lt hj)) (by rw [Nat.sub_self, Nat.add_zero]; exact hP) (by rw [Nat.sub_self, Nat.add_zero]; exact hD) hS
  intro kk
  induction kk using Nat.strongRecOn with
  | ind kk3 ih3 =>
    intro k ow2 co2 H locs ls hkk3 hl hk hk2 hR hP hD hS
    refine lv_iload hx hb dF_appendSlice_3 (lv_at hl 0 rfl) ?_
    refine lv_iload_n hx hb dF_appendSlice_5 rfl (lv_at hl 4 rfl) ?_
    refine lv_icmp_lt (tgt := 22) hx hb dF_appendSlice_6 (by decide) (fun h6 => ?_) (fun h6 => ?_)
    · rw [dn_lt (by omega) (by omega)] at h6
      obtain rfl : k = lo := by omega
      exact W.vret hx hb hr (fun t ht hW => ⟨⟨(), rfl, trivial, ow2, co2, hR, by rw [ht]; exact hP, va_K.moved hW.alike hK, hD⟩, hS.F ht⟩) hS.2.2 dF_appendSlice_22
    · rw [dn_lt (by omega) (by omega)] at h6
      have hnn : n + (hi + 1 - (k - 1)) = n + (hi + 1 - k) + 1 := by omega
      have hok1 : cw_ok (itS it n o hi) (n + (hi + 1 - k) + 1) w := itS_ok hF.1 ho hh hlo hno (by omega) (by omega) (by omega)
      have hnx : itS it n o hi (n + (hi + 1 - k)) = 2 + 64 * o + (k - 1) := by rw [itS_ge (by omega)]; omega
      refine lv_aload_n hx hb dF_appendSlice_9 rfl (lv_at hl 1 rfl) ?_
      refine lv_iload_n hx hb dF_appendSlice_10 rfl (lv_at hl 2 rfl) ?_
      refine lv_topi (fun w10 ew10 => ?_)
      obtain rfl : w10 = cw_O (itS it n o hi (n + (hi + 1 - k))) := ew10.trans (by rw [hnx]; exact dn_O (by omega))
      refine lv_iload hx hb dF_appendSlice_11 (lv_at hl 0 rfl) ?_
      refine lv_topi (fun w11 ew11 => ?_)
      obtain rfl : w11 = cw_C (itS it n o hi (n + (hi + 1 - k))) := ew11.trans (by rw [hnx]; exact dn_C (by omega) (by omega))
      have hPc := hP.sub (ws' := [(h, .inr (0, [.ref pw, .ref ps, .ref po, .ref pk, .int (nI (n + (hi + 1 - k)))])), (pw, .inl (cI, 6, .inl wd)), (ps, .inl (cZ, 6, .inl sg)), (po, .inl (cI, 64, .inl ow2)), (pk, .inl (cI, 64, .inl co2))]) [0, 1, 2, 3, 4] rfl
      have hDc := hD.sub (ws' := [(h, .inr (0, [.ref pw, .ref ps, .ref po, .ref pk, .int (nI (n + (hi + 1 - k)))])), (pw, .inl (cI, 6, .inl wd)), (ps, .inl (cZ, 6, .inl sg)), (po, .inl (cI, 64, .inl ow2)), (pk, .inl (cI, 64, .inl co2))]) [0, 1, 2, 3, 4] (by decide) rfl
      have hKc := hK.sub (tys' := [(cI, .int), (cZ, .boolean)]) [0, 1] rfl
      have hFc := va_free (wc := [(h, .inr (0, [.ref pw, .ref ps, .ref po, .ref pk, .int (nI (n + (hi + 1 - k)))])), (pw, .inl (cI, 6, .inl wd)), (ps, .inl (cZ, 6, .inl sg)), (po, .inl (cI, 64, .inl ow2)), (pk, .inl (cI, 64, .inl co2))]) hD hS hA [0, 1, 2, 3, 4] rfl
      refine va_callv (va_runV (As := [.int (cw_O (itS it n o hi (n + (hi + 1 - k)))), .int (cw_C (itS it n o hi (n + (hi + 1 - k))))]) (rest := []) ⟨hx, hb, hml, hown, hw⟩ (c_F_append l dC dI _ cI cZ h pw ps po pk (n + (hi + 1 - k)) wd sg ow2 co2 (itS it n o hi) w sb hR hok1) (cwV 2 hw (gV kw_226 kw_228 kw_2 kw_15 kw_229) rfl rfl rfl (by decide +kernel) ⟨Nat.le_of_ble_eq_true rfl, Nat.le_of_ble_eq_true rfl⟩) (rw_preV (q0 := 0) hKc hPc hDc rfl rfl) rfl rfl hl.1 rfl (lv_room (Nat.le_of_ble_eq_true rfl)) dF_appendSlice_13 ⟨Nat.zero_le _, Nat.zero_le _⟩) hS (fun q _ h => hFc q h) hFc (fun u t H1 locs ht hvm e13 hB hz1 hk1 hS => ?_)
      obtain ⟨hP1, hK1, hD1⟩ := hB
      rw [ht] at hP1
      obtain ⟨hP, hD⟩ := va_join (wr := []) (w1 := [(h, .inr (0, [.ref pw, .ref ps, .ref po, .ref pk, .int (nI (n + (hi + 1 - k) + 1))])), (pw, .inl (cI, 6, .inl wd)), (ps, .inl (cZ, 6, .inl sg)), (po, .inl (cI, 64, .inl (upd ow2 (n + (hi + 1 - k)) (cw_O (itS it n o hi (n + (hi + 1 - k))))))), (pk, .inl (cI, 64, .inl (upd co2 (n + (hi + 1 - k)) (cw_C (itS it n o hi (n + (hi + 1 - k)))))))]) hP hD [0, 1, 2, 3, 4] [] rfl rfl (by decide) (by decide) hk1 hFc hP1 hD1
      generalize H1 = H at hP hS ⊢
      have hP : va_P (dC, dI) cls3 [(h, .inr (0, [.ref pw, .ref ps, .ref po, .ref pk, .int (nI (n + (hi + 1 - k) + 1))])), (pw, .inl (cI, 6, .inl wd)), (ps, .inl (cZ, 6, .inl sg)), (po, .inl (cI, 64, .inl (upd ow2 (n + (hi + 1 - k)) (cw_O (itS it n o hi (n + (hi + 1 - k))))))), (pk, .inl (cI, 64, .inl (upd co2 (n + (hi + 1 - k)) (cw_C (itS it n o hi (n + (hi + 1 - k)))))))] H := hP
      have hD : va_D A [(h, .inr (0, [.ref pw, .ref ps, .ref po, .ref pk, .int (nI (n + (hi + 1 - k) + 1))])), (pw, .inl (cI, 6, .inl wd)), (ps, .inl (cZ, 6, .inl sg)), (po, .inl (cI, 64, .inl (upd ow2 (n + (hi + 1 - k)) (cw_O (itS it n o hi (n + (hi + 1 - k))))))), (pk, .inl (cI, 64, .inl (upd co2 (n + (hi + 1 - k)) (cw_C (itS it n o hi (n + (hi + 1 - k)))))))] := hD
      refine lv_iinc (k := 0) (v := nI (k - 1) - nI 1) hx hb dF_appendSlice_16 hl rfl (cw_dec (by omega)) (by decide) rfl (fun ls hl => ?_)
      have hl : lv_has ls 5 [(4, .int (nI (k - 1) - nI 1)), (0, .ref h), (1, .int (nI o)), (2, .int (nI hi)), (3, .int (nI lo))] := hl
      refine lv_goto (tgt := 3) hx hb dF_appendSlice_19 (by decide) ?_
      exact ih3 _ (by omega) (k - 1) (upd ow2 (n + (hi + 1 - k)) (cw_O (itS it n o hi (n + (hi + 1 - k))))) (upd co2 (n + (hi + 1 - k)) (cw_C (itS it n o hi (n + (hi + 1 - k))))) _ _ ls rfl (lv_sub (l' := [(4, .int (nI (k - 1) - nI 1)), (0, .ref h), (1, .int (nI o)), (2, .int (nI hi)), (3, .int (nI lo))]) hl [0, 1, 2, 3, 4] rfl) (by omega) (by omega) (by rw [hnn]; exact fR_app hR hok1) (by rw [hnn]; exact hP) (by rw [hnn]; exact hD) hS
end
section
/-! the reference by numbers: eight forms -/
def mR (ns : Nat → Nat) (its wss : Nat → Nat → Nat) (sbs : Nat → Nat → Bool) (ln wh bi si : Nat → Int32) : Prop :=
  ∀ f, f < 8 → cw_ok (its f) (ns f) (wss f) ∧ ln f = nI (ns f) ∧ (∀ o, o < 6 → bi (6 * f + o) = nI (wss f o) ∧ si (6 * f + o) = nI (sbs f o).toNat) ∧ ∀ j, j < ns f → wh (64 * f + j) = nI (its f j)
def isF (x : Int32) : Bool := decide (0 ≤ x.toInt ∧ x.toInt < 8)
def isO (x : Int32) : Bool := decide (0 ≤ x.toInt ∧ x.toInt < 6)
def isB (x : Int32) : Bool := decide (1 ≤ x.toInt ∧ x.toInt ≤ 64)
def isW (x : Int32) : Bool := decide (0 ≤ x.toInt ∧ x.toInt ≤ 3)
def fi (x : Int32) : Nat := x.toInt.toNat
theorem fi_nI {n : Nat} (h : n < 2 ^ 31) : fi (nI n) = n := by unfold fi; rw [nI_toInt h]; rfl
theorem toI_of {x : Int32} {n : Nat} (hn : n < 2 ^ 31) (h : x.toInt = n) : x = nI n := Int32.toInt_inj.mp (by rw [nI_toInt hn]; exact h)
theorem isF_of {x : Int32} (h : isF x = true) : ∃ f, f < 8 ∧ x = nI f := by
  simp only [isF, decide_eq_true_eq] at h
  exact ⟨x.toInt.toNat, by omega, toI_of (by omega) (by omega)⟩
theorem isO_of {x : Int32} (h : isO x = true) : ∃ f, f < 6 ∧ x = nI f := by
  simp only [isO, decide_eq_true_eq] at h
  exact ⟨x.toInt.toNat, by omega, toI_of (by omega) (by omega)⟩
theorem isB_of {x : Int32} (h : isB x = true) : ∃ f, (1 ≤ f ∧ f ≤ 64) ∧ x = nI f := by
  simp only [isB, decide_eq_true_eq] at h
  exact ⟨x.toInt.toNat, by omega, toI_of (by omega) (by omega)⟩
theorem isW_of {x : Int32} (h : isW x = true) : ∃ f, f < 4 ∧ x = nI f := by
  simp only [isW, decide_eq_true_eq] at h
  exact ⟨x.toInt.toNat, by omega, toI_of (by omega) (by omega)⟩
theorem isF_nI {f : Nat} (h : f < 8) : isF (nI f) = true := by
  have h1 : (nI f).toInt = f := nI_toInt (by omega)
  exact decide_eq_true (by omega)
theorem isO_nI {f : Nat} (h : f < 6) : isO (nI f) = true := by
  have h1 : (nI f).toInt = f := nI_toInt (by omega)
  exact decide_eq_true (by omega)
theorem isB_nI {f : Nat} (h : 1 ≤ f ∧ f ≤ 64) : isB (nI f) = true := by
  have h1 : (nI f).toInt = f := nI_toInt (by omega)
  exact decide_eq_true (by omega)
theorem isW_nI {f : Nat} (h : f < 4) : isW (nI f) = true := by
  have h1 : (nI f).toInt = f := nI_toInt (by omega)
  exact decide_eq_true (by omega)
theorem in_k {a b : Nat} (ha : a < 2 ^ 31) (hb : b < 2 ^ 31) (x : Int32) : (lN a ≤ x.toInt64 ∧ x.toInt64 ≤ lN b) ↔ ((a : Int) ≤ x.toInt ∧ x.toInt ≤ b) := by
  rw [Int64.le_iff_toInt_le, Int64.le_iff_toInt_le, Int32.toInt_toInt64, lN_toInt ha, lN_toInt hb]
theorem isF_in (x : Int32) : nI (decide (lN 0 ≤ x.toInt64 ∧ x.toInt64 ≤ lN 7)).toNat = nI (isF x).toNat := by
  congr 2; unfold isF; apply decide_eq_decide.mpr; rw [in_k (by decide) (by decide)]; omega
theorem isO_in (x : Int32) : nI (decide (lN 0 ≤ x.toInt64 ∧ x.toInt64 ≤ lN 5)).toNat = nI (isO x).toNat := by
  congr 2; unfold isO; apply decide_eq_decide.mpr; rw [in_k (by decide) (by decide)]; omega
theorem isB_in (x : Int32) : nI (decide (lN 1 ≤ x.toInt64 ∧ x.toInt64 ≤ lN 64)).toNat = nI (isB x).toNat := by
  congr 2; unfold isB; apply decide_eq_decide.mpr; rw [in_k (by decide) (by decide)]; omega
theorem isW_in (x : Int32) : nI (decide (lN 0 ≤ x.toInt64 ∧ x.toInt64 ≤ lN 3)).toNat = nI (isW x).toNat := by
  congr 2; unfold isW; apply decide_eq_decide.mpr; rw [in_k (by decide) (by decide)]; omega
theorem in_a {v a b : Int64} (h : v < a) : nI 0 = nI (decide (a ≤ v ∧ v ≤ b)).toNat := by
  rw [decide_eq_false (fun q => Int64.not_le.mpr h q.1)]; rfl
theorem in_b {v a b : Int64} (h : b < v) : nI 0 = nI (decide (a ≤ v ∧ v ≤ b)).toNat := by
  rw [decide_eq_false (fun q => Int64.not_le.mpr h q.2)]; rfl
theorem in_c {v a b : Int64} (h : ¬ v < a) (h2 : ¬ b < v) : nI 1 = nI (decide (a ≤ v ∧ v ≤ b)).toNat := by
  rw [decide_eq_true ⟨Int64.not_lt.mp h, Int64.not_lt.mp h2⟩]; rfl
/-- the operand is there -/
def thr (wss : Nat → Nat → Nat) (x o : Int32) : Bool := isF x && (isO o && decide (0 < wss (fi x) (fi o)))
theorem thr_a {wss : Nat → Nat → Nat} {x o : Int32} (h : isF x = false) : nI 0 = nI (thr wss x o).toNat := by unfold thr; rw [h]; rfl
theorem thr_b {wss : Nat → Nat → Nat} {f : Nat} {o : Int32} (h : isO o = false) : nI 0 = nI (thr wss (nI f) o).toNat := by unfold thr; rw [h]; simp
theorem thr_nI {wss : Nat → Nat → Nat} {f o : Nat} (hf : f < 8) (ho : o < 6) : thr wss (nI f) (nI o) = decide (0 < wss f o) := by
  unfold thr; rw [isF_nI hf, isO_nI ho, fi_nI (by omega), fi_nI (by omega)]; rfl
theorem thr_c {wss : Nat → Nat → Nat} {f o : Nat} (hf : f < 8) (ho : o < 6) (h : wss f o = 0) : nI 0 = nI (thr wss (nI f) (nI o)).toNat := by rw [thr_nI hf ho, h]; rfl
theorem thr_d {wss : Nat → Nat → Nat} {f o : Nat} (hf : f < 8) (ho : o < 6) (h : ¬ wss f o = 0) : nI 1 = nI (thr wss (nI f) (nI o)).toNat := by rw [thr_nI hf ho, decide_eq_true (by omega)]; rfl
theorem thr_of {wss : Nat → Nat → Nat} {x y : Int32} (h : thr wss x y = true) : ∃ f o, f < 8 ∧ o < 6 ∧ 0 < wss f o ∧ x = nI f ∧ y = nI o := by
  simp only [thr, Bool.and_eq_true, decide_eq_true_eq] at h
  obtain ⟨h1, h2, h3⟩ := h
  obtain ⟨f, hf, rfl⟩ := isF_of h1
  obtain ⟨o, ho, rfl⟩ := isO_of h2
  rw [fi_nI (by omega), fi_nI (by omega)] at h3
  exact ⟨f, o, hf, ho, h3, rfl, rfl⟩
/-- where the item x is, the first of them, or -1 -/
def plR (it : Nat → Nat) (n x : Nat) (r : Int32) : Prop := (∃ j, j < n ∧ it j = x ∧ r = nI j) ∨ ((∀ j, j < n → it j ≠ x) ∧ r = -1)
theorem plR_ge {it : Nat → Nat} {n x : Nat} {r : Int32} (hn : n ≤ 64) (h : plR it n x r) : 0 ≤ r ↔ cw_has it x n = true := by
  rw [cw_has_iff]
  rcases h with ⟨j, h1, h2, rfl⟩ | ⟨h1, rfl⟩
  · exact ⟨fun _ => ⟨j, h1, h2⟩, fun _ => nI_pos' (by omega)⟩
  · exact ⟨fun q => absurd q (by decide), fun ⟨j, a, b⟩ => absurd b (h1 j a)⟩
theorem plR_lt {it : Nat → Nat} {n x : Nat} {r : Int32} (hn : n ≤ 64) (h : plR it n x r) : r < 0 ↔ ¬ cw_has it x n = true := by
  rw [← plR_ge hn h, Int32.not_le]
theorem alwT_a {it : Nat → Nat} {n j b : Nat} (h : ¬ j < n) (h2 : b = 0) : alw it n j b = true := by
  unfold alw; rw [if_pos (by omega), h2]; rfl
theorem alwF_b {it : Nat → Nat} {n j b : Nat} (h : ¬ j < n) (h2 : ¬ b = 0) : alw it n j b = false := by
  unfold alw; rw [if_pos (by omega), beq_eq_false_iff_ne.mpr h2]
theorem alwT_c {it : Nat → Nat} {n j b : Nat} (h : j < n) (h2 : ¬ it (n - 1 - j) < 2) : alw it n j b = true := by
  unfold alw; rw [if_neg (by omega), decide_eq_true (by omega)]; rfl
theorem alwT_d {it : Nat → Nat} {n j b : Nat} (h : j < n) (h3 : it (n - 1 - j) = b) : alw it n j b = true := by
  unfold alw; rw [if_neg (by omega), h3, beq_self_eq_true, Bool.or_true]
theorem alwF_e {it : Nat → Nat} {n j b : Nat} (h : j < n) (h2 : it (n - 1 - j) < 2) (h3 : ¬ it (n - 1 - j) = b) : alw it n j b = false := by
  unfold alw; rw [if_neg (by omega), decide_eq_false (by omega), beq_eq_false_iff_ne.mpr h3]; rfl
theorem cw_ext {P : Nat → Prop} {a k : Nat} (h : ∀ q, a ≤ q → q < k → P q) (hk : P k) : ∀ q, a ≤ q → q < k + 1 → P q := by
  intro q h1 h2
  by_cases e : q = k
  · rw [e]; exact hk
  · exact h q h1 (by omega)
set_option maxHeartbeats 4000000 in
set_option maxRecDepth 100000 in
theorem c_M_thrown (l : Launch) (dC : Nat → ClassId) (dI : Nat → Nat → Nat) (cI cZ cJ : ClassId) (hm ml mw mb ms mn : Nat) (er : Int32) (ln wh bi si : Nat → Int32) (nu : Nat → Int64) (ns : Nat → Nat) (its wss : Nat → Nat → Nat) (sbs : Nat → Nat → Bool) (hM : mR ns its wss sbs ln wh bi si) : Met l yM_thrown wM_thrown { frames := 0, cells := 0, slots := 0, locals := 0 } (ro_Pc (dC, dI) cls3 [(hm, .inr (2, [.int er, .ref ml, .ref mw, .ref mb, .ref ms, .ref mn])), (ml, .inl (cI, 8, .inl ln)), (mw, .inl (cI, 512, .inl wh)), (mb, .inl (cI, 48, .inl bi)), (ms, .inl (cZ, 48, .inl si)), (mn, .inl (cJ, 6, .inr (.inl nu)))] [(cI, .int), (cZ, .boolean), (cJ, .long)] [.ref hm]) (vp_Si (fun r => r = er)) 0 0 (fun _ => False) := by
  refine Met.ofW (cc := cM_thrown) (maxL := 1) (ret := (some .int)) (by decide) rfl ?_
  intro p e s m args below meth c s₁ B hml hv
  obtain ⟨rfl, hP, hK⟩ := hv
  have hx := B.exec
  have hb := B.bytes
  have hr := B.returns
  have hts := atoms_spec (ws := wM_thrown) B.pre
  have hw : ∀ w ∈ wA, w.before _ s = true := fun w h => hts w (List.mem_cons_of_mem _ h)
  have hown : s.vm.findClass RM = some m.cls := findClass_of_methodNamed B.named
  have hlocks := B.notSynchronized
  have hl := lv_entry ([.ref hm]) (n := 1) (Nat.le_of_ble_eq_true rfl)
  rw [lg_entry_eq]
  generalize (lg_sl ([.ref hm]) ++ List.replicate (1 - (lg_sl ([.ref hm])).length) Slot.unset).toArray = ls at hl ⊢
  have hl : lv_has ls 1 [(0, .ref hm)] := hl
  refine lv_aload_n hx hb dM_thrown_0 rfl (lv_at hl 0 rfl) ?_
  refine va_get (D := (dC, dI)) (ci := 2) (v := .int er) (C := RM) (T := TM) (N := 6) hx hb hw inM hown hK hP 0 rfl rfl 0 (by decide) (hw _ kw_386) (fun _ h9 => h9) rfl dM_thrown_1 ?_
  exact W.iret (v := er) hx hb hr (fun t ht hW => ⟨_, rfl, (rfl), ht⟩) (fun q h => nomatch h) dM_thrown_4

set_option maxHeartbeats 4000000 in
set_option maxRecDepth 100000 in
theorem c_M_in (l : Launch) (v a b : Int64) : Met l yM_in wM_in { frames := 0, cells := 0, slots := 0, locals := 0 } (fun av9 _ => av9 = ([.long v, .long a, .long b] : List Value).toArray) (vp_Si (fun r => r = nI (decide (a ≤ v ∧ v ≤ b)).toNat)) 0 0 (fun _ => False) := by
  refine Met.ofW (cc := cM_in) (maxL := 6) (ret := (some .boolean)) (by decide) rfl ?_
  intro p e s m args below meth c s₁ B hml hv
  obtain rfl := hv
  have hx := B.exec
  have hb := B.bytes
  have hr := B.returns
  have hts := atoms_spec (ws := wM_in) B.pre
  have hw : ∀ w ∈ wA, w.before _ s = true := fun w h => hts w (List.mem_cons_of_mem _ h)
  have hown : s.vm.findClass RM = some m.cls := findClass_of_methodNamed B.named
  have hlocks := B.notSynchronized
  have hl := lv_entry ([.long v, .long a, .long b]) (n := 6) (Nat.le_of_ble_eq_true rfl)
  rw [lg_entry_eq]
  generalize (lg_sl ([.long v, .long a, .long b]) ++ List.replicate (6 - (lg_sl ([.long v, .long a, .long b])).length) Slot.unset).toArray = ls at hl ⊢
  have hl : lv_has ls 6 [(0, .long v), (2, .long a), (4, .long b)] := hl
  refine lv_lload_n hx hb dM_in_0 rfl (lv_at hl 0 rfl) ?_
  refine lv_lload_n hx hb dM_in_1 rfl (lv_at hl 1 rfl) ?_
  refine W.lcmp hx hb dM_in_2 ?_
  refine lv_topi (fun v2 e2 => ?_)
  refine lv_if_lt (tgt := 17) hx hb dM_in_3 (by decide) (fun h3 => ?_) (fun h3 => ?_)
  · rw [e2, lg_cmp_lt] at h3
    refine lv_iconst (v := nI 0) hx hb dM_in_17 (by decide +kernel) ?_
    exact W.zret (v := nI 0) hx hb hr (by first | exact b_nar _ | decide +kernel) (fun t ht hW => ⟨_, rfl, (by first | exact in_a h3 | exact in_b h10 | exact in_c h3 h10), ht⟩) (fun q h => nomatch h) dM_in_18
  · rw [e2, lg_cmp_lt] at h3
    refine lv_lload_n hx hb dM_in_6 rfl (lv_at hl 0 rfl) ?_
    refine lv_lload hx hb dM_in_7 (lv_at hl 2 rfl) ?_
    refine W.lcmp hx hb dM_in_9 ?_
    refine lv_topi (fun v9 e9 => ?_)
    refine lv_if_gt (tgt := 17) hx hb dM_in_10 (by decide) (fun h10 => ?_) (fun h10 => ?_)
    · rw [e9, lg_cmp_gt] at h10
      refine lv_iconst (v := nI 0) hx hb dM_in_17 (by decide +kernel) ?_
      exact W.zret (v := nI 0) hx hb hr (by first | exact b_nar _ | decide +kernel) (fun t ht hW => ⟨_, rfl, (by first | exact in_a h3 | exact in_b h10 | exact in_c h3 h10), ht⟩) (fun q h => nomatch h) dM_in_18
    · rw [e9, lg_cmp_gt] at h10
      refine lv_iconst (v := nI 1) hx hb dM_in_13 (by decide +kernel) ?_
      refine lv_goto (tgt := 18) hx hb dM_in_14 (by decide) ?_
      exact W.zret (v := nI 1) hx hb hr (by first | exact b_nar _ | decide +kernel) (fun t ht hW => ⟨_, rfl, (by first | exact in_a h3 | exact in_b h10 | exact in_c h3 h10), ht⟩) (fun q h => nomatch h) dM_in_18

set_option maxHeartbeats 4000000 in
set_option maxRecDepth 100000 in
theorem c_M_isForm (l : Launch) (x : Int32) : Met l yM_isForm wM_isForm { frames := 1, cells := 0, slots := 0, locals := 25 } (fun av9 _ => av9 = ([.int x] : List Value).toArray) (vp_Si (fun r => r = nI (isF x).toNat)) 0 0 (fun _ => False) := by
  refine Met.ofW (cc := cM_isForm) (maxL := 1) (ret := (some .boolean)) (by decide) rfl ?_
  intro p e s m args below meth c s₁ B hml hv
  obtain rfl := hv
  have hx := B.exec
  have hb := B.bytes
  have hr := B.returns
  have hts := atoms_spec (ws := wM_isForm) B.pre
  have hw : ∀ w ∈ wA, w.before _ s = true := fun w h => hts w (List.mem_cons_of_mem _ h)
  have hown : s.vm.findClass RM = some m.cls := findClass_of_methodNamed B.named
  have hlocks := B.notSynchronized
  have hl := lv_entry ([.int x]) (n := 1) (Nat.le_of_ble_eq_true rfl)
  rw [lg_entry_eq]
  generalize (lg_sl ([.int x]) ++ List.replicate (1 - (lg_sl ([.int x])).length) Slot.unset).toArray = ls at hl ⊢
  have hl : lv_has ls 1 [(0, .int x)] := hl
  refine lv_iload_n hx hb dM_isForm_0 rfl (lv_at hl 0 rfl) ?_
  refine lv_i2l hx hb dM_isForm_1 rfl ?_
  refine lv_topl (fun v1 e1 => ?_)
  refine lv_lconst (v := lN 0) hx hb dM_isForm_2 (by decide +kernel) ?_
  refine lv_ldc2 (v := lN 7) hx hb hown (hw _ kw_416) dM_isForm_3 ?_
  refine vp_callSi (W.runS (As := [.long v1, .long (lN 0), .long (lN 7)]) (rest := []) ⟨hx, hb, hml, hown, hw⟩ (c_M_in l v1 (lN 0) (lN 7)) (cwS 3 hw (gS kw_417 kw_418 kw_16 kw_419) rfl rfl rfl (by decide +kernel) ⟨Nat.le_of_ble_eq_true rfl, Nat.le_of_ble_eq_true rfl⟩) preEq rfl rfl hl.1 rfl (lv_room (Nat.le_of_ble_eq_true rfl)) dM_isForm_6 ⟨Nat.zero_le _, Nat.zero_le _⟩) (fun v6 e6 => ?_)
  obtain rfl : v6 = nI (isF x).toNat := e6.trans (by rw [e1]; exact isF_in x)
  exact W.zret (v := nI (isF x).toNat) hx hb hr (by first | exact b_nar _ | decide +kernel) (fun t ht hW => ⟨_, rfl, (rfl), ht⟩) (fun q h => nomatch h) dM_isForm_9

set_option maxHeartbeats 4000000 in
set_option maxRecDepth 100000 in
theorem c_M_isOperand (l : Launch) (x : Int32) : Met l yM_isOperand wM_isOperand { frames := 1, cells := 0, slots := 0, locals := 25 } (fun av9 _ => av9 = ([.int x] : List Value).toArray) (vp_Si (fun r => r = nI (isO x).toNat)) 0 0 (fun _ => False) := by
  refine Met.ofW (cc := cM_isOperand) (maxL := 1) (ret := (some .boolean)) (by decide) rfl ?_
  intro p e s m args below meth c s₁ B hml hv
  obtain rfl := hv
  have hx := B.exec
  have hb := B.bytes
  have hr := B.returns
  have hts := atoms_spec (ws := wM_isOperand) B.pre
  have hw : ∀ w ∈ wA, w.before _ s = true := fun w h => hts w (List.mem_cons_of_mem _ h)
  have hown : s.vm.findClass RM = some m.cls := findClass_of_methodNamed B.named
  have hlocks := B.notSynchronized
  have hl := lv_entry ([.int x]) (n := 1) (Nat.le_of_ble_eq_true rfl)
  rw [lg_entry_eq]
  generalize (lg_sl ([.int x]) ++ List.replicate (1 - (lg_sl ([.int x])).length) Slot.unset).toArray = ls at hl ⊢
  have hl : lv_has ls 1 [(0, .int x)] := hl
  refine lv_iload_n hx hb dM_isOperand_0 rfl (lv_at hl 0 rfl) ?_
  refine lv_i2l hx hb dM_isOperand_1 rfl ?_
  refine lv_topl (fun v1 e1 => ?_)
  refine lv_lconst (v := lN 0) hx hb dM_isOperand_2 (by decide +kernel) ?_
  refine lv_ldc2 (v := lN 5) hx hb hown (hw _ kw_431) dM_isOperand_3 ?_
  refine vp_callSi (W.runS (As := [.long v1, .long (lN 0), .long (lN 5)]) (rest := []) ⟨hx, hb, hml, hown, hw⟩ (c_M_in l v1 (lN 0) (lN 5)) (cwS 3 hw (gS kw_417 kw_418 kw_16 kw_419) rfl rfl rfl (by decide +kernel) ⟨Nat.le_of_ble_eq_true rfl, Nat.le_of_ble_eq_true rfl⟩) preEq rfl rfl hl.1 rfl (lv_room (Nat.le_of_ble_eq_true rfl)) dM_isOperand_6 ⟨Nat.zero_le _, Nat.zero_le _⟩) (fun v6 e6 => ?_)
  obtain rfl : v6 = nI (isO x).toNat := e6.trans (by rw [e1]; exact isO_in x)
  exact W.zret (v := nI (isO x).toNat) hx hb hr (by first | exact b_nar _ | decide +kernel) (fun t ht hW => ⟨_, rfl, (rfl), ht⟩) (fun q h => nomatch h) dM_isOperand_9

set_option maxHeartbeats 4000000 in
set_option maxRecDepth 100000 in
theorem c_M_bit (l : Launch) (v : Int64) (k : Nat) (hk : k < 64) : Met l yM_bit wM_bit { frames := 0, cells := 0, slots := 0, locals := 0 } (fun av9 _ => av9 = ([.long v, .int (nI k)] : List Value).toArray) (vp_Si (fun r => r = nI (bq v k))) 0 0 (fun _ => False) := by
  refine Met.ofW (cc := cM_bit) (maxL := 3) (ret := (some .int)) (by decide) rfl ?_
  intro p e s m args below meth c s₁ B hml hv
  obtain rfl := hv
  have hx := B.exec
  have hb := B.bytes
  have hr := B.returns
  have hts := atoms_spec (ws := wM_bit) B.pre
  have hw : ∀ w ∈ wA, w.before _ s = true := fun w h => hts w (List.mem_cons_of_mem _ h)
  have hown : s.vm.findClass RM = some m.cls := findClass_of_methodNamed B.named
  have hlocks := B.notSynchronized
  have hl := lv_entry ([.long v, .int (nI k)]) (n := 3) (Nat.le_of_ble_eq_true rfl)
  rw [lg_entry_eq]
  generalize (lg_sl ([.long v, .int (nI k)]) ++ List.replicate (3 - (lg_sl ([.long v, .int (nI k)])).length) Slot.unset).toArray = ls at hl ⊢
  have hl : lv_has ls 3 [(0, .long v), (2, .int (nI k))] := hl
  refine lv_lload_n hx hb dM_bit_0 rfl (lv_at hl 0 rfl) ?_
  refine lv_iload_n hx hb dM_bit_1 rfl (lv_at hl 1 rfl) ?_
  refine lv_lshr hx hb dM_bit_2 rfl ?_
  refine lv_topl (fun v2 e2 => ?_)
  refine lv_l2i hx hb dM_bit_3 rfl ?_
  refine lv_topi (fun v3 e3 => ?_)
  refine lv_iconst (v := nI 1) hx hb dM_bit_4 (by decide +kernel) ?_
  refine lv_iand hx hb dM_bit_5 ?_
  refine lv_topi (fun v5 e5 => ?_)
  exact W.iret (v := v5) hx hb hr (fun t ht hW => ⟨_, rfl, (by rw [e5, e3, e2]; exact bq_s v hk), ht⟩) (fun q h => nomatch h) dM_bit_6

set_option maxHeartbeats 4000000 in
set_option maxRecDepth 100000 in
theorem c_M_isThere (l : Launch) (dC : Nat → ClassId) (dI : Nat → Nat → Nat) (cI cZ cJ : ClassId) (hm ml mw mb ms mn : Nat) (er : Int32) (ln wh bi si : Nat → Int32) (nu : Nat → Int64) (ns : Nat → Nat) (its wss : Nat → Nat → Nat) (sbs : Nat → Nat → Bool) (hM : mR ns its wss sbs ln wh bi si) (x y : Int32) : Met l yM_isThere wM_isThere { frames := 2, cells := 0, slots := 0, locals := 45 } (ro_Pc (dC, dI) cls3 [(hm, .inr (2, [.int er, .ref ml, .ref mw, .ref mb, .ref ms, .ref mn])), (ml, .inl (cI, 8, .inl ln)), (mw, .inl (cI, 512, .inl wh)), (mb, .inl (cI, 48, .inl bi)), (ms, .inl (cZ, 48, .inl si)), (mn, .inl (cJ, 6, .inr (.inl nu)))] [(cI, .int), (cZ, .boolean), (cJ, .long)] [.ref hm, .int x, .int y]) (vp_Si (fun r => r = nI (thr wss x y).toNat)) 0 0 (fun _ => False) := by
  refine Met.ofW (cc := cM_isThere) (maxL := 3) (ret := (some .boolean)) (by decide) rfl ?_
  intro p e s m args below meth c s₁ B hml hv
  obtain ⟨rfl, hP, hK⟩ := hv
  have hx := B.exec
  have hb := B.bytes
  have hr := B.returns
  have hts := atoms_spec (ws := wM_isThere) B.pre
  have hw : ∀ w ∈ wA, w.before _ s = true := fun w h => hts w (List.mem_cons_of_mem _ h)
  have hown : s.vm.findClass RM = some m.cls := findClass_of_methodNamed B.named
  have hlocks := B.notSynchronized
  have hl := lv_entry ([.ref hm, .int x, .int y]) (n := 3) (Nat.le_of_ble_eq_true rfl)
  rw [lg_entry_eq]
  generalize (lg_sl ([.ref hm, .int x, .int y]) ++ List.replicate (3 - (lg_sl ([.ref hm, .int x, .int y])).length) Slot.unset).toArray = ls at hl ⊢
  have hl : lv_has ls 3 [(0, .ref hm), (1, .int x), (2, .int y)] := hl
  refine lv_iload_n hx hb dM_isThere_0 rfl (lv_at hl 1 rfl) ?_
  refine vp_callSi (W.runS (As := [.int x]) (rest := []) ⟨hx, hb, hml, hown, hw⟩ (c_M_isForm l x) (cwS 1 hw (gS kw_413 kw_414 kw_16 kw_415) rfl rfl rfl (by decide +kernel) ⟨Nat.le_of_ble_eq_true rfl, Nat.le_of_ble_eq_true rfl⟩) preEq rfl rfl hl.1 rfl (lv_room (Nat.le_of_ble_eq_true rfl)) dM_isThere_1 ⟨Nat.zero_le _, Nat.zero_le _⟩) (fun v1 e1 => ?_)
  obtain rfl : v1 = nI (isF x).toNat := e1
  refine lv_if_eq (tgt := 32) hx hb dM_isThere_4 (by decide) (fun h4 => ?_) (fun h4 => ?_)
  · rw [b_nat0] at h4
    refine lv_iconst (v := nI 0) hx hb dM_isThere_32 (by decide +kernel) ?_
    exact W.zret (v := nI 0) hx hb hr (by first | exact b_nar _ | decide +kernel) (fun t ht hW => ⟨_, rfl, (by first | exact thr_a h4 | exact thr_b h11 | exact thr_c hf ho h25 | exact thr_d hf ho h25), ht⟩) (fun q h => nomatch h) dM_isThere_33
  · obtain ⟨f, hf, rfl⟩ := isF_of (b_nf h4)
    refine lv_iload_n hx hb dM_isThere_7 rfl (lv_at hl 2 rfl) ?_
    refine vp_callSi (W.runS (As := [.int y]) (rest := []) ⟨hx, hb, hml, hown, hw⟩ (c_M_isOperand l y) (cwS 1 hw (gS kw_428 kw_429 kw_16 kw_430) rfl rfl rfl (by decide +kernel) ⟨Nat.le_of_ble_eq_true rfl, Nat.le_of_ble_eq_true rfl⟩) preEq rfl rfl hl.1 rfl (lv_room (Nat.le_of_ble_eq_true rfl)) dM_isThere_8 ⟨Nat.zero_le _, Nat.zero_le _⟩) (fun v8 e8 => ?_)
    obtain rfl : v8 = nI (isO y).toNat := e8
    refine lv_if_eq (tgt := 32) hx hb dM_isThere_11 (by decide) (fun h11 => ?_) (fun h11 => ?_)
    · rw [b_nat0] at h11
      refine lv_iconst (v := nI 0) hx hb dM_isThere_32 (by decide +kernel) ?_
      exact W.zret (v := nI 0) hx hb hr (by first | exact b_nar _ | decide +kernel) (fun t ht hW => ⟨_, rfl, (by first | exact thr_a h4 | exact thr_b h11 | exact thr_c hf ho h25 | exact thr_d hf ho h25), ht⟩) (fun q h => nomatch h) dM_isThere_33
    · obtain ⟨o, ho, rfl⟩ := isO_of (b_nf h11)
      have hwo := (hM f hf).1.2.1 o ho
      refine lv_aload_n hx hb dM_isThere_14 rfl (lv_at hl 0 rfl) ?_
      refine va_get (D := (dC, dI)) (ci := 2) (v := .ref mb) (C := RM) (T := TM) (N := 6) hx hb hw inM hown hK hP 0 rfl rfl 3 (by decide) (hw _ kw_389) (fun _ h9 => h9) rfl dM_isThere_15 ?_
      refine lv_bipush (v := nI 6) hx hb dM_isThere_18 (by decide +kernel) ?_
      refine lv_iload_n hx hb dM_isThere_20 rfl (lv_at hl 1 rfl) ?_
      refine lv_imul hx hb dM_isThere_21 ?_
      refine lv_topi (fun v21 e21 => ?_)
      obtain rfl : v21 = nI (6 * f) := e21.trans (pk_mul _ _)
      refine lv_iload_n hx hb dM_isThere_22 rfl (lv_at hl 2 rfl) ?_
      refine lv_iadd hx hb dM_isThere_23 ?_
      refine lv_topi (fun v23 e23 => ?_)
      obtain rfl : v23 = nI (6 * f + o) := e23.trans (nI_add _ _)
      refine va_iald hx hb hK hP 3 0 rfl rfl (vp_in_nI (by omega) (by decide)) dM_isThere_24 ?_
      refine lv_topi (fun v24 e24 => ?_)
      rw [nI_clamp (by omega)] at e24
      obtain rfl : v24 = nI (wss f o) := e24.trans ((hM f hf).2.2.1 o (by omega)).1
      refine lv_if_le (tgt := 32) hx hb dM_isThere_25 (by decide) (fun h25 => ?_) (fun h25 => ?_)
      · rw [nI_le0 (by omega)] at h25
        refine lv_iconst (v := nI 0) hx hb dM_isThere_32 (by decide +kernel) ?_
        exact W.zret (v := nI 0) hx hb hr (by first | exact b_nar _ | decide +kernel) (fun t ht hW => ⟨_, rfl, (by first | exact thr_a h4 | exact thr_b h11 | exact thr_c hf ho h25 | exact thr_d hf ho h25), ht⟩) (fun q h => nomatch h) dM_isThere_33
      · rw [nI_le0 (by omega)] at h25
        refine lv_iconst (v := nI 1) hx hb dM_isThere_28 (by decide +kernel) ?_
        refine lv_goto (tgt := 33) hx hb dM_isThere_29 (by decide) ?_
        exact W.zret (v := nI 1) hx hb hr (by first | exact b_nar _ | decide +kernel) (fun t ht hW => ⟨_, rfl, (by first | exact thr_a h4 | exact thr_b h11 | exact thr_c hf ho h25 | exact thr_d hf ho h25), ht⟩) (fun q h => nomatch h) dM_isThere_33

set_option maxHeartbeats 4000000 in
set_option maxRecDepth 100000 in
theorem c_M_many (l : Launch) (dC : Nat → ClassId) (dI : Nat → Nat → Nat) (cI cZ cJ : ClassId) (hm ml mw mb ms mn : Nat) (er : Int32) (ln wh bi si : Nat → Int32) (nu : Nat → Int64) (ns : Nat → Nat) (its wss : Nat → Nat → Nat) (sbs : Nat → Nat → Bool) (hM : mR ns its wss sbs ln wh bi si) (f o : Nat) (hf : f < 8) (ho : o < 6) : Met l yM_many wM_many { frames := 0, cells := 0, slots := 0, locals := 0 } (ro_Pc (dC, dI) cls3 [(hm, .inr (2, [.int er, .ref ml, .ref mw, .ref mb, .ref ms, .ref mn])), (ml, .inl (cI, 8, .inl ln)), (mw, .inl (cI, 512, .inl wh)), (mb, .inl (cI, 48, .inl bi)), (ms, .inl (cZ, 48, .inl si)), (mn, .inl (cJ, 6, .inr (.inl nu)))] [(cI, .int), (cZ, .boolean), (cJ, .long)] [.ref hm, .int (nI f), .int (nI o)]) (vp_Si (fun r => r = nI (wss f o))) 0 0 (fun _ => False) := by
  refine Met.ofW (cc := cM_many) (maxL := 3) (ret := (some .int)) (by decide) rfl ?_
  intro p e s m args below meth c s₁ B hml hv
  obtain ⟨rfl, hP, hK⟩ := hv
  have hx := B.exec
  have hb := B.bytes
  have hr := B.returns
  have hts := atoms_spec (ws := wM_many) B.pre
  have hw : ∀ w ∈ wA, w.before _ s = true := fun w h => hts w (List.mem_cons_of_mem _ h)
  have hown : s.vm.findClass RM = some m.cls := findClass_of_methodNamed B.named
  have hlocks := B.notSynchronized
  have hl := lv_entry ([.ref hm, .int (nI f), .int (nI o)]) (n := 3) (Nat.le_of_ble_eq_true rfl)
  rw [lg_entry_eq]
  generalize (lg_sl ([.ref hm, .int (nI f), .int (nI o)]) ++ List.replicate (3 - (lg_sl ([.ref hm, .int (nI f), .int (nI o)])).length) Slot.unset).toArray = ls at hl ⊢
  have hl : lv_has ls 3 [(0, .ref hm), (1, .int (nI f)), (2, .int (nI o))] := hl
  refine lv_aload_n hx hb dM_many_0 rfl (lv_at hl 0 rfl) ?_
  refine va_get (D := (dC, dI)) (ci := 2) (v := .ref mb) (C := RM) (T := TM) (N := 6) hx hb hw inM hown hK hP 0 rfl rfl 3 (by decide) (hw _ kw_389) (fun _ h9 => h9) rfl dM_many_1 ?_
  refine lv_bipush (v := nI 6) hx hb dM_many_4 (by decide +kernel) ?_
  refine lv_iload_n hx hb dM_many_6 rfl (lv_at hl 1 rfl) ?_
  refine lv_imul hx hb dM_many_7 ?_
  refine lv_topi (fun v7 e7 => ?_)
  obtain rfl : v7 = nI (6 * f) := e7.trans (pk_mul _ _)
  refine lv_iload_n hx hb dM_many_8 rfl (lv_at hl 2 rfl) ?_
  refine lv_iadd hx hb dM_many_9 ?_
  refine lv_topi (fun v9 e9 => ?_)
  obtain rfl : v9 = nI (6 * f + o) := e9.trans (nI_add _ _)
  refine va_iald hx hb hK hP 3 0 rfl rfl (vp_in_nI (by omega) (by decide)) dM_many_10 ?_
  refine lv_topi (fun v10 e10 => ?_)
  rw [nI_clamp (by omega)] at e10
  obtain rfl : v10 = nI (wss f o) := e10.trans ((hM f hf).2.2.1 o (by omega)).1
  exact W.iret (v := nI (wss f o)) hx hb hr (fun t ht hW => ⟨_, rfl, (rfl), ht⟩) (fun q h => nomatch h) dM_many_11

set_option maxHeartbeats 4000000 in
set_option maxRecDepth 100000 in
theorem c_M_place (l : Launch) (dC : Nat → ClassId) (dI : Nat → Nat → Nat) (cI cZ cJ : ClassId) (hm ml mw mb ms mn : Nat) (er : Int32) (ln wh bi si : Nat → Int32) (nu : Nat → Int64) (ns : Nat → Nat) (its wss : Nat → Nat → Nat) (sbs : Nat → Nat → Bool) (hM : mR ns its wss sbs ln wh bi si) (f o k : Nat) (hf : f < 8) (ho : o < 6) (hk : k < 64) : Met l yM_place wM_place { frames := 0, cells := 0, slots := 0, locals := 0 } (ro_Pc (dC, dI) cls3 [(hm, .inr (2, [.int er, .ref ml, .ref mw, .ref mb, .ref ms, .ref mn])), (ml, .inl (cI, 8, .inl ln)), (mw, .inl (cI, 512, .inl wh)), (mb, .inl (cI, 48, .inl bi)), (ms, .inl (cZ, 48, .inl si)), (mn, .inl (cJ, 6, .inr (.inl nu)))] [(cI, .int), (cZ, .boolean), (cJ, .long)] [.ref hm, .int (nI f), .int (nI o), .int (nI k)]) (vp_Si (fun r => plR (its f) (ns f) (2 + 64 * o + k) r)) 0 0 (fun _ => False) := by
  refine Met.ofW (cc := cM_place) (maxL := 5) (ret := (some .int)) (by decide) rfl ?_
  intro p e s m args below meth c s₁ B hml hv
  obtain ⟨rfl, hP, hK⟩ := hv
  have hx := B.exec
  have hb := B.bytes
  have hr := B.returns
  have hts := atoms_spec (ws := wM_place) B.pre
  have hw : ∀ w ∈ wA, w.before _ s = true := fun w h => hts w (List.mem_cons_of_mem _ h)
  have hown : s.vm.findClass RM = some m.cls := findClass_of_methodNamed B.named
  have hlocks := B.notSynchronized
  have hl := lv_entry ([.ref hm, .int (nI f), .int (nI o), .int (nI k)]) (n := 5) (Nat.le_of_ble_eq_true rfl)
  rw [lg_entry_eq]
  generalize (lg_sl ([.ref hm, .int (nI f), .int (nI o), .int (nI k)]) ++ List.replicate (5 - (lg_sl ([.ref hm, .int (nI f), .int (nI o), .int (nI k)])).length) Slot.unset).toArray = ls at hl ⊢
  have hl : lv_has ls 5 [(0, .ref hm), (1, .int (nI f)), (2, .int (nI o)), (3, .int (nI k))] := hl
  have hok := (hM f hf).1
  have hn := hok.1
  have hw64 := hok.2.1
  have hit := cw_it hok
  refine lv_iconst (v := nI 0) hx hb dM_place_0 (by decide +kernel) ?_
  refine lv_istore hx hb dM_place_1 hl (by decide) rfl (fun ls hl => ?_)
  have hl : lv_has ls 5 [(4, .int (nI 0)), (0, .ref hm), (1, .int (nI f)), (2, .int (nI o)), (3, .int (nI k))] := hl
  refine (?_ : ∀ (kk : Nat) (j : Nat) (ls : Array Slot), kk = ns f - j → lv_has ls 5 [(4, .int (nI j)), (0, .ref hm), (1, .int (nI f)), (2, .int (nI o)), (3, .int (nI k))] → (j ≤ ns f) → (∀ i, i < j → its f i ≠ 2 + 64 * o + k) → W p l e _ s m _ below meth c _ _ _ _ _ (F0 m 3 ls [])) _ 0 ls rfl (lv_sub hl [0, 1, 2, 3, 4] rfl) (by omega) (fun i hi => by omega)
  intro kk
  induction kk using Nat.strongRecOn with
  | ind kk3 ih3 =>
    intro j ls hkk3 hl hj hq
    refine lv_iload hx hb dM_place_3 (lv_at hl 0 rfl) ?_
    refine lv_aload_n hx hb dM_place_5 rfl (lv_at hl 1 rfl) ?_
    refine va_get (D := (dC, dI)) (ci := 2) (v := .ref ml) (C := RM) (T := TM) (N := 6) hx hb hw inM hown hK hP 0 rfl rfl 1 (by decide) (hw _ kw_387) (fun _ h9 => h9) rfl dM_place_6 ?_
    refine lv_iload_n hx hb dM_place_9 rfl (lv_at hl 2 rfl) ?_
    refine va_iald hx hb hK hP 1 0 rfl rfl (vp_in_nI (by omega) (by decide)) dM_place_10 ?_
    refine lv_topi (fun v10 e10 => ?_)
    rw [nI_clamp (by omega)] at e10
    obtain rfl : v10 = nI (ns f) := e10.trans (hM f hf).2.1
    refine lv_icmp_ge (tgt := 46) hx hb dM_place_11 (by decide) (fun h11 => ?_) (fun h11 => ?_)
    · rw [nI_leI (by omega) (by omega)] at h11
      refine lv_iconst (v := (-1)) hx hb dM_place_46 (by decide +kernel) ?_
      exact W.iret (v := (-1)) hx hb hr (fun t ht hW => ⟨_, rfl, (by first | exact Or.inl ⟨j, by omega, h34, rfl⟩ | exact Or.inr ⟨fun i hi => hq i (by omega), rfl⟩), ht⟩) (fun q h => nomatch h) dM_place_47
    · rw [nI_leI (by omega) (by omega)] at h11
      refine lv_aload_n hx hb dM_place_14 rfl (lv_at hl 1 rfl) ?_
      refine va_get (D := (dC, dI)) (ci := 2) (v := .ref mw) (C := RM) (T := TM) (N := 6) hx hb hw inM hown hK hP 0 rfl rfl 2 (by decide) (hw _ kw_388) (fun _ h9 => h9) rfl dM_place_15 ?_
      refine lv_bipush (v := nI 64) hx hb dM_place_18 (by decide +kernel) ?_
      refine lv_iload_n hx hb dM_place_20 rfl (lv_at hl 2 rfl) ?_
      refine lv_imul hx hb dM_place_21 ?_
      refine lv_topi (fun v21 e21 => ?_)
      obtain rfl : v21 = nI (64 * f) := e21.trans (pk_mul _ _)
      refine lv_iload hx hb dM_place_22 (lv_at hl 0 rfl) ?_
      refine lv_iadd hx hb dM_place_24 ?_
      refine lv_topi (fun v24 e24 => ?_)
      obtain rfl : v24 = nI (64 * f + j) := e24.trans (nI_add _ _)
      refine va_iald hx hb hK hP 2 0 rfl rfl (vp_in_nI (by omega) (by decide)) dM_place_25 ?_
      refine lv_topi (fun v25 e25 => ?_)
      rw [nI_clamp (by omega)] at e25
      obtain rfl : v25 = nI (its f j) := e25.trans ((hM f hf).2.2.2 j (by omega))
      refine lv_iconst (v := nI 2) hx hb dM_place_26 (by decide +kernel) ?_
      refine lv_bipush (v := nI 64) hx hb dM_place_27 (by decide +kernel) ?_
      refine lv_iload_n hx hb dM_place_29 rfl (lv_at hl 3 rfl) ?_
      refine lv_imul hx hb dM_place_30 ?_
      refine lv_topi (fun v30 e30 => ?_)
      obtain rfl : v30 = nI (64 * o) := e30.trans (pk_mul _ _)
      refine lv_iadd hx hb dM_place_31 ?_
      refine lv_topi (fun v31 e31 => ?_)
      obtain rfl : v31 = nI (2 + 64 * o) := e31.trans (nI_add _ _)
      refine lv_iload_n hx hb dM_place_32 rfl (lv_at hl 4 rfl) ?_
      refine lv_iadd hx hb dM_place_33 ?_
      refine lv_topi (fun v33 e33 => ?_)
      obtain rfl : v33 = nI (2 + 64 * o + k) := e33.trans (nI_add _ _)
      refine lv_icmp_ne (tgt := 40) hx hb dM_place_34 (by decide) (fun h34 => ?_) (fun h34 => ?_)
      · have hij := hit j (by omega)
        rw [nI_eq (by omega) (by omega)] at h34
        refine lv_iinc (k := 0) (v := nI (j + 1)) hx hb dM_place_40 hl rfl (cw_inc _) (by decide) rfl (fun ls hl => ?_)
        have hl : lv_has ls 5 [(4, .int (nI (j + 1))), (0, .ref hm), (1, .int (nI f)), (2, .int (nI o)), (3, .int (nI k))] := hl
        refine lv_goto (tgt := 3) hx hb dM_place_43 (by decide) ?_
        exact ih3 _ (by omega) (j + 1) ls rfl (lv_sub (l' := [(4, .int (nI (j + 1))), (0, .ref hm), (1, .int (nI f)), (2, .int (nI o)), (3, .int (nI k))]) hl [0, 1, 2, 3, 4] rfl) (by omega) (lt_s hq h34)
      · have hij := hit j (by omega)
        rw [nI_eq (by omega) (by omega)] at h34
        refine lv_iload hx hb dM_place_37 (lv_at hl 0 rfl) ?_
        exact W.iret (v := nI j) hx hb hr (fun t ht hW => ⟨_, rfl, (by first | exact Or.inl ⟨j, by omega, h34, rfl⟩ | exact Or.inr ⟨fun i hi => hq i (by omega), rfl⟩), ht⟩) (fun q h => nomatch h) dM_place_39

set_option maxHeartbeats 4000000 in
set_option maxRecDepth 100000 in
theorem c_M_at (l : Launch) (dC : Nat → ClassId) (dI : Nat → Nat → Nat) (cI cZ cJ : ClassId) (hm ml mw mb ms mn : Nat) (er : Int32) (ln wh bi si : Nat → Int32) (nu : Nat → Int64) (ns : Nat → Nat) (its wss : Nat → Nat → Nat) (sbs : Nat → Nat → Bool) (hM : mR ns its wss sbs ln wh bi si) (f j : Nat) (hf : f < 8) (hj : j < ns f) : Met l yM_at wM_at { frames := 0, cells := 0, slots := 0, locals := 0 } (ro_Pc (dC, dI) cls3 [(hm, .inr (2, [.int er, .ref ml, .ref mw, .ref mb, .ref ms, .ref mn])), (ml, .inl (cI, 8, .inl ln)), (mw, .inl (cI, 512, .inl wh)), (mb, .inl (cI, 48, .inl bi)), (ms, .inl (cZ, 48, .inl si)), (mn, .inl (cJ, 6, .inr (.inl nu)))] [(cI, .int), (cZ, .boolean), (cJ, .long)] [.ref hm, .int (nI f), .int (nI j)]) (vp_Si (fun r => r = nI (its f (ns f - 1 - j)))) 0 0 (fun _ => False) := by
  refine Met.ofW (cc := cM_at) (maxL := 3) (ret := (some .int)) (by decide) rfl ?_
  intro p e s m args below meth c s₁ B hml hv
  obtain ⟨rfl, hP, hK⟩ := hv
  have hx := B.exec
  have hb := B.bytes
  have hr := B.returns
  have hts := atoms_spec (ws := wM_at) B.pre
  have hw : ∀ w ∈ wA, w.before _ s = true := fun w h => hts w (List.mem_cons_of_mem _ h)
  have hown : s.vm.findClass RM = some m.cls := findClass_of_methodNamed B.named
  have hlocks := B.notSynchronized
  have hl := lv_entry ([.ref hm, .int (nI f), .int (nI j)]) (n := 3) (Nat.le_of_ble_eq_true rfl)
  rw [lg_entry_eq]
  generalize (lg_sl ([.ref hm, .int (nI f), .int (nI j)]) ++ List.replicate (3 - (lg_sl ([.ref hm, .int (nI f), .int (nI j)])).length) Slot.unset).toArray = ls at hl ⊢
  have hl : lv_has ls 3 [(0, .ref hm), (1, .int (nI f)), (2, .int (nI j))] := hl
  have hok := (hM f hf).1
  have hn := hok.1
  have hw64 := hok.2.1
  have hit := cw_it hok
  refine lv_aload_n hx hb dM_at_0 rfl (lv_at hl 0 rfl) ?_
  refine va_get (D := (dC, dI)) (ci := 2) (v := .ref mw) (C := RM) (T := TM) (N := 6) hx hb hw inM hown hK hP 0 rfl rfl 2 (by decide) (hw _ kw_388) (fun _ h9 => h9) rfl dM_at_1 ?_
  refine lv_bipush (v := nI 64) hx hb dM_at_4 (by decide +kernel) ?_
  refine lv_iload_n hx hb dM_at_6 rfl (lv_at hl 1 rfl) ?_
  refine lv_imul hx hb dM_at_7 ?_
  refine lv_topi (fun v7 e7 => ?_)
  obtain rfl : v7 = nI (64 * f) := e7.trans (pk_mul _ _)
  refine lv_aload_n hx hb dM_at_8 rfl (lv_at hl 0 rfl) ?_
  refine va_get (D := (dC, dI)) (ci := 2) (v := .ref ml) (C := RM) (T := TM) (N := 6) hx hb hw inM hown hK hP 0 rfl rfl 1 (by decide) (hw _ kw_387) (fun _ h9 => h9) rfl dM_at_9 ?_
  refine lv_iload_n hx hb dM_at_12 rfl (lv_at hl 1 rfl) ?_
  refine va_iald hx hb hK hP 1 0 rfl rfl (vp_in_nI (by omega) (by decide)) dM_at_13 ?_
  refine lv_topi (fun v13 e13 => ?_)
  rw [nI_clamp (by omega)] at e13
  obtain rfl : v13 = nI (ns f) := e13.trans (hM f hf).2.1
  refine lv_iadd hx hb dM_at_14 ?_
  refine lv_topi (fun v14 e14 => ?_)
  obtain rfl : v14 = nI (64 * f + ns f) := e14.trans (nI_add _ _)
  refine lv_iconst (v := nI 1) hx hb dM_at_15 (by decide +kernel) ?_
  refine lv_isub hx hb dM_at_16 ?_
  refine lv_topi (fun v16 e16 => ?_)
  obtain rfl : v16 = nI (64 * f + ns f - 1) := e16.trans (pk_sub (by omega))
  refine lv_iload_n hx hb dM_at_17 rfl (lv_at hl 2 rfl) ?_
  refine lv_isub hx hb dM_at_18 ?_
  refine lv_topi (fun v18 e18 => ?_)
  obtain rfl : v18 = nI (64 * f + ns f - 1 - j) := e18.trans (pk_sub (by omega))
  refine va_iald hx hb hK hP 2 0 rfl rfl (vp_in_nI (by omega) (by decide)) dM_at_19 ?_
  refine lv_topi (fun v19 e19 => ?_)
  rw [nI_clamp (by omega)] at e19
  obtain rfl : v19 = nI (its f (ns f - 1 - j)) := (e19.trans (congrArg wh (show 64 * f + ns f - 1 - j = 64 * f + (ns f - 1 - j) by omega))).trans ((hM f hf).2.2.2 (ns f - 1 - j) (by omega))
  exact W.iret (v := nI (its f (ns f - 1 - j))) hx hb hr (fun t ht hW => ⟨_, rfl, (rfl), ht⟩) (fun q h => nomatch h) dM_at_20

set_option maxHeartbeats 4000000 in
set_option maxRecDepth 100000 in
theorem c_M_left (l : Launch) (dC : Nat → ClassId) (dI : Nat → Nat → Nat) (cI cZ cJ : ClassId) (hm ml mw mb ms mn : Nat) (er : Int32) (ln wh bi si : Nat → Int32) (nu : Nat → Int64) (ns : Nat → Nat) (its wss : Nat → Nat → Nat) (sbs : Nat → Nat → Bool) (hM : mR ns its wss sbs ln wh bi si) (f : Nat) (hf : f < 8) : Met l yM_left wM_left { frames := 1, cells := 0, slots := 0, locals := 24 } (ro_Pc (dC, dI) cls3 [(hm, .inr (2, [.int er, .ref ml, .ref mw, .ref mb, .ref ms, .ref mn])), (ml, .inl (cI, 8, .inl ln)), (mw, .inl (cI, 512, .inl wh)), (mb, .inl (cI, 48, .inl bi)), (ms, .inl (cZ, 48, .inl si)), (mn, .inl (cJ, 6, .inr (.inl nu)))] [(cI, .int), (cZ, .boolean), (cJ, .long)] [.ref hm, .int (nI f)]) (vp_Si (fun r => r = nI (cw_lft (its f) (ns f) (wss f) 6))) 0 0 (fun _ => False) := by
  refine Met.ofW (cc := cM_left) (maxL := 5) (ret := (some .int)) (by decide) rfl ?_
  intro p e s m args below meth c s₁ B hml hv
  obtain ⟨rfl, hP, hK⟩ := hv
  have hx := B.exec
  have hb := B.bytes
  have hr := B.returns
  have hts := atoms_spec (ws := wM_left) B.pre
  have hw : ∀ w ∈ wA, w.before _ s = true := fun w h => hts w (List.mem_cons_of_mem _ h)
  have hown : s.vm.findClass RM = some m.cls := findClass_of_methodNamed B.named
  have hlocks := B.notSynchronized
  have hl := lv_entry ([.ref hm, .int (nI f)]) (n := 5) (Nat.le_of_ble_eq_true rfl)
  rw [lg_entry_eq]
  generalize (lg_sl ([.ref hm, .int (nI f)]) ++ List.replicate (5 - (lg_sl ([.ref hm, .int (nI f)])).length) Slot.unset).toArray = ls at hl ⊢
  have hl : lv_has ls 5 [(0, .ref hm), (1, .int (nI f))] := hl
  have hok := (hM f hf).1
  have hn := hok.1
  have hw64 := hok.2.1
  have hit := cw_it hok
  refine lv_iconst (v := nI 0) hx hb dM_left_0 (by decide +kernel) ?_
  refine lv_istore_n hx hb dM_left_1 rfl hl (by decide) rfl (fun ls hl => ?_)
  have hl : lv_has ls 5 [(2, .int (nI 0)), (0, .ref hm), (1, .int (nI f))] := hl
  refine lv_iconst (v := nI 0) hx hb dM_left_2 (by decide +kernel) ?_
  refine lv_istore_n hx hb dM_left_3 rfl hl (by decide) rfl (fun ls hl => ?_)
  have hl : lv_has ls 5 [(3, .int (nI 0)), (2, .int (nI 0)), (0, .ref hm), (1, .int (nI f))] := hl
  refine (?_ : ∀ (kk : Nat) (o : Nat) (ls : Array Slot), kk = 6 - o → lv_has ls 5 [(3, .int (nI o)), (2, .int (nI (cw_lft (its f) (ns f) (wss f) o))), (0, .ref hm), (1, .int (nI f))] → (o ≤ 6) → W p l e _ s m _ below meth c _ _ _ _ _ (F0 m 4 ls [])) _ 0 ls rfl (lv_sub hl [0, 1, 2, 3] rfl) (by omega)
  intro kk
  induction kk using Nat.strongRecOn with
  | ind kk4 ih4 =>
    intro o ls hkk4 hl ho
    refine lv_iload_n hx hb dM_left_4 rfl (lv_at hl 0 rfl) ?_
    refine lv_bipush (v := nI 6) hx hb dM_left_5 (by decide +kernel) ?_
    refine lv_icmp_ge (tgt := 50) hx hb dM_left_7 (by decide) (fun h7 => ?_) (fun h7 => ?_)
    · rw [nI_leI (by omega) (by omega)] at h7
      refine lv_iload_n hx hb dM_left_50 rfl (lv_at hl 1 rfl) ?_
      exact W.iret (v := nI (cw_lft (its f) (ns f) (wss f) o)) hx hb hr (fun t ht hW => ⟨_, rfl, (by rw [show o = 6 by omega]), ht⟩) (fun q h => nomatch h) dM_left_51
    · rw [nI_leI (by omega) (by omega)] at h7
      have hwo := hw64 o (by omega)
      refine lv_iconst (v := nI 0) hx hb dM_left_10 (by decide +kernel) ?_
      refine lv_istore hx hb dM_left_11 hl (by decide) rfl (fun ls hl => ?_)
      have hl : lv_has ls 5 [(4, .int (nI 0)), (3, .int (nI o)), (2, .int (nI (cw_lft (its f) (ns f) (wss f) o))), (0, .ref hm), (1, .int (nI f))] := hl
      refine (?_ : ∀ (kk : Nat) (k : Nat) (ls : Array Slot), kk = wss f o - k → lv_has ls 5 [(4, .int (nI k)), (3, .int (nI o)), (2, .int (nI (cw_lft (its f) (ns f) (wss f) o + cw_lft1 (its f) (ns f) o k))), (0, .ref hm), (1, .int (nI f))] → (k ≤ wss f o) → W p l e _ s m _ below meth c _ _ _ _ _ (F0 m 13 ls [])) _ 0 ls rfl (lv_sub hl [0, 1, 2, 3, 4] rfl) (by omega)
      intro kk
      induction kk using Nat.strongRecOn with
      | ind kk13 ih13 =>
        intro k ls hkk13 hl hk
        refine lv_iload hx hb dM_left_13 (lv_at hl 0 rfl) ?_
        refine lv_aload_n hx hb dM_left_15 rfl (lv_at hl 3 rfl) ?_
        refine lv_iload_n hx hb dM_left_16 rfl (lv_at hl 4 rfl) ?_
        refine lv_iload_n hx hb dM_left_17 rfl (lv_at hl 1 rfl) ?_
        refine vp_callSi (W.runV (As := [.int (nI f), .int (nI o)]) (rest := [.int (nI k)]) ⟨hx, hb, hml, hown, hw⟩ (c_M_many l dC dI cI cZ cJ hm ml mw mb ms mn er ln wh bi si nu ns its wss sbs hM f o hf (by omega)) (cwV 2 hw (gV kw_433 kw_435 kw_6 kw_16 kw_436) rfl rfl rfl (by decide +kernel) ⟨Nat.le_of_ble_eq_true rfl, Nat.le_of_ble_eq_true rfl⟩) (ro_preV (q0 := 0) hK hP rfl rfl) rfl rfl hl.1 rfl (lv_room (Nat.le_of_ble_eq_true rfl)) dM_left_18 ⟨Nat.zero_le _, Nat.zero_le _⟩) (fun v18 e18 => ?_)
        obtain rfl : v18 = nI (wss f o) := e18
        refine lv_icmp_ge (tgt := 44) hx hb dM_left_21 (by decide) (fun h21 => ?_) (fun h21 => ?_)
        · rw [nI_leI (by omega) (by omega)] at h21
          refine lv_iinc (k := 1) (v := nI (o + 1)) hx hb dM_left_44 hl rfl (cw_inc _) (by decide) rfl (fun ls hl => ?_)
          have hl : lv_has ls 5 [(3, .int (nI (o + 1))), (4, .int (nI k)), (2, .int (nI (cw_lft (its f) (ns f) (wss f) o + cw_lft1 (its f) (ns f) o k))), (0, .ref hm), (1, .int (nI f))] := hl
          refine lv_goto (tgt := 4) hx hb dM_left_47 (by decide) ?_
          exact ih4 _ (by omega) (o + 1) ls rfl (cw_lvx (lv_sub (l' := [(3, .int (nI (o + 1))), (2, .int (nI (cw_lft (its f) (ns f) (wss f) o + cw_lft1 (its f) (ns f) o k))), (0, .ref hm), (1, .int (nI f))]) hl [0, 2, 3, 4] rfl) (by rw [show k = wss f o by omega]; rfl)) (by omega)
        · rw [nI_leI (by omega) (by omega)] at h21
          refine lv_aload_n hx hb dM_left_24 rfl (lv_at hl 3 rfl) ?_
          refine lv_iload_n hx hb dM_left_25 rfl (lv_at hl 4 rfl) ?_
          refine lv_iload_n hx hb dM_left_26 rfl (lv_at hl 1 rfl) ?_
          refine lv_iload hx hb dM_left_27 (lv_at hl 0 rfl) ?_
          refine vp_callSi (W.runV (As := [.int (nI f), .int (nI o), .int (nI k)]) (rest := []) ⟨hx, hb, hml, hown, hw⟩ (c_M_place l dC dI cI cZ cJ hm ml mw mb ms mn er ln wh bi si nu ns its wss sbs hM f o k hf (by omega) (by omega)) (cwV 3 hw (gV kw_452 kw_454 kw_8 kw_16 kw_455) rfl rfl rfl (by decide +kernel) ⟨Nat.le_of_ble_eq_true rfl, Nat.le_of_ble_eq_true rfl⟩) (ro_preV (q0 := 0) hK hP rfl rfl) rfl rfl hl.1 rfl (lv_room (Nat.le_of_ble_eq_true rfl)) dM_left_29 ⟨Nat.zero_le _, Nat.zero_le _⟩) (fun v29 e29 => ?_)
          refine lv_if_ge (tgt := 38) hx hb dM_left_32 (by decide) (fun h32 => ?_) (fun h32 => ?_)
          · refine lv_iinc (k := 0) (v := nI (k + 1)) hx hb dM_left_38 hl rfl (cw_inc _) (by decide) rfl (fun ls hl => ?_)
            have hl : lv_has ls 5 [(4, .int (nI (k + 1))), (3, .int (nI o)), (2, .int (nI (cw_lft (its f) (ns f) (wss f) o + cw_lft1 (its f) (ns f) o k))), (0, .ref hm), (1, .int (nI f))] := hl
            refine lv_goto (tgt := 13) hx hb dM_left_41 (by decide) ?_
            exact ih13 _ (by omega) (k + 1) ls rfl (cw_lvx (lv_sub (l' := [(4, .int (nI (k + 1))), (3, .int (nI o)), (2, .int (nI (cw_lft (its f) (ns f) (wss f) o + cw_lft1 (its f) (ns f) o k))), (0, .ref hm), (1, .int (nI f))]) hl [0, 1, 2, 3, 4] rfl) (by simp only [cw_lft1]; first | (rw [if_pos ((plR_ge hn e29).mp h32)]; rfl) | (rw [if_neg (fun q => h32 ((plR_ge hn e29).mpr q))]; rfl))) (by omega)
          · refine lv_iinc (k := 2) (v := nI ((cw_lft (its f) (ns f) (wss f) o + cw_lft1 (its f) (ns f) o k) + 1)) hx hb dM_left_35 hl rfl (cw_inc _) (by decide) rfl (fun ls hl => ?_)
            have hl : lv_has ls 5 [(2, .int (nI ((cw_lft (its f) (ns f) (wss f) o + cw_lft1 (its f) (ns f) o k) + 1))), (4, .int (nI k)), (3, .int (nI o)), (0, .ref hm), (1, .int (nI f))] := hl
            refine lv_iinc (k := 1) (v := nI (k + 1)) hx hb dM_left_38 hl rfl (cw_inc _) (by decide) rfl (fun ls hl => ?_)
            have hl : lv_has ls 5 [(4, .int (nI (k + 1))), (2, .int (nI ((cw_lft (its f) (ns f) (wss f) o + cw_lft1 (its f) (ns f) o k) + 1))), (3, .int (nI o)), (0, .ref hm), (1, .int (nI f))] := hl
            refine lv_goto (tgt := 13) hx hb dM_left_41 (by decide) ?_
            exact ih13 _ (by omega) (k + 1) ls rfl (cw_lvx (lv_sub (l' := [(4, .int (nI (k + 1))), (3, .int (nI o)), (2, .int (nI ((cw_lft (its f) (ns f) (wss f) o + cw_lft1 (its f) (ns f) o k) + 1))), (0, .ref hm), (1, .int (nI f))]) hl [0, 2, 1, 3, 4] rfl) (by simp only [cw_lft1]; first | (rw [if_pos ((plR_ge hn e29).mp h32)]; rfl) | (rw [if_neg (fun q => h32 ((plR_ge hn e29).mpr q))]; rfl))) (by omega)

set_option maxHeartbeats 4000000 in
set_option maxRecDepth 100000 in
theorem c_M_holds (l : Launch) (dC : Nat → ClassId) (dI : Nat → Nat → Nat) (cI cZ cJ : ClassId) (hm ml mw mb ms mn : Nat) (er : Int32) (ln wh bi si : Nat → Int32) (nu : Nat → Int64) (ns : Nat → Nat) (its wss : Nat → Nat → Nat) (sbs : Nat → Nat → Bool) (hM : mR ns its wss sbs ln wh bi si) (f o : Nat) (v : Int64) (hf : f < 8) (ho : o < 6) (hw1 : 0 < wss f o) : Met l yM_holds wM_holds { frames := 1, cells := 0, slots := 0, locals := 22 } (ro_Pc (dC, dI) cls3 [(hm, .inr (2, [.int er, .ref ml, .ref mw, .ref mb, .ref ms, .ref mn])), (ml, .inl (cI, 8, .inl ln)), (mw, .inl (cI, 512, .inl wh)), (mb, .inl (cI, 48, .inl bi)), (ms, .inl (cZ, 48, .inl si)), (mn, .inl (cJ, 6, .inr (.inl nu)))] [(cI, .int), (cZ, .boolean), (cJ, .long)] [.ref hm, .int (nI f), .int (nI o), .long v]) (vp_Si (fun r => r = nI (fitB (wss f o) (sbs f o) v).toNat)) 0 0 (fun _ => False) := by
  refine Met.ofW (cc := cM_holds) (maxL := 9) (ret := (some .boolean)) (by decide) rfl ?_
  intro p e s m args below meth c s₁ B hml hv
  obtain ⟨rfl, hP, hK⟩ := hv
  have hx := B.exec
  have hb := B.bytes
  have hr := B.returns
  have hts := atoms_spec (ws := wM_holds) B.pre
  have hw : ∀ w ∈ wA, w.before _ s = true := fun w h => hts w (List.mem_cons_of_mem _ h)
  have hown : s.vm.findClass RM = some m.cls := findClass_of_methodNamed B.named
  have hlocks := B.notSynchronized
  have hl := lv_entry ([.ref hm, .int (nI f), .int (nI o), .long v]) (n := 9) (Nat.le_of_ble_eq_true rfl)
  rw [lg_entry_eq]
  generalize (lg_sl ([.ref hm, .int (nI f), .int (nI o), .long v]) ++ List.replicate (9 - (lg_sl ([.ref hm, .int (nI f), .int (nI o), .long v])).length) Slot.unset).toArray = ls at hl ⊢
  have hl : lv_has ls 9 [(0, .ref hm), (1, .int (nI f)), (2, .int (nI o)), (3, .long v)] := hl
  have hok := (hM f hf).1
  have hn := hok.1
  have hw64 := hok.2.1
  have hit := cw_it hok
  have hwo := hw64 o ho
  have hb2 := bq_lt v (wss f o - 1)
  refine lv_aload_n hx hb dM_holds_0 rfl (lv_at hl 0 rfl) ?_
  refine lv_iload_n hx hb dM_holds_1 rfl (lv_at hl 1 rfl) ?_
  refine lv_iload_n hx hb dM_holds_2 rfl (lv_at hl 2 rfl) ?_
  refine vp_callSi (W.runV (As := [.int (nI f), .int (nI o)]) (rest := []) ⟨hx, hb, hml, hown, hw⟩ (c_M_many l dC dI cI cZ cJ hm ml mw mb ms mn er ln wh bi si nu ns its wss sbs hM f o hf ho) (cwV 2 hw (gV kw_433 kw_435 kw_6 kw_16 kw_436) rfl rfl rfl (by decide +kernel) ⟨Nat.le_of_ble_eq_true rfl, Nat.le_of_ble_eq_true rfl⟩) (ro_preV (q0 := 0) hK hP rfl rfl) rfl rfl hl.1 rfl (lv_room (Nat.le_of_ble_eq_true rfl)) dM_holds_3 ⟨Nat.zero_le _, Nat.zero_le _⟩) (fun v3 e3 => ?_)
  obtain rfl : v3 = nI (wss f o) := e3
  refine lv_istore hx hb dM_holds_6 hl (by decide) rfl (fun ls hl => ?_)
  have hl : lv_has ls 9 [(5, .int (nI (wss f o))), (0, .ref hm), (1, .int (nI f)), (2, .int (nI o)), (3, .long v)] := hl
  refine lv_iload hx hb dM_holds_8 (lv_at hl 0 rfl) ?_
  refine lv_bipush (v := nI 64) hx hb dM_holds_10 (by decide +kernel) ?_
  refine lv_icmp_ne (tgt := 17) hx hb dM_holds_12 (by decide) (fun h12 => ?_) (fun h12 => ?_)
  · rw [nI_eq (by omega) (by omega)] at h12
    refine lv_aload_n hx hb dM_holds_17 rfl (lv_at hl 1 rfl) ?_
    refine va_get (D := (dC, dI)) (ci := 2) (v := .ref ms) (C := RM) (T := TM) (N := 6) hx hb hw inM hown hK hP 0 rfl rfl 4 (by decide) (hw _ kw_390) (fun _ h9 => h9) rfl dM_holds_18 ?_
    refine lv_bipush (v := nI 6) hx hb dM_holds_21 (by decide +kernel) ?_
    refine lv_iload_n hx hb dM_holds_23 rfl (lv_at hl 2 rfl) ?_
    refine lv_imul hx hb dM_holds_24 ?_
    refine lv_topi (fun v24 e24 => ?_)
    obtain rfl : v24 = nI (6 * f) := e24.trans (pk_mul _ _)
    refine lv_iload_n hx hb dM_holds_25 rfl (lv_at hl 3 rfl) ?_
    refine lv_iadd hx hb dM_holds_26 ?_
    refine lv_topi (fun v26 e26 => ?_)
    obtain rfl : v26 = nI (6 * f + o) := e26.trans (nI_add _ _)
    refine va_zald hx hb hK hP 4 1 rfl rfl (vp_in_nI (by omega) (by decide)) dM_holds_27 ?_
    refine lv_topi (fun v27 e27 => ?_)
    rw [nI_clamp (by omega)] at e27
    obtain rfl : v27 = nI (sbs f o).toNat := e27.trans ((hM f hf).2.2.1 o (by omega)).2
    refine lv_istore hx hb dM_holds_28 hl (by decide) rfl (fun ls hl => ?_)
    have hl : lv_has ls 9 [(6, .int (nI (sbs f o).toNat)), (5, .int (nI (wss f o))), (0, .ref hm), (1, .int (nI f)), (2, .int (nI o)), (3, .long v)] := hl
    refine lv_iload hx hb dM_holds_30 (lv_at hl 0 rfl) ?_
    refine lv_if_eq (tgt := 46) hx hb dM_holds_32 (by decide) (fun h32 => ?_) (fun h32 => ?_)
    · rw [b_nat0] at h32
      refine lv_iconst (v := nI 0) hx hb dM_holds_46 (by decide +kernel) ?_
      refine lv_istore hx hb dM_holds_47 hl (by decide) rfl (fun ls hl => ?_)
      have hl : lv_has ls 9 [(7, .int (nI 0)), (6, .int (nI (sbs f o).toNat)), (5, .int (nI (wss f o))), (0, .ref hm), (1, .int (nI f)), (2, .int (nI o)), (3, .long v)] := hl
      refine lv_iload hx hb dM_holds_49 (lv_at hl 2 rfl) ?_
      refine lv_istore hx hb dM_holds_51 hl (by decide) rfl (fun ls hl => ?_)
      have hl : lv_has ls 9 [(8, .int (nI (wss f o))), (7, .int (nI 0)), (6, .int (nI (sbs f o).toNat)), (5, .int (nI (wss f o))), (0, .ref hm), (1, .int (nI f)), (2, .int (nI o)), (3, .long v)] := hl
      refine (?_ : ∀ (kk : Nat) (k : Nat) (ls : Array Slot), kk = 64 - k → lv_has ls 9 [(8, .int (nI k)), (7, .int (nI 0)), (6, .int (nI (sbs f o).toNat)), (5, .int (nI (wss f o))), (0, .ref hm), (1, .int (nI f)), (2, .int (nI o)), (3, .long v)] → (k ≤ 64) → (wss f o ≤ k) → (∀ q, wss f o ≤ q → q < k → bq v q = if sbs f o = true then bq v (wss f o - 1) else 0) → W p l e _ s m _ below meth c _ _ _ _ _ (F0 m 53 ls [])) _ (wss f o) ls rfl (lv_sub hl [0, 1, 2, 3, 4, 5, 6, 7] rfl) (by omega) (by omega) (fun q _ _ => by omega)
      intro kk
      induction kk using Nat.strongRecOn with
      | ind kk53 ih53 =>
        intro k ls hkk53 hl hk hk0 hq
        refine lv_iload hx hb dM_holds_53 (lv_at hl 0 rfl) ?_
        refine lv_bipush (v := nI 64) hx hb dM_holds_55 (by decide +kernel) ?_
        refine lv_icmp_ge (tgt := 79) hx hb dM_holds_57 (by decide) (fun h57 => ?_) (fun h57 => ?_)
        · rw [nI_leI (by omega) (by omega)] at h57
          refine lv_iconst (v := nI 1) hx hb dM_holds_79 (by decide +kernel) ?_
          exact W.zret (v := nI 1) hx hb hr (by first | exact b_nar _ | decide +kernel) (fun t ht hW => ⟨_, rfl, (by first | (rw [h12, fitB_64]; rfl) | (rw [(fitB_iff _ _ _).mpr (fun q h1 h2 => hq q h1 (by omega))]; rfl) | (rw [b_ff (b := fitB (wss f o) (sbs f o) v) (fun q => h68 (by have := (fitB_iff _ _ _).mp q k (by omega) (by omega); rw [h32] at this; exact this))]; rfl)), ht⟩) (fun q h => nomatch h) dM_holds_80
        · rw [nI_leI (by omega) (by omega)] at h57
          have hb1 := bq_lt v k
          refine lv_lload_n hx hb dM_holds_60 rfl (lv_at hl 7 rfl) ?_
          refine lv_iload hx hb dM_holds_61 (lv_at hl 0 rfl) ?_
          refine vp_callSi (W.runS (As := [.long v, .int (nI k)]) (rest := []) ⟨hx, hb, hml, hown, hw⟩ (c_M_bit l v k (by omega)) (cwS 2 hw (gS kw_441 kw_442 kw_16 kw_443) rfl rfl rfl (by decide +kernel) ⟨Nat.le_of_ble_eq_true rfl, Nat.le_of_ble_eq_true rfl⟩) preEq rfl rfl hl.1 rfl (lv_room (Nat.le_of_ble_eq_true rfl)) dM_holds_63 ⟨Nat.zero_le _, Nat.zero_le _⟩) (fun v63 e63 => ?_)
          obtain rfl : v63 = nI (bq v k) := e63
          refine lv_iload hx hb dM_holds_66 (lv_at hl 1 rfl) ?_
          refine lv_icmp_eq (tgt := 73) hx hb dM_holds_68 (by decide) (fun h68 => ?_) (fun h68 => ?_)
          · rw [nI_eq (by omega) (by omega)] at h68
            refine lv_iinc (k := 0) (v := nI (k + 1)) hx hb dM_holds_73 hl rfl (cw_inc _) (by decide) rfl (fun ls hl => ?_)
            have hl : lv_has ls 9 [(8, .int (nI (k + 1))), (7, .int (nI 0)), (6, .int (nI (sbs f o).toNat)), (5, .int (nI (wss f o))), (0, .ref hm), (1, .int (nI f)), (2, .int (nI o)), (3, .long v)] := hl
            refine lv_goto (tgt := 53) hx hb dM_holds_76 (by decide) ?_
            exact ih53 _ (by omega) (k + 1) ls rfl (lv_sub (l' := [(8, .int (nI (k + 1))), (7, .int (nI 0)), (6, .int (nI (sbs f o).toNat)), (5, .int (nI (wss f o))), (0, .ref hm), (1, .int (nI f)), (2, .int (nI o)), (3, .long v)]) hl [0, 1, 2, 3, 4, 5, 6, 7] rfl) (by omega) (by omega) (cw_ext hq (by rw [h32]; exact h68))
          · rw [nI_eq (by omega) (by omega)] at h68
            refine lv_iconst (v := nI 0) hx hb dM_holds_71 (by decide +kernel) ?_
            exact W.zret (v := nI 0) hx hb hr (by first | exact b_nar _ | decide +kernel) (fun t ht hW => ⟨_, rfl, (by first | (rw [h12, fitB_64]; rfl) | (rw [(fitB_iff _ _ _).mpr (fun q h1 h2 => hq q h1 (by omega))]; rfl) | (rw [b_ff (b := fitB (wss f o) (sbs f o) v) (fun q => h68 (by have := (fitB_iff _ _ _).mp q k (by omega) (by omega); rw [h32] at this; exact this))]; rfl)), ht⟩) (fun q h => nomatch h) dM_holds_72
    · have h32 := b_nf h32
      refine lv_lload_n hx hb dM_holds_35 rfl (lv_at hl 5 rfl) ?_
      refine lv_iload hx hb dM_holds_36 (lv_at hl 1 rfl) ?_
      refine lv_iconst (v := nI 1) hx hb dM_holds_38 (by decide +kernel) ?_
      refine lv_isub hx hb dM_holds_39 ?_
      refine lv_topi (fun v39 e39 => ?_)
      obtain rfl : v39 = nI (wss f o - 1) := e39.trans (pk_sub (by omega))
      refine vp_callSi (W.runS (As := [.long v, .int (nI (wss f o - 1))]) (rest := []) ⟨hx, hb, hml, hown, hw⟩ (c_M_bit l v (wss f o - 1) (by omega)) (cwS 2 hw (gS kw_441 kw_442 kw_16 kw_443) rfl rfl rfl (by decide +kernel) ⟨Nat.le_of_ble_eq_true rfl, Nat.le_of_ble_eq_true rfl⟩) preEq rfl rfl hl.1 rfl (lv_room (Nat.le_of_ble_eq_true rfl)) dM_holds_40 ⟨Nat.zero_le _, Nat.zero_le _⟩) (fun v40 e40 => ?_)
      obtain rfl : v40 = nI (bq v (wss f o - 1)) := e40
      refine lv_goto (tgt := 47) hx hb dM_holds_43 (by decide) ?_
      refine lv_istore hx hb dM_holds_47 hl (by decide) rfl (fun ls hl => ?_)
      have hl : lv_has ls 9 [(7, .int (nI (bq v (wss f o - 1)))), (6, .int (nI (sbs f o).toNat)), (5, .int (nI (wss f o))), (0, .ref hm), (1, .int (nI f)), (2, .int (nI o)), (3, .long v)] := hl
      refine lv_iload hx hb dM_holds_49 (lv_at hl 2 rfl) ?_
      refine lv_istore hx hb dM_holds_51 hl (by decide) rfl (fun ls hl => ?_)
      have hl : lv_has ls 9 [(8, .int (nI (wss f o))), (7, .int (nI (bq v (wss f o - 1)))), (6, .int (nI (sbs f o).toNat)), (5, .int (nI (wss f o))), (0, .ref hm), (1, .int (nI f)), (2, .int (nI o)), (3, .long v)] := hl
      refine (?_ : ∀ (kk : Nat) (k : Nat) (ls : Array Slot), kk = 64 - k → lv_has ls 9 [(8, .int (nI k)), (7, .int (nI (bq v (wss f o - 1)))), (6, .int (nI (sbs f o).toNat)), (5, .int (nI (wss f o))), (0, .ref hm), (1, .int (nI f)), (2, .int (nI o)), (3, .long v)] → (k ≤ 64) → (wss f o ≤ k) → (∀ q, wss f o ≤ q → q < k → bq v q = if sbs f o = true then bq v (wss f o - 1) else 0) → W p l e _ s m _ below meth c _ _ _ _ _ (F0 m 53 ls [])) _ (wss f o) ls rfl (lv_sub hl [0, 1, 2, 3, 4, 5, 6, 7] rfl) (by omega) (by omega) (fun q _ _ => by omega)
      intro kk
      induction kk using Nat.strongRecOn with
      | ind kk53 ih53 =>
        intro k ls hkk53 hl hk hk0 hq
        refine lv_iload hx hb dM_holds_53 (lv_at hl 0 rfl) ?_
        refine lv_bipush (v := nI 64) hx hb dM_holds_55 (by decide +kernel) ?_
        refine lv_icmp_ge (tgt := 79) hx hb dM_holds_57 (by decide) (fun h57 => ?_) (fun h57 => ?_)
        · rw [nI_leI (by omega) (by omega)] at h57
          refine lv_iconst (v := nI 1) hx hb dM_holds_79 (by decide +kernel) ?_
          exact W.zret (v := nI 1) hx hb hr (by first | exact b_nar _ | decide +kernel) (fun t ht hW => ⟨_, rfl, (by first | (rw [h12, fitB_64]; rfl) | (rw [(fitB_iff _ _ _).mpr (fun q h1 h2 => hq q h1 (by omega))]; rfl) | (rw [b_ff (b := fitB (wss f o) (sbs f o) v) (fun q => h68 (by have := (fitB_iff _ _ _).mp q k (by omega) (by omega); rw [h32] at this; exact this))]; rfl)), ht⟩) (fun q h => nomatch h) dM_holds_80
        · rw [nI_leI (by omega) (by omega)] at h57
          have hb1 := bq_lt v k
          refine lv_lload_n hx hb dM_holds_60 rfl (lv_at hl 7 rfl) ?_
          refine lv_iload hx hb dM_holds_61 (lv_at hl 0 rfl) ?_
          refine vp_callSi (W.runS (As := [.long v, .int (nI k)]) (rest := []) ⟨hx, hb, hml, hown, hw⟩ (c_M_bit l v k (by omega)) (cwS 2 hw (gS kw_441 kw_442 kw_16 kw_443) rfl rfl rfl (by decide +kernel) ⟨Nat.le_of_ble_eq_true rfl, Nat.le_of_ble_eq_true rfl⟩) preEq rfl rfl hl.1 rfl (lv_room (Nat.le_of_ble_eq_true rfl)) dM_holds_63 ⟨Nat.zero_le _, Nat.zero_le _⟩) (fun v63 e63 => ?_)
          obtain rfl : v63 = nI (bq v k) := e63
          refine lv_iload hx hb dM_holds_66 (lv_at hl 1 rfl) ?_
          refine lv_icmp_eq (tgt := 73) hx hb dM_holds_68 (by decide) (fun h68 => ?_) (fun h68 => ?_)
          · rw [nI_eq (by omega) (by omega)] at h68
            refine lv_iinc (k := 0) (v := nI (k + 1)) hx hb dM_holds_73 hl rfl (cw_inc _) (by decide) rfl (fun ls hl => ?_)
            have hl : lv_has ls 9 [(8, .int (nI (k + 1))), (7, .int (nI (bq v (wss f o - 1)))), (6, .int (nI (sbs f o).toNat)), (5, .int (nI (wss f o))), (0, .ref hm), (1, .int (nI f)), (2, .int (nI o)), (3, .long v)] := hl
            refine lv_goto (tgt := 53) hx hb dM_holds_76 (by decide) ?_
            exact ih53 _ (by omega) (k + 1) ls rfl (lv_sub (l' := [(8, .int (nI (k + 1))), (7, .int (nI (bq v (wss f o - 1)))), (6, .int (nI (sbs f o).toNat)), (5, .int (nI (wss f o))), (0, .ref hm), (1, .int (nI f)), (2, .int (nI o)), (3, .long v)]) hl [0, 1, 2, 3, 4, 5, 6, 7] rfl) (by omega) (by omega) (cw_ext hq (by rw [h32]; exact h68))
          · rw [nI_eq (by omega) (by omega)] at h68
            refine lv_iconst (v := nI 0) hx hb dM_holds_71 (by decide +kernel) ?_
            exact W.zret (v := nI 0) hx hb hr (by first | exact b_nar _ | decide +kernel) (fun t ht hW => ⟨_, rfl, (by first | (rw [h12, fitB_64]; rfl) | (rw [(fitB_iff _ _ _).mpr (fun q h1 h2 => hq q h1 (by omega))]; rfl) | (rw [b_ff (b := fitB (wss f o) (sbs f o) v) (fun q => h68 (by have := (fitB_iff _ _ _).mp q k (by omega) (by omega); rw [h32] at this; exact this))]; rfl)), ht⟩) (fun q h => nomatch h) dM_holds_72
  · rw [nI_eq (by omega) (by omega)] at h12
    refine lv_iconst (v := nI 1) hx hb dM_holds_15 (by decide +kernel) ?_
    exact W.zret (v := nI 1) hx hb hr (by first | exact b_nar _ | decide +kernel) (fun t ht hW => ⟨_, rfl, (by first | (rw [h12, fitB_64]; rfl) | (rw [(fitB_iff _ _ _).mpr (fun q h1 h2 => hq q h1 (by omega))]; rfl) | (rw [b_ff (b := fitB (wss f o) (sbs f o) v) (fun q => h68 (by have := (fitB_iff _ _ _).mp q k (by omega) (by omega); rw [h32] at this; exact this))]; rfl)), ht⟩) (fun q h => nomatch h) dM_holds_16

set_option maxHeartbeats 4000000 in
set_option maxRecDepth 100000 in
theorem c_M_isOf (l : Launch) (dC : Nat → ClassId) (dI : Nat → Nat → Nat) (cI cZ cJ : ClassId) (hm ml mw mb ms mn : Nat) (er : Int32) (ln wh bi si : Nat → Int32) (nu : Nat → Int64) (ns : Nat → Nat) (its wss : Nat → Nat → Nat) (sbs : Nat → Nat → Bool) (hM : mR ns its wss sbs ln wh bi si) (f : Nat) (wo : Int64) (hf : f < 8) : Met l yM_isOf wM_isOf { frames := 1, cells := 0, slots := 0, locals := 22 } (ro_Pc (dC, dI) cls3 [(hm, .inr (2, [.int er, .ref ml, .ref mw, .ref mb, .ref ms, .ref mn])), (ml, .inl (cI, 8, .inl ln)), (mw, .inl (cI, 512, .inl wh)), (mb, .inl (cI, 48, .inl bi)), (ms, .inl (cZ, 48, .inl si)), (mn, .inl (cJ, 6, .inr (.inl nu)))] [(cI, .int), (cZ, .boolean), (cJ, .long)] [.ref hm, .int (nI f), .long wo]) (vp_Si (fun r => r = nI (allb (fun j => alw (its f) (ns f) j (bq wo j)) 64).toNat)) 0 0 (fun _ => False) := by
  refine Met.ofW (cc := cM_isOf) (maxL := 5) (ret := (some .boolean)) (by decide) rfl ?_
  intro p e s m args below meth c s₁ B hml hv
  obtain ⟨rfl, hP, hK⟩ := hv
  have hx := B.exec
  have hb := B.bytes
  have hr := B.returns
  have hts := atoms_spec (ws := wM_isOf) B.pre
  have hw : ∀ w ∈ wA, w.before _ s = true := fun w h => hts w (List.mem_cons_of_mem _ h)
  have hown : s.vm.findClass RM = some m.cls := findClass_of_methodNamed B.named
  have hlocks := B.notSynchronized
  have hl := lv_entry ([.ref hm, .int (nI f), .long wo]) (n := 5) (Nat.le_of_ble_eq_true rfl)
  rw [lg_entry_eq]
  generalize (lg_sl ([.ref hm, .int (nI f), .long wo]) ++ List.replicate (5 - (lg_sl ([.ref hm, .int (nI f), .long wo])).length) Slot.unset).toArray = ls at hl ⊢
  have hl : lv_has ls 5 [(0, .ref hm), (1, .int (nI f)), (2, .long wo)] := hl
  have hok := (hM f hf).1
  have hn := hok.1
  have hw64 := hok.2.1
  have hit := cw_it hok
  refine lv_iconst (v := nI 0) hx hb dM_isOf_0 (by decide +kernel) ?_
  refine lv_istore hx hb dM_isOf_1 hl (by decide) rfl (fun ls hl => ?_)
  have hl : lv_has ls 5 [(4, .int (nI 0)), (0, .ref hm), (1, .int (nI f)), (2, .long wo)] := hl
  refine (?_ : ∀ (kk : Nat) (j : Nat) (ls : Array Slot), kk = 64 - j → lv_has ls 5 [(4, .int (nI j)), (0, .ref hm), (1, .int (nI f)), (2, .long wo)] → (j ≤ 64) → (allb (fun j => alw (its f) (ns f) j (bq wo j)) j = true) → W p l e _ s m _ below meth c _ _ _ _ _ (F0 m 3 ls [])) _ 0 ls rfl (lv_sub hl [0, 1, 2, 3] rfl) (by omega) rfl
  intro kk
  induction kk using Nat.strongRecOn with
  | ind kk3 ih3 =>
    intro j ls hkk3 hl hj ha
    refine lv_iload hx hb dM_isOf_3 (lv_at hl 0 rfl) ?_
    refine lv_bipush (v := nI 64) hx hb dM_isOf_5 (by decide +kernel) ?_
    refine lv_icmp_ge (tgt := 68) hx hb dM_isOf_7 (by decide) (fun h7 => ?_) (fun h7 => ?_)
    · rw [nI_leI (by omega) (by omega)] at h7
      refine lv_iconst (v := nI 1) hx hb dM_isOf_68 (by decide +kernel) ?_
      exact W.zret (v := nI 1) hx hb hr (by first | exact b_nar _ | decide +kernel) (fun t ht hW => ⟨_, rfl, (by first | (rw [show j = 64 by omega] at ha; rw [ha]; rfl) | (rw [allb_f (fun j => alw (its f) (ns f) j (bq wo j)) 64 (k := j) (by omega) (alwF_b h18 h27)]; rfl) | (rw [allb_f (fun j => alw (its f) (ns f) j (bq wo j)) 64 (k := j) (by omega) (alwF_e h18 (by omega) h57)]; rfl)), ht⟩) (fun q h => nomatch h) dM_isOf_69
    · rw [nI_leI (by omega) (by omega)] at h7
      have hb1 := bq_lt wo j
      refine lv_iload hx hb dM_isOf_10 (lv_at hl 0 rfl) ?_
      refine lv_aload_n hx hb dM_isOf_12 rfl (lv_at hl 1 rfl) ?_
      refine va_get (D := (dC, dI)) (ci := 2) (v := .ref ml) (C := RM) (T := TM) (N := 6) hx hb hw inM hown hK hP 0 rfl rfl 1 (by decide) (hw _ kw_387) (fun _ h9 => h9) rfl dM_isOf_13 ?_
      refine lv_iload_n hx hb dM_isOf_16 rfl (lv_at hl 2 rfl) ?_
      refine va_iald hx hb hK hP 1 0 rfl rfl (vp_in_nI (by omega) (by decide)) dM_isOf_17 ?_
      refine lv_topi (fun v17 e17 => ?_)
      rw [nI_clamp (by omega)] at e17
      obtain rfl : v17 = nI (ns f) := e17.trans (hM f hf).2.1
      refine lv_icmp_lt (tgt := 33) hx hb dM_isOf_18 (by decide) (fun h18 => ?_) (fun h18 => ?_)
      · rw [nI_ltI (by omega) (by omega)] at h18
        have hij := hit (ns f - 1 - j) (by omega)
        refine lv_aload_n hx hb dM_isOf_33 rfl (lv_at hl 1 rfl) ?_
        refine lv_iload_n hx hb dM_isOf_34 rfl (lv_at hl 2 rfl) ?_
        refine lv_iload hx hb dM_isOf_35 (lv_at hl 0 rfl) ?_
        refine vp_callSi (W.runV (As := [.int (nI f), .int (nI j)]) (rest := []) ⟨hx, hb, hml, hown, hw⟩ (c_M_at l dC dI cI cZ cJ hm ml mw mb ms mn er ln wh bi si nu ns its wss sbs hM f j hf h18) (cwV 2 hw (gV kw_480 kw_482 kw_11 kw_16 kw_483) rfl rfl rfl (by decide +kernel) ⟨Nat.le_of_ble_eq_true rfl, Nat.le_of_ble_eq_true rfl⟩) (ro_preV (q0 := 0) hK hP rfl rfl) rfl rfl hl.1 rfl (lv_room (Nat.le_of_ble_eq_true rfl)) dM_isOf_37 ⟨Nat.zero_le _, Nat.zero_le _⟩) (fun v37 e37 => ?_)
        obtain rfl : v37 = nI (its f (ns f - 1 - j)) := e37
        refine lv_iconst (v := nI 2) hx hb dM_isOf_40 (by decide +kernel) ?_
        refine lv_icmp_ge (tgt := 62) hx hb dM_isOf_41 (by decide) (fun h41 => ?_) (fun h41 => ?_)
        · rw [nI_leI (by omega) (by omega)] at h41
          refine lv_iinc (k := 0) (v := nI (j + 1)) hx hb dM_isOf_62 hl rfl (cw_inc _) (by decide) rfl (fun ls hl => ?_)
          have hl : lv_has ls 5 [(4, .int (nI (j + 1))), (0, .ref hm), (1, .int (nI f)), (2, .long wo)] := hl
          refine lv_goto (tgt := 3) hx hb dM_isOf_65 (by decide) ?_
          exact ih3 _ (by omega) (j + 1) ls rfl (lv_sub (l' := [(4, .int (nI (j + 1))), (0, .ref hm), (1, .int (nI f)), (2, .long wo)]) hl [0, 1, 2, 3] rfl) (by omega) (by simp only [allb, ha, Bool.true_and]; first | exact alwT_a h18 h27 | exact alwT_d h18 h57 | exact alwT_c h18 (by omega))
        · rw [nI_leI (by omega) (by omega)] at h41
          refine lv_aload_n hx hb dM_isOf_44 rfl (lv_at hl 1 rfl) ?_
          refine lv_iload_n hx hb dM_isOf_45 rfl (lv_at hl 2 rfl) ?_
          refine lv_iload hx hb dM_isOf_46 (lv_at hl 0 rfl) ?_
          refine vp_callSi (W.runV (As := [.int (nI f), .int (nI j)]) (rest := []) ⟨hx, hb, hml, hown, hw⟩ (c_M_at l dC dI cI cZ cJ hm ml mw mb ms mn er ln wh bi si nu ns its wss sbs hM f j hf h18) (cwV 2 hw (gV kw_480 kw_482 kw_11 kw_16 kw_483) rfl rfl rfl (by decide +kernel) ⟨Nat.le_of_ble_eq_true rfl, Nat.le_of_ble_eq_true rfl⟩) (ro_preV (q0 := 0) hK hP rfl rfl) rfl rfl hl.1 rfl (lv_room (Nat.le_of_ble_eq_true rfl)) dM_isOf_48 ⟨Nat.zero_le _, Nat.zero_le _⟩) (fun v48 e48 => ?_)
          obtain rfl : v48 = nI (its f (ns f - 1 - j)) := e48
          refine lv_lload_n hx hb dM_isOf_51 rfl (lv_at hl 3 rfl) ?_
          refine lv_iload hx hb dM_isOf_52 (lv_at hl 0 rfl) ?_
          refine vp_callSi (W.runS (As := [.long wo, .int (nI j)]) (rest := [.int (nI (its f (ns f - 1 - j)))]) ⟨hx, hb, hml, hown, hw⟩ (c_M_bit l wo j (by omega)) (cwS 2 hw (gS kw_441 kw_442 kw_16 kw_443) rfl rfl rfl (by decide +kernel) ⟨Nat.le_of_ble_eq_true rfl, Nat.le_of_ble_eq_true rfl⟩) preEq rfl rfl hl.1 rfl (lv_room (Nat.le_of_ble_eq_true rfl)) dM_isOf_54 ⟨Nat.zero_le _, Nat.zero_le _⟩) (fun v54 e54 => ?_)
          obtain rfl : v54 = nI (bq wo j) := e54
          refine lv_icmp_eq (tgt := 62) hx hb dM_isOf_57 (by decide) (fun h57 => ?_) (fun h57 => ?_)
          · rw [nI_eq (by omega) (by omega)] at h57
            refine lv_iinc (k := 0) (v := nI (j + 1)) hx hb dM_isOf_62 hl rfl (cw_inc _) (by decide) rfl (fun ls hl => ?_)
            have hl : lv_has ls 5 [(4, .int (nI (j + 1))), (0, .ref hm), (1, .int (nI f)), (2, .long wo)] := hl
            refine lv_goto (tgt := 3) hx hb dM_isOf_65 (by decide) ?_
            exact ih3 _ (by omega) (j + 1) ls rfl (lv_sub (l' := [(4, .int (nI (j + 1))), (0, .ref hm), (1, .int (nI f)), (2, .long wo)]) hl [0, 1, 2, 3] rfl) (by omega) (by simp only [allb, ha, Bool.true_and]; first | exact alwT_a h18 h27 | exact alwT_d h18 h57 | exact alwT_c h18 (by omega))
          · rw [nI_eq (by omega) (by omega)] at h57
            refine lv_iconst (v := nI 0) hx hb dM_isOf_60 (by decide +kernel) ?_
            exact W.zret (v := nI 0) hx hb hr (by first | exact b_nar _ | decide +kernel) (fun t ht hW => ⟨_, rfl, (by first | (rw [show j = 64 by omega] at ha; rw [ha]; rfl) | (rw [allb_f (fun j => alw (its f) (ns f) j (bq wo j)) 64 (k := j) (by omega) (alwF_b h18 h27)]; rfl) | (rw [allb_f (fun j => alw (its f) (ns f) j (bq wo j)) 64 (k := j) (by omega) (alwF_e h18 (by omega) h57)]; rfl)), ht⟩) (fun q h => nomatch h) dM_isOf_61
      · rw [nI_ltI (by omega) (by omega)] at h18
        refine lv_lload_n hx hb dM_isOf_21 rfl (lv_at hl 3 rfl) ?_
        refine lv_iload hx hb dM_isOf_22 (lv_at hl 0 rfl) ?_
        refine vp_callSi (W.runS (As := [.long wo, .int (nI j)]) (rest := []) ⟨hx, hb, hml, hown, hw⟩ (c_M_bit l wo j (by omega)) (cwS 2 hw (gS kw_441 kw_442 kw_16 kw_443) rfl rfl rfl (by decide +kernel) ⟨Nat.le_of_ble_eq_true rfl, Nat.le_of_ble_eq_true rfl⟩) preEq rfl rfl hl.1 rfl (lv_room (Nat.le_of_ble_eq_true rfl)) dM_isOf_24 ⟨Nat.zero_le _, Nat.zero_le _⟩) (fun v24 e24 => ?_)
        obtain rfl : v24 = nI (bq wo j) := e24
        refine lv_if_eq (tgt := 62) hx hb dM_isOf_27 (by decide) (fun h27 => ?_) (fun h27 => ?_)
        · rw [nI_eq0 (by omega)] at h27
          refine lv_iinc (k := 0) (v := nI (j + 1)) hx hb dM_isOf_62 hl rfl (cw_inc _) (by decide) rfl (fun ls hl => ?_)
          have hl : lv_has ls 5 [(4, .int (nI (j + 1))), (0, .ref hm), (1, .int (nI f)), (2, .long wo)] := hl
          refine lv_goto (tgt := 3) hx hb dM_isOf_65 (by decide) ?_
          exact ih3 _ (by omega) (j + 1) ls rfl (lv_sub (l' := [(4, .int (nI (j + 1))), (0, .ref hm), (1, .int (nI f)), (2, .long wo)]) hl [0, 1, 2, 3] rfl) (by omega) (by simp only [allb, ha, Bool.true_and]; first | exact alwT_a h18 h27 | exact alwT_d h18 h57 | exact alwT_c h18 (by omega))
        · rw [nI_eq0 (by omega)] at h27
          refine lv_goto (tgt := 60) hx hb dM_isOf_30 (by decide) ?_
          refine lv_iconst (v := nI 0) hx hb dM_isOf_60 (by decide +kernel) ?_
          exact W.zret (v := nI 0) hx hb hr (by first | exact b_nar _ | decide +kernel) (fun t ht hW => ⟨_, rfl, (by first | (rw [show j = 64 by omega] at ha; rw [ha]; rfl) | (rw [allb_f (fun j => alw (its f) (ns f) j (bq wo j)) 64 (k := j) (by omega) (alwF_b h18 h27)]; rfl) | (rw [allb_f (fun j => alw (its f) (ns f) j (bq wo j)) 64 (k := j) (by omega) (alwF_e h18 (by omega) h57)]; rfl)), ht⟩) (fun q h => nomatch h) dM_isOf_61
end
section
/-! what a call does, by numbers: its code (0: it returns; else the exception's), the state behind it -/
def stp {α : Type} (c : Nat) (a b : α) : α := match c with
  | 0 => a
  | _ + 1 => b
def cdClear (x : Int32) : Nat := if isF x = true then 0 else 1
def cdNum (x : Int32) : Nat := if isO x = true then 0 else 1
def cdOper (wss : Nat → Nat → Nat) (x y n : Int32) : Nat := if (isF x && (isO y && isB n)) = true then (if 0 < wss (fi x) (fi y) then 2 else 0) else 1
def cdFixed (ns : Nat → Nat) (x n : Int32) : Nat := if (isF x && isB n) = true then (if 64 < ns (fi x) + fi n then 2 else 0) else 1
def hany (it : Nat → Nat) (n o hi lo : Nat) : Bool := !(allb (fun j => !(hcd it o hi lo j)) n)
def cdSlice (ns : Nat → Nat) (its wss : Nat → Nat → Nat) (x y hi lo : Int32) : Nat :=
  if thr wss x y = true ∧ lo ≤ hi then (if lo < 0 ∨ nI (wss (fi x) (fi y)) ≤ hi then 2 else if 64 < ns (fi x) + (fi hi + 1 - fi lo) then 2 else if hany (its (fi x)) (ns (fi x)) (fi y) (fi hi) (fi lo) = true then 3 else 0) else 1
def cdFits (wss : Nat → Nat → Nat) (x y : Int32) : Nat := if thr wss x y = true then 0 else 1
def afit (w : Nat → Nat) (sb : Nat → Bool) (nu : Nat → Int64) : Bool := allb (fun o => decide (w o = 0) || fitB (w o) (sb o) (nu o)) 6
def cdEnc (ns : Nat → Nat) (its wss : Nat → Nat → Nat) (sbs : Nat → Nat → Bool) (nu : Nat → Int64) (x : Int32) : Nat :=
  if isF x = true then (if cw_lft (its (fi x)) (ns (fi x)) (wss (fi x)) 6 = 0 then (if afit (wss (fi x)) (sbs (fi x)) nu = true then 0 else 3) else 2) else 1
def isof (it : Nat → Nat) (n : Nat) (wo : Int64) : Bool := allb (fun j => alw it n j (bq wo j)) 64
def cdDec (ns : Nat → Nat) (its wss : Nat → Nat → Nat) (x y : Int32) (wo : Int64) : Nat :=
  if thr wss x y = true then (if cw_lft (its (fi x)) (ns (fi x)) (wss (fi x)) 6 = 0 then (if isof (its (fi x)) (ns (fi x)) wo = true then 0 else 3) else 2) else 1
def cdMeet (x y : Int32) : Nat := if (isF x && isF y) = true then 0 else 1
def cdCnt (x q : Int32) : Nat := if (isF x && isW q) = true then 0 else 1
def cntR (ns : Nat → Nat) (its wss : Nat → Nat → Nat) (f : Nat) (q : Nat) : Nat := match q with
  | 0 => ns f
  | 1 => cw_fix (its f) (ns f)
  | 2 => cw_ops (wss f) 6
  | _ => cw_lft (its f) (ns f) (wss f) 6
section MR
variable {ns : Nat → Nat} {its wss : Nat → Nat → Nat} {sbs : Nat → Nat → Bool} {ln wh bi si : Nat → Int32} {f m : Nat} {X : Nat → Nat}
theorem mR_ln (h : mR (va_up ns f m) its wss sbs ln wh bi si) (hf : f < 8) : ln f = nI m := by
  have := (h f hf).2.1; rw [va_up_self] at this; exact this
theorem mR_st (h : mR ns its wss sbs ln wh bi si) (e : ∀ j, j < ns f → X j = its f j) : mR (va_up ns f (ns f)) (va_up its f X) wss sbs ln wh bi si := by
  intro g hg
  obtain ⟨⟨h1, h2, h3, h4⟩, h5, h6, h7⟩ := h g hg
  by_cases q : g = f
  · subst q
    rw [va_up_self, va_up_self]
    exact ⟨⟨h1, h2, fun j hj => by rw [e j hj]; exact h3 j hj, fun i j hi hj => by rw [e i hi, e j hj]; exact h4 i j hi hj⟩, h5, h6, fun j hj => by rw [e j hj]; exact h7 j hj⟩
  · rw [va_up_ne _ _ q, va_up_ne _ _ q]
    exact ⟨⟨h1, h2, h3, h4⟩, h5, h6, h7⟩
/-- an item more in the reference -/
theorem mR_app (hf : f < 8) (h : mR (va_up ns f m) (va_up its f X) wss sbs ln wh bi si) (hok : cw_ok X (m + 1) (wss f)) : mR (va_up ns f (m + 1)) (va_up its f X) wss sbs (upd ln f (nI (m + 1))) (upd wh (64 * f + m) (nI (X m))) bi si := by
  intro g hg
  obtain ⟨h0, h5, h6, h7⟩ := h g hg
  have hm : m + 1 ≤ 64 := hok.1
  by_cases q : g = f
  · subst q
    rw [va_up_self] at h7 ⊢
    rw [va_up_self] at h7 ⊢
    refine ⟨hok, pk_us, h6, fun j hj => ?_⟩
    by_cases e : j = m
    · subst e; exact pk_us
    · rw [pk_un (by omega)]; exact h7 j (by omega)
  · rw [va_up_ne _ _ q] at h0 h5 h7 ⊢
    rw [va_up_ne _ _ q] at h0 h7 ⊢
    refine ⟨h0, by rw [pk_un q]; exact h5, h6, fun j hj => ?_⟩
    have := h0.1
    rw [pk_un (by omega)]
    exact h7 j hj
theorem mR_clear (h : mR ns its wss sbs ln wh bi si) (hf : f < 8) {bi2 : Nat → Int32} (h1 : ∀ o, o < 6 → bi2 (6 * f + o) = nI 0) (h2 : ∀ g o, g < 8 → g ≠ f → o < 6 → bi2 (6 * g + o) = bi (6 * g + o)) : mR (va_up ns f 0) its (va_up wss f (fun _ => 0)) sbs (upd ln f (nI 0)) wh bi2 si := by
  intro g hg
  obtain ⟨h0, h5, h6, h7⟩ := h g hg
  by_cases q : g = f
  · subst q
    rw [va_up_self, va_up_self]
    exact ⟨⟨by omega, fun _ _ => Nat.zero_le _, fun j hj => by omega, fun i j hi => by omega⟩, pk_us, fun o ho => ⟨h1 o ho, (h6 o ho).2⟩, fun j hj => by omega⟩
  · rw [va_up_ne _ _ q, va_up_ne _ _ q]
    exact ⟨h0, by rw [pk_un q]; exact h5, fun o ho => by rw [h2 g o hg q ho]; exact h6 o ho, h7⟩
theorem mR_oper (h : mR ns its wss sbs ln wh bi si) (hf : f < 8) {o k : Nat} {b : Bool} (ho : o < 6) (hk : k ≤ 64) (h0 : wss f o = 0) : mR ns its (va_up wss f (va_up (wss f) o k)) (va_up sbs f (va_up (sbs f) o b)) ln wh (upd bi (6 * f + o) (nI k)) (upd si (6 * f + o) (vp_nar .boolean (nI b.toNat))) := by
  intro g hg
  obtain ⟨⟨g1, g2, g3, g4⟩, h5, h6, h7⟩ := h g hg
  by_cases q : g = f
  · subst q
    rw [va_up_self, va_up_self]
    refine ⟨⟨g1, fun i hi => ?_, fun j hj => ?_, g4⟩, h5, fun i hi => ?_, h7⟩
    · by_cases e : i = o
      · rw [e, va_up_self]; exact hk
      · rw [va_up_ne _ _ e]; exact g2 i hi
    · rcases g3 j hj with z | ⟨i, m, hi, hm, z⟩
      · exact Or.inl z
      · refine Or.inr ⟨i, m, hi, ?_, z⟩
        have : i ≠ o := fun y => by rw [y, h0] at hm; omega
        rw [va_up_ne _ _ this]; exact hm
    · by_cases e : i = o
      · rw [e, pk_us, pk_us, va_up_self, va_up_self]
        exact ⟨rfl, by cases b <;> decide +kernel⟩
      · rw [pk_un (by omega), pk_un (by omega), va_up_ne _ _ e, va_up_ne _ _ e]; exact h6 i hi
  · rw [va_up_ne _ _ q, va_up_ne _ _ q]
    refine ⟨⟨g1, g2, g3, g4⟩, h5, fun i hi => ?_, h7⟩
    rw [pk_un (by omega), pk_un (by omega)]; exact h6 i hi
end MR
theorem hany_t {it : Nat → Nat} {n o hi lo j : Nat} (hj : j < n) (h : hcd it o hi lo j = true) : hany it n o hi lo = true := by
  unfold hany; rw [allb_f (fun j => !(hcd it o hi lo j)) n hj (by rw [h]; rfl)]; rfl
theorem hany_f {it : Nat → Nat} {n o hi lo : Nat} (h : ∀ j, j < n → hcd it o hi lo j = false) : hany it n o hi lo = false := by
  unfold hany; rw [(allb_iff (fun j => !(hcd it o hi lo j)) n).mpr (fun k hk => by rw [h k hk]; rfl)]; rfl
theorem hany_no {it : Nat → Nat} {n o hi lo : Nat} (h : hany it n o hi lo = false) (hh : hi < 64) : ∀ j, j < n → ∀ k, lo ≤ k → k ≤ hi → it j ≠ 2 + 64 * o + k := by
  intro j hj k h1 h2 e
  have : hcd it o hi lo j = true := decide_eq_true ⟨by omega, by omega, by omega, by omega⟩
  rw [hany_t hj this] at h; cases h
theorem hany_p {it : Nat → Nat} {n o hi lo k : Nat} (hh : hi < 64) (h1 : lo ≤ k) (h2 : k ≤ hi) (h : cw_has it (2 + 64 * o + k) n = true) : hany it n o hi lo = true := by
  obtain ⟨j, hj, e⟩ := (cw_has_iff _ _ _).mp h
  exact hany_t hj (decide_eq_true ⟨by omega, by omega, by omega, by omega⟩)
theorem hany_q {it : Nat → Nat} {n o hi lo : Nat} (h : ∀ k, lo ≤ k → k ≤ hi → ¬ cw_has it (2 + 64 * o + k) n = true) : hany it n o hi lo = false := by
  refine hany_f (fun j hj => ?_)
  refine decide_eq_false (fun q => ?_)
  exact h ((it j - 2) % 64) q.2.2.1 q.2.2.2 ((cw_has_iff _ _ _).mpr ⟨j, hj, by omega⟩)
/-- what stands at place j, 0 beyond the length -/
def atS (it : Nat → Nat) (n j : Nat) : Nat := if j < n then it (n - 1 - j) else 0
theorem atS_lt {it : Nat → Nat} {n j : Nat} (h : j < n) : nI (it (n - 1 - j)) = nI (atS it n j) := by unfold atS; rw [if_pos h]
theorem atS_ge {it : Nat → Nat} {n j : Nat} (h : ¬ j < n) : nI 0 = nI (atS it n j) := by unfold atS; rw [if_neg h]
theorem alw_at (it : Nat → Nat) (n j b : Nat) : alw it n j b = (decide (2 ≤ atS it n j) || (atS it n j == b)) := by
  unfold alw atS
  by_cases h : n ≤ j
  · rw [if_pos h, if_neg (by omega)]
    by_cases e : b = 0
    · subst e; rfl
    · rw [beq_eq_false_iff_ne.mpr e, beq_eq_false_iff_ne.mpr (Ne.symm e)]; rfl
  · rw [if_neg h, if_pos (by omega)]
theorem shw_at {it it2 : Nat → Nat} {n n2 j : Nat} (h : ¬ (atS it n j < 2 ∧ atS it2 n2 j < 2 ∧ ¬ atS it n j = atS it2 n2 j)) : shw it n it2 n2 j = true := by
  unfold shw
  simp only [alw_at, Bool.or_eq_true, Bool.and_eq_true, decide_eq_true_eq, beq_iff_eq]
  omega
theorem shw_af {it it2 : Nat → Nat} {n n2 j : Nat} (h1 : atS it n j < 2) (h2 : atS it2 n2 j < 2) (h3 : ¬ atS it n j = atS it2 n2 j) : shw it n it2 n2 j = false := by
  apply b_ff
  unfold shw
  simp only [alw_at, Bool.or_eq_true, Bool.and_eq_true, decide_eq_true_eq, beq_iff_eq]
  omega
set_option maxHeartbeats 4000000 in
set_option maxRecDepth 100000 in
theorem c_M_fails1 (l : Launch) (dC : Nat → ClassId) (dI : Nat → Nat → Nat) (sz : Nat) (cI cZ cJ : ClassId) (hm ml mw mb ms mn : Nat) (ln wh bi si : Nat → Int32) (nu : Nat → Int64) (cd : Nat) (hcd : 0 < cd ∧ cd < 10) : Met l yM_fails wM_fails { frames := 0, cells := 0, slots := 0, locals := 0 } (rw_Pc (dC, dI) cls3 [(hm, .inr (2, [.int (nI 0), .ref ml, .ref mw, .ref mb, .ref ms, .ref mn])), (ml, .inl (cI, 8, .inl ln)), (mw, .inl (cI, 512, .inl wh)), (mb, .inl (cI, 48, .inl bi)), (ms, .inl (cZ, 48, .inl si)), (mn, .inl (cJ, 6, .inr (.inl nu)))] [(cI, .int), (cZ, .boolean), (cJ, .long)] sz [.ref hm, .int (nI 1), .int (nI cd)]) (va_Qi (fun (r : Int32) (_ : Unit) => r = nI 1) (fun _ t => va_P (dC, dI) cls3 [(hm, .inr (2, [.int (nI cd), .ref ml, .ref mw, .ref mb, .ref ms, .ref mn])), (ml, .inl (cI, 8, .inl ln)), (mw, .inl (cI, 512, .inl wh)), (mb, .inl (cI, 48, .inl bi)), (ms, .inl (cZ, 48, .inl si)), (mn, .inl (cJ, 6, .inr (.inl nu)))] t.heap ∧ va_K (dC, dI) cls3 [(cI, .int), (cZ, .boolean), (cJ, .long)] t ∧ va_D (va_A [(hm, .inr (2, [.int (nI 0), .ref ml, .ref mw, .ref mb, .ref ms, .ref mn])), (ml, .inl (cI, 8, .inl ln)), (mw, .inl (cI, 512, .inl wh)), (mb, .inl (cI, 48, .inl bi)), (ms, .inl (cZ, 48, .inl si)), (mn, .inl (cJ, 6, .inr (.inl nu)))] sz) [(hm, .inr (2, [.int (nI cd), .ref ml, .ref mw, .ref mb, .ref ms, .ref mn])), (ml, .inl (cI, 8, .inl ln)), (mw, .inl (cI, 512, .inl wh)), (mb, .inl (cI, 48, .inl bi)), (ms, .inl (cZ, 48, .inl si)), (mn, .inl (cJ, 6, .inr (.inl nu)))]) (va_A [(hm, .inr (2, [.int (nI 0), .ref ml, .ref mw, .ref mb, .ref ms, .ref mn])), (ml, .inl (cI, 8, .inl ln)), (mw, .inl (cI, 512, .inl wh)), (mb, .inl (cI, 48, .inl bi)), (ms, .inl (cZ, 48, .inl si)), (mn, .inl (cJ, 6, .inr (.inl nu)))] sz)) 0 0 (va_A [(hm, .inr (2, [.int (nI 0), .ref ml, .ref mw, .ref mb, .ref ms, .ref mn])), (ml, .inl (cI, 8, .inl ln)), (mw, .inl (cI, 512, .inl wh)), (mb, .inl (cI, 48, .inl bi)), (ms, .inl (cZ, 48, .inl si)), (mn, .inl (cJ, 6, .inr (.inl nu)))] sz) := by
  refine Met.ofW (cc := cM_fails) (maxL := 3) (ret := (some .boolean)) (by decide) rfl ?_
  intro p e s m args below meth c s₁ B hml hv
  obtain ⟨rfl, hsz, hP, hK, hD0⟩ := hv
  have hx := B.exec
  have hb := B.bytes
  have hr := B.returns
  have hts := atoms_spec (ws := wM_fails) B.pre
  have hw : ∀ w ∈ wA, w.before _ s = true := fun w h => hts w (List.mem_cons_of_mem _ h)
  have hown : s.vm.findClass RM = some m.cls := findClass_of_methodNamed B.named
  have hlocks := B.notSynchronized
  subst hsz
  have hD := hD0.self (sz := s.heap.size)
  generalize hAe : va_A [(hm, .inr (2, [.int (nI 0), .ref ml, .ref mw, .ref mb, .ref ms, .ref mn])), (ml, .inl (cI, 8, .inl ln)), (mw, .inl (cI, 512, .inl wh)), (mb, .inl (cI, 48, .inl bi)), (ms, .inl (cZ, 48, .inl si)), (mn, .inl (cJ, 6, .inr (.inl nu)))] s.heap.size = A at hD ⊢
  have hA : ∀ q : Nat, s.heap.size ≤ q → A q := fun q h => by rw [← hAe]; exact Or.inr h
  have hS : va_S A s.heap s.heap [] := va_S.rf
  have hl := lv_entry ([.ref hm, .int (nI 1), .int (nI cd)]) (n := 3) (Nat.le_of_ble_eq_true rfl)
  rw [lg_entry_eq]
  generalize (lg_sl ([.ref hm, .int (nI 1), .int (nI cd)]) ++ List.replicate (3 - (lg_sl ([.ref hm, .int (nI 1), .int (nI cd)])).length) Slot.unset).toArray = ls at hl ⊢
  have hl : lv_has ls 3 [(0, .ref hm), (1, .int (nI 1)), (2, .int (nI cd))] := hl
  refine lv_iload_n hx hb dM_fails_0 rfl (lv_at hl 1 rfl) ?_
  refine lv_if_eq (tgt := 16) hx hb dM_fails_1 (by decide) (fun h1 => ?_) (fun h1 => ?_)
  · exfalso
    first | exact h1 (by decide +kernel) | exact absurd h1 (by decide +kernel)
  · refine lv_aload_n hx hb dM_fails_4 rfl (lv_at hl 0 rfl) ?_
    refine va_get (D := (dC, dI)) (ci := 2) (v := .int (nI 0)) (C := RM) (T := TM) (N := 6) hx hb hw inM hown hK hP 0 rfl rfl 0 (by decide) (hw _ kw_386) (fun _ h9 => h9) rfl dM_fails_5 ?_
    refine lv_if_ne (tgt := 16) hx hb dM_fails_8 (by decide) (fun h8 => ?_) (fun h8 => ?_)
    · exfalso
      first | exact h8 (by decide +kernel) | exact absurd h8 (by decide +kernel)
    · refine lv_aload_n hx hb dM_fails_11 rfl (lv_at hl 0 rfl) ?_
      refine lv_iload_n hx hb dM_fails_12 rfl (lv_at hl 2 rfl) ?_
      refine va_put (D := (dC, dI)) (ci := 2) (v := .int (nI cd)) (ty := .int) (C := RM) (T := TM) (N := 6) hx hb hw inM tM tM_ok nM hown hK hP hD hS 0 rfl rfl 0 (by decide) (hw _ kw_386) (fun _ h9 => h9) rfl (by decide +kernel) rfl rfl (Nat.le_of_ble_eq_true rfl) dM_fails_13 (fun H locs hP hD hS => ?_)
      have hP : va_P (dC, dI) cls3 [(hm, .inr (2, [.int (nI cd), .ref ml, .ref mw, .ref mb, .ref ms, .ref mn])), (ml, .inl (cI, 8, .inl ln)), (mw, .inl (cI, 512, .inl wh)), (mb, .inl (cI, 48, .inl bi)), (ms, .inl (cZ, 48, .inl si)), (mn, .inl (cJ, 6, .inr (.inl nu)))] H := hP
      have hD : va_D A [(hm, .inr (2, [.int (nI cd), .ref ml, .ref mw, .ref mb, .ref ms, .ref mn])), (ml, .inl (cI, 8, .inl ln)), (mw, .inl (cI, 512, .inl wh)), (mb, .inl (cI, 48, .inl bi)), (ms, .inl (cZ, 48, .inl si)), (mn, .inl (cJ, 6, .inr (.inl nu)))] := hD
      refine lv_aload_n hx hb dM_fails_16 rfl (lv_at hl 0 rfl) ?_
      refine va_get (D := (dC, dI)) (ci := 2) (v := .int (nI cd)) (C := RM) (T := TM) (N := 6) hx hb hw inM hown hK hP 0 rfl rfl 0 (by decide) (hw _ kw_386) (fun _ h9 => h9) rfl dM_fails_17 ?_
      refine lv_if_eq (tgt := 27) hx hb dM_fails_20 (by decide) (fun h20 => ?_) (fun h20 => ?_)
      · exfalso
        exact nI_ne0 hcd.1 (by omega) h20
      · refine lv_iconst (v := nI 1) hx hb dM_fails_23 (by decide +kernel) ?_
        refine lv_goto (tgt := 28) hx hb dM_fails_24 (by decide) ?_
        exact W.zret (v := nI 1) hx hb hr (by first | exact b_nar _ | decide +kernel) (fun t ht hW => ⟨⟨_, (), rfl, (rfl), by rw [ht]; exact hP, va_K.moved hW.alike hK, hD⟩, hS.F ht⟩) hS.2.2 dM_fails_28

set_option maxHeartbeats 4000000 in
set_option maxRecDepth 100000 in
theorem c_M_fails0 (l : Launch) (dC : Nat → ClassId) (dI : Nat → Nat → Nat) (sz : Nat) (cI cZ cJ : ClassId) (hm ml mw mb ms mn : Nat) (ln wh bi si : Nat → Int32) (nu : Nat → Int64) (cd : Nat) (hcd : 0 < cd ∧ cd < 10) : Met l yM_fails wM_fails { frames := 0, cells := 0, slots := 0, locals := 0 } (rw_Pc (dC, dI) cls3 [(hm, .inr (2, [.int (nI 0), .ref ml, .ref mw, .ref mb, .ref ms, .ref mn])), (ml, .inl (cI, 8, .inl ln)), (mw, .inl (cI, 512, .inl wh)), (mb, .inl (cI, 48, .inl bi)), (ms, .inl (cZ, 48, .inl si)), (mn, .inl (cJ, 6, .inr (.inl nu)))] [(cI, .int), (cZ, .boolean), (cJ, .long)] sz [.ref hm, .int (nI 0), .int (nI cd)]) (va_Qi (fun (r : Int32) (_ : Unit) => r = nI 0) (fun _ t => va_P (dC, dI) cls3 [(hm, .inr (2, [.int (nI 0), .ref ml, .ref mw, .ref mb, .ref ms, .ref mn])), (ml, .inl (cI, 8, .inl ln)), (mw, .inl (cI, 512, .inl wh)), (mb, .inl (cI, 48, .inl bi)), (ms, .inl (cZ, 48, .inl si)), (mn, .inl (cJ, 6, .inr (.inl nu)))] t.heap ∧ va_K (dC, dI) cls3 [(cI, .int), (cZ, .boolean), (cJ, .long)] t ∧ va_D (va_A [(hm, .inr (2, [.int (nI 0), .ref ml, .ref mw, .ref mb, .ref ms, .ref mn])), (ml, .inl (cI, 8, .inl ln)), (mw, .inl (cI, 512, .inl wh)), (mb, .inl (cI, 48, .inl bi)), (ms, .inl (cZ, 48, .inl si)), (mn, .inl (cJ, 6, .inr (.inl nu)))] sz) [(hm, .inr (2, [.int (nI 0), .ref ml, .ref mw, .ref mb, .ref ms, .ref mn])), (ml, .inl (cI, 8, .inl ln)), (mw, .inl (cI, 512, .inl wh)), (mb, .inl (cI, 48, .inl bi)), (ms, .inl (cZ, 48, .inl si)), (mn, .inl (cJ, 6, .inr (.inl nu)))]) (va_A [(hm, .inr (2, [.int (nI 0), .ref ml, .ref mw, .ref mb, .ref ms, .ref mn])), (ml, .inl (cI, 8, .inl ln)), (mw, .inl (cI, 512, .inl wh)), (mb, .inl (cI, 48, .inl bi)), (ms, .inl (cZ, 48, .inl si)), (mn, .inl (cJ, 6, .inr (.inl nu)))] sz)) 0 0 (va_A [(hm, .inr (2, [.int (nI 0), .ref ml, .ref mw, .ref mb, .ref ms, .ref mn])), (ml, .inl (cI, 8, .inl ln)), (mw, .inl (cI, 512, .inl wh)), (mb, .inl (cI, 48, .inl bi)), (ms, .inl (cZ, 48, .inl si)), (mn, .inl (cJ, 6, .inr (.inl nu)))] sz) := by
  refine Met.ofW (cc := cM_fails) (maxL := 3) (ret := (some .boolean)) (by decide) rfl ?_
  intro p e s m args below meth c s₁ B hml hv
  obtain ⟨rfl, hsz, hP, hK, hD0⟩ := hv
  have hx := B.exec
  have hb := B.bytes
  have hr := B.returns
  have hts := atoms_spec (ws := wM_fails) B.pre
  have hw : ∀ w ∈ wA, w.before _ s = true := fun w h => hts w (List.mem_cons_of_mem _ h)
  have hown : s.vm.findClass RM = some m.cls := findClass_of_methodNamed B.named
  have hlocks := B.notSynchronized
  subst hsz
  have hD := hD0.self (sz := s.heap.size)
  generalize hAe : va_A [(hm, .inr (2, [.int (nI 0), .ref ml, .ref mw, .ref mb, .ref ms, .ref mn])), (ml, .inl (cI, 8, .inl ln)), (mw, .inl (cI, 512, .inl wh)), (mb, .inl (cI, 48, .inl bi)), (ms, .inl (cZ, 48, .inl si)), (mn, .inl (cJ, 6, .inr (.inl nu)))] s.heap.size = A at hD ⊢
  have hA : ∀ q : Nat, s.heap.size ≤ q → A q := fun q h => by rw [← hAe]; exact Or.inr h
  have hS : va_S A s.heap s.heap [] := va_S.rf
  have hl := lv_entry ([.ref hm, .int (nI 0), .int (nI cd)]) (n := 3) (Nat.le_of_ble_eq_true rfl)
  rw [lg_entry_eq]
  generalize (lg_sl ([.ref hm, .int (nI 0), .int (nI cd)]) ++ List.replicate (3 - (lg_sl ([.ref hm, .int (nI 0), .int (nI cd)])).length) Slot.unset).toArray = ls at hl ⊢
  have hl : lv_has ls 3 [(0, .ref hm), (1, .int (nI 0)), (2, .int (nI cd))] := hl
  refine lv_iload_n hx hb dM_fails_0 rfl (lv_at hl 1 rfl) ?_
  refine lv_if_eq (tgt := 16) hx hb dM_fails_1 (by decide) (fun h1 => ?_) (fun h1 => ?_)
  · refine lv_aload_n hx hb dM_fails_16 rfl (lv_at hl 0 rfl) ?_
    refine va_get (D := (dC, dI)) (ci := 2) (v := .int (nI 0)) (C := RM) (T := TM) (N := 6) hx hb hw inM hown hK hP 0 rfl rfl 0 (by decide) (hw _ kw_386) (fun _ h9 => h9) rfl dM_fails_17 ?_
    refine lv_if_eq (tgt := 27) hx hb dM_fails_20 (by decide) (fun h20 => ?_) (fun h20 => ?_)
    · refine lv_iconst (v := nI 0) hx hb dM_fails_27 (by decide +kernel) ?_
      exact W.zret (v := nI 0) hx hb hr (by first | exact b_nar _ | decide +kernel) (fun t ht hW => ⟨⟨_, (), rfl, (rfl), by rw [ht]; exact hP, va_K.moved hW.alike hK, hD⟩, hS.F ht⟩) hS.2.2 dM_fails_28
    · exfalso
      first | exact h20 (by decide +kernel) | exact absurd h20 (by decide +kernel)
  · exfalso
    first | exact h1 (by decide +kernel) | exact absurd h1 (by decide +kernel)

set_option maxHeartbeats 4000000 in
set_option maxRecDepth 100000 in
theorem c_M_clear (l : Launch) (dC : Nat → ClassId) (dI : Nat → Nat → Nat) (sz : Nat) (cI cZ cJ : ClassId) (hm ml mw mb ms mn : Nat) (er : Int32) (ln wh bi si : Nat → Int32) (nu : Nat → Int64) (ns : Nat → Nat) (its wss : Nat → Nat → Nat) (sbs : Nat → Nat → Bool) (hM : mR ns its wss sbs ln wh bi si) (x : Int32) : Met l yM_clear wM_clear { frames := 2, cells := 0, slots := 0, locals := 45 } (rw_Pc (dC, dI) cls3 [(hm, .inr (2, [.int er, .ref ml, .ref mw, .ref mb, .ref ms, .ref mn])), (ml, .inl (cI, 8, .inl ln)), (mw, .inl (cI, 512, .inl wh)), (mb, .inl (cI, 48, .inl bi)), (ms, .inl (cZ, 48, .inl si)), (mn, .inl (cJ, 6, .inr (.inl nu)))] [(cI, .int), (cZ, .boolean), (cJ, .long)] sz [.ref hm, .int x]) (va_Qv (fun _ : Unit => True) (fun _ t => ∃ ln' bi' : Nat → Int32, mR (stp (cdClear x) (va_up ns (fi x) 0) ns) its (stp (cdClear x) (va_up wss (fi x) (fun _ => 0)) wss) sbs ln' wh bi' si ∧ va_P (dC, dI) cls3 [(hm, .inr (2, [.int (nI (cdClear x)), .ref ml, .ref mw, .ref mb, .ref ms, .ref mn])), (ml, .inl (cI, 8, .inl ln')), (mw, .inl (cI, 512, .inl wh)), (mb, .inl (cI, 48, .inl bi')), (ms, .inl (cZ, 48, .inl si)), (mn, .inl (cJ, 6, .inr (.inl nu)))] t.heap ∧ va_K (dC, dI) cls3 [(cI, .int), (cZ, .boolean), (cJ, .long)] t ∧ va_D (va_A [(hm, .inr (2, [.int er, .ref ml, .ref mw, .ref mb, .ref ms, .ref mn])), (ml, .inl (cI, 8, .inl ln)), (mw, .inl (cI, 512, .inl wh)), (mb, .inl (cI, 48, .inl bi)), (ms, .inl (cZ, 48, .inl si)), (mn, .inl (cJ, 6, .inr (.inl nu)))] sz) [(hm, .inr (2, [.int (nI (cdClear x)), .ref ml, .ref mw, .ref mb, .ref ms, .ref mn])), (ml, .inl (cI, 8, .inl ln')), (mw, .inl (cI, 512, .inl wh)), (mb, .inl (cI, 48, .inl bi')), (ms, .inl (cZ, 48, .inl si)), (mn, .inl (cJ, 6, .inr (.inl nu)))]) (va_A [(hm, .inr (2, [.int er, .ref ml, .ref mw, .ref mb, .ref ms, .ref mn])), (ml, .inl (cI, 8, .inl ln)), (mw, .inl (cI, 512, .inl wh)), (mb, .inl (cI, 48, .inl bi)), (ms, .inl (cZ, 48, .inl si)), (mn, .inl (cJ, 6, .inr (.inl nu)))] sz)) 0 0 (va_A [(hm, .inr (2, [.int er, .ref ml, .ref mw, .ref mb, .ref ms, .ref mn])), (ml, .inl (cI, 8, .inl ln)), (mw, .inl (cI, 512, .inl wh)), (mb, .inl (cI, 48, .inl bi)), (ms, .inl (cZ, 48, .inl si)), (mn, .inl (cJ, 6, .inr (.inl nu)))] sz) := by
  refine Met.ofW (cc := cM_clear) (maxL := 3) (ret := none) (by decide) rfl ?_
  intro p e s m args below meth c s₁ B hml hv
  obtain ⟨rfl, hsz, hP, hK, hD0⟩ := hv
  have hx := B.exec
  have hb := B.bytes
  have hr := B.returns
  have hts := atoms_spec (ws := wM_clear) B.pre
  have hw : ∀ w ∈ wA, w.before _ s = true := fun w h => hts w (List.mem_cons_of_mem _ h)
  have hown : s.vm.findClass RM = some m.cls := findClass_of_methodNamed B.named
  have hlocks := B.notSynchronized
  subst hsz
  have hD := hD0.self (sz := s.heap.size)
  generalize hAe : va_A [(hm, .inr (2, [.int er, .ref ml, .ref mw, .ref mb, .ref ms, .ref mn])), (ml, .inl (cI, 8, .inl ln)), (mw, .inl (cI, 512, .inl wh)), (mb, .inl (cI, 48, .inl bi)), (ms, .inl (cZ, 48, .inl si)), (mn, .inl (cJ, 6, .inr (.inl nu)))] s.heap.size = A at hD ⊢
  have hA : ∀ q : Nat, s.heap.size ≤ q → A q := fun q h => by rw [← hAe]; exact Or.inr h
  have hS : va_S A s.heap s.heap [] := va_S.rf
  have hl := lv_entry ([.ref hm, .int x]) (n := 3) (Nat.le_of_ble_eq_true rfl)
  rw [lg_entry_eq]
  generalize (lg_sl ([.ref hm, .int x]) ++ List.replicate (3 - (lg_sl ([.ref hm, .int x])).length) Slot.unset).toArray = ls at hl ⊢
  have hl : lv_has ls 3 [(0, .ref hm), (1, .int x)] := hl
  refine lv_aload_n hx hb dM_clear_0 rfl (lv_at hl 0 rfl) ?_
  refine lv_iconst (v := nI 0) hx hb dM_clear_1 (by decide +kernel) ?_
  refine va_put (D := (dC, dI)) (ci := 2) (v := .int (nI 0)) (ty := .int) (C := RM) (T := TM) (N := 6) hx hb hw inM tM tM_ok nM hown hK hP hD hS 0 rfl rfl 0 (by decide) (hw _ kw_386) (fun _ h9 => h9) rfl (by decide +kernel) rfl rfl (Nat.le_of_ble_eq_true rfl) dM_clear_2 (fun H locs hP hD hS => ?_)
  have hP : va_P (dC, dI) cls3 [(hm, .inr (2, [.int (nI 0), .ref ml, .ref mw, .ref mb, .ref ms, .ref mn])), (ml, .inl (cI, 8, .inl ln)), (mw, .inl (cI, 512, .inl wh)), (mb, .inl (cI, 48, .inl bi)), (ms, .inl (cZ, 48, .inl si)), (mn, .inl (cJ, 6, .inr (.inl nu)))] H := hP
  have hD : va_D A [(hm, .inr (2, [.int (nI 0), .ref ml, .ref mw, .ref mb, .ref ms, .ref mn])), (ml, .inl (cI, 8, .inl ln)), (mw, .inl (cI, 512, .inl wh)), (mb, .inl (cI, 48, .inl bi)), (ms, .inl (cZ, 48, .inl si)), (mn, .inl (cJ, 6, .inr (.inl nu)))] := hD
  refine lv_aload_n hx hb dM_clear_5 rfl (lv_at hl 0 rfl) ?_
  refine lv_iload_n hx hb dM_clear_6 rfl (lv_at hl 1 rfl) ?_
  refine vp_callSi (W.runS (As := [.int x]) (rest := [.ref hm]) ⟨hx, hb, hml, hown, hw⟩ (c_M_isForm l x) (cwS 1 hw (gS kw_413 kw_414 kw_16 kw_415) rfl rfl rfl (by decide +kernel) ⟨Nat.le_of_ble_eq_true rfl, Nat.le_of_ble_eq_true rfl⟩) preEq rfl rfl hl.1 rfl (lv_room (Nat.le_of_ble_eq_true rfl)) dM_clear_7 ⟨Nat.zero_le _, Nat.zero_le _⟩) (fun v7 e7 => ?_)
  obtain rfl : v7 = nI (isF x).toNat := e7
  refine lv_if_ne (tgt := 17) hx hb dM_clear_10 (by decide) (fun h10 => ?_) (fun h10 => ?_)
  · obtain ⟨f, hf, rfl⟩ := isF_of (b_nf h10)
    have hfi : fi (nI f) = f := fi_nI (by omega)
    have hok := (hM f hf).1
    have hn := hok.1
    have hw64 := hok.2.1
    have hit := cw_it hok
    refine lv_iconst (v := nI 0) hx hb dM_clear_17 (by decide +kernel) ?_
    refine lv_iconst (v := nI 1) hx hb dM_clear_18 (by decide +kernel) ?_
    have hPc := hP.sub (ws' := [(hm, .inr (2, [.int (nI 0), .ref ml, .ref mw, .ref mb, .ref ms, .ref mn])), (ml, .inl (cI, 8, .inl ln)), (mw, .inl (cI, 512, .inl wh)), (mb, .inl (cI, 48, .inl bi)), (ms, .inl (cZ, 48, .inl si)), (mn, .inl (cJ, 6, .inr (.inl nu)))]) [0, 1, 2, 3, 4, 5] rfl
    have hDc := hD.sub (ws' := [(hm, .inr (2, [.int (nI 0), .ref ml, .ref mw, .ref mb, .ref ms, .ref mn])), (ml, .inl (cI, 8, .inl ln)), (mw, .inl (cI, 512, .inl wh)), (mb, .inl (cI, 48, .inl bi)), (ms, .inl (cZ, 48, .inl si)), (mn, .inl (cJ, 6, .inr (.inl nu)))]) [0, 1, 2, 3, 4, 5] (by decide) rfl
    have hKc := hK.sub (tys' := [(cI, .int), (cZ, .boolean), (cJ, .long)]) [0, 1, 2] rfl
    have hFc := va_free (wc := [(hm, .inr (2, [.int (nI 0), .ref ml, .ref mw, .ref mb, .ref ms, .ref mn])), (ml, .inl (cI, 8, .inl ln)), (mw, .inl (cI, 512, .inl wh)), (mb, .inl (cI, 48, .inl bi)), (ms, .inl (cZ, 48, .inl si)), (mn, .inl (cJ, 6, .inr (.inl nu)))]) hD hS hA [0, 1, 2, 3, 4, 5] rfl
    refine va_calli (va_runV (As := [.int (nI 0), .int (nI 1)]) (rest := []) ⟨hx, hb, hml, hown, hw⟩ (c_M_fails0 l dC dI _ cI cZ cJ hm ml mw mb ms mn ln wh bi si nu 1 (by decide)) (cwV 2 hw (gV kw_420 kw_422 kw_5 kw_16 kw_423) rfl rfl rfl (by decide +kernel) ⟨Nat.le_of_ble_eq_true rfl, Nat.le_of_ble_eq_true rfl⟩) (rw_preV (q0 := 0) hKc hPc hDc rfl rfl) rfl rfl hl.1 rfl (lv_room (Nat.le_of_ble_eq_true rfl)) dM_clear_19 ⟨Nat.zero_le _, Nat.zero_le _⟩) hS (fun q _ h => hFc q h) hFc (fun v19 u t H1 locs ht hvm e19 hB hz1 hk1 hS => ?_)
    obtain ⟨hP1, hK1, hD1⟩ := hB
    rw [ht] at hP1
    obtain ⟨hP, hD⟩ := va_join (wr := []) (w1 := [(hm, .inr (2, [.int (nI 0), .ref ml, .ref mw, .ref mb, .ref ms, .ref mn])), (ml, .inl (cI, 8, .inl ln)), (mw, .inl (cI, 512, .inl wh)), (mb, .inl (cI, 48, .inl bi)), (ms, .inl (cZ, 48, .inl si)), (mn, .inl (cJ, 6, .inr (.inl nu)))]) hP hD [0, 1, 2, 3, 4, 5] [] rfl rfl (by decide) (by decide) hk1 hFc hP1 hD1
    generalize H1 = H at hP hS ⊢
    have hP : va_P (dC, dI) cls3 [(hm, .inr (2, [.int (nI 0), .ref ml, .ref mw, .ref mb, .ref ms, .ref mn])), (ml, .inl (cI, 8, .inl ln)), (mw, .inl (cI, 512, .inl wh)), (mb, .inl (cI, 48, .inl bi)), (ms, .inl (cZ, 48, .inl si)), (mn, .inl (cJ, 6, .inr (.inl nu)))] H := hP
    have hD : va_D A [(hm, .inr (2, [.int (nI 0), .ref ml, .ref mw, .ref mb, .ref ms, .ref mn])), (ml, .inl (cI, 8, .inl ln)), (mw, .inl (cI, 512, .inl wh)), (mb, .inl (cI, 48, .inl bi)), (ms, .inl (cZ, 48, .inl si)), (mn, .inl (cJ, 6, .inr (.inl nu)))] := hD
    obtain rfl : v19 = nI 0 := e19
    refine lv_if_eq (tgt := 26) hx hb dM_clear_22 (by decide) (fun h22 => ?_) (fun h22 => ?_)
    · refine lv_aload_n hx hb dM_clear_26 rfl (lv_at hl 0 rfl) ?_
      refine va_get (D := (dC, dI)) (ci := 2) (v := .ref ml) (C := RM) (T := TM) (N := 6) hx hb hw inM hown hK hP 0 rfl rfl 1 (by decide) (hw _ kw_387) (fun _ h9 => h9) rfl dM_clear_27 ?_
      refine lv_iload_n hx hb dM_clear_30 rfl (lv_at hl 1 rfl) ?_
      refine lv_iconst (v := nI 0) hx hb dM_clear_31 (by decide +kernel) ?_
      refine va_iast hx hb hK hP hD hS 1 0 rfl rfl (vp_in_nI (by omega) (by decide)) dM_clear_32 (fun H locs hP hD hS => ?_)
      rw [show (nI f).toNatClampNeg = f from nI_clamp (by omega)] at hP hD
      have hP : va_P (dC, dI) cls3 [(hm, .inr (2, [.int (nI 0), .ref ml, .ref mw, .ref mb, .ref ms, .ref mn])), (ml, .inl (cI, 8, .inl (upd ln f (nI 0)))), (mw, .inl (cI, 512, .inl wh)), (mb, .inl (cI, 48, .inl bi)), (ms, .inl (cZ, 48, .inl si)), (mn, .inl (cJ, 6, .inr (.inl nu)))] H := hP
      have hD : va_D A [(hm, .inr (2, [.int (nI 0), .ref ml, .ref mw, .ref mb, .ref ms, .ref mn])), (ml, .inl (cI, 8, .inl (upd ln f (nI 0)))), (mw, .inl (cI, 512, .inl wh)), (mb, .inl (cI, 48, .inl bi)), (ms, .inl (cZ, 48, .inl si)), (mn, .inl (cJ, 6, .inr (.inl nu)))] := hD
      refine lv_iconst (v := nI 0) hx hb dM_clear_33 (by decide +kernel) ?_
      refine lv_istore_n hx hb dM_clear_34 rfl hl (by decide) rfl (fun ls hl => ?_)
      have hl : lv_has ls 3 [(2, .int (nI 0)), (0, .ref hm), (1, .int (nI f))] := hl
      refine (?_ : ∀ (kk : Nat) (i : Nat) (g : Nat → Int32) (H : Heap) (locs : List Loc) (ls : Array Slot), kk = 6 - i → lv_has ls 3 [(2, .int (nI i)), (0, .ref hm), (1, .int (nI f))] → (i ≤ 6) → (∀ q, q < i → g (6 * f + q) = nI 0) → (∀ e1 q, e1 < 8 → e1 ≠ f → q < 6 → g (6 * e1 + q) = bi (6 * e1 + q)) → va_P (dC, dI) cls3 [(hm, .inr (2, [.int (nI 0), .ref ml, .ref mw, .ref mb, .ref ms, .ref mn])), (ml, .inl (cI, 8, .inl (upd ln f (nI 0)))), (mw, .inl (cI, 512, .inl wh)), (mb, .inl (cI, 48, .inl g)), (ms, .inl (cZ, 48, .inl si)), (mn, .inl (cJ, 6, .inr (.inl nu)))] H → va_D A [(hm, .inr (2, [.int (nI 0), .ref ml, .ref mw, .ref mb, .ref ms, .ref mn])), (ml, .inl (cI, 8, .inl (upd ln f (nI 0)))), (mw, .inl (cI, 512, .inl wh)), (mb, .inl (cI, 48, .inl g)), (ms, .inl (cZ, 48, .inl si)), (mn, .inl (cJ, 6, .inr (.inl nu)))] → va_S A s.heap H locs → W p l e _ s m _ below meth c H locs _ _ _ (F0 m 35 ls [])) _ 0 bi _ _ ls rfl (lv_sub hl [0, 1, 2] rfl) (by omega) (fun q hq => by omega) (fun _ _ _ _ _ => rfl) hP hD hS
      intro kk
      induction kk using Nat.strongRecOn with
      | ind kk35 ih35 =>
        intro i g H locs ls hkk35 hl hi hz hy hP hD hS
        refine lv_iload_n hx hb dM_clear_35 rfl (lv_at hl 0 rfl) ?_
        refine lv_bipush (v := nI 6) hx hb dM_clear_36 (by decide +kernel) ?_
        refine lv_icmp_ge (tgt := 59) hx hb dM_clear_38 (by decide) (fun h38 => ?_) (fun h38 => ?_)
        · rw [nI_leI (by omega) (by omega)] at h38
          have hcd : cdClear (nI f) = 0 := by unfold cdClear; first | (rw [h10]; rfl) | (rw [isF_nI hf]; rfl)
          exact W.vret hx hb hr (fun t ht hW => ⟨⟨(), rfl, trivial, _, g, by rw [hcd, hfi]; exact mR_clear hM hf (fun q hq => hz q (by omega)) hy, by rw [ht, hcd]; exact hP, va_K.moved hW.alike hK, by rw [hcd]; exact hD⟩, hS.F ht⟩) hS.2.2 dM_clear_59
        · rw [nI_leI (by omega) (by omega)] at h38
          refine lv_aload_n hx hb dM_clear_41 rfl (lv_at hl 1 rfl) ?_
          refine va_get (D := (dC, dI)) (ci := 2) (v := .ref mb) (C := RM) (T := TM) (N := 6) hx hb hw inM hown hK hP 0 rfl rfl 3 (by decide) (hw _ kw_389) (fun _ h9 => h9) rfl dM_clear_42 ?_
          refine lv_bipush (v := nI 6) hx hb dM_clear_45 (by decide +kernel) ?_
          refine lv_iload_n hx hb dM_clear_47 rfl (lv_at hl 2 rfl) ?_
          refine lv_imul hx hb dM_clear_48 ?_
          refine lv_topi (fun v48 e48 => ?_)
          obtain rfl : v48 = nI (6 * f) := e48.trans (pk_mul _ _)
          refine lv_iload_n hx hb dM_clear_49 rfl (lv_at hl 0 rfl) ?_
          refine lv_iadd hx hb dM_clear_50 ?_
          refine lv_topi (fun v50 e50 => ?_)
          obtain rfl : v50 = nI (6 * f + i) := e50.trans (nI_add _ _)
          refine lv_iconst (v := nI 0) hx hb dM_clear_51 (by decide +kernel) ?_
          refine va_iast hx hb hK hP hD hS 3 0 rfl rfl (vp_in_nI (by omega) (by decide)) dM_clear_52 (fun H locs hP hD hS => ?_)
          rw [show (nI (6 * f + i)).toNatClampNeg = (6 * f + i) from nI_clamp (by omega)] at hP hD
          have hP : va_P (dC, dI) cls3 [(hm, .inr (2, [.int (nI 0), .ref ml, .ref mw, .ref mb, .ref ms, .ref mn])), (ml, .inl (cI, 8, .inl (upd ln f (nI 0)))), (mw, .inl (cI, 512, .inl wh)), (mb, .inl (cI, 48, .inl (upd g (6 * f + i) (nI 0)))), (ms, .inl (cZ, 48, .inl si)), (mn, .inl (cJ, 6, .inr (.inl nu)))] H := hP
          have hD : va_D A [(hm, .inr (2, [.int (nI 0), .ref ml, .ref mw, .ref mb, .ref ms, .ref mn])), (ml, .inl (cI, 8, .inl (upd ln f (nI 0)))), (mw, .inl (cI, 512, .inl wh)), (mb, .inl (cI, 48, .inl (upd g (6 * f + i) (nI 0)))), (ms, .inl (cZ, 48, .inl si)), (mn, .inl (cJ, 6, .inr (.inl nu)))] := hD
          refine lv_iinc (k := 0) (v := nI (i + 1)) hx hb dM_clear_53 hl rfl (cw_inc _) (by decide) rfl (fun ls hl => ?_)
          have hl : lv_has ls 3 [(2, .int (nI (i + 1))), (0, .ref hm), (1, .int (nI f))] := hl
          refine lv_goto (tgt := 35) hx hb dM_clear_56 (by decide) ?_
          exact ih35 _ (by omega) (i + 1) (upd g (6 * f + i) (nI 0)) _ _ ls rfl (lv_sub (l' := [(2, .int (nI (i + 1))), (0, .ref hm), (1, .int (nI f))]) hl [0, 1, 2] rfl) (by omega) (fun q hq => by (by_cases e9 : q = i); (· subst e9; exact pk_us); (· rw [pk_un (by omega)]; exact hz q (by omega))) (fun e1 q h1 h2 h3 => by rw [pk_un (by omega)]; exact hy e1 q h1 h2 h3) hP hD hS
    · exfalso
      first | exact h22 (by decide +kernel) | exact absurd h22 (by decide +kernel)
  · rw [b_nat0] at h10
    refine lv_iconst (v := nI 1) hx hb dM_clear_13 (by decide +kernel) ?_
    refine lv_goto (tgt := 18) hx hb dM_clear_14 (by decide) ?_
    refine lv_iconst (v := nI 1) hx hb dM_clear_18 (by decide +kernel) ?_
    have hPc := hP.sub (ws' := [(hm, .inr (2, [.int (nI 0), .ref ml, .ref mw, .ref mb, .ref ms, .ref mn])), (ml, .inl (cI, 8, .inl ln)), (mw, .inl (cI, 512, .inl wh)), (mb, .inl (cI, 48, .inl bi)), (ms, .inl (cZ, 48, .inl si)), (mn, .inl (cJ, 6, .inr (.inl nu)))]) [0, 1, 2, 3, 4, 5] rfl
    have hDc := hD.sub (ws' := [(hm, .inr (2, [.int (nI 0), .ref ml, .ref mw, .ref mb, .ref ms, .ref mn])), (ml, .inl (cI, 8, .inl ln)), (mw, .inl (cI, 512, .inl wh)), (mb, .inl (cI, 48, .inl bi)), (ms, .inl (cZ, 48, .inl si)), (mn, .inl (cJ, 6, .inr (.inl nu)))]) [0, 1, 2, 3, 4, 5] (by decide) rfl
    have hKc := hK.sub (tys' := [(cI, .int), (cZ, .boolean), (cJ, .long)]) [0, 1, 2] rfl
    have hFc := va_free (wc := [(hm, .inr (2, [.int (nI 0), .ref ml, .ref mw, .ref mb, .ref ms, .ref mn])), (ml, .inl (cI, 8, .inl ln)), (mw, .inl (cI, 512, .inl wh)), (mb, .inl (cI, 48, .inl bi)), (ms, .inl (cZ, 48, .inl si)), (mn, .inl (cJ, 6, .inr (.inl nu)))]) hD hS hA [0, 1, 2, 3, 4, 5] rfl
    refine va_calli (va_runV (As := [.int (nI 1), .int (nI 1)]) (rest := []) ⟨hx, hb, hml, hown, hw⟩ (c_M_fails1 l dC dI _ cI cZ cJ hm ml mw mb ms mn ln wh bi si nu 1 (by decide)) (cwV 2 hw (gV kw_420 kw_422 kw_5 kw_16 kw_423) rfl rfl rfl (by decide +kernel) ⟨Nat.le_of_ble_eq_true rfl, Nat.le_of_ble_eq_true rfl⟩) (rw_preV (q0 := 0) hKc hPc hDc rfl rfl) rfl rfl hl.1 rfl (lv_room (Nat.le_of_ble_eq_true rfl)) dM_clear_19 ⟨Nat.zero_le _, Nat.zero_le _⟩) hS (fun q _ h => hFc q h) hFc (fun v19 u t H1 locs ht hvm e19 hB hz1 hk1 hS => ?_)
    obtain ⟨hP1, hK1, hD1⟩ := hB
    rw [ht] at hP1
    obtain ⟨hP, hD⟩ := va_join (wr := []) (w1 := [(hm, .inr (2, [.int (nI 1), .ref ml, .ref mw, .ref mb, .ref ms, .ref mn])), (ml, .inl (cI, 8, .inl ln)), (mw, .inl (cI, 512, .inl wh)), (mb, .inl (cI, 48, .inl bi)), (ms, .inl (cZ, 48, .inl si)), (mn, .inl (cJ, 6, .inr (.inl nu)))]) hP hD [0, 1, 2, 3, 4, 5] [] rfl rfl (by decide) (by decide) hk1 hFc hP1 hD1
    generalize H1 = H at hP hS ⊢
    have hP : va_P (dC, dI) cls3 [(hm, .inr (2, [.int (nI 1), .ref ml, .ref mw, .ref mb, .ref ms, .ref mn])), (ml, .inl (cI, 8, .inl ln)), (mw, .inl (cI, 512, .inl wh)), (mb, .inl (cI, 48, .inl bi)), (ms, .inl (cZ, 48, .inl si)), (mn, .inl (cJ, 6, .inr (.inl nu)))] H := hP
    have hD : va_D A [(hm, .inr (2, [.int (nI 1), .ref ml, .ref mw, .ref mb, .ref ms, .ref mn])), (ml, .inl (cI, 8, .inl ln)), (mw, .inl (cI, 512, .inl wh)), (mb, .inl (cI, 48, .inl bi)), (ms, .inl (cZ, 48, .inl si)), (mn, .inl (cJ, 6, .inr (.inl nu)))] := hD
    obtain rfl : v19 = nI 1 := e19
    refine lv_if_eq (tgt := 26) hx hb dM_clear_22 (by decide) (fun h22 => ?_) (fun h22 => ?_)
    · exfalso
      first | exact h22 (by decide +kernel) | exact absurd h22 (by decide +kernel)
    · have hcd : cdClear x = 1 := by unfold cdClear; first | (rw [h10]; rfl) | (rw [isF_nI hf]; rfl)
      exact W.vret hx hb hr (fun t ht hW => ⟨⟨(), rfl, trivial, ln, bi, by rw [hcd]; exact hM, by rw [ht, hcd]; exact hP, va_K.moved hW.alike hK, by rw [hcd]; exact hD⟩, hS.F ht⟩) hS.2.2 dM_clear_25

set_option maxHeartbeats 4000000 in
set_option maxRecDepth 100000 in
theorem c_M_operand (l : Launch) (dC : Nat → ClassId) (dI : Nat → Nat → Nat) (sz : Nat) (cI cZ cJ : ClassId) (hm ml mw mb ms mn : Nat) (er : Int32) (ln wh bi si : Nat → Int32) (nu : Nat → Int64) (ns : Nat → Nat) (its wss : Nat → Nat → Nat) (sbs : Nat → Nat → Bool) (hM : mR ns its wss sbs ln wh bi si) (x y z : Int32) (b : Bool) : Met l yM_operand wM_operand { frames := 2, cells := 0, slots := 0, locals := 45 } (rw_Pc (dC, dI) cls3 [(hm, .inr (2, [.int er, .ref ml, .ref mw, .ref mb, .ref ms, .ref mn])), (ml, .inl (cI, 8, .inl ln)), (mw, .inl (cI, 512, .inl wh)), (mb, .inl (cI, 48, .inl bi)), (ms, .inl (cZ, 48, .inl si)), (mn, .inl (cJ, 6, .inr (.inl nu)))] [(cI, .int), (cZ, .boolean), (cJ, .long)] sz [.ref hm, .int x, .int y, .int z, .int (nI b.toNat)]) (va_Qv (fun _ : Unit => True) (fun _ t => ∃ bi' si' : Nat → Int32, mR ns its (stp (cdOper wss x y z) (va_up wss (fi x) (va_up (wss (fi x)) (fi y) (fi z))) wss) (stp (cdOper wss x y z) (va_up sbs (fi x) (va_up (sbs (fi x)) (fi y) b)) sbs) ln wh bi' si' ∧ va_P (dC, dI) cls3 [(hm, .inr (2, [.int (nI (cdOper wss x y z)), .ref ml, .ref mw, .ref mb, .ref ms, .ref mn])), (ml, .inl (cI, 8, .inl ln)), (mw, .inl (cI, 512, .inl wh)), (mb, .inl (cI, 48, .inl bi')), (ms, .inl (cZ, 48, .inl si')), (mn, .inl (cJ, 6, .inr (.inl nu)))] t.heap ∧ va_K (dC, dI) cls3 [(cI, .int), (cZ, .boolean), (cJ, .long)] t ∧ va_D (va_A [(hm, .inr (2, [.int er, .ref ml, .ref mw, .ref mb, .ref ms, .ref mn])), (ml, .inl (cI, 8, .inl ln)), (mw, .inl (cI, 512, .inl wh)), (mb, .inl (cI, 48, .inl bi)), (ms, .inl (cZ, 48, .inl si)), (mn, .inl (cJ, 6, .inr (.inl nu)))] sz) [(hm, .inr (2, [.int (nI (cdOper wss x y z)), .ref ml, .ref mw, .ref mb, .ref ms, .ref mn])), (ml, .inl (cI, 8, .inl ln)), (mw, .inl (cI, 512, .inl wh)), (mb, .inl (cI, 48, .inl bi')), (ms, .inl (cZ, 48, .inl si')), (mn, .inl (cJ, 6, .inr (.inl nu)))]) (va_A [(hm, .inr (2, [.int er, .ref ml, .ref mw, .ref mb, .ref ms, .ref mn])), (ml, .inl (cI, 8, .inl ln)), (mw, .inl (cI, 512, .inl wh)), (mb, .inl (cI, 48, .inl bi)), (ms, .inl (cZ, 48, .inl si)), (mn, .inl (cJ, 6, .inr (.inl nu)))] sz)) 0 0 (va_A [(hm, .inr (2, [.int er, .ref ml, .ref mw, .ref mb, .ref ms, .ref mn])), (ml, .inl (cI, 8, .inl ln)), (mw, .inl (cI, 512, .inl wh)), (mb, .inl (cI, 48, .inl bi)), (ms, .inl (cZ, 48, .inl si)), (mn, .inl (cJ, 6, .inr (.inl nu)))] sz) := by
  refine Met.ofW (cc := cM_operand) (maxL := 5) (ret := none) (by decide) rfl ?_
  intro p e s m args below meth c s₁ B hml hv
  obtain ⟨rfl, hsz, hP, hK, hD0⟩ := hv
  have hx := B.exec
  have hb := B.bytes
  have hr := B.returns
  have hts := atoms_spec (ws := wM_operand) B.pre
  have hw : ∀ w ∈ wA, w.before _ s = true := fun w h => hts w (List.mem_cons_of_mem _ h)
  have hown : s.vm.findClass RM = some m.cls := findClass_of_methodNamed B.named
  have hlocks := B.notSynchronized
  subst hsz
  have hD := hD0.self (sz := s.heap.size)
  generalize hAe : va_A [(hm, .inr (2, [.int er, .ref ml, .ref mw, .ref mb, .ref ms, .ref mn])), (ml, .inl (cI, 8, .inl ln)), (mw, .inl (cI, 512, .inl wh)), (mb, .inl (cI, 48, .inl bi)), (ms, .inl (cZ, 48, .inl si)), (mn, .inl (cJ, 6, .inr (.inl nu)))] s.heap.size = A at hD ⊢
  have hA : ∀ q : Nat, s.heap.size ≤ q → A q := fun q h => by rw [← hAe]; exact Or.inr h
  have hS : va_S A s.heap s.heap [] := va_S.rf
  have hl := lv_entry ([.ref hm, .int x, .int y, .int z, .int (nI b.toNat)]) (n := 5) (Nat.le_of_ble_eq_true rfl)
  rw [lg_entry_eq]
  generalize (lg_sl ([.ref hm, .int x, .int y, .int z, .int (nI b.toNat)]) ++ List.replicate (5 - (lg_sl ([.ref hm, .int x, .int y, .int z, .int (nI b.toNat)])).length) Slot.unset).toArray = ls at hl ⊢
  have hl : lv_has ls 5 [(0, .ref hm), (1, .int x), (2, .int y), (3, .int z), (4, .int (nI b.toNat))] := hl
  refine lv_aload_n hx hb dM_operand_0 rfl (lv_at hl 0 rfl) ?_
  refine lv_iconst (v := nI 0) hx hb dM_operand_1 (by decide +kernel) ?_
  refine va_put (D := (dC, dI)) (ci := 2) (v := .int (nI 0)) (ty := .int) (C := RM) (T := TM) (N := 6) hx hb hw inM tM tM_ok nM hown hK hP hD hS 0 rfl rfl 0 (by decide) (hw _ kw_386) (fun _ h9 => h9) rfl (by decide +kernel) rfl rfl (Nat.le_of_ble_eq_true rfl) dM_operand_2 (fun H locs hP hD hS => ?_)
  have hP : va_P (dC, dI) cls3 [(hm, .inr (2, [.int (nI 0), .ref ml, .ref mw, .ref mb, .ref ms, .ref mn])), (ml, .inl (cI, 8, .inl ln)), (mw, .inl (cI, 512, .inl wh)), (mb, .inl (cI, 48, .inl bi)), (ms, .inl (cZ, 48, .inl si)), (mn, .inl (cJ, 6, .inr (.inl nu)))] H := hP
  have hD : va_D A [(hm, .inr (2, [.int (nI 0), .ref ml, .ref mw, .ref mb, .ref ms, .ref mn])), (ml, .inl (cI, 8, .inl ln)), (mw, .inl (cI, 512, .inl wh)), (mb, .inl (cI, 48, .inl bi)), (ms, .inl (cZ, 48, .inl si)), (mn, .inl (cJ, 6, .inr (.inl nu)))] := hD
  refine lv_aload_n hx hb dM_operand_5 rfl (lv_at hl 0 rfl) ?_
  refine lv_iload_n hx hb dM_operand_6 rfl (lv_at hl 1 rfl) ?_
  refine vp_callSi (W.runS (As := [.int x]) (rest := [.ref hm]) ⟨hx, hb, hml, hown, hw⟩ (c_M_isForm l x) (cwS 1 hw (gS kw_413 kw_414 kw_16 kw_415) rfl rfl rfl (by decide +kernel) ⟨Nat.le_of_ble_eq_true rfl, Nat.le_of_ble_eq_true rfl⟩) preEq rfl rfl hl.1 rfl (lv_room (Nat.le_of_ble_eq_true rfl)) dM_operand_7 ⟨Nat.zero_le _, Nat.zero_le _⟩) (fun v7 e7 => ?_)
  obtain rfl : v7 = nI (isF x).toNat := e7
  refine lv_if_eq (tgt := 32) hx hb dM_operand_10 (by decide) (fun h10 => ?_) (fun h10 => ?_)
  · rw [b_nat0] at h10
    refine lv_iconst (v := nI 1) hx hb dM_operand_32 (by decide +kernel) ?_
    refine lv_goto (tgt := 37) hx hb dM_operand_33 (by decide) ?_
    refine lv_iconst (v := nI 1) hx hb dM_operand_37 (by decide +kernel) ?_
    have hPc := hP.sub (ws' := [(hm, .inr (2, [.int (nI 0), .ref ml, .ref mw, .ref mb, .ref ms, .ref mn])), (ml, .inl (cI, 8, .inl ln)), (mw, .inl (cI, 512, .inl wh)), (mb, .inl (cI, 48, .inl bi)), (ms, .inl (cZ, 48, .inl si)), (mn, .inl (cJ, 6, .inr (.inl nu)))]) [0, 1, 2, 3, 4, 5] rfl
    have hDc := hD.sub (ws' := [(hm, .inr (2, [.int (nI 0), .ref ml, .ref mw, .ref mb, .ref ms, .ref mn])), (ml, .inl (cI, 8, .inl ln)), (mw, .inl (cI, 512, .inl wh)), (mb, .inl (cI, 48, .inl bi)), (ms, .inl (cZ, 48, .inl si)), (mn, .inl (cJ, 6, .inr (.inl nu)))]) [0, 1, 2, 3, 4, 5] (by decide) rfl
    have hKc := hK.sub (tys' := [(cI, .int), (cZ, .boolean), (cJ, .long)]) [0, 1, 2] rfl
    have hFc := va_free (wc := [(hm, .inr (2, [.int (nI 0), .ref ml, .ref mw, .ref mb, .ref ms, .ref mn])), (ml, .inl (cI, 8, .inl ln)), (mw, .inl (cI, 512, .inl wh)), (mb, .inl (cI, 48, .inl bi)), (ms, .inl (cZ, 48, .inl si)), (mn, .inl (cJ, 6, .inr (.inl nu)))]) hD hS hA [0, 1, 2, 3, 4, 5] rfl
    refine va_calli (va_runV (As := [.int (nI 1), .int (nI 1)]) (rest := []) ⟨hx, hb, hml, hown, hw⟩ (c_M_fails1 l dC dI _ cI cZ cJ hm ml mw mb ms mn ln wh bi si nu 1 (by decide)) (cwV 2 hw (gV kw_420 kw_422 kw_5 kw_16 kw_423) rfl rfl rfl (by decide +kernel) ⟨Nat.le_of_ble_eq_true rfl, Nat.le_of_ble_eq_true rfl⟩) (rw_preV (q0 := 0) hKc hPc hDc rfl rfl) rfl rfl hl.1 rfl (lv_room (Nat.le_of_ble_eq_true rfl)) dM_operand_38 ⟨Nat.zero_le _, Nat.zero_le _⟩) hS (fun q _ h => hFc q h) hFc (fun v38 u t H1 locs ht hvm e38 hB hz1 hk1 hS => ?_)
    obtain ⟨hP1, hK1, hD1⟩ := hB
    rw [ht] at hP1
    obtain ⟨hP, hD⟩ := va_join (wr := []) (w1 := [(hm, .inr (2, [.int (nI 1), .ref ml, .ref mw, .ref mb, .ref ms, .ref mn])), (ml, .inl (cI, 8, .inl ln)), (mw, .inl (cI, 512, .inl wh)), (mb, .inl (cI, 48, .inl bi)), (ms, .inl (cZ, 48, .inl si)), (mn, .inl (cJ, 6, .inr (.inl nu)))]) hP hD [0, 1, 2, 3, 4, 5] [] rfl rfl (by decide) (by decide) hk1 hFc hP1 hD1
    generalize H1 = H at hP hS ⊢
    have hP : va_P (dC, dI) cls3 [(hm, .inr (2, [.int (nI 1), .ref ml, .ref mw, .ref mb, .ref ms, .ref mn])), (ml, .inl (cI, 8, .inl ln)), (mw, .inl (cI, 512, .inl wh)), (mb, .inl (cI, 48, .inl bi)), (ms, .inl (cZ, 48, .inl si)), (mn, .inl (cJ, 6, .inr (.inl nu)))] H := hP
    have hD : va_D A [(hm, .inr (2, [.int (nI 1), .ref ml, .ref mw, .ref mb, .ref ms, .ref mn])), (ml, .inl (cI, 8, .inl ln)), (mw, .inl (cI, 512, .inl wh)), (mb, .inl (cI, 48, .inl bi)), (ms, .inl (cZ, 48, .inl si)), (mn, .inl (cJ, 6, .inr (.inl nu)))] := hD
    obtain rfl : v38 = nI 1 := e38
    refine lv_if_ne (tgt := 66) hx hb dM_operand_41 (by decide) (fun h41 => ?_) (fun h41 => ?_)
    · have hcd : cdOper wss x y z = 1 := by unfold cdOper; first | (rw [h10]; rfl) | (rw [isF_nI hf, h17]; rfl) | (rw [isF_nI hf, isO_nI ho, h29]; rfl) | (rw [isF_nI hf, isO_nI ho, isB_nI hk, hfi, hfo, Bool.true_and, Bool.true_and, if_pos rfl, if_pos (by omega)]) | (rw [isF_nI hf, isO_nI ho, isB_nI hk, hfi, hfo, Bool.true_and, Bool.true_and, if_pos rfl, if_neg (by omega)])
      exact W.vret hx hb hr (fun t ht hW => ⟨⟨(), rfl, trivial, bi, si, by rw [hcd]; exact hM, by rw [ht, hcd]; exact hP, va_K.moved hW.alike hK, by rw [hcd]; exact hD⟩, hS.F ht⟩) hS.2.2 dM_operand_66
    · exfalso
      first | exact h41 (by decide +kernel) | exact absurd h41 (by decide +kernel)
  · obtain ⟨f, hf, rfl⟩ := isF_of (b_nf h10)
    have hfi : fi (nI f) = f := fi_nI (by omega)
    have hok := (hM f hf).1
    have hn := hok.1
    have hw64 := hok.2.1
    have hit := cw_it hok
    refine lv_iload_n hx hb dM_operand_13 rfl (lv_at hl 2 rfl) ?_
    refine vp_callSi (W.runS (As := [.int y]) (rest := [.ref hm]) ⟨hx, hb, hml, hown, hw⟩ (c_M_isOperand l y) (cwS 1 hw (gS kw_428 kw_429 kw_16 kw_430) rfl rfl rfl (by decide +kernel) ⟨Nat.le_of_ble_eq_true rfl, Nat.le_of_ble_eq_true rfl⟩) preEq rfl rfl hl.1 rfl (lv_room (Nat.le_of_ble_eq_true rfl)) dM_operand_14 ⟨Nat.zero_le _, Nat.zero_le _⟩) (fun v14 e14 => ?_)
    obtain rfl : v14 = nI (isO y).toNat := e14
    refine lv_if_eq (tgt := 32) hx hb dM_operand_17 (by decide) (fun h17 => ?_) (fun h17 => ?_)
    · rw [b_nat0] at h17
      refine lv_iconst (v := nI 1) hx hb dM_operand_32 (by decide +kernel) ?_
      refine lv_goto (tgt := 37) hx hb dM_operand_33 (by decide) ?_
      refine lv_iconst (v := nI 1) hx hb dM_operand_37 (by decide +kernel) ?_
      have hPc := hP.sub (ws' := [(hm, .inr (2, [.int (nI 0), .ref ml, .ref mw, .ref mb, .ref ms, .ref mn])), (ml, .inl (cI, 8, .inl ln)), (mw, .inl (cI, 512, .inl wh)), (mb, .inl (cI, 48, .inl bi)), (ms, .inl (cZ, 48, .inl si)), (mn, .inl (cJ, 6, .inr (.inl nu)))]) [0, 1, 2, 3, 4, 5] rfl
      have hDc := hD.sub (ws' := [(hm, .inr (2, [.int (nI 0), .ref ml, .ref mw, .ref mb, .ref ms, .ref mn])), (ml, .inl (cI, 8, .inl ln)), (mw, .inl (cI, 512, .inl wh)), (mb, .inl (cI, 48, .inl bi)), (ms, .inl (cZ, 48, .inl si)), (mn, .inl (cJ, 6, .inr (.inl nu)))]) [0, 1, 2, 3, 4, 5] (by decide) rfl
      have hKc := hK.sub (tys' := [(cI, .int), (cZ, .boolean), (cJ, .long)]) [0, 1, 2] rfl
      have hFc := va_free (wc := [(hm, .inr (2, [.int (nI 0), .ref ml, .ref mw, .ref mb, .ref ms, .ref mn])), (ml, .inl (cI, 8, .inl ln)), (mw, .inl (cI, 512, .inl wh)), (mb, .inl (cI, 48, .inl bi)), (ms, .inl (cZ, 48, .inl si)), (mn, .inl (cJ, 6, .inr (.inl nu)))]) hD hS hA [0, 1, 2, 3, 4, 5] rfl
      refine va_calli (va_runV (As := [.int (nI 1), .int (nI 1)]) (rest := []) ⟨hx, hb, hml, hown, hw⟩ (c_M_fails1 l dC dI _ cI cZ cJ hm ml mw mb ms mn ln wh bi si nu 1 (by decide)) (cwV 2 hw (gV kw_420 kw_422 kw_5 kw_16 kw_423) rfl rfl rfl (by decide +kernel) ⟨Nat.le_of_ble_eq_true rfl, Nat.le_of_ble_eq_true rfl⟩) (rw_preV (q0 := 0) hKc hPc hDc rfl rfl) rfl rfl hl.1 rfl (lv_room (Nat.le_of_ble_eq_true rfl)) dM_operand_38 ⟨Nat.zero_le _, Nat.zero_le _⟩) hS (fun q _ h => hFc q h) hFc (fun v38 u t H1 locs ht hvm e38 hB hz1 hk1 hS => ?_)
      obtain ⟨hP1, hK1, hD1⟩ := hB
      rw [ht] at hP1
      obtain ⟨hP, hD⟩ := va_join (wr := []) (w1 := [(hm, .inr (2, [.int (nI 1), .ref ml, .ref mw, .ref mb, .ref ms, .ref mn])), (ml, .inl (cI, 8, .inl ln)), (mw, .inl (cI, 512, .inl wh)), (mb, .inl (cI, 48, .inl bi)), (ms, .inl (cZ, 48, .inl si)), (mn, .inl (cJ, 6, .inr (.inl nu)))]) hP hD [0, 1, 2, 3, 4, 5] [] rfl rfl (by decide) (by decide) hk1 hFc hP1 hD1
      generalize H1 = H at hP hS ⊢
      have hP : va_P (dC, dI) cls3 [(hm, .inr (2, [.int (nI 1), .ref ml, .ref mw, .ref mb, .ref ms, .ref mn])), (ml, .inl (cI, 8, .inl ln)), (mw, .inl (cI, 512, .inl wh)), (mb, .inl (cI, 48, .inl bi)), (ms, .inl (cZ, 48, .inl si)), (mn, .inl (cJ, 6, .inr (.inl nu)))] H := hP
      have hD : va_D A [(hm, .inr (2, [.int (nI 1), .ref ml, .ref mw, .ref mb, .ref ms, .ref mn])), (ml, .inl (cI, 8, .inl ln)), (mw, .inl (cI, 512, .inl wh)), (mb, .inl (cI, 48, .inl bi)), (ms, .inl (cZ, 48, .inl si)), (mn, .inl (cJ, 6, .inr (.inl nu)))] := hD
      obtain rfl : v38 = nI 1 := e38
      refine lv_if_ne (tgt := 66) hx hb dM_operand_41 (by decide) (fun h41 => ?_) (fun h41 => ?_)
      · have hcd : cdOper wss (nI f) y z = 1 := by unfold cdOper; first | (rw [h10]; rfl) | (rw [isF_nI hf, h17]; rfl) | (rw [isF_nI hf, isO_nI ho, h29]; rfl) | (rw [isF_nI hf, isO_nI ho, isB_nI hk, hfi, hfo, Bool.true_and, Bool.true_and, if_pos rfl, if_pos (by omega)]) | (rw [isF_nI hf, isO_nI ho, isB_nI hk, hfi, hfo, Bool.true_and, Bool.true_and, if_pos rfl, if_neg (by omega)])
        exact W.vret hx hb hr (fun t ht hW => ⟨⟨(), rfl, trivial, bi, si, by rw [hcd]; exact hM, by rw [ht, hcd]; exact hP, va_K.moved hW.alike hK, by rw [hcd]; exact hD⟩, hS.F ht⟩) hS.2.2 dM_operand_66
      · exfalso
        first | exact h41 (by decide +kernel) | exact absurd h41 (by decide +kernel)
    · obtain ⟨o, ho, rfl⟩ := isO_of (b_nf h17)
      have hfo : fi (nI o) = o := fi_nI (by omega)
      have hwo := hw64 o ho
      refine lv_iload_n hx hb dM_operand_20 rfl (lv_at hl 3 rfl) ?_
      refine lv_i2l hx hb dM_operand_21 rfl ?_
      refine lv_topl (fun v21 e21 => ?_)
      refine lv_lconst (v := lN 1) hx hb dM_operand_22 (by decide +kernel) ?_
      refine lv_ldc2 (v := lN 64) hx hb hown (hw _ kw_432) dM_operand_23 ?_
      refine vp_callSi (W.runS (As := [.long v21, .long (lN 1), .long (lN 64)]) (rest := [.ref hm]) ⟨hx, hb, hml, hown, hw⟩ (c_M_in l v21 (lN 1) (lN 64)) (cwS 3 hw (gS kw_417 kw_418 kw_16 kw_419) rfl rfl rfl (by decide +kernel) ⟨Nat.le_of_ble_eq_true rfl, Nat.le_of_ble_eq_true rfl⟩) preEq rfl rfl hl.1 rfl (lv_room (Nat.le_of_ble_eq_true rfl)) dM_operand_26 ⟨Nat.zero_le _, Nat.zero_le _⟩) (fun v26 e26 => ?_)
      obtain rfl : v26 = nI (isB z).toNat := e26.trans (by rw [e21]; exact isB_in z)
      refine lv_if_ne (tgt := 36) hx hb dM_operand_29 (by decide) (fun h29 => ?_) (fun h29 => ?_)
      · obtain ⟨k, hk, rfl⟩ := isB_of (b_nf h29)
        have hfk : fi (nI k) = k := fi_nI (by omega)
        refine lv_iconst (v := nI 0) hx hb dM_operand_36 (by decide +kernel) ?_
        refine lv_iconst (v := nI 1) hx hb dM_operand_37 (by decide +kernel) ?_
        have hPc := hP.sub (ws' := [(hm, .inr (2, [.int (nI 0), .ref ml, .ref mw, .ref mb, .ref ms, .ref mn])), (ml, .inl (cI, 8, .inl ln)), (mw, .inl (cI, 512, .inl wh)), (mb, .inl (cI, 48, .inl bi)), (ms, .inl (cZ, 48, .inl si)), (mn, .inl (cJ, 6, .inr (.inl nu)))]) [0, 1, 2, 3, 4, 5] rfl
        have hDc := hD.sub (ws' := [(hm, .inr (2, [.int (nI 0), .ref ml, .ref mw, .ref mb, .ref ms, .ref mn])), (ml, .inl (cI, 8, .inl ln)), (mw, .inl (cI, 512, .inl wh)), (mb, .inl (cI, 48, .inl bi)), (ms, .inl (cZ, 48, .inl si)), (mn, .inl (cJ, 6, .inr (.inl nu)))]) [0, 1, 2, 3, 4, 5] (by decide) rfl
        have hKc := hK.sub (tys' := [(cI, .int), (cZ, .boolean), (cJ, .long)]) [0, 1, 2] rfl
        have hFc := va_free (wc := [(hm, .inr (2, [.int (nI 0), .ref ml, .ref mw, .ref mb, .ref ms, .ref mn])), (ml, .inl (cI, 8, .inl ln)), (mw, .inl (cI, 512, .inl wh)), (mb, .inl (cI, 48, .inl bi)), (ms, .inl (cZ, 48, .inl si)), (mn, .inl (cJ, 6, .inr (.inl nu)))]) hD hS hA [0, 1, 2, 3, 4, 5] rfl
        refine va_calli (va_runV (As := [.int (nI 0), .int (nI 1)]) (rest := []) ⟨hx, hb, hml, hown, hw⟩ (c_M_fails0 l dC dI _ cI cZ cJ hm ml mw mb ms mn ln wh bi si nu 1 (by decide)) (cwV 2 hw (gV kw_420 kw_422 kw_5 kw_16 kw_423) rfl rfl rfl (by decide +kernel) ⟨Nat.le_of_ble_eq_true rfl, Nat.le_of_ble_eq_true rfl⟩) (rw_preV (q0 := 0) hKc hPc hDc rfl rfl) rfl rfl hl.1 rfl (lv_room (Nat.le_of_ble_eq_true rfl)) dM_operand_38 ⟨Nat.zero_le _, Nat.zero_le _⟩) hS (fun q _ h => hFc q h) hFc (fun v38 u t H1 locs ht hvm e38 hB hz1 hk1 hS => ?_)
        obtain ⟨hP1, hK1, hD1⟩ := hB
        rw [ht] at hP1
        obtain ⟨hP, hD⟩ := va_join (wr := []) (w1 := [(hm, .inr (2, [.int (nI 0), .ref ml, .ref mw, .ref mb, .ref ms, .ref mn])), (ml, .inl (cI, 8, .inl ln)), (mw, .inl (cI, 512, .inl wh)), (mb, .inl (cI, 48, .inl bi)), (ms, .inl (cZ, 48, .inl si)), (mn, .inl (cJ, 6, .inr (.inl nu)))]) hP hD [0, 1, 2, 3, 4, 5] [] rfl rfl (by decide) (by decide) hk1 hFc hP1 hD1
        generalize H1 = H at hP hS ⊢
        have hP : va_P (dC, dI) cls3 [(hm, .inr (2, [.int (nI 0), .ref ml, .ref mw, .ref mb, .ref ms, .ref mn])), (ml, .inl (cI, 8, .inl ln)), (mw, .inl (cI, 512, .inl wh)), (mb, .inl (cI, 48, .inl bi)), (ms, .inl (cZ, 48, .inl si)), (mn, .inl (cJ, 6, .inr (.inl nu)))] H := hP
        have hD : va_D A [(hm, .inr (2, [.int (nI 0), .ref ml, .ref mw, .ref mb, .ref ms, .ref mn])), (ml, .inl (cI, 8, .inl ln)), (mw, .inl (cI, 512, .inl wh)), (mb, .inl (cI, 48, .inl bi)), (ms, .inl (cZ, 48, .inl si)), (mn, .inl (cJ, 6, .inr (.inl nu)))] := hD
        obtain rfl : v38 = nI 0 := e38
        refine lv_if_ne (tgt := 66) hx hb dM_operand_41 (by decide) (fun h41 => ?_) (fun h41 => ?_)
        · exfalso
          first | exact h41 (by decide +kernel) | exact absurd h41 (by decide +kernel)
        · refine lv_aload_n hx hb dM_operand_44 rfl (lv_at hl 0 rfl) ?_
          refine lv_aload_n hx hb dM_operand_45 rfl (lv_at hl 0 rfl) ?_
          refine lv_iload_n hx hb dM_operand_46 rfl (lv_at hl 1 rfl) ?_
          refine lv_iload_n hx hb dM_operand_47 rfl (lv_at hl 2 rfl) ?_
          refine vp_callSi (W.runV (As := [.int (nI f), .int (nI o)]) (rest := [.ref hm]) ⟨hx, hb, hml, hown, hw⟩ (c_M_many l dC dI cI cZ cJ hm ml mw mb ms mn (nI 0) ln wh bi si nu ns its wss sbs hM f o hf ho) (cwV 2 hw (gV kw_433 kw_435 kw_6 kw_16 kw_436) rfl rfl rfl (by decide +kernel) ⟨Nat.le_of_ble_eq_true rfl, Nat.le_of_ble_eq_true rfl⟩) (ro_preV (q0 := 0) hK hP rfl rfl) rfl rfl hl.1 rfl (lv_room (Nat.le_of_ble_eq_true rfl)) dM_operand_48 ⟨Nat.zero_le _, Nat.zero_le _⟩) (fun v48 e48 => ?_)
          obtain rfl : v48 = nI (wss f o) := e48
          refine lv_if_le (tgt := 58) hx hb dM_operand_51 (by decide) (fun h51 => ?_) (fun h51 => ?_)
          · rw [nI_le0 (by omega)] at h51
            refine lv_iconst (v := nI 0) hx hb dM_operand_58 (by decide +kernel) ?_
            refine lv_iconst (v := nI 2) hx hb dM_operand_59 (by decide +kernel) ?_
            have hPc := hP.sub (ws' := [(hm, .inr (2, [.int (nI 0), .ref ml, .ref mw, .ref mb, .ref ms, .ref mn])), (ml, .inl (cI, 8, .inl ln)), (mw, .inl (cI, 512, .inl wh)), (mb, .inl (cI, 48, .inl bi)), (ms, .inl (cZ, 48, .inl si)), (mn, .inl (cJ, 6, .inr (.inl nu)))]) [0, 1, 2, 3, 4, 5] rfl
            have hDc := hD.sub (ws' := [(hm, .inr (2, [.int (nI 0), .ref ml, .ref mw, .ref mb, .ref ms, .ref mn])), (ml, .inl (cI, 8, .inl ln)), (mw, .inl (cI, 512, .inl wh)), (mb, .inl (cI, 48, .inl bi)), (ms, .inl (cZ, 48, .inl si)), (mn, .inl (cJ, 6, .inr (.inl nu)))]) [0, 1, 2, 3, 4, 5] (by decide) rfl
            have hKc := hK.sub (tys' := [(cI, .int), (cZ, .boolean), (cJ, .long)]) [0, 1, 2] rfl
            have hFc := va_free (wc := [(hm, .inr (2, [.int (nI 0), .ref ml, .ref mw, .ref mb, .ref ms, .ref mn])), (ml, .inl (cI, 8, .inl ln)), (mw, .inl (cI, 512, .inl wh)), (mb, .inl (cI, 48, .inl bi)), (ms, .inl (cZ, 48, .inl si)), (mn, .inl (cJ, 6, .inr (.inl nu)))]) hD hS hA [0, 1, 2, 3, 4, 5] rfl
            refine va_calli (va_runV (As := [.int (nI 0), .int (nI 2)]) (rest := []) ⟨hx, hb, hml, hown, hw⟩ (c_M_fails0 l dC dI _ cI cZ cJ hm ml mw mb ms mn ln wh bi si nu 2 (by decide)) (cwV 2 hw (gV kw_420 kw_422 kw_5 kw_16 kw_423) rfl rfl rfl (by decide +kernel) ⟨Nat.le_of_ble_eq_true rfl, Nat.le_of_ble_eq_true rfl⟩) (rw_preV (q0 := 0) hKc hPc hDc rfl rfl) rfl rfl hl.1 rfl (lv_room (Nat.le_of_ble_eq_true rfl)) dM_operand_60 ⟨Nat.zero_le _, Nat.zero_le _⟩) hS (fun q _ h => hFc q h) hFc (fun v60 u t H1 locs ht hvm e60 hB hz1 hk1 hS => ?_)
            obtain ⟨hP1, hK1, hD1⟩ := hB
            rw [ht] at hP1
            obtain ⟨hP, hD⟩ := va_join (wr := []) (w1 := [(hm, .inr (2, [.int (nI 0), .ref ml, .ref mw, .ref mb, .ref ms, .ref mn])), (ml, .inl (cI, 8, .inl ln)), (mw, .inl (cI, 512, .inl wh)), (mb, .inl (cI, 48, .inl bi)), (ms, .inl (cZ, 48, .inl si)), (mn, .inl (cJ, 6, .inr (.inl nu)))]) hP hD [0, 1, 2, 3, 4, 5] [] rfl rfl (by decide) (by decide) hk1 hFc hP1 hD1
            generalize H1 = H at hP hS ⊢
            have hP : va_P (dC, dI) cls3 [(hm, .inr (2, [.int (nI 0), .ref ml, .ref mw, .ref mb, .ref ms, .ref mn])), (ml, .inl (cI, 8, .inl ln)), (mw, .inl (cI, 512, .inl wh)), (mb, .inl (cI, 48, .inl bi)), (ms, .inl (cZ, 48, .inl si)), (mn, .inl (cJ, 6, .inr (.inl nu)))] H := hP
            have hD : va_D A [(hm, .inr (2, [.int (nI 0), .ref ml, .ref mw, .ref mb, .ref ms, .ref mn])), (ml, .inl (cI, 8, .inl ln)), (mw, .inl (cI, 512, .inl wh)), (mb, .inl (cI, 48, .inl bi)), (ms, .inl (cZ, 48, .inl si)), (mn, .inl (cJ, 6, .inr (.inl nu)))] := hD
            obtain rfl : v60 = nI 0 := e60
            refine lv_if_eq (tgt := 67) hx hb dM_operand_63 (by decide) (fun h63 => ?_) (fun h63 => ?_)
            · refine lv_aload_n hx hb dM_operand_67 rfl (lv_at hl 0 rfl) ?_
              refine va_get (D := (dC, dI)) (ci := 2) (v := .ref mb) (C := RM) (T := TM) (N := 6) hx hb hw inM hown hK hP 0 rfl rfl 3 (by decide) (hw _ kw_389) (fun _ h9 => h9) rfl dM_operand_68 ?_
              refine lv_bipush (v := nI 6) hx hb dM_operand_71 (by decide +kernel) ?_
              refine lv_iload_n hx hb dM_operand_73 rfl (lv_at hl 1 rfl) ?_
              refine lv_imul hx hb dM_operand_74 ?_
              refine lv_topi (fun v74 e74 => ?_)
              obtain rfl : v74 = nI (6 * f) := e74.trans (pk_mul _ _)
              refine lv_iload_n hx hb dM_operand_75 rfl (lv_at hl 2 rfl) ?_
              refine lv_iadd hx hb dM_operand_76 ?_
              refine lv_topi (fun v76 e76 => ?_)
              obtain rfl : v76 = nI (6 * f + o) := e76.trans (nI_add _ _)
              refine lv_iload_n hx hb dM_operand_77 rfl (lv_at hl 3 rfl) ?_
              refine va_iast hx hb hK hP hD hS 3 0 rfl rfl (vp_in_nI (by omega) (by decide)) dM_operand_78 (fun H locs hP hD hS => ?_)
              rw [show (nI (6 * f + o)).toNatClampNeg = (6 * f + o) from nI_clamp (by omega)] at hP hD
              have hP : va_P (dC, dI) cls3 [(hm, .inr (2, [.int (nI 0), .ref ml, .ref mw, .ref mb, .ref ms, .ref mn])), (ml, .inl (cI, 8, .inl ln)), (mw, .inl (cI, 512, .inl wh)), (mb, .inl (cI, 48, .inl (upd bi (6 * f + o) (nI k)))), (ms, .inl (cZ, 48, .inl si)), (mn, .inl (cJ, 6, .inr (.inl nu)))] H := hP
              have hD : va_D A [(hm, .inr (2, [.int (nI 0), .ref ml, .ref mw, .ref mb, .ref ms, .ref mn])), (ml, .inl (cI, 8, .inl ln)), (mw, .inl (cI, 512, .inl wh)), (mb, .inl (cI, 48, .inl (upd bi (6 * f + o) (nI k)))), (ms, .inl (cZ, 48, .inl si)), (mn, .inl (cJ, 6, .inr (.inl nu)))] := hD
              refine lv_aload_n hx hb dM_operand_79 rfl (lv_at hl 0 rfl) ?_
              refine va_get (D := (dC, dI)) (ci := 2) (v := .ref ms) (C := RM) (T := TM) (N := 6) hx hb hw inM hown hK hP 0 rfl rfl 4 (by decide) (hw _ kw_390) (fun _ h9 => h9) rfl dM_operand_80 ?_
              refine lv_bipush (v := nI 6) hx hb dM_operand_83 (by decide +kernel) ?_
              refine lv_iload_n hx hb dM_operand_85 rfl (lv_at hl 1 rfl) ?_
              refine lv_imul hx hb dM_operand_86 ?_
              refine lv_topi (fun v86 e86 => ?_)
              obtain rfl : v86 = nI (6 * f) := e86.trans (pk_mul _ _)
              refine lv_iload_n hx hb dM_operand_87 rfl (lv_at hl 2 rfl) ?_
              refine lv_iadd hx hb dM_operand_88 ?_
              refine lv_topi (fun v88 e88 => ?_)
              obtain rfl : v88 = nI (6 * f + o) := e88.trans (nI_add _ _)
              refine lv_iload hx hb dM_operand_89 (lv_at hl 4 rfl) ?_
              refine va_zast hx hb hK hP hD hS 4 1 rfl rfl (vp_in_nI (by omega) (by decide)) dM_operand_91 (fun H locs hP hD hS => ?_)
              rw [show (nI (6 * f + o)).toNatClampNeg = (6 * f + o) from nI_clamp (by omega)] at hP hD
              have hP : va_P (dC, dI) cls3 [(hm, .inr (2, [.int (nI 0), .ref ml, .ref mw, .ref mb, .ref ms, .ref mn])), (ml, .inl (cI, 8, .inl ln)), (mw, .inl (cI, 512, .inl wh)), (mb, .inl (cI, 48, .inl (upd bi (6 * f + o) (nI k)))), (ms, .inl (cZ, 48, .inl (upd si (6 * f + o) (vp_nar .boolean (nI b.toNat))))), (mn, .inl (cJ, 6, .inr (.inl nu)))] H := hP
              have hD : va_D A [(hm, .inr (2, [.int (nI 0), .ref ml, .ref mw, .ref mb, .ref ms, .ref mn])), (ml, .inl (cI, 8, .inl ln)), (mw, .inl (cI, 512, .inl wh)), (mb, .inl (cI, 48, .inl (upd bi (6 * f + o) (nI k)))), (ms, .inl (cZ, 48, .inl (upd si (6 * f + o) (vp_nar .boolean (nI b.toNat))))), (mn, .inl (cJ, 6, .inr (.inl nu)))] := hD
              have hcd : cdOper wss (nI f) (nI o) (nI k) = 0 := by unfold cdOper; first | (rw [h10]; rfl) | (rw [isF_nI hf, h17]; rfl) | (rw [isF_nI hf, isO_nI ho, h29]; rfl) | (rw [isF_nI hf, isO_nI ho, isB_nI hk, hfi, hfo, Bool.true_and, Bool.true_and, if_pos rfl, if_pos (by omega)]) | (rw [isF_nI hf, isO_nI ho, isB_nI hk, hfi, hfo, Bool.true_and, Bool.true_and, if_pos rfl, if_neg (by omega)])
              exact W.vret hx hb hr (fun t ht hW => ⟨⟨(), rfl, trivial, _, _, by rw [hcd, hfi, hfo, hfk]; exact mR_oper hM hf ho hk.2 h51, by rw [ht, hcd]; exact hP, va_K.moved hW.alike hK, by rw [hcd]; exact hD⟩, hS.F ht⟩) hS.2.2 dM_operand_92
            · exfalso
              first | exact h63 (by decide +kernel) | exact absurd h63 (by decide +kernel)
          · rw [nI_le0 (by omega)] at h51
            refine lv_iconst (v := nI 1) hx hb dM_operand_54 (by decide +kernel) ?_
            refine lv_goto (tgt := 59) hx hb dM_operand_55 (by decide) ?_
            refine lv_iconst (v := nI 2) hx hb dM_operand_59 (by decide +kernel) ?_
            have hPc := hP.sub (ws' := [(hm, .inr (2, [.int (nI 0), .ref ml, .ref mw, .ref mb, .ref ms, .ref mn])), (ml, .inl (cI, 8, .inl ln)), (mw, .inl (cI, 512, .inl wh)), (mb, .inl (cI, 48, .inl bi)), (ms, .inl (cZ, 48, .inl si)), (mn, .inl (cJ, 6, .inr (.inl nu)))]) [0, 1, 2, 3, 4, 5] rfl
            have hDc := hD.sub (ws' := [(hm, .inr (2, [.int (nI 0), .ref ml, .ref mw, .ref mb, .ref ms, .ref mn])), (ml, .inl (cI, 8, .inl ln)), (mw, .inl (cI, 512, .inl wh)), (mb, .inl (cI, 48, .inl bi)), (ms, .inl (cZ, 48, .inl si)), (mn, .inl (cJ, 6, .inr (.inl nu)))]) [0, 1, 2, 3, 4, 5] (by decide) rfl
            have hKc := hK.sub (tys' := [(cI, .int), (cZ, .boolean), (cJ, .long)]) [0, 1, 2] rfl
            have hFc := va_free (wc := [(hm, .inr (2, [.int (nI 0), .ref ml, .ref mw, .ref mb, .ref ms, .ref mn])), (ml, .inl (cI, 8, .inl ln)), (mw, .inl (cI, 512, .inl wh)), (mb, .inl (cI, 48, .inl bi)), (ms, .inl (cZ, 48, .inl si)), (mn, .inl (cJ, 6, .inr (.inl nu)))]) hD hS hA [0, 1, 2, 3, 4, 5] rfl
            refine va_calli (va_runV (As := [.int (nI 1), .int (nI 2)]) (rest := []) ⟨hx, hb, hml, hown, hw⟩ (c_M_fails1 l dC dI _ cI cZ cJ hm ml mw mb ms mn ln wh bi si nu 2 (by decide)) (cwV 2 hw (gV kw_420 kw_422 kw_5 kw_16 kw_423) rfl rfl rfl (by decide +kernel) ⟨Nat.le_of_ble_eq_true rfl, Nat.le_of_ble_eq_true rfl⟩) (rw_preV (q0 := 0) hKc hPc hDc rfl rfl) rfl rfl hl.1 rfl (lv_room (Nat.le_of_ble_eq_true rfl)) dM_operand_60 ⟨Nat.zero_le _, Nat.zero_le _⟩) hS (fun q _ h => hFc q h) hFc (fun v60 u t H1 locs ht hvm e60 hB hz1 hk1 hS => ?_)
            obtain ⟨hP1, hK1, hD1⟩ := hB
            rw [ht] at hP1
            obtain ⟨hP, hD⟩ := va_join (wr := []) (w1 := [(hm, .inr (2, [.int (nI 2), .ref ml, .ref mw, .ref mb, .ref ms, .ref mn])), (ml, .inl (cI, 8, .inl ln)), (mw, .inl (cI, 512, .inl wh)), (mb, .inl (cI, 48, .inl bi)), (ms, .inl (cZ, 48, .inl si)), (mn, .inl (cJ, 6, .inr (.inl nu)))]) hP hD [0, 1, 2, 3, 4, 5] [] rfl rfl (by decide) (by decide) hk1 hFc hP1 hD1
            generalize H1 = H at hP hS ⊢
            have hP : va_P (dC, dI) cls3 [(hm, .inr (2, [.int (nI 2), .ref ml, .ref mw, .ref mb, .ref ms, .ref mn])), (ml, .inl (cI, 8, .inl ln)), (mw, .inl (cI, 512, .inl wh)), (mb, .inl (cI, 48, .inl bi)), (ms, .inl (cZ, 48, .inl si)), (mn, .inl (cJ, 6, .inr (.inl nu)))] H := hP
            have hD : va_D A [(hm, .inr (2, [.int (nI 2), .ref ml, .ref mw, .ref mb, .ref ms, .ref mn])), (ml, .inl (cI, 8, .inl ln)), (mw, .inl (cI, 512, .inl wh)), (mb, .inl (cI, 48, .inl bi)), (ms, .inl (cZ, 48, .inl si)), (mn, .inl (cJ, 6, .inr (.inl nu)))] := hD
            obtain rfl : v60 = nI 1 := e60
            refine lv_if_eq (tgt := 67) hx hb dM_operand_63 (by decide) (fun h63 => ?_) (fun h63 => ?_)
            · exfalso
              first | exact h63 (by decide +kernel) | exact absurd h63 (by decide +kernel)
            · have hcd : cdOper wss (nI f) (nI o) (nI k) = 2 := by unfold cdOper; first | (rw [h10]; rfl) | (rw [isF_nI hf, h17]; rfl) | (rw [isF_nI hf, isO_nI ho, h29]; rfl) | (rw [isF_nI hf, isO_nI ho, isB_nI hk, hfi, hfo, Bool.true_and, Bool.true_and, if_pos rfl, if_pos (by omega)]) | (rw [isF_nI hf, isO_nI ho, isB_nI hk, hfi, hfo, Bool.true_and, Bool.true_and, if_pos rfl, if_neg (by omega)])
              exact W.vret hx hb hr (fun t ht hW => ⟨⟨(), rfl, trivial, bi, si, by rw [hcd]; exact hM, by rw [ht, hcd]; exact hP, va_K.moved hW.alike hK, by rw [hcd]; exact hD⟩, hS.F ht⟩) hS.2.2 dM_operand_66
      · rw [b_nat0] at h29
        refine lv_iconst (v := nI 1) hx hb dM_operand_32 (by decide +kernel) ?_
        refine lv_goto (tgt := 37) hx hb dM_operand_33 (by decide) ?_
        refine lv_iconst (v := nI 1) hx hb dM_operand_37 (by decide +kernel) ?_
        have hPc := hP.sub (ws' := [(hm, .inr (2, [.int (nI 0), .ref ml, .ref mw, .ref mb, .ref ms, .ref mn])), (ml, .inl (cI, 8, .inl ln)), (mw, .inl (cI, 512, .inl wh)), (mb, .inl (cI, 48, .inl bi)), (ms, .inl (cZ, 48, .inl si)), (mn, .inl (cJ, 6, .inr (.inl nu)))]) [0, 1, 2, 3, 4, 5] rfl
        have hDc := hD.sub (ws' := [(hm, .inr (2, [.int (nI 0), .ref ml, .ref mw, .ref mb, .ref ms, .ref mn])), (ml, .inl (cI, 8, .inl ln)), (mw, .inl (cI, 512, .inl wh)), (mb, .inl (cI, 48, .inl bi)), (ms, .inl (cZ, 48, .inl si)), (mn, .inl (cJ, 6, .inr (.inl nu)))]) [0, 1, 2, 3, 4, 5] (by decide) rfl
        have hKc := hK.sub (tys' := [(cI, .int), (cZ, .boolean), (cJ, .long)]) [0, 1, 2] rfl
        have hFc := va_free (wc := [(hm, .inr (2, [.int (nI 0), .ref ml, .ref mw, .ref mb, .ref ms, .ref mn])), (ml, .inl (cI, 8, .inl ln)), (mw, .inl (cI, 512, .inl wh)), (mb, .inl (cI, 48, .inl bi)), (ms, .inl (cZ, 48, .inl si)), (mn, .inl (cJ, 6, .inr (.inl nu)))]) hD hS hA [0, 1, 2, 3, 4, 5] rfl
        refine va_calli (va_runV (As := [.int (nI 1), .int (nI 1)]) (rest := []) ⟨hx, hb, hml, hown, hw⟩ (c_M_fails1 l dC dI _ cI cZ cJ hm ml mw mb ms mn ln wh bi si nu 1 (by decide)) (cwV 2 hw (gV kw_420 kw_422 kw_5 kw_16 kw_423) rfl rfl rfl (by decide +kernel) ⟨Nat.le_of_ble_eq_true rfl, Nat.le_of_ble_eq_true rfl⟩) (rw_preV (q0 := 0) hKc hPc hDc rfl rfl) rfl rfl hl.1 rfl (lv_room (Nat.le_of_ble_eq_true rfl)) dM_operand_38 ⟨Nat.zero_le _, Nat.zero_le _⟩) hS (fun q _ h => hFc q h) hFc (fun v38 u t H1 locs ht hvm e38 hB hz1 hk1 hS => ?_)
        obtain ⟨hP1, hK1, hD1⟩ := hB
        rw [ht] at hP1
        obtain ⟨hP, hD⟩ := va_join (wr := []) (w1 := [(hm, .inr (2, [.int (nI 1), .ref ml, .ref mw, .ref mb, .ref ms, .ref mn])), (ml, .inl (cI, 8, .inl ln)), (mw, .inl (cI, 512, .inl wh)), (mb, .inl (cI, 48, .inl bi)), (ms, .inl (cZ, 48, .inl si)), (mn, .inl (cJ, 6, .inr (.inl nu)))]) hP hD [0, 1, 2, 3, 4, 5] [] rfl rfl (by decide) (by decide) hk1 hFc hP1 hD1
        generalize H1 = H at hP hS ⊢
        have hP : va_P (dC, dI) cls3 [(hm, .inr (2, [.int (nI 1), .ref ml, .ref mw, .ref mb, .ref ms, .ref mn])), (ml, .inl (cI, 8, .inl ln)), (mw, .inl (cI, 512, .inl wh)), (mb, .inl (cI, 48, .inl bi)), (ms, .inl (cZ, 48, .inl si)), (mn, .inl (cJ, 6, .inr (.inl nu)))] H := hP
        have hD : va_D A [(hm, .inr (2, [.int (nI 1), .ref ml, .ref mw, .ref mb, .ref ms, .ref mn])), (ml, .inl (cI, 8, .inl ln)), (mw, .inl (cI, 512, .inl wh)), (mb, .inl (cI, 48, .inl bi)), (ms, .inl (cZ, 48, .inl si)), (mn, .inl (cJ, 6, .inr (.inl nu)))] := hD
        obtain rfl : v38 = nI 1 := e38
        refine lv_if_ne (tgt := 66) hx hb dM_operand_41 (by decide) (fun h41 => ?_) (fun h41 => ?_)
        · have hcd : cdOper wss (nI f) (nI o) z = 1 := by unfold cdOper; first | (rw [h10]; rfl) | (rw [isF_nI hf, h17]; rfl) | (rw [isF_nI hf, isO_nI ho, h29]; rfl) | (rw [isF_nI hf, isO_nI ho, isB_nI hk, hfi, hfo, Bool.true_and, Bool.true_and, if_pos rfl, if_pos (by omega)]) | (rw [isF_nI hf, isO_nI ho, isB_nI hk, hfi, hfo, Bool.true_and, Bool.true_and, if_pos rfl, if_neg (by omega)])
          exact W.vret hx hb hr (fun t ht hW => ⟨⟨(), rfl, trivial, bi, si, by rw [hcd]; exact hM, by rw [ht, hcd]; exact hP, va_K.moved hW.alike hK, by rw [hcd]; exact hD⟩, hS.F ht⟩) hS.2.2 dM_operand_66
        · exfalso
          first | exact h41 (by decide +kernel) | exact absurd h41 (by decide +kernel)

set_option maxHeartbeats 4000000 in
set_option maxRecDepth 100000 in
theorem c_M_fixed (l : Launch) (dC : Nat → ClassId) (dI : Nat → Nat → Nat) (sz : Nat) (cI cZ cJ : ClassId) (hm ml mw mb ms mn : Nat) (er : Int32) (ln wh bi si : Nat → Int32) (nu : Nat → Int64) (ns : Nat → Nat) (its wss : Nat → Nat → Nat) (sbs : Nat → Nat → Bool) (hM : mR ns its wss sbs ln wh bi si) (x z : Int32) (v : Int64) : Met l yM_fixed wM_fixed { frames := 2, cells := 0, slots := 0, locals := 45 } (rw_Pc (dC, dI) cls3 [(hm, .inr (2, [.int er, .ref ml, .ref mw, .ref mb, .ref ms, .ref mn])), (ml, .inl (cI, 8, .inl ln)), (mw, .inl (cI, 512, .inl wh)), (mb, .inl (cI, 48, .inl bi)), (ms, .inl (cZ, 48, .inl si)), (mn, .inl (cJ, 6, .inr (.inl nu)))] [(cI, .int), (cZ, .boolean), (cJ, .long)] sz [.ref hm, .int x, .int z, .long v]) (va_Qi (fun (r : Int32) (_ : Unit) => cdFixed ns x z = 0 → r = nI (ns (fi x) + fi z)) (fun _ t => ∃ ln' wh' : Nat → Int32, mR (stp (cdFixed ns x z) (va_up ns (fi x) (ns (fi x) + fi z)) ns) (stp (cdFixed ns x z) (va_up its (fi x) (itF (its (fi x)) (ns (fi x)) (fi z) v)) its) wss sbs ln' wh' bi si ∧ va_P (dC, dI) cls3 [(hm, .inr (2, [.int (nI (cdFixed ns x z)), .ref ml, .ref mw, .ref mb, .ref ms, .ref mn])), (ml, .inl (cI, 8, .inl ln')), (mw, .inl (cI, 512, .inl wh')), (mb, .inl (cI, 48, .inl bi)), (ms, .inl (cZ, 48, .inl si)), (mn, .inl (cJ, 6, .inr (.inl nu)))] t.heap ∧ va_K (dC, dI) cls3 [(cI, .int), (cZ, .boolean), (cJ, .long)] t ∧ va_D (va_A [(hm, .inr (2, [.int er, .ref ml, .ref mw, .ref mb, .ref ms, .ref mn])), (ml, .inl (cI, 8, .inl ln)), (mw, .inl (cI, 512, .inl wh)), (mb, .inl (cI, 48, .inl bi)), (ms, .inl (cZ, 48, .inl si)), (mn, .inl (cJ, 6, .inr (.inl nu)))] sz) [(hm, .inr (2, [.int (nI (cdFixed ns x z)), .ref ml, .ref mw, .ref mb, .ref ms, .ref mn])), (ml, .inl (cI, 8, .inl ln')), (mw, .inl (cI, 512, .inl wh')), (mb, .inl (cI, 48, .inl bi)), (ms, .inl (cZ, 48, .inl si)), (mn, .inl (cJ, 6, .inr (.inl nu)))]) (va_A [(hm, .inr (2, [.int er, .ref ml, .ref mw, .ref mb, .ref ms, .ref mn])), (ml, .inl (cI, 8, .inl ln)), (mw, .inl (cI, 512, .inl wh)), (mb, .inl (cI, 48, .inl bi)), (ms, .inl (cZ, 48, .inl si)), (mn, .inl (cJ, 6, .inr (.inl nu)))] sz)) 0 0 (va_A [(hm, .inr (2, [.int er, .ref ml, .ref mw, .ref mb, .ref ms, .ref mn])), (ml, .inl (cI, 8, .inl ln)), (mw, .inl (cI, 512, .inl wh)), (mb, .inl (cI, 48, .inl bi)), (ms, .inl (cZ, 48, .inl si)), (mn, .inl (cJ, 6, .inr (.inl nu)))] sz) := by
  refine Met.ofW (cc := cM_fixed) (maxL := 6) (ret := (some .int)) (by decide) rfl ?_
  intro p e s m args below meth c s₁ B hml hv
  obtain ⟨rfl, hsz, hP, hK, hD0⟩ := hv
  have hx := B.exec
  have hb := B.bytes
  have hr := B.returns
  have hts := atoms_spec (ws := wM_fixed) B.pre
  have hw : ∀ w ∈ wA, w.before _ s = true := fun w h => hts w (List.mem_cons_of_mem _ h)
  have hown : s.vm.findClass RM = some m.cls := findClass_of_methodNamed B.named
  have hlocks := B.notSynchronized
  subst hsz
  have hD := hD0.self (sz := s.heap.size)
  generalize hAe : va_A [(hm, .inr (2, [.int er, .ref ml, .ref mw, .ref mb, .ref ms, .ref mn])), (ml, .inl (cI, 8, .inl ln)), (mw, .inl (cI, 512, .inl wh)), (mb, .inl (cI, 48, .inl bi)), (ms, .inl (cZ, 48, .inl si)), (mn, .inl (cJ, 6, .inr (.inl nu)))] s.heap.size = A at hD ⊢
  have hA : ∀ q : Nat, s.heap.size ≤ q → A q := fun q h => by rw [← hAe]; exact Or.inr h
  have hS : va_S A s.heap s.heap [] := va_S.rf
  have hl := lv_entry ([.ref hm, .int x, .int z, .long v]) (n := 6) (Nat.le_of_ble_eq_true rfl)
  rw [lg_entry_eq]
  generalize (lg_sl ([.ref hm, .int x, .int z, .long v]) ++ List.replicate (6 - (lg_sl ([.ref hm, .int x, .int z, .long v])).length) Slot.unset).toArray = ls at hl ⊢
  have hl : lv_has ls 6 [(0, .ref hm), (1, .int x), (2, .int z), (3, .long v)] := hl
  refine lv_aload_n hx hb dM_fixed_0 rfl (lv_at hl 0 rfl) ?_
  refine lv_iconst (v := nI 0) hx hb dM_fixed_1 (by decide +kernel) ?_
  refine va_put (D := (dC, dI)) (ci := 2) (v := .int (nI 0)) (ty := .int) (C := RM) (T := TM) (N := 6) hx hb hw inM tM tM_ok nM hown hK hP hD hS 0 rfl rfl 0 (by decide) (hw _ kw_386) (fun _ h9 => h9) rfl (by decide +kernel) rfl rfl (Nat.le_of_ble_eq_true rfl) dM_fixed_2 (fun H locs hP hD hS => ?_)
  have hP : va_P (dC, dI) cls3 [(hm, .inr (2, [.int (nI 0), .ref ml, .ref mw, .ref mb, .ref ms, .ref mn])), (ml, .inl (cI, 8, .inl ln)), (mw, .inl (cI, 512, .inl wh)), (mb, .inl (cI, 48, .inl bi)), (ms, .inl (cZ, 48, .inl si)), (mn, .inl (cJ, 6, .inr (.inl nu)))] H := hP
  have hD : va_D A [(hm, .inr (2, [.int (nI 0), .ref ml, .ref mw, .ref mb, .ref ms, .ref mn])), (ml, .inl (cI, 8, .inl ln)), (mw, .inl (cI, 512, .inl wh)), (mb, .inl (cI, 48, .inl bi)), (ms, .inl (cZ, 48, .inl si)), (mn, .inl (cJ, 6, .inr (.inl nu)))] := hD
  refine lv_aload_n hx hb dM_fixed_5 rfl (lv_at hl 0 rfl) ?_
  refine lv_iload_n hx hb dM_fixed_6 rfl (lv_at hl 1 rfl) ?_
  refine vp_callSi (W.runS (As := [.int x]) (rest := [.ref hm]) ⟨hx, hb, hml, hown, hw⟩ (c_M_isForm l x) (cwS 1 hw (gS kw_413 kw_414 kw_16 kw_415) rfl rfl rfl (by decide +kernel) ⟨Nat.le_of_ble_eq_true rfl, Nat.le_of_ble_eq_true rfl⟩) preEq rfl rfl hl.1 rfl (lv_room (Nat.le_of_ble_eq_true rfl)) dM_fixed_7 ⟨Nat.zero_le _, Nat.zero_le _⟩) (fun v7 e7 => ?_)
  obtain rfl : v7 = nI (isF x).toNat := e7
  refine lv_if_eq (tgt := 25) hx hb dM_fixed_10 (by decide) (fun h10 => ?_) (fun h10 => ?_)
  · rw [b_nat0] at h10
    refine lv_iconst (v := nI 1) hx hb dM_fixed_25 (by decide +kernel) ?_
    refine lv_goto (tgt := 30) hx hb dM_fixed_26 (by decide) ?_
    refine lv_iconst (v := nI 1) hx hb dM_fixed_30 (by decide +kernel) ?_
    have hPc := hP.sub (ws' := [(hm, .inr (2, [.int (nI 0), .ref ml, .ref mw, .ref mb, .ref ms, .ref mn])), (ml, .inl (cI, 8, .inl ln)), (mw, .inl (cI, 512, .inl wh)), (mb, .inl (cI, 48, .inl bi)), (ms, .inl (cZ, 48, .inl si)), (mn, .inl (cJ, 6, .inr (.inl nu)))]) [0, 1, 2, 3, 4, 5] rfl
    have hDc := hD.sub (ws' := [(hm, .inr (2, [.int (nI 0), .ref ml, .ref mw, .ref mb, .ref ms, .ref mn])), (ml, .inl (cI, 8, .inl ln)), (mw, .inl (cI, 512, .inl wh)), (mb, .inl (cI, 48, .inl bi)), (ms, .inl (cZ, 48, .inl si)), (mn, .inl (cJ, 6, .inr (.inl nu)))]) [0, 1, 2, 3, 4, 5] (by decide) rfl
    have hKc := hK.sub (tys' := [(cI, .int), (cZ, .boolean), (cJ, .long)]) [0, 1, 2] rfl
    have hFc := va_free (wc := [(hm, .inr (2, [.int (nI 0), .ref ml, .ref mw, .ref mb, .ref ms, .ref mn])), (ml, .inl (cI, 8, .inl ln)), (mw, .inl (cI, 512, .inl wh)), (mb, .inl (cI, 48, .inl bi)), (ms, .inl (cZ, 48, .inl si)), (mn, .inl (cJ, 6, .inr (.inl nu)))]) hD hS hA [0, 1, 2, 3, 4, 5] rfl
    refine va_calli (va_runV (As := [.int (nI 1), .int (nI 1)]) (rest := []) ⟨hx, hb, hml, hown, hw⟩ (c_M_fails1 l dC dI _ cI cZ cJ hm ml mw mb ms mn ln wh bi si nu 1 (by decide)) (cwV 2 hw (gV kw_420 kw_422 kw_5 kw_16 kw_423) rfl rfl rfl (by decide +kernel) ⟨Nat.le_of_ble_eq_true rfl, Nat.le_of_ble_eq_true rfl⟩) (rw_preV (q0 := 0) hKc hPc hDc rfl rfl) rfl rfl hl.1 rfl (lv_room (Nat.le_of_ble_eq_true rfl)) dM_fixed_31 ⟨Nat.zero_le _, Nat.zero_le _⟩) hS (fun q _ h => hFc q h) hFc (fun v31 u t H1 locs ht hvm e31 hB hz1 hk1 hS => ?_)
    obtain ⟨hP1, hK1, hD1⟩ := hB
    rw [ht] at hP1
    obtain ⟨hP, hD⟩ := va_join (wr := []) (w1 := [(hm, .inr (2, [.int (nI 1), .ref ml, .ref mw, .ref mb, .ref ms, .ref mn])), (ml, .inl (cI, 8, .inl ln)), (mw, .inl (cI, 512, .inl wh)), (mb, .inl (cI, 48, .inl bi)), (ms, .inl (cZ, 48, .inl si)), (mn, .inl (cJ, 6, .inr (.inl nu)))]) hP hD [0, 1, 2, 3, 4, 5] [] rfl rfl (by decide) (by decide) hk1 hFc hP1 hD1
    generalize H1 = H at hP hS ⊢
    have hP : va_P (dC, dI) cls3 [(hm, .inr (2, [.int (nI 1), .ref ml, .ref mw, .ref mb, .ref ms, .ref mn])), (ml, .inl (cI, 8, .inl ln)), (mw, .inl (cI, 512, .inl wh)), (mb, .inl (cI, 48, .inl bi)), (ms, .inl (cZ, 48, .inl si)), (mn, .inl (cJ, 6, .inr (.inl nu)))] H := hP
    have hD : va_D A [(hm, .inr (2, [.int (nI 1), .ref ml, .ref mw, .ref mb, .ref ms, .ref mn])), (ml, .inl (cI, 8, .inl ln)), (mw, .inl (cI, 512, .inl wh)), (mb, .inl (cI, 48, .inl bi)), (ms, .inl (cZ, 48, .inl si)), (mn, .inl (cJ, 6, .inr (.inl nu)))] := hD
    obtain rfl : v31 = nI 1 := e31
    refine lv_if_ne (tgt := 63) hx hb dM_fixed_34 (by decide) (fun h34 => ?_) (fun h34 => ?_)
    · refine lv_iconst (v := nI 0) hx hb dM_fixed_63 (by decide +kernel) ?_
      have hcd : cdFixed ns x z = 1 := by unfold cdFixed; first | (rw [h10]; rfl) | (rw [isF_nI hf, h22]; rfl) | (rw [isF_nI hf, isB_nI hc, hfi, hfk, Bool.true_and, if_pos rfl, if_pos (by omega)]) | (rw [isF_nI hf, isB_nI hc, hfi, hfk, Bool.true_and, if_pos rfl, if_neg (by omega)])
      exact W.iret (v := nI 0) hx hb hr (fun t ht hW => ⟨⟨_, (), rfl, (by intro h0; first | exact absurd (hcd.symm.trans h0) (by decide) | (rw [hfi, hfk])), ln, wh, by rw [hcd]; exact hM, by rw [ht, hcd]; exact hP, va_K.moved hW.alike hK, by rw [hcd]; exact hD⟩, hS.F ht⟩) hS.2.2 dM_fixed_64
    · exfalso
      first | exact h34 (by decide +kernel) | exact absurd h34 (by decide +kernel)
  · obtain ⟨f, hf, rfl⟩ := isF_of (b_nf h10)
    have hfi : fi (nI f) = f := fi_nI (by omega)
    have hok := (hM f hf).1
    have hn := hok.1
    have hw64 := hok.2.1
    have hit := cw_it hok
    refine lv_iload_n hx hb dM_fixed_13 rfl (lv_at hl 2 rfl) ?_
    refine lv_i2l hx hb dM_fixed_14 rfl ?_
    refine lv_topl (fun v14 e14 => ?_)
    refine lv_lconst (v := lN 1) hx hb dM_fixed_15 (by decide +kernel) ?_
    refine lv_ldc2 (v := lN 64) hx hb hown (hw _ kw_432) dM_fixed_16 ?_
    refine vp_callSi (W.runS (As := [.long v14, .long (lN 1), .long (lN 64)]) (rest := [.ref hm]) ⟨hx, hb, hml, hown, hw⟩ (c_M_in l v14 (lN 1) (lN 64)) (cwS 3 hw (gS kw_417 kw_418 kw_16 kw_419) rfl rfl rfl (by decide +kernel) ⟨Nat.le_of_ble_eq_true rfl, Nat.le_of_ble_eq_true rfl⟩) preEq rfl rfl hl.1 rfl (lv_room (Nat.le_of_ble_eq_true rfl)) dM_fixed_19 ⟨Nat.zero_le _, Nat.zero_le _⟩) (fun v19 e19 => ?_)
    obtain rfl : v19 = nI (isB z).toNat := e19.trans (by rw [e14]; exact isB_in z)
    refine lv_if_ne (tgt := 29) hx hb dM_fixed_22 (by decide) (fun h22 => ?_) (fun h22 => ?_)
    · obtain ⟨cnt, hc, rfl⟩ := isB_of (b_nf h22)
      have hfk : fi (nI cnt) = cnt := fi_nI (by omega)
      refine lv_iconst (v := nI 0) hx hb dM_fixed_29 (by decide +kernel) ?_
      refine lv_iconst (v := nI 1) hx hb dM_fixed_30 (by decide +kernel) ?_
      have hPc := hP.sub (ws' := [(hm, .inr (2, [.int (nI 0), .ref ml, .ref mw, .ref mb, .ref ms, .ref mn])), (ml, .inl (cI, 8, .inl ln)), (mw, .inl (cI, 512, .inl wh)), (mb, .inl (cI, 48, .inl bi)), (ms, .inl (cZ, 48, .inl si)), (mn, .inl (cJ, 6, .inr (.inl nu)))]) [0, 1, 2, 3, 4, 5] rfl
      have hDc := hD.sub (ws' := [(hm, .inr (2, [.int (nI 0), .ref ml, .ref mw, .ref mb, .ref ms, .ref mn])), (ml, .inl (cI, 8, .inl ln)), (mw, .inl (cI, 512, .inl wh)), (mb, .inl (cI, 48, .inl bi)), (ms, .inl (cZ, 48, .inl si)), (mn, .inl (cJ, 6, .inr (.inl nu)))]) [0, 1, 2, 3, 4, 5] (by decide) rfl
      have hKc := hK.sub (tys' := [(cI, .int), (cZ, .boolean), (cJ, .long)]) [0, 1, 2] rfl
      have hFc := va_free (wc := [(hm, .inr (2, [.int (nI 0), .ref ml, .ref mw, .ref mb, .ref ms, .ref mn])), (ml, .inl (cI, 8, .inl ln)), (mw, .inl (cI, 512, .inl wh)), (mb, .inl (cI, 48, .inl bi)), (ms, .inl (cZ, 48, .inl si)), (mn, .inl (cJ, 6, .inr (.inl nu)))]) hD hS hA [0, 1, 2, 3, 4, 5] rfl
      refine va_calli (va_runV (As := [.int (nI 0), .int (nI 1)]) (rest := []) ⟨hx, hb, hml, hown, hw⟩ (c_M_fails0 l dC dI _ cI cZ cJ hm ml mw mb ms mn ln wh bi si nu 1 (by decide)) (cwV 2 hw (gV kw_420 kw_422 kw_5 kw_16 kw_423) rfl rfl rfl (by decide +kernel) ⟨Nat.le_of_ble_eq_true rfl, Nat.le_of_ble_eq_true rfl⟩) (rw_preV (q0 := 0) hKc hPc hDc rfl rfl) rfl rfl hl.1 rfl (lv_room (Nat.le_of_ble_eq_true rfl)) dM_fixed_31 ⟨Nat.zero_le _, Nat.zero_le _⟩) hS (fun q _ h => hFc q h) hFc (fun v31 u t H1 locs ht hvm e31 hB hz1 hk1 hS => ?_)
      obtain ⟨hP1, hK1, hD1⟩ := hB
      rw [ht] at hP1
      obtain ⟨hP, hD⟩ := va_join (wr := []) (w1 := [(hm, .inr (2, [.int (nI 0), .ref ml, .ref mw, .ref mb, .ref ms, .ref mn])), (ml, .inl (cI, 8, .inl ln)), (mw, .inl (cI, 512, .inl wh)), (mb, .inl (cI, 48, .inl bi)), (ms, .inl (cZ, 48, .inl si)), (mn, .inl (cJ, 6, .inr (.inl nu)))]) hP hD [0, 1, 2, 3, 4, 5] [] rfl rfl (by decide) (by decide) hk1 hFc hP1 hD1
      generalize H1 = H at hP hS ⊢
      have hP : va_P (dC, dI) cls3 [(hm, .inr (2, [.int (nI 0), .ref ml, .ref mw, .ref mb, .ref ms, .ref mn])), (ml, .inl (cI, 8, .inl ln)), (mw, .inl (cI, 512, .inl wh)), (mb, .inl (cI, 48, .inl bi)), (ms, .inl (cZ, 48, .inl si)), (mn, .inl (cJ, 6, .inr (.inl nu)))] H := hP
      have hD : va_D A [(hm, .inr (2, [.int (nI 0), .ref ml, .ref mw, .ref mb, .ref ms, .ref mn])), (ml, .inl (cI, 8, .inl ln)), (mw, .inl (cI, 512, .inl wh)), (mb, .inl (cI, 48, .inl bi)), (ms, .inl (cZ, 48, .inl si)), (mn, .inl (cJ, 6, .inr (.inl nu)))] := hD
      obtain rfl : v31 = nI 0 := e31
      refine lv_if_ne (tgt := 63) hx hb dM_fixed_34 (by decide) (fun h34 => ?_) (fun h34 => ?_)
      · exfalso
        first | exact h34 (by decide +kernel) | exact absurd h34 (by decide +kernel)
      · refine lv_aload_n hx hb dM_fixed_37 rfl (lv_at hl 0 rfl) ?_
        refine lv_aload_n hx hb dM_fixed_38 rfl (lv_at hl 0 rfl) ?_
        refine va_get (D := (dC, dI)) (ci := 2) (v := .ref ml) (C := RM) (T := TM) (N := 6) hx hb hw inM hown hK hP 0 rfl rfl 1 (by decide) (hw _ kw_387) (fun _ h9 => h9) rfl dM_fixed_39 ?_
        refine lv_iload_n hx hb dM_fixed_42 rfl (lv_at hl 1 rfl) ?_
        refine va_iald hx hb hK hP 1 0 rfl rfl (vp_in_nI (by omega) (by decide)) dM_fixed_43 ?_
        refine lv_topi (fun v43 e43 => ?_)
        rw [nI_clamp (by omega)] at e43
        obtain rfl : v43 = nI (ns f) := e43.trans (hM f hf).2.1
        refine lv_iload_n hx hb dM_fixed_44 rfl (lv_at hl 2 rfl) ?_
        refine lv_iadd hx hb dM_fixed_45 ?_
        refine lv_topi (fun v45 e45 => ?_)
        obtain rfl : v45 = nI (ns f + cnt) := e45.trans (nI_add _ _)
        refine lv_bipush (v := nI 64) hx hb dM_fixed_46 (by decide +kernel) ?_
        refine lv_icmp_le (tgt := 55) hx hb dM_fixed_48 (by decide) (fun h48 => ?_) (fun h48 => ?_)
        · rw [nI_leI (by omega) (by omega)] at h48
          refine lv_iconst (v := nI 0) hx hb dM_fixed_55 (by decide +kernel) ?_
          refine lv_iconst (v := nI 2) hx hb dM_fixed_56 (by decide +kernel) ?_
          have hPc := hP.sub (ws' := [(hm, .inr (2, [.int (nI 0), .ref ml, .ref mw, .ref mb, .ref ms, .ref mn])), (ml, .inl (cI, 8, .inl ln)), (mw, .inl (cI, 512, .inl wh)), (mb, .inl (cI, 48, .inl bi)), (ms, .inl (cZ, 48, .inl si)), (mn, .inl (cJ, 6, .inr (.inl nu)))]) [0, 1, 2, 3, 4, 5] rfl
          have hDc := hD.sub (ws' := [(hm, .inr (2, [.int (nI 0), .ref ml, .ref mw, .ref mb, .ref ms, .ref mn])), (ml, .inl (cI, 8, .inl ln)), (mw, .inl (cI, 512, .inl wh)), (mb, .inl (cI, 48, .inl bi)), (ms, .inl (cZ, 48, .inl si)), (mn, .inl (cJ, 6, .inr (.inl nu)))]) [0, 1, 2, 3, 4, 5] (by decide) rfl
          have hKc := hK.sub (tys' := [(cI, .int), (cZ, .boolean), (cJ, .long)]) [0, 1, 2] rfl
          have hFc := va_free (wc := [(hm, .inr (2, [.int (nI 0), .ref ml, .ref mw, .ref mb, .ref ms, .ref mn])), (ml, .inl (cI, 8, .inl ln)), (mw, .inl (cI, 512, .inl wh)), (mb, .inl (cI, 48, .inl bi)), (ms, .inl (cZ, 48, .inl si)), (mn, .inl (cJ, 6, .inr (.inl nu)))]) hD hS hA [0, 1, 2, 3, 4, 5] rfl
          refine va_calli (va_runV (As := [.int (nI 0), .int (nI 2)]) (rest := []) ⟨hx, hb, hml, hown, hw⟩ (c_M_fails0 l dC dI _ cI cZ cJ hm ml mw mb ms mn ln wh bi si nu 2 (by decide)) (cwV 2 hw (gV kw_420 kw_422 kw_5 kw_16 kw_423) rfl rfl rfl (by decide +kernel) ⟨Nat.le_of_ble_eq_true rfl, Nat.le_of_ble_eq_true rfl⟩) (rw_preV (q0 := 0) hKc hPc hDc rfl rfl) rfl rfl hl.1 rfl (lv_room (Nat.le_of_ble_eq_true rfl)) dM_fixed_57 ⟨Nat.zero_le _, Nat.zero_le _⟩) hS (fun q _ h => hFc q h) hFc (fun v57 u t H1 locs ht hvm e57 hB hz1 hk1 hS => ?_)
          obtain ⟨hP1, hK1, hD1⟩ := hB
          rw [ht] at hP1
          obtain ⟨hP, hD⟩ := va_join (wr := []) (w1 := [(hm, .inr (2, [.int (nI 0), .ref ml, .ref mw, .ref mb, .ref ms, .ref mn])), (ml, .inl (cI, 8, .inl ln)), (mw, .inl (cI, 512, .inl wh)), (mb, .inl (cI, 48, .inl bi)), (ms, .inl (cZ, 48, .inl si)), (mn, .inl (cJ, 6, .inr (.inl nu)))]) hP hD [0, 1, 2, 3, 4, 5] [] rfl rfl (by decide) (by decide) hk1 hFc hP1 hD1
          generalize H1 = H at hP hS ⊢
          have hP : va_P (dC, dI) cls3 [(hm, .inr (2, [.int (nI 0), .ref ml, .ref mw, .ref mb, .ref ms, .ref mn])), (ml, .inl (cI, 8, .inl ln)), (mw, .inl (cI, 512, .inl wh)), (mb, .inl (cI, 48, .inl bi)), (ms, .inl (cZ, 48, .inl si)), (mn, .inl (cJ, 6, .inr (.inl nu)))] H := hP
          have hD : va_D A [(hm, .inr (2, [.int (nI 0), .ref ml, .ref mw, .ref mb, .ref ms, .ref mn])), (ml, .inl (cI, 8, .inl ln)), (mw, .inl (cI, 512, .inl wh)), (mb, .inl (cI, 48, .inl bi)), (ms, .inl (cZ, 48, .inl si)), (mn, .inl (cJ, 6, .inr (.inl nu)))] := hD
          obtain rfl : v57 = nI 0 := e57
          refine lv_if_eq (tgt := 65) hx hb dM_fixed_60 (by decide) (fun h60 => ?_) (fun h60 => ?_)
          · refine lv_iload_n hx hb dM_fixed_65 rfl (lv_at hl 2 rfl) ?_
            refine lv_iconst (v := nI 1) hx hb dM_fixed_66 (by decide +kernel) ?_
            refine lv_isub hx hb dM_fixed_67 ?_
            refine lv_topi (fun v67 e67 => ?_)
            obtain rfl : v67 = nI cnt - nI 1 := e67
            refine lv_istore hx hb dM_fixed_68 hl (by decide) rfl (fun ls hl => ?_)
            have hl : lv_has ls 6 [(5, .int (nI cnt - nI 1)), (0, .ref hm), (1, .int (nI f)), (2, .int (nI cnt)), (3, .long v)] := hl
            refine (?_ : ∀ (kk : Nat) (k : Nat) (ln2 : Nat → Int32) (wh2 : Nat → Int32) (H : Heap) (locs : List Loc) (ls : Array Slot), kk = k → lv_has ls 6 [(5, .int (nI k - nI 1)), (0, .ref hm), (1, .int (nI f)), (2, .int (nI cnt)), (3, .long v)] → (k ≤ cnt) → (mR (va_up ns f (ns f + cnt - k)) (va_up its f (itF (its f) (ns f) cnt v)) wss sbs ln2 wh2 bi si) → va_P (dC, dI) cls3 [(hm, .inr (2, [.int (nI 0), .ref ml, .ref mw, .ref mb, .ref ms, .ref mn])), (ml, .inl (cI, 8, .inl ln2)), (mw, .inl (cI, 512, .inl wh2)), (mb, .inl (cI, 48, .inl bi)), (ms, .inl (cZ, 48, .inl si)), (mn, .inl (cJ, 6, .inr (.inl nu)))] H → va_D A [(hm, .inr (2, [.int (nI 0), .ref ml, .ref mw, .ref mb, .ref ms, .ref mn])), (ml, .inl (cI, 8, .inl ln2)), (mw, .inl (cI, 512, .inl wh2)), (mb, .inl (cI, 48, .inl bi)), (ms, .inl (cZ, 48, .inl si)), (mn, .inl (cJ, 6, .inr (.inl nu)))] → va_S A s.heap H locs → W p l e _ s m _ below meth c H locs _ _ _ (F0 m 70 ls [])) _ cnt ln wh _ _ ls rfl (lv_sub hl [0, 1, 2, 3, 4] rfl) (by omega) (by rw [Nat.add_sub_cancel]; exact mR_st hM (fun j hj => itF_lt hj)) hP hD hS
            intro kk
            induction kk using Nat.strongRecOn with
            | ind kk70 ih70 =>
              intro k ln2 wh2 H locs ls hkk70 hl hk hR hP hD hS
              refine lv_iload hx hb dM_fixed_70 (lv_at hl 0 rfl) ?_
              refine lv_if_lt (tgt := 108) hx hb dM_fixed_72 (by decide) (fun h72 => ?_) (fun h72 => ?_)
              · rw [dn_0 (by omega)] at h72
                subst h72
                refine lv_aload_n hx hb dM_fixed_108 rfl (lv_at hl 1 rfl) ?_
                refine va_get (D := (dC, dI)) (ci := 2) (v := .ref ml) (C := RM) (T := TM) (N := 6) hx hb hw inM hown hK hP 0 rfl rfl 1 (by decide) (hw _ kw_387) (fun _ h9 => h9) rfl dM_fixed_109 ?_
                refine lv_iload_n hx hb dM_fixed_112 rfl (lv_at hl 2 rfl) ?_
                refine va_iald hx hb hK hP 1 0 rfl rfl (vp_in_nI (by omega) (by decide)) dM_fixed_113 ?_
                refine lv_topi (fun v113 e113 => ?_)
                rw [nI_clamp (by omega)] at e113
                obtain rfl : v113 = nI (ns f + cnt) := e113.trans (mR_ln hR hf)
                have hcd : cdFixed ns (nI f) (nI cnt) = 0 := by unfold cdFixed; first | (rw [h10]; rfl) | (rw [isF_nI hf, h22]; rfl) | (rw [isF_nI hf, isB_nI hc, hfi, hfk, Bool.true_and, if_pos rfl, if_pos (by omega)]) | (rw [isF_nI hf, isB_nI hc, hfi, hfk, Bool.true_and, if_pos rfl, if_neg (by omega)])
                exact W.iret (v := nI (ns f + cnt)) hx hb hr (fun t ht hW => ⟨⟨_, (), rfl, (by intro h0; first | exact absurd (hcd.symm.trans h0) (by decide) | (rw [hfi, hfk])), ln2, wh2, by rw [hcd, hfi, hfk]; exact hR, by rw [ht, hcd]; exact hP, va_K.moved hW.alike hK, by rw [hcd]; exact hD⟩, hS.F ht⟩) hS.2.2 dM_fixed_114
              · rw [dn_0 (by omega)] at h72
                have hnn : ns f + cnt - (k - 1) = ns f + cnt - k + 1 := by omega
                have hok1 : cw_ok (itF (its f) (ns f) cnt v) (ns f + cnt - k + 1) (wss f) := itF_ok hok (by omega) (by omega)
                have hnx : itF (its f) (ns f) cnt v (ns f + cnt - k) = bq v (k - 1) := by rw [itF_ge (by omega)]; congr 1; omega
                refine lv_aload_n hx hb dM_fixed_75 rfl (lv_at hl 1 rfl) ?_
                refine va_get (D := (dC, dI)) (ci := 2) (v := .ref mw) (C := RM) (T := TM) (N := 6) hx hb hw inM hown hK hP 0 rfl rfl 2 (by decide) (hw _ kw_388) (fun _ h9 => h9) rfl dM_fixed_76 ?_
                refine lv_bipush (v := nI 64) hx hb dM_fixed_79 (by decide +kernel) ?_
                refine lv_iload_n hx hb dM_fixed_81 rfl (lv_at hl 2 rfl) ?_
                refine lv_imul hx hb dM_fixed_82 ?_
                refine lv_topi (fun v82 e82 => ?_)
                obtain rfl : v82 = nI (64 * f) := e82.trans (pk_mul _ _)
                refine lv_aload_n hx hb dM_fixed_83 rfl (lv_at hl 1 rfl) ?_
                refine va_get (D := (dC, dI)) (ci := 2) (v := .ref ml) (C := RM) (T := TM) (N := 6) hx hb hw inM hown hK hP 0 rfl rfl 1 (by decide) (hw _ kw_387) (fun _ h9 => h9) rfl dM_fixed_84 ?_
                refine lv_iload_n hx hb dM_fixed_87 rfl (lv_at hl 2 rfl) ?_
                refine lv_dup2_11 hx hb dM_fixed_88 rfl rfl ?_
                refine va_iald hx hb hK hP 1 0 rfl rfl (vp_in_nI (by omega) (by decide)) dM_fixed_89 ?_
                refine lv_topi (fun v89 e89 => ?_)
                rw [nI_clamp (by omega)] at e89
                obtain rfl : v89 = nI (ns f + cnt - k) := e89.trans (mR_ln hR hf)
                refine lv_dup_x2 hx hb dM_fixed_90 rfl rfl rfl ?_
                refine lv_iconst (v := nI 1) hx hb dM_fixed_91 (by decide +kernel) ?_
                refine lv_iadd hx hb dM_fixed_92 ?_
                refine lv_topi (fun v92 e92 => ?_)
                obtain rfl : v92 = nI (ns f + cnt - k + 1) := e92.trans (nI_add _ _)
                refine va_iast hx hb hK hP hD hS 1 0 rfl rfl (vp_in_nI (by omega) (by decide)) dM_fixed_93 (fun H locs hP hD hS => ?_)
                rw [show (nI f).toNatClampNeg = f from nI_clamp (by omega)] at hP hD
                have hP : va_P (dC, dI) cls3 [(hm, .inr (2, [.int (nI 0), .ref ml, .ref mw, .ref mb, .ref ms, .ref mn])), (ml, .inl (cI, 8, .inl (upd ln2 f (nI (ns f + cnt - k + 1))))), (mw, .inl (cI, 512, .inl wh2)), (mb, .inl (cI, 48, .inl bi)), (ms, .inl (cZ, 48, .inl si)), (mn, .inl (cJ, 6, .inr (.inl nu)))] H := hP
                have hD : va_D A [(hm, .inr (2, [.int (nI 0), .ref ml, .ref mw, .ref mb, .ref ms, .ref mn])), (ml, .inl (cI, 8, .inl (upd ln2 f (nI (ns f + cnt - k + 1))))), (mw, .inl (cI, 512, .inl wh2)), (mb, .inl (cI, 48, .inl bi)), (ms, .inl (cZ, 48, .inl si)), (mn, .inl (cJ, 6, .inr (.inl nu)))] := hD
                refine lv_iadd hx hb dM_fixed_94 ?_
                refine lv_topi (fun v94 e94 => ?_)
                obtain rfl : v94 = nI (64 * f + (ns f + cnt - k)) := e94.trans (nI_add _ _)
                refine lv_lload_n hx hb dM_fixed_95 rfl (lv_at hl 4 rfl) ?_
                refine lv_iload hx hb dM_fixed_96 (lv_at hl 0 rfl) ?_
                refine lv_topi (fun w96 ew96 => ?_)
                obtain rfl : w96 = nI (k - 1) := ew96.trans (cw_m1 (by omega))
                refine vp_callSi (W.runS (As := [.long v, .int (nI (k - 1))]) (rest := [.int (nI (64 * f + (ns f + cnt - k))), .ref mw]) ⟨hx, hb, hml, hown, hw⟩ (c_M_bit l v (k - 1) (by omega)) (cwS 2 hw (gS kw_441 kw_442 kw_16 kw_443) rfl rfl rfl (by decide +kernel) ⟨Nat.le_of_ble_eq_true rfl, Nat.le_of_ble_eq_true rfl⟩) preEq rfl rfl hl.1 rfl (lv_room (Nat.le_of_ble_eq_true rfl)) dM_fixed_98 ⟨Nat.zero_le _, Nat.zero_le _⟩) (fun v98 e98 => ?_)
                obtain rfl : v98 = nI (itF (its f) (ns f) cnt v (ns f + cnt - k)) := e98.trans (by rw [hnx])
                refine va_iast hx hb hK hP hD hS 2 0 rfl rfl (vp_in_nI (by omega) (by decide)) dM_fixed_101 (fun H locs hP hD hS => ?_)
                rw [show (nI (64 * f + (ns f + cnt - k))).toNatClampNeg = (64 * f + (ns f + cnt - k)) from nI_clamp (by omega)] at hP hD
                have hP : va_P (dC, dI) cls3 [(hm, .inr (2, [.int (nI 0), .ref ml, .ref mw, .ref mb, .ref ms, .ref mn])), (ml, .inl (cI, 8, .inl (upd ln2 f (nI (ns f + cnt - k + 1))))), (mw, .inl (cI, 512, .inl (upd wh2 (64 * f + (ns f + cnt - k)) (nI (itF (its f) (ns f) cnt v (ns f + cnt - k)))))), (mb, .inl (cI, 48, .inl bi)), (ms, .inl (cZ, 48, .inl si)), (mn, .inl (cJ, 6, .inr (.inl nu)))] H := hP
                have hD : va_D A [(hm, .inr (2, [.int (nI 0), .ref ml, .ref mw, .ref mb, .ref ms, .ref mn])), (ml, .inl (cI, 8, .inl (upd ln2 f (nI (ns f + cnt - k + 1))))), (mw, .inl (cI, 512, .inl (upd wh2 (64 * f + (ns f + cnt - k)) (nI (itF (its f) (ns f) cnt v (ns f + cnt - k)))))), (mb, .inl (cI, 48, .inl bi)), (ms, .inl (cZ, 48, .inl si)), (mn, .inl (cJ, 6, .inr (.inl nu)))] := hD
                refine lv_iinc (k := 0) (v := nI (k - 1) - nI 1) hx hb dM_fixed_102 hl rfl (cw_dec (by omega)) (by decide) rfl (fun ls hl => ?_)
                have hl : lv_has ls 6 [(5, .int (nI (k - 1) - nI 1)), (0, .ref hm), (1, .int (nI f)), (2, .int (nI cnt)), (3, .long v)] := hl
                refine lv_goto (tgt := 70) hx hb dM_fixed_105 (by decide) ?_
                exact ih70 _ (by omega) (k - 1) (upd ln2 f (nI (ns f + cnt - k + 1))) (upd wh2 (64 * f + (ns f + cnt - k)) (nI (itF (its f) (ns f) cnt v (ns f + cnt - k)))) _ _ ls rfl (lv_sub (l' := [(5, .int (nI (k - 1) - nI 1)), (0, .ref hm), (1, .int (nI f)), (2, .int (nI cnt)), (3, .long v)]) hl [0, 1, 2, 3, 4] rfl) (by omega) (by rw [hnn]; exact mR_app hf hR hok1) hP hD hS
          · exfalso
            first | exact h60 (by decide +kernel) | exact absurd h60 (by decide +kernel)
        · rw [nI_leI (by omega) (by omega)] at h48
          refine lv_iconst (v := nI 1) hx hb dM_fixed_51 (by decide +kernel) ?_
          refine lv_goto (tgt := 56) hx hb dM_fixed_52 (by decide) ?_
          refine lv_iconst (v := nI 2) hx hb dM_fixed_56 (by decide +kernel) ?_
          have hPc := hP.sub (ws' := [(hm, .inr (2, [.int (nI 0), .ref ml, .ref mw, .ref mb, .ref ms, .ref mn])), (ml, .inl (cI, 8, .inl ln)), (mw, .inl (cI, 512, .inl wh)), (mb, .inl (cI, 48, .inl bi)), (ms, .inl (cZ, 48, .inl si)), (mn, .inl (cJ, 6, .inr (.inl nu)))]) [0, 1, 2, 3, 4, 5] rfl
          have hDc := hD.sub (ws' := [(hm, .inr (2, [.int (nI 0), .ref ml, .ref mw, .ref mb, .ref ms, .ref mn])), (ml, .inl (cI, 8, .inl ln)), (mw, .inl (cI, 512, .inl wh)), (mb, .inl (cI, 48, .inl bi)), (ms, .inl (cZ, 48, .inl si)), (mn, .inl (cJ, 6, .inr (.inl nu)))]) [0, 1, 2, 3, 4, 5] (by decide) rfl
          have hKc := hK.sub (tys' := [(cI, .int), (cZ, .boolean), (cJ, .long)]) [0, 1, 2] rfl
          have hFc := va_free (wc := [(hm, .inr (2, [.int (nI 0), .ref ml, .ref mw, .ref mb, .ref ms, .ref mn])), (ml, .inl (cI, 8, .inl ln)), (mw, .inl (cI, 512, .inl wh)), (mb, .inl (cI, 48, .inl bi)), (ms, .inl (cZ, 48, .inl si)), (mn, .inl (cJ, 6, .inr (.inl nu)))]) hD hS hA [0, 1, 2, 3, 4, 5] rfl
          refine va_calli (va_runV (As := [.int (nI 1), .int (nI 2)]) (rest := []) ⟨hx, hb, hml, hown, hw⟩ (c_M_fails1 l dC dI _ cI cZ cJ hm ml mw mb ms mn ln wh bi si nu 2 (by decide)) (cwV 2 hw (gV kw_420 kw_422 kw_5 kw_16 kw_423) rfl rfl rfl (by decide +kernel) ⟨Nat.le_of_ble_eq_true rfl, Nat.le_of_ble_eq_true rfl⟩) (rw_preV (q0 := 0) hKc hPc hDc rfl rfl) rfl rfl hl.1 rfl (lv_room (Nat.le_of_ble_eq_true rfl)) dM_fixed_57 ⟨Nat.zero_le _, Nat.zero_le _⟩) hS (fun q _ h => hFc q h) hFc (fun v57 u t H1 locs ht hvm e57 hB hz1 hk1 hS => ?_)
          obtain ⟨hP1, hK1, hD1⟩ := hB
          rw [ht] at hP1
          obtain ⟨hP, hD⟩ := va_join (wr := []) (w1 := [(hm, .inr (2, [.int (nI 2), .ref ml, .ref mw, .ref mb, .ref ms, .ref mn])), (ml, .inl (cI, 8, .inl ln)), (mw, .inl (cI, 512, .inl wh)), (mb, .inl (cI, 48, .inl bi)), (ms, .inl (cZ, 48, .inl si)), (mn, .inl (cJ, 6, .inr (.inl nu)))]) hP hD [0, 1, 2, 3, 4, 5] [] rfl rfl (by decide) (by decide) hk1 hFc hP1 hD1
          generalize H1 = H at hP hS ⊢
          have hP : va_P (dC, dI) cls3 [(hm, .inr (2, [.int (nI 2), .ref ml, .ref mw, .ref mb, .ref ms, .ref mn])), (ml, .inl (cI, 8, .inl ln)), (mw, .inl (cI, 512, .inl wh)), (mb, .inl (cI, 48, .inl bi)), (ms, .inl (cZ, 48, .inl si)), (mn, .inl (cJ, 6, .inr (.inl nu)))] H := hP
          have hD : va_D A [(hm, .inr (2, [.int (nI 2), .ref ml, .ref mw, .ref mb, .ref ms, .ref mn])), (ml, .inl (cI, 8, .inl ln)), (mw, .inl (cI, 512, .inl wh)), (mb, .inl (cI, 48, .inl bi)), (ms, .inl (cZ, 48, .inl si)), (mn, .inl (cJ, 6, .inr (.inl nu)))] := hD
          obtain rfl : v57 = nI 1 := e57
          refine lv_if_eq (tgt := 65) hx hb dM_fixed_60 (by decide) (fun h60 => ?_) (fun h60 => ?_)
          · exfalso
            first | exact h60 (by decide +kernel) | exact absurd h60 (by decide +kernel)
          · refine lv_iconst (v := nI 0) hx hb dM_fixed_63 (by decide +kernel) ?_
            have hcd : cdFixed ns (nI f) (nI cnt) = 2 := by unfold cdFixed; first | (rw [h10]; rfl) | (rw [isF_nI hf, h22]; rfl) | (rw [isF_nI hf, isB_nI hc, hfi, hfk, Bool.true_and, if_pos rfl, if_pos (by omega)]) | (rw [isF_nI hf, isB_nI hc, hfi, hfk, Bool.true_and, if_pos rfl, if_neg (by omega)])
            exact W.iret (v := nI 0) hx hb hr (fun t ht hW => ⟨⟨_, (), rfl, (by intro h0; first | exact absurd (hcd.symm.trans h0) (by decide) | (rw [hfi, hfk])), ln, wh, by rw [hcd]; exact hM, by rw [ht, hcd]; exact hP, va_K.moved hW.alike hK, by rw [hcd]; exact hD⟩, hS.F ht⟩) hS.2.2 dM_fixed_64
    · rw [b_nat0] at h22
      refine lv_iconst (v := nI 1) hx hb dM_fixed_25 (by decide +kernel) ?_
      refine lv_goto (tgt := 30) hx hb dM_fixed_26 (by decide) ?_
      refine lv_iconst (v := nI 1) hx hb dM_fixed_30 (by decide +kernel) ?_
      have hPc := hP.sub (ws' := [(hm, .inr (2, [.int (nI 0), .ref ml, .ref mw, .ref mb, .ref ms, .ref mn])), (ml, .inl (cI, 8, .inl ln)), (mw, .inl (cI, 512, .inl wh)), (mb, .inl (cI, 48, .inl bi)), (ms, .inl (cZ, 48, .inl si)), (mn, .inl (cJ, 6, .inr (.inl nu)))]) [0, 1, 2, 3, 4, 5] rfl
      have hDc := hD.sub (ws' := [(hm, .inr (2, [.int (nI 0), .ref ml, .ref mw, .ref mb, .ref ms, .ref mn])), (ml, .inl (cI, 8, .inl ln)), (mw, .inl (cI, 512, .inl wh)), (mb, .inl (cI, 48, .inl bi)), (ms, .inl (cZ, 48, .inl si)), (mn, .inl (cJ, 6, .inr (.inl nu)))]) [0, 1, 2, 3, 4, 5] (by decide) rfl
      have hKc := hK.sub (tys' := [(cI, .int), (cZ, .boolean), (cJ, .long)]) [0, 1, 2] rfl
      have hFc := va_free (wc := [(hm, .inr (2, [.int (nI 0), .ref ml, .ref mw, .ref mb, .ref ms, .ref mn])), (ml, .inl (cI, 8, .inl ln)), (mw, .inl (cI, 512, .inl wh)), (mb, .inl (cI, 48, .inl bi)), (ms, .inl (cZ, 48, .inl si)), (mn, .inl (cJ, 6, .inr (.inl nu)))]) hD hS hA [0, 1, 2, 3, 4, 5] rfl
      refine va_calli (va_runV (As := [.int (nI 1), .int (nI 1)]) (rest := []) ⟨hx, hb, hml, hown, hw⟩ (c_M_fails1 l dC dI _ cI cZ cJ hm ml mw mb ms mn ln wh bi si nu 1 (by decide)) (cwV 2 hw (gV kw_420 kw_422 kw_5 kw_16 kw_423) rfl rfl rfl (by decide +kernel) ⟨Nat.le_of_ble_eq_true rfl, Nat.le_of_ble_eq_true rfl⟩) (rw_preV (q0 := 0) hKc hPc hDc rfl rfl) rfl rfl hl.1 rfl (lv_room (Nat.le_of_ble_eq_true rfl)) dM_fixed_31 ⟨Nat.zero_le _, Nat.zero_le _⟩) hS (fun q _ h => hFc q h) hFc (fun v31 u t H1 locs ht hvm e31 hB hz1 hk1 hS => ?_)
      obtain ⟨hP1, hK1, hD1⟩ := hB
      rw [ht] at hP1
      obtain ⟨hP, hD⟩ := va_join (wr := []) (w1 := [(hm, .inr (2, [.int (nI 1), .ref ml, .ref mw, .ref mb, .ref ms, .ref mn])), (ml, .inl (cI, 8, .inl ln)), (mw, .inl (cI, 512, .inl wh)), (mb, .inl (cI, 48, .inl bi)), (ms, .inl (cZ, 48, .inl si)), (mn, .inl (cJ, 6, .inr (.inl nu)))]) hP hD [0, 1, 2, 3, 4, 5] [] rfl rfl (by decide) (by decide) hk1 hFc hP1 hD1
      generalize H1 = H at hP hS ⊢
      have hP : va_P (dC, dI) cls3 [(hm, .inr (2, [.int (nI 1), .ref ml, .ref mw, .ref mb, .ref ms, .ref mn])), (ml, .inl (cI, 8, .inl ln)), (mw, .inl (cI, 512, .inl wh)), (mb, .inl (cI, 48, .inl bi)), (ms, .inl (cZ, 48, .inl si)), (mn, .inl (cJ, 6, .inr (.inl nu)))] H := hP
      have hD : va_D A [(hm, .inr (2, [.int (nI 1), .ref ml, .ref mw, .ref mb, .ref ms, .ref mn])), (ml, .inl (cI, 8, .inl ln)), (mw, .inl (cI, 512, .inl wh)), (mb, .inl (cI, 48, .inl bi)), (ms, .inl (cZ, 48, .inl si)), (mn, .inl (cJ, 6, .inr (.inl nu)))] := hD
      obtain rfl : v31 = nI 1 := e31
      refine lv_if_ne (tgt := 63) hx hb dM_fixed_34 (by decide) (fun h34 => ?_) (fun h34 => ?_)
      · refine lv_iconst (v := nI 0) hx hb dM_fixed_63 (by decide +kernel) ?_
        have hcd : cdFixed ns (nI f) z = 1 := by unfold cdFixed; first | (rw [h10]; rfl) | (rw [isF_nI hf, h22]; rfl) | (rw [isF_nI hf, isB_nI hc, hfi, hfk, Bool.true_and, if_pos rfl, if_pos (by omega)]) | (rw [isF_nI hf, isB_nI hc, hfi, hfk, Bool.true_and, if_pos rfl, if_neg (by omega)])
        exact W.iret (v := nI 0) hx hb hr (fun t ht hW => ⟨⟨_, (), rfl, (by intro h0; first | exact absurd (hcd.symm.trans h0) (by decide) | (rw [hfi, hfk])), ln, wh, by rw [hcd]; exact hM, by rw [ht, hcd]; exact hP, va_K.moved hW.alike hK, by rw [hcd]; exact hD⟩, hS.F ht⟩) hS.2.2 dM_fixed_64
      · exfalso
        first | exact h34 (by decide +kernel) | exact absurd h34 (by decide +kernel)
end
section
theorem thr_t {wss : Nat → Nat → Nat} {f o : Nat} (hf : f < 8) (ho : o < 6) (h : 0 < wss f o) : thr wss (nI f) (nI o) = true := by rw [thr_nI hf ho]; exact decide_eq_true h
theorem atS_b {it : Nat → Nat} {n : Nat} (h : ∀ j, j < n → it j < 386) (j : Nat) : atS it n j < 386 := by
  unfold atS; split
  · exact h _ (by omega)
  · omega
/-- the fixed bits, counted from the lowest place on -/
def cw_fxr (it : Nat → Nat) (n : Nat) : Nat → Nat
  | 0 => 0
  | j + 1 => cw_fxr it n j + if it (n - 1 - j) < 2 then 1 else 0
theorem cw_fxr_fix (it : Nat → Nat) (n : Nat) : ∀ j, j ≤ n → cw_fix it (n - j) + cw_fxr it n j = cw_fix it n := by
  intro j
  induction j with
  | zero => intro _; rfl
  | succ j ih =>
    intro hj
    have h1 := ih (by omega)
    rw [show n - j = (n - (j + 1)) + 1 by omega] at h1
    simp only [cw_fix] at h1
    simp only [cw_fxr]
    rw [show n - 1 - j = n - (j + 1) by omega]
    omega
theorem cw_fxr_all (it : Nat → Nat) (n : Nat) : cw_fxr it n n = cw_fix it n := by
  have h := cw_fxr_fix it n n (Nat.le_refl _)
  rw [Nat.sub_self] at h
  simp only [cw_fix] at h
  omega
set_option maxHeartbeats 4000000 in
set_option maxRecDepth 100000 in
theorem c_M_whole (l : Launch) (dC : Nat → ClassId) (dI : Nat → Nat → Nat) (sz : Nat) (cI cZ cJ : ClassId) (hm ml mw mb ms mn : Nat) (er : Int32) (ln wh bi si : Nat → Int32) (nu : Nat → Int64) (ns : Nat → Nat) (its wss : Nat → Nat → Nat) (sbs : Nat → Nat → Bool) (hM : mR ns its wss sbs ln wh bi si) (x : Int32) : Met l yM_whole wM_whole { frames := 2, cells := 0, slots := 0, locals := 48 } (rw_Pc (dC, dI) cls3 [(hm, .inr (2, [.int er, .ref ml, .ref mw, .ref mb, .ref ms, .ref mn])), (ml, .inl (cI, 8, .inl ln)), (mw, .inl (cI, 512, .inl wh)), (mb, .inl (cI, 48, .inl bi)), (ms, .inl (cZ, 48, .inl si)), (mn, .inl (cJ, 6, .inr (.inl nu)))] [(cI, .int), (cZ, .boolean), (cJ, .long)] sz [.ref hm, .int x]) (va_Qi (fun (r : Int32) (_ : Unit) => cdClear x = 0 → r = nI (decide (cw_lft (its (fi x)) (ns (fi x)) (wss (fi x)) 6 = 0)).toNat) (fun _ t => va_P (dC, dI) cls3 [(hm, .inr (2, [.int (nI (cdClear x)), .ref ml, .ref mw, .ref mb, .ref ms, .ref mn])), (ml, .inl (cI, 8, .inl ln)), (mw, .inl (cI, 512, .inl wh)), (mb, .inl (cI, 48, .inl bi)), (ms, .inl (cZ, 48, .inl si)), (mn, .inl (cJ, 6, .inr (.inl nu)))] t.heap ∧ va_K (dC, dI) cls3 [(cI, .int), (cZ, .boolean), (cJ, .long)] t ∧ va_D (va_A [(hm, .inr (2, [.int er, .ref ml, .ref mw, .ref mb, .ref ms, .ref mn])), (ml, .inl (cI, 8, .inl ln)), (mw, .inl (cI, 512, .inl wh)), (mb, .inl (cI, 48, .inl bi)), (ms, .inl (cZ, 48, .inl si)), (mn, .inl (cJ, 6, .inr (.inl nu)))] sz) [(hm, .inr (2, [.int (nI (cdClear x)), .ref ml, .ref mw, .ref mb, .ref ms, .ref mn])), (ml, .inl (cI, 8, .inl ln)), (mw, .inl (cI, 512, .inl wh)), (mb, .inl (cI, 48, .inl bi)), (ms, .inl (cZ, 48, .inl si)), (mn, .inl (cJ, 6, .inr (.inl nu)))]) (va_A [(hm, .inr (2, [.int er, .ref ml, .ref mw, .ref mb, .ref ms, .ref mn])), (ml, .inl (cI, 8, .inl ln)), (mw, .inl (cI, 512, .inl wh)), (mb, .inl (cI, 48, .inl bi)), (ms, .inl (cZ, 48, .inl si)), (mn, .inl (cJ, 6, .inr (.inl nu)))] sz)) 0 0 (va_A [(hm, .inr (2, [.int er, .ref ml, .ref mw, .ref mb, .ref ms, .ref mn])), (ml, .inl (cI, 8, .inl ln)), (mw, .inl (cI, 512, .inl wh)), (mb, .inl (cI, 48, .inl bi)), (ms, .inl (cZ, 48, .inl si)), (mn, .inl (cJ, 6, .inr (.inl nu)))] sz) := by
  refine Met.ofW (cc := cM_whole) (maxL := 2) (ret := (some .boolean)) (by decide) rfl ?_
  intro p e s m args below meth c s₁ B hml hv
  obtain ⟨rfl, hsz, hP, hK, hD0⟩ := hv
  have hx := B.exec
  have hb := B.bytes
  have hr := B.returns
  have hts := atoms_spec (ws := wM_whole) B.pre
  have hw : ∀ w ∈ wA, w.before _ s = true := fun w h => hts w (List.mem_cons_of_mem _ h)
  have hown : s.vm.findClass RM = some m.cls := findClass_of_methodNamed B.named
  have hlocks := B.notSynchronized
  subst hsz
  have hD := hD0.self (sz := s.heap.size)
  generalize hAe : va_A [(hm, .inr (2, [.int er, .ref ml, .ref mw, .ref mb, .ref ms, .ref mn])), (ml, .inl (cI, 8, .inl ln)), (mw, .inl (cI, 512, .inl wh)), (mb, .inl (cI, 48, .inl bi)), (ms, .inl (cZ, 48, .inl si)), (mn, .inl (cJ, 6, .inr (.inl nu)))] s.heap.size = A at hD ⊢
  have hA : ∀ q : Nat, s.heap.size ≤ q → A q := fun q h => by rw [← hAe]; exact Or.inr h
  have hS : va_S A s.heap s.heap [] := va_S.rf
  have hl := lv_entry ([.ref hm, .int x]) (n := 2) (Nat.le_of_ble_eq_true rfl)
  rw [lg_entry_eq]
  generalize (lg_sl ([.ref hm, .int x]) ++ List.replicate (2 - (lg_sl ([.ref hm, .int x])).length) Slot.unset).toArray = ls at hl ⊢
  have hl : lv_has ls 2 [(0, .ref hm), (1, .int x)] := hl
  refine lv_aload_n hx hb dM_whole_0 rfl (lv_at hl 0 rfl) ?_
  refine lv_iconst (v := nI 0) hx hb dM_whole_1 (by decide +kernel) ?_
  refine va_put (D := (dC, dI)) (ci := 2) (v := .int (nI 0)) (ty := .int) (C := RM) (T := TM) (N := 6) hx hb hw inM tM tM_ok nM hown hK hP hD hS 0 rfl rfl 0 (by decide) (hw _ kw_386) (fun _ h9 => h9) rfl (by decide +kernel) rfl rfl (Nat.le_of_ble_eq_true rfl) dM_whole_2 (fun H locs hP hD hS => ?_)
  have hP : va_P (dC, dI) cls3 [(hm, .inr (2, [.int (nI 0), .ref ml, .ref mw, .ref mb, .ref ms, .ref mn])), (ml, .inl (cI, 8, .inl ln)), (mw, .inl (cI, 512, .inl wh)), (mb, .inl (cI, 48, .inl bi)), (ms, .inl (cZ, 48, .inl si)), (mn, .inl (cJ, 6, .inr (.inl nu)))] H := hP
  have hD : va_D A [(hm, .inr (2, [.int (nI 0), .ref ml, .ref mw, .ref mb, .ref ms, .ref mn])), (ml, .inl (cI, 8, .inl ln)), (mw, .inl (cI, 512, .inl wh)), (mb, .inl (cI, 48, .inl bi)), (ms, .inl (cZ, 48, .inl si)), (mn, .inl (cJ, 6, .inr (.inl nu)))] := hD
  refine lv_aload_n hx hb dM_whole_5 rfl (lv_at hl 0 rfl) ?_
  refine lv_iload_n hx hb dM_whole_6 rfl (lv_at hl 1 rfl) ?_
  refine vp_callSi (W.runS (As := [.int x]) (rest := [.ref hm]) ⟨hx, hb, hml, hown, hw⟩ (c_M_isForm l x) (cwS 1 hw (gS kw_413 kw_414 kw_16 kw_415) rfl rfl rfl (by decide +kernel) ⟨Nat.le_of_ble_eq_true rfl, Nat.le_of_ble_eq_true rfl⟩) preEq rfl rfl hl.1 rfl (lv_room (Nat.le_of_ble_eq_true rfl)) dM_whole_7 ⟨Nat.zero_le _, Nat.zero_le _⟩) (fun v7 e7 => ?_)
  obtain rfl : v7 = nI (isF x).toNat := e7
  refine lv_if_ne (tgt := 17) hx hb dM_whole_10 (by decide) (fun h10 => ?_) (fun h10 => ?_)
  · obtain ⟨f, hf, rfl⟩ := isF_of (b_nf h10)
    have hff : fi (nI f) = f := fi_nI (by omega)
    have hok := (hM f hf).1
    have hn := hok.1
    have hw64 := hok.2.1
    have hit := cw_it hok
    have hlf : cw_lft (its f) (ns f) (wss f) 6 ≤ 384 := by have := cw_missing (its f) (wss f) (ns f) hok; have := cw_sum_le (wss f) 6 hw64; omega
    refine lv_iconst (v := nI 0) hx hb dM_whole_17 (by decide +kernel) ?_
    refine lv_iconst (v := nI 1) hx hb dM_whole_18 (by decide +kernel) ?_
    have hPc := hP.sub (ws' := [(hm, .inr (2, [.int (nI 0), .ref ml, .ref mw, .ref mb, .ref ms, .ref mn])), (ml, .inl (cI, 8, .inl ln)), (mw, .inl (cI, 512, .inl wh)), (mb, .inl (cI, 48, .inl bi)), (ms, .inl (cZ, 48, .inl si)), (mn, .inl (cJ, 6, .inr (.inl nu)))]) [0, 1, 2, 3, 4, 5] rfl
    have hDc := hD.sub (ws' := [(hm, .inr (2, [.int (nI 0), .ref ml, .ref mw, .ref mb, .ref ms, .ref mn])), (ml, .inl (cI, 8, .inl ln)), (mw, .inl (cI, 512, .inl wh)), (mb, .inl (cI, 48, .inl bi)), (ms, .inl (cZ, 48, .inl si)), (mn, .inl (cJ, 6, .inr (.inl nu)))]) [0, 1, 2, 3, 4, 5] (by decide) rfl
    have hKc := hK.sub (tys' := [(cI, .int), (cZ, .boolean), (cJ, .long)]) [0, 1, 2] rfl
    have hFc := va_free (wc := [(hm, .inr (2, [.int (nI 0), .ref ml, .ref mw, .ref mb, .ref ms, .ref mn])), (ml, .inl (cI, 8, .inl ln)), (mw, .inl (cI, 512, .inl wh)), (mb, .inl (cI, 48, .inl bi)), (ms, .inl (cZ, 48, .inl si)), (mn, .inl (cJ, 6, .inr (.inl nu)))]) hD hS hA [0, 1, 2, 3, 4, 5] rfl
    refine va_calli (va_runV (As := [.int (nI 0), .int (nI 1)]) (rest := []) ⟨hx, hb, hml, hown, hw⟩ (c_M_fails0 l dC dI _ cI cZ cJ hm ml mw mb ms mn ln wh bi si nu 1 (by decide)) (cwV 2 hw (gV kw_420 kw_422 kw_5 kw_16 kw_423) rfl rfl rfl (by decide +kernel) ⟨Nat.le_of_ble_eq_true rfl, Nat.le_of_ble_eq_true rfl⟩) (rw_preV (q0 := 0) hKc hPc hDc rfl rfl) rfl rfl hl.1 rfl (lv_room (Nat.le_of_ble_eq_true rfl)) dM_whole_19 ⟨Nat.zero_le _, Nat.zero_le _⟩) hS (fun q _ h => hFc q h) hFc (fun v19 u t H1 locs ht hvm e19 hB hz1 hk1 hS => ?_)
    obtain ⟨hP1, hK1, hD1⟩ := hB
    rw [ht] at hP1
    obtain ⟨hP, hD⟩ := va_join (wr := []) (w1 := [(hm, .inr (2, [.int (nI 0), .ref ml, .ref mw, .ref mb, .ref ms, .ref mn])), (ml, .inl (cI, 8, .inl ln)), (mw, .inl (cI, 512, .inl wh)), (mb, .inl (cI, 48, .inl bi)), (ms, .inl (cZ, 48, .inl si)), (mn, .inl (cJ, 6, .inr (.inl nu)))]) hP hD [0, 1, 2, 3, 4, 5] [] rfl rfl (by decide) (by decide) hk1 hFc hP1 hD1
    generalize H1 = H at hP hS ⊢
    have hP : va_P (dC, dI) cls3 [(hm, .inr (2, [.int (nI 0), .ref ml, .ref mw, .ref mb, .ref ms, .ref mn])), (ml, .inl (cI, 8, .inl ln)), (mw, .inl (cI, 512, .inl wh)), (mb, .inl (cI, 48, .inl bi)), (ms, .inl (cZ, 48, .inl si)), (mn, .inl (cJ, 6, .inr (.inl nu)))] H := hP
    have hD : va_D A [(hm, .inr (2, [.int (nI 0), .ref ml, .ref mw, .ref mb, .ref ms, .ref mn])), (ml, .inl (cI, 8, .inl ln)), (mw, .inl (cI, 512, .inl wh)), (mb, .inl (cI, 48, .inl bi)), (ms, .inl (cZ, 48, .inl si)), (mn, .inl (cJ, 6, .inr (.inl nu)))] := hD
    obtain rfl : v19 = nI 0 := e19
    refine lv_if_ne (tgt := 37) hx hb dM_whole_22 (by decide) (fun h22 => ?_) (fun h22 => ?_)
    · exfalso
      first | exact h22 (by decide +kernel) | exact absurd h22 (by decide +kernel)
    · refine lv_aload_n hx hb dM_whole_25 rfl (lv_at hl 0 rfl) ?_
      refine lv_iload_n hx hb dM_whole_26 rfl (lv_at hl 1 rfl) ?_
      refine vp_callSi (W.runV (As := [.int (nI f)]) (rest := []) ⟨hx, hb, hml, hown, hw⟩ (c_M_left l dC dI cI cZ cJ hm ml mw mb ms mn (nI 0) ln wh bi si nu ns its wss sbs hM f hf) (cwV 1 hw (gV kw_460 kw_462 kw_9 kw_16 kw_463) rfl rfl rfl (by decide +kernel) ⟨Nat.le_of_ble_eq_true rfl, Nat.le_of_ble_eq_true rfl⟩) (ro_preV (q0 := 0) hK hP rfl rfl) rfl rfl hl.1 rfl (lv_room (Nat.le_of_ble_eq_true rfl)) dM_whole_27 ⟨Nat.zero_le _, Nat.zero_le _⟩) (fun v27 e27 => ?_)
      obtain rfl : v27 = nI (cw_lft (its f) (ns f) (wss f) 6) := e27
      refine lv_if_ne (tgt := 37) hx hb dM_whole_30 (by decide) (fun h30 => ?_) (fun h30 => ?_)
      · rw [nI_eq0 (by omega)] at h30
        refine lv_iconst (v := nI 0) hx hb dM_whole_37 (by decide +kernel) ?_
        have hcd : cdClear (nI f) = 0 := by unfold cdClear; first | (rw [h10]; rfl) | (rw [isF_nI hf]; rfl)
        exact W.zret (v := nI 0) hx hb hr (by first | exact b_nar _ | decide +kernel) (fun t ht hW => ⟨⟨_, (), rfl, (by intro h0; first | exact absurd (hcd.symm.trans h0) (by decide) | (rw [hff]; first | (rw [decide_eq_false h30]; rfl) | (rw [decide_eq_true h30]; rfl))), by rw [ht, hcd]; exact hP, va_K.moved hW.alike hK, by rw [hcd]; exact hD⟩, hS.F ht⟩) hS.2.2 dM_whole_38
      · rw [nI_eq0 (by omega)] at h30
        refine lv_iconst (v := nI 1) hx hb dM_whole_33 (by decide +kernel) ?_
        refine lv_goto (tgt := 38) hx hb dM_whole_34 (by decide) ?_
        have hcd : cdClear (nI f) = 0 := by unfold cdClear; first | (rw [h10]; rfl) | (rw [isF_nI hf]; rfl)
        exact W.zret (v := nI 1) hx hb hr (by first | exact b_nar _ | decide +kernel) (fun t ht hW => ⟨⟨_, (), rfl, (by intro h0; first | exact absurd (hcd.symm.trans h0) (by decide) | (rw [hff]; first | (rw [decide_eq_false h30]; rfl) | (rw [decide_eq_true h30]; rfl))), by rw [ht, hcd]; exact hP, va_K.moved hW.alike hK, by rw [hcd]; exact hD⟩, hS.F ht⟩) hS.2.2 dM_whole_38
  · rw [b_nat0] at h10
    refine lv_iconst (v := nI 1) hx hb dM_whole_13 (by decide +kernel) ?_
    refine lv_goto (tgt := 18) hx hb dM_whole_14 (by decide) ?_
    refine lv_iconst (v := nI 1) hx hb dM_whole_18 (by decide +kernel) ?_
    have hPc := hP.sub (ws' := [(hm, .inr (2, [.int (nI 0), .ref ml, .ref mw, .ref mb, .ref ms, .ref mn])), (ml, .inl (cI, 8, .inl ln)), (mw, .inl (cI, 512, .inl wh)), (mb, .inl (cI, 48, .inl bi)), (ms, .inl (cZ, 48, .inl si)), (mn, .inl (cJ, 6, .inr (.inl nu)))]) [0, 1, 2, 3, 4, 5] rfl
    have hDc := hD.sub (ws' := [(hm, .inr (2, [.int (nI 0), .ref ml, .ref mw, .ref mb, .ref ms, .ref mn])), (ml, .inl (cI, 8, .inl ln)), (mw, .inl (cI, 512, .inl wh)), (mb, .inl (cI, 48, .inl bi)), (ms, .inl (cZ, 48, .inl si)), (mn, .inl (cJ, 6, .inr (.inl nu)))]) [0, 1, 2, 3, 4, 5] (by decide) rfl
    have hKc := hK.sub (tys' := [(cI, .int), (cZ, .boolean), (cJ, .long)]) [0, 1, 2] rfl
    have hFc := va_free (wc := [(hm, .inr (2, [.int (nI 0), .ref ml, .ref mw, .ref mb, .ref ms, .ref mn])), (ml, .inl (cI, 8, .inl ln)), (mw, .inl (cI, 512, .inl wh)), (mb, .inl (cI, 48, .inl bi)), (ms, .inl (cZ, 48, .inl si)), (mn, .inl (cJ, 6, .inr (.inl nu)))]) hD hS hA [0, 1, 2, 3, 4, 5] rfl
    refine va_calli (va_runV (As := [.int (nI 1), .int (nI 1)]) (rest := []) ⟨hx, hb, hml, hown, hw⟩ (c_M_fails1 l dC dI _ cI cZ cJ hm ml mw mb ms mn ln wh bi si nu 1 (by decide)) (cwV 2 hw (gV kw_420 kw_422 kw_5 kw_16 kw_423) rfl rfl rfl (by decide +kernel) ⟨Nat.le_of_ble_eq_true rfl, Nat.le_of_ble_eq_true rfl⟩) (rw_preV (q0 := 0) hKc hPc hDc rfl rfl) rfl rfl hl.1 rfl (lv_room (Nat.le_of_ble_eq_true rfl)) dM_whole_19 ⟨Nat.zero_le _, Nat.zero_le _⟩) hS (fun q _ h => hFc q h) hFc (fun v19 u t H1 locs ht hvm e19 hB hz1 hk1 hS => ?_)
    obtain ⟨hP1, hK1, hD1⟩ := hB
    rw [ht] at hP1
    obtain ⟨hP, hD⟩ := va_join (wr := []) (w1 := [(hm, .inr (2, [.int (nI 1), .ref ml, .ref mw, .ref mb, .ref ms, .ref mn])), (ml, .inl (cI, 8, .inl ln)), (mw, .inl (cI, 512, .inl wh)), (mb, .inl (cI, 48, .inl bi)), (ms, .inl (cZ, 48, .inl si)), (mn, .inl (cJ, 6, .inr (.inl nu)))]) hP hD [0, 1, 2, 3, 4, 5] [] rfl rfl (by decide) (by decide) hk1 hFc hP1 hD1
    generalize H1 = H at hP hS ⊢
    have hP : va_P (dC, dI) cls3 [(hm, .inr (2, [.int (nI 1), .ref ml, .ref mw, .ref mb, .ref ms, .ref mn])), (ml, .inl (cI, 8, .inl ln)), (mw, .inl (cI, 512, .inl wh)), (mb, .inl (cI, 48, .inl bi)), (ms, .inl (cZ, 48, .inl si)), (mn, .inl (cJ, 6, .inr (.inl nu)))] H := hP
    have hD : va_D A [(hm, .inr (2, [.int (nI 1), .ref ml, .ref mw, .ref mb, .ref ms, .ref mn])), (ml, .inl (cI, 8, .inl ln)), (mw, .inl (cI, 512, .inl wh)), (mb, .inl (cI, 48, .inl bi)), (ms, .inl (cZ, 48, .inl si)), (mn, .inl (cJ, 6, .inr (.inl nu)))] := hD
    obtain rfl : v19 = nI 1 := e19
    refine lv_if_ne (tgt := 37) hx hb dM_whole_22 (by decide) (fun h22 => ?_) (fun h22 => ?_)
    · refine lv_iconst (v := nI 0) hx hb dM_whole_37 (by decide +kernel) ?_
      have hcd : cdClear x = 1 := by unfold cdClear; first | (rw [h10]; rfl) | (rw [isF_nI hf]; rfl)
      exact W.zret (v := nI 0) hx hb hr (by first | exact b_nar _ | decide +kernel) (fun t ht hW => ⟨⟨_, (), rfl, (by intro h0; first | exact absurd (hcd.symm.trans h0) (by decide) | (rw [hff]; first | (rw [decide_eq_false h30]; rfl) | (rw [decide_eq_true h30]; rfl))), by rw [ht, hcd]; exact hP, va_K.moved hW.alike hK, by rw [hcd]; exact hD⟩, hS.F ht⟩) hS.2.2 dM_whole_38
    · exfalso
      first | exact h22 (by decide +kernel) | exact absurd h22 (by decide +kernel)

set_option maxHeartbeats 4000000 in
set_option maxRecDepth 100000 in
theorem c_M_number (l : Launch) (dC : Nat → ClassId) (dI : Nat → Nat → Nat) (sz : Nat) (cI cZ cJ : ClassId) (hm ml mw mb ms mn : Nat) (er : Int32) (ln wh bi si : Nat → Int32) (nu : Nat → Int64) (ns : Nat → Nat) (its wss : Nat → Nat → Nat) (sbs : Nat → Nat → Bool) (hM : mR ns its wss sbs ln wh bi si) (x : Int32) (v : Int64) : Met l yM_number wM_number { frames := 2, cells := 0, slots := 0, locals := 45 } (rw_Pc (dC, dI) cls3 [(hm, .inr (2, [.int er, .ref ml, .ref mw, .ref mb, .ref ms, .ref mn])), (ml, .inl (cI, 8, .inl ln)), (mw, .inl (cI, 512, .inl wh)), (mb, .inl (cI, 48, .inl bi)), (ms, .inl (cZ, 48, .inl si)), (mn, .inl (cJ, 6, .inr (.inl nu)))] [(cI, .int), (cZ, .boolean), (cJ, .long)] sz [.ref hm, .int x, .long v]) (va_Qv (fun _ : Unit => True) (fun _ t => va_P (dC, dI) cls3 [(hm, .inr (2, [.int (nI (cdNum x)), .ref ml, .ref mw, .ref mb, .ref ms, .ref mn])), (ml, .inl (cI, 8, .inl ln)), (mw, .inl (cI, 512, .inl wh)), (mb, .inl (cI, 48, .inl bi)), (ms, .inl (cZ, 48, .inl si)), (mn, .inl (cJ, 6, .inr (.inl (stp (cdNum x) (vp_updL nu (fi x) v) nu))))] t.heap ∧ va_K (dC, dI) cls3 [(cI, .int), (cZ, .boolean), (cJ, .long)] t ∧ va_D (va_A [(hm, .inr (2, [.int er, .ref ml, .ref mw, .ref mb, .ref ms, .ref mn])), (ml, .inl (cI, 8, .inl ln)), (mw, .inl (cI, 512, .inl wh)), (mb, .inl (cI, 48, .inl bi)), (ms, .inl (cZ, 48, .inl si)), (mn, .inl (cJ, 6, .inr (.inl nu)))] sz) [(hm, .inr (2, [.int (nI (cdNum x)), .ref ml, .ref mw, .ref mb, .ref ms, .ref mn])), (ml, .inl (cI, 8, .inl ln)), (mw, .inl (cI, 512, .inl wh)), (mb, .inl (cI, 48, .inl bi)), (ms, .inl (cZ, 48, .inl si)), (mn, .inl (cJ, 6, .inr (.inl (stp (cdNum x) (vp_updL nu (fi x) v) nu))))]) (va_A [(hm, .inr (2, [.int er, .ref ml, .ref mw, .ref mb, .ref ms, .ref mn])), (ml, .inl (cI, 8, .inl ln)), (mw, .inl (cI, 512, .inl wh)), (mb, .inl (cI, 48, .inl bi)), (ms, .inl (cZ, 48, .inl si)), (mn, .inl (cJ, 6, .inr (.inl nu)))] sz)) 0 0 (va_A [(hm, .inr (2, [.int er, .ref ml, .ref mw, .ref mb, .ref ms, .ref mn])), (ml, .inl (cI, 8, .inl ln)), (mw, .inl (cI, 512, .inl wh)), (mb, .inl (cI, 48, .inl bi)), (ms, .inl (cZ, 48, .inl si)), (mn, .inl (cJ, 6, .inr (.inl nu)))] sz) := by
  refine Met.ofW (cc := cM_number) (maxL := 4) (ret := none) (by decide) rfl ?_
  intro p e s m args below meth c s₁ B hml hv
  obtain ⟨rfl, hsz, hP, hK, hD0⟩ := hv
  have hx := B.exec
  have hb := B.bytes
  have hr := B.returns
  have hts := atoms_spec (ws := wM_number) B.pre
  have hw : ∀ w ∈ wA, w.before _ s = true := fun w h => hts w (List.mem_cons_of_mem _ h)
  have hown : s.vm.findClass RM = some m.cls := findClass_of_methodNamed B.named
  have hlocks := B.notSynchronized
  subst hsz
  have hD := hD0.self (sz := s.heap.size)
  generalize hAe : va_A [(hm, .inr (2, [.int er, .ref ml, .ref mw, .ref mb, .ref ms, .ref mn])), (ml, .inl (cI, 8, .inl ln)), (mw, .inl (cI, 512, .inl wh)), (mb, .inl (cI, 48, .inl bi)), (ms, .inl (cZ, 48, .inl si)), (mn, .inl (cJ, 6, .inr (.inl nu)))] s.heap.size = A at hD ⊢
  have hA : ∀ q : Nat, s.heap.size ≤ q → A q := fun q h => by rw [← hAe]; exact Or.inr h
  have hS : va_S A s.heap s.heap [] := va_S.rf
  have hl := lv_entry ([.ref hm, .int x, .long v]) (n := 4) (Nat.le_of_ble_eq_true rfl)
  rw [lg_entry_eq]
  generalize (lg_sl ([.ref hm, .int x, .long v]) ++ List.replicate (4 - (lg_sl ([.ref hm, .int x, .long v])).length) Slot.unset).toArray = ls at hl ⊢
  have hl : lv_has ls 4 [(0, .ref hm), (1, .int x), (2, .long v)] := hl
  refine lv_aload_n hx hb dM_number_0 rfl (lv_at hl 0 rfl) ?_
  refine lv_iconst (v := nI 0) hx hb dM_number_1 (by decide +kernel) ?_
  refine va_put (D := (dC, dI)) (ci := 2) (v := .int (nI 0)) (ty := .int) (C := RM) (T := TM) (N := 6) hx hb hw inM tM tM_ok nM hown hK hP hD hS 0 rfl rfl 0 (by decide) (hw _ kw_386) (fun _ h9 => h9) rfl (by decide +kernel) rfl rfl (Nat.le_of_ble_eq_true rfl) dM_number_2 (fun H locs hP hD hS => ?_)
  have hP : va_P (dC, dI) cls3 [(hm, .inr (2, [.int (nI 0), .ref ml, .ref mw, .ref mb, .ref ms, .ref mn])), (ml, .inl (cI, 8, .inl ln)), (mw, .inl (cI, 512, .inl wh)), (mb, .inl (cI, 48, .inl bi)), (ms, .inl (cZ, 48, .inl si)), (mn, .inl (cJ, 6, .inr (.inl nu)))] H := hP
  have hD : va_D A [(hm, .inr (2, [.int (nI 0), .ref ml, .ref mw, .ref mb, .ref ms, .ref mn])), (ml, .inl (cI, 8, .inl ln)), (mw, .inl (cI, 512, .inl wh)), (mb, .inl (cI, 48, .inl bi)), (ms, .inl (cZ, 48, .inl si)), (mn, .inl (cJ, 6, .inr (.inl nu)))] := hD
  refine lv_aload_n hx hb dM_number_5 rfl (lv_at hl 0 rfl) ?_
  refine lv_iload_n hx hb dM_number_6 rfl (lv_at hl 1 rfl) ?_
  refine vp_callSi (W.runS (As := [.int x]) (rest := [.ref hm]) ⟨hx, hb, hml, hown, hw⟩ (c_M_isOperand l x) (cwS 1 hw (gS kw_428 kw_429 kw_16 kw_430) rfl rfl rfl (by decide +kernel) ⟨Nat.le_of_ble_eq_true rfl, Nat.le_of_ble_eq_true rfl⟩) preEq rfl rfl hl.1 rfl (lv_room (Nat.le_of_ble_eq_true rfl)) dM_number_7 ⟨Nat.zero_le _, Nat.zero_le _⟩) (fun v7 e7 => ?_)
  obtain rfl : v7 = nI (isO x).toNat := e7
  refine lv_if_ne (tgt := 17) hx hb dM_number_10 (by decide) (fun h10 => ?_) (fun h10 => ?_)
  · obtain ⟨f, hf, rfl⟩ := isO_of (b_nf h10)
    have hff : fi (nI f) = f := fi_nI (by omega)
    refine lv_iconst (v := nI 0) hx hb dM_number_17 (by decide +kernel) ?_
    refine lv_iconst (v := nI 1) hx hb dM_number_18 (by decide +kernel) ?_
    have hPc := hP.sub (ws' := [(hm, .inr (2, [.int (nI 0), .ref ml, .ref mw, .ref mb, .ref ms, .ref mn])), (ml, .inl (cI, 8, .inl ln)), (mw, .inl (cI, 512, .inl wh)), (mb, .inl (cI, 48, .inl bi)), (ms, .inl (cZ, 48, .inl si)), (mn, .inl (cJ, 6, .inr (.inl nu)))]) [0, 1, 2, 3, 4, 5] rfl
    have hDc := hD.sub (ws' := [(hm, .inr (2, [.int (nI 0), .ref ml, .ref mw, .ref mb, .ref ms, .ref mn])), (ml, .inl (cI, 8, .inl ln)), (mw, .inl (cI, 512, .inl wh)), (mb, .inl (cI, 48, .inl bi)), (ms, .inl (cZ, 48, .inl si)), (mn, .inl (cJ, 6, .inr (.inl nu)))]) [0, 1, 2, 3, 4, 5] (by decide) rfl
    have hKc := hK.sub (tys' := [(cI, .int), (cZ, .boolean), (cJ, .long)]) [0, 1, 2] rfl
    have hFc := va_free (wc := [(hm, .inr (2, [.int (nI 0), .ref ml, .ref mw, .ref mb, .ref ms, .ref mn])), (ml, .inl (cI, 8, .inl ln)), (mw, .inl (cI, 512, .inl wh)), (mb, .inl (cI, 48, .inl bi)), (ms, .inl (cZ, 48, .inl si)), (mn, .inl (cJ, 6, .inr (.inl nu)))]) hD hS hA [0, 1, 2, 3, 4, 5] rfl
    refine va_calli (va_runV (As := [.int (nI 0), .int (nI 1)]) (rest := []) ⟨hx, hb, hml, hown, hw⟩ (c_M_fails0 l dC dI _ cI cZ cJ hm ml mw mb ms mn ln wh bi si nu 1 (by decide)) (cwV 2 hw (gV kw_420 kw_422 kw_5 kw_16 kw_423) rfl rfl rfl (by decide +kernel) ⟨Nat.le_of_ble_eq_true rfl, Nat.le_of_ble_eq_true rfl⟩) (rw_preV (q0 := 0) hKc hPc hDc rfl rfl) rfl rfl hl.1 rfl (lv_room (Nat.le_of_ble_eq_true rfl)) dM_number_19 ⟨Nat.zero_le _, Nat.zero_le _⟩) hS (fun q _ h => hFc q h) hFc (fun v19 u t H1 locs ht hvm e19 hB hz1 hk1 hS => ?_)
    obtain ⟨hP1, hK1, hD1⟩ := hB
    rw [ht] at hP1
    obtain ⟨hP, hD⟩ := va_join (wr := []) (w1 := [(hm, .inr (2, [.int (nI 0), .ref ml, .ref mw, .ref mb, .ref ms, .ref mn])), (ml, .inl (cI, 8, .inl ln)), (mw, .inl (cI, 512, .inl wh)), (mb, .inl (cI, 48, .inl bi)), (ms, .inl (cZ, 48, .inl si)), (mn, .inl (cJ, 6, .inr (.inl nu)))]) hP hD [0, 1, 2, 3, 4, 5] [] rfl rfl (by decide) (by decide) hk1 hFc hP1 hD1
    generalize H1 = H at hP hS ⊢
    have hP : va_P (dC, dI) cls3 [(hm, .inr (2, [.int (nI 0), .ref ml, .ref mw, .ref mb, .ref ms, .ref mn])), (ml, .inl (cI, 8, .inl ln)), (mw, .inl (cI, 512, .inl wh)), (mb, .inl (cI, 48, .inl bi)), (ms, .inl (cZ, 48, .inl si)), (mn, .inl (cJ, 6, .inr (.inl nu)))] H := hP
    have hD : va_D A [(hm, .inr (2, [.int (nI 0), .ref ml, .ref mw, .ref mb, .ref ms, .ref mn])), (ml, .inl (cI, 8, .inl ln)), (mw, .inl (cI, 512, .inl wh)), (mb, .inl (cI, 48, .inl bi)), (ms, .inl (cZ, 48, .inl si)), (mn, .inl (cJ, 6, .inr (.inl nu)))] := hD
    obtain rfl : v19 = nI 0 := e19
    refine lv_if_eq (tgt := 26) hx hb dM_number_22 (by decide) (fun h22 => ?_) (fun h22 => ?_)
    · refine lv_aload_n hx hb dM_number_26 rfl (lv_at hl 0 rfl) ?_
      refine va_get (D := (dC, dI)) (ci := 2) (v := .ref mn) (C := RM) (T := TM) (N := 6) hx hb hw inM hown hK hP 0 rfl rfl 5 (by decide) (hw _ kw_391) (fun _ h9 => h9) rfl dM_number_27 ?_
      refine lv_iload_n hx hb dM_number_30 rfl (lv_at hl 1 rfl) ?_
      refine lv_lload_n hx hb dM_number_31 rfl (lv_at hl 2 rfl) ?_
      refine va_last hx hb hK hP hD hS 5 2 rfl rfl (vp_in_nI (by omega) (by decide)) dM_number_32 (fun H locs hP hD hS => ?_)
      rw [show (nI f).toNatClampNeg = f from nI_clamp (by omega)] at hP hD
      have hP : va_P (dC, dI) cls3 [(hm, .inr (2, [.int (nI 0), .ref ml, .ref mw, .ref mb, .ref ms, .ref mn])), (ml, .inl (cI, 8, .inl ln)), (mw, .inl (cI, 512, .inl wh)), (mb, .inl (cI, 48, .inl bi)), (ms, .inl (cZ, 48, .inl si)), (mn, .inl (cJ, 6, .inr (.inl (vp_updL nu f v))))] H := hP
      have hD : va_D A [(hm, .inr (2, [.int (nI 0), .ref ml, .ref mw, .ref mb, .ref ms, .ref mn])), (ml, .inl (cI, 8, .inl ln)), (mw, .inl (cI, 512, .inl wh)), (mb, .inl (cI, 48, .inl bi)), (ms, .inl (cZ, 48, .inl si)), (mn, .inl (cJ, 6, .inr (.inl (vp_updL nu f v))))] := hD
      have hcd : cdNum (nI f) = 0 := by unfold cdNum; first | (rw [h10]; rfl) | (rw [isO_nI hf]; rfl)
      exact W.vret hx hb hr (fun t ht hW => ⟨⟨(), rfl, trivial, by rw [ht, hcd, hff]; exact hP, va_K.moved hW.alike hK, by rw [hcd, hff]; exact hD⟩, hS.F ht⟩) hS.2.2 dM_number_33
    · exfalso
      first | exact h22 (by decide +kernel) | exact absurd h22 (by decide +kernel)
  · rw [b_nat0] at h10
    refine lv_iconst (v := nI 1) hx hb dM_number_13 (by decide +kernel) ?_
    refine lv_goto (tgt := 18) hx hb dM_number_14 (by decide) ?_
    refine lv_iconst (v := nI 1) hx hb dM_number_18 (by decide +kernel) ?_
    have hPc := hP.sub (ws' := [(hm, .inr (2, [.int (nI 0), .ref ml, .ref mw, .ref mb, .ref ms, .ref mn])), (ml, .inl (cI, 8, .inl ln)), (mw, .inl (cI, 512, .inl wh)), (mb, .inl (cI, 48, .inl bi)), (ms, .inl (cZ, 48, .inl si)), (mn, .inl (cJ, 6, .inr (.inl nu)))]) [0, 1, 2, 3, 4, 5] rfl
    have hDc := hD.sub (ws' := [(hm, .inr (2, [.int (nI 0), .ref ml, .ref mw, .ref mb, .ref ms, .ref mn])), (ml, .inl (cI, 8, .inl ln)), (mw, .inl (cI, 512, .inl wh)), (mb, .inl (cI, 48, .inl bi)), (ms, .inl (cZ, 48, .inl si)), (mn, .inl (cJ, 6, .inr (.inl nu)))]) [0, 1, 2, 3, 4, 5] (by decide) rfl
    have hKc := hK.sub (tys' := [(cI, .int), (cZ, .boolean), (cJ, .long)]) [0, 1, 2] rfl
    have hFc := va_free (wc := [(hm, .inr (2, [.int (nI 0), .ref ml, .ref mw, .ref mb, .ref ms, .ref mn])), (ml, .inl (cI, 8, .inl ln)), (mw, .inl (cI, 512, .inl wh)), (mb, .inl (cI, 48, .inl bi)), (ms, .inl (cZ, 48, .inl si)), (mn, .inl (cJ, 6, .inr (.inl nu)))]) hD hS hA [0, 1, 2, 3, 4, 5] rfl
    refine va_calli (va_runV (As := [.int (nI 1), .int (nI 1)]) (rest := []) ⟨hx, hb, hml, hown, hw⟩ (c_M_fails1 l dC dI _ cI cZ cJ hm ml mw mb ms mn ln wh bi si nu 1 (by decide)) (cwV 2 hw (gV kw_420 kw_422 kw_5 kw_16 kw_423) rfl rfl rfl (by decide +kernel) ⟨Nat.le_of_ble_eq_true rfl, Nat.le_of_ble_eq_true rfl⟩) (rw_preV (q0 := 0) hKc hPc hDc rfl rfl) rfl rfl hl.1 rfl (lv_room (Nat.le_of_ble_eq_true rfl)) dM_number_19 ⟨Nat.zero_le _, Nat.zero_le _⟩) hS (fun q _ h => hFc q h) hFc (fun v19 u t H1 locs ht hvm e19 hB hz1 hk1 hS => ?_)
    obtain ⟨hP1, hK1, hD1⟩ := hB
    rw [ht] at hP1
    obtain ⟨hP, hD⟩ := va_join (wr := []) (w1 := [(hm, .inr (2, [.int (nI 1), .ref ml, .ref mw, .ref mb, .ref ms, .ref mn])), (ml, .inl (cI, 8, .inl ln)), (mw, .inl (cI, 512, .inl wh)), (mb, .inl (cI, 48, .inl bi)), (ms, .inl (cZ, 48, .inl si)), (mn, .inl (cJ, 6, .inr (.inl nu)))]) hP hD [0, 1, 2, 3, 4, 5] [] rfl rfl (by decide) (by decide) hk1 hFc hP1 hD1
    generalize H1 = H at hP hS ⊢
    have hP : va_P (dC, dI) cls3 [(hm, .inr (2, [.int (nI 1), .ref ml, .ref mw, .ref mb, .ref ms, .ref mn])), (ml, .inl (cI, 8, .inl ln)), (mw, .inl (cI, 512, .inl wh)), (mb, .inl (cI, 48, .inl bi)), (ms, .inl (cZ, 48, .inl si)), (mn, .inl (cJ, 6, .inr (.inl nu)))] H := hP
    have hD : va_D A [(hm, .inr (2, [.int (nI 1), .ref ml, .ref mw, .ref mb, .ref ms, .ref mn])), (ml, .inl (cI, 8, .inl ln)), (mw, .inl (cI, 512, .inl wh)), (mb, .inl (cI, 48, .inl bi)), (ms, .inl (cZ, 48, .inl si)), (mn, .inl (cJ, 6, .inr (.inl nu)))] := hD
    obtain rfl : v19 = nI 1 := e19
    refine lv_if_eq (tgt := 26) hx hb dM_number_22 (by decide) (fun h22 => ?_) (fun h22 => ?_)
    · exfalso
      first | exact h22 (by decide +kernel) | exact absurd h22 (by decide +kernel)
    · have hcd : cdNum x = 1 := by unfold cdNum; first | (rw [h10]; rfl) | (rw [isO_nI hf]; rfl)
      exact W.vret hx hb hr (fun t ht hW => ⟨⟨(), rfl, trivial, by rw [ht, hcd]; exact hP, va_K.moved hW.alike hK, by rw [hcd]; exact hD⟩, hS.F ht⟩) hS.2.2 dM_number_25

set_option maxHeartbeats 4000000 in
set_option maxRecDepth 100000 in
theorem c_M_fits (l : Launch) (dC : Nat → ClassId) (dI : Nat → Nat → Nat) (sz : Nat) (cI cZ cJ : ClassId) (hm ml mw mb ms mn : Nat) (er : Int32) (ln wh bi si : Nat → Int32) (nu : Nat → Int64) (ns : Nat → Nat) (its wss : Nat → Nat → Nat) (sbs : Nat → Nat → Bool) (hM : mR ns its wss sbs ln wh bi si) (x y : Int32) (v : Int64) : Met l yM_fits wM_fits { frames := 3, cells := 0, slots := 0, locals := 67 } (rw_Pc (dC, dI) cls3 [(hm, .inr (2, [.int er, .ref ml, .ref mw, .ref mb, .ref ms, .ref mn])), (ml, .inl (cI, 8, .inl ln)), (mw, .inl (cI, 512, .inl wh)), (mb, .inl (cI, 48, .inl bi)), (ms, .inl (cZ, 48, .inl si)), (mn, .inl (cJ, 6, .inr (.inl nu)))] [(cI, .int), (cZ, .boolean), (cJ, .long)] sz [.ref hm, .int x, .int y, .long v]) (va_Qi (fun (r : Int32) (_ : Unit) => cdFits wss x y = 0 → r = nI (fitB (wss (fi x) (fi y)) (sbs (fi x) (fi y)) v).toNat) (fun _ t => va_P (dC, dI) cls3 [(hm, .inr (2, [.int (nI (cdFits wss x y)), .ref ml, .ref mw, .ref mb, .ref ms, .ref mn])), (ml, .inl (cI, 8, .inl ln)), (mw, .inl (cI, 512, .inl wh)), (mb, .inl (cI, 48, .inl bi)), (ms, .inl (cZ, 48, .inl si)), (mn, .inl (cJ, 6, .inr (.inl nu)))] t.heap ∧ va_K (dC, dI) cls3 [(cI, .int), (cZ, .boolean), (cJ, .long)] t ∧ va_D (va_A [(hm, .inr (2, [.int er, .ref ml, .ref mw, .ref mb, .ref ms, .ref mn])), (ml, .inl (cI, 8, .inl ln)), (mw, .inl (cI, 512, .inl wh)), (mb, .inl (cI, 48, .inl bi)), (ms, .inl (cZ, 48, .inl si)), (mn, .inl (cJ, 6, .inr (.inl nu)))] sz) [(hm, .inr (2, [.int (nI (cdFits wss x y)), .ref ml, .ref mw, .ref mb, .ref ms, .ref mn])), (ml, .inl (cI, 8, .inl ln)), (mw, .inl (cI, 512, .inl wh)), (mb, .inl (cI, 48, .inl bi)), (ms, .inl (cZ, 48, .inl si)), (mn, .inl (cJ, 6, .inr (.inl nu)))]) (va_A [(hm, .inr (2, [.int er, .ref ml, .ref mw, .ref mb, .ref ms, .ref mn])), (ml, .inl (cI, 8, .inl ln)), (mw, .inl (cI, 512, .inl wh)), (mb, .inl (cI, 48, .inl bi)), (ms, .inl (cZ, 48, .inl si)), (mn, .inl (cJ, 6, .inr (.inl nu)))] sz)) 0 0 (va_A [(hm, .inr (2, [.int er, .ref ml, .ref mw, .ref mb, .ref ms, .ref mn])), (ml, .inl (cI, 8, .inl ln)), (mw, .inl (cI, 512, .inl wh)), (mb, .inl (cI, 48, .inl bi)), (ms, .inl (cZ, 48, .inl si)), (mn, .inl (cJ, 6, .inr (.inl nu)))] sz) := by
  refine Met.ofW (cc := cM_fits) (maxL := 5) (ret := (some .boolean)) (by decide) rfl ?_
  intro p e s m args below meth c s₁ B hml hv
  obtain ⟨rfl, hsz, hP, hK, hD0⟩ := hv
  have hx := B.exec
  have hb := B.bytes
  have hr := B.returns
  have hts := atoms_spec (ws := wM_fits) B.pre
  have hw : ∀ w ∈ wA, w.before _ s = true := fun w h => hts w (List.mem_cons_of_mem _ h)
  have hown : s.vm.findClass RM = some m.cls := findClass_of_methodNamed B.named
  have hlocks := B.notSynchronized
  subst hsz
  have hD := hD0.self (sz := s.heap.size)
  generalize hAe : va_A [(hm, .inr (2, [.int er, .ref ml, .ref mw, .ref mb, .ref ms, .ref mn])), (ml, .inl (cI, 8, .inl ln)), (mw, .inl (cI, 512, .inl wh)), (mb, .inl (cI, 48, .inl bi)), (ms, .inl (cZ, 48, .inl si)), (mn, .inl (cJ, 6, .inr (.inl nu)))] s.heap.size = A at hD ⊢
  have hA : ∀ q : Nat, s.heap.size ≤ q → A q := fun q h => by rw [← hAe]; exact Or.inr h
  have hS : va_S A s.heap s.heap [] := va_S.rf
  have hl := lv_entry ([.ref hm, .int x, .int y, .long v]) (n := 5) (Nat.le_of_ble_eq_true rfl)
  rw [lg_entry_eq]
  generalize (lg_sl ([.ref hm, .int x, .int y, .long v]) ++ List.replicate (5 - (lg_sl ([.ref hm, .int x, .int y, .long v])).length) Slot.unset).toArray = ls at hl ⊢
  have hl : lv_has ls 5 [(0, .ref hm), (1, .int x), (2, .int y), (3, .long v)] := hl
  refine lv_aload_n hx hb dM_fits_0 rfl (lv_at hl 0 rfl) ?_
  refine lv_iconst (v := nI 0) hx hb dM_fits_1 (by decide +kernel) ?_
  refine va_put (D := (dC, dI)) (ci := 2) (v := .int (nI 0)) (ty := .int) (C := RM) (T := TM) (N := 6) hx hb hw inM tM tM_ok nM hown hK hP hD hS 0 rfl rfl 0 (by decide) (hw _ kw_386) (fun _ h9 => h9) rfl (by decide +kernel) rfl rfl (Nat.le_of_ble_eq_true rfl) dM_fits_2 (fun H locs hP hD hS => ?_)
  have hP : va_P (dC, dI) cls3 [(hm, .inr (2, [.int (nI 0), .ref ml, .ref mw, .ref mb, .ref ms, .ref mn])), (ml, .inl (cI, 8, .inl ln)), (mw, .inl (cI, 512, .inl wh)), (mb, .inl (cI, 48, .inl bi)), (ms, .inl (cZ, 48, .inl si)), (mn, .inl (cJ, 6, .inr (.inl nu)))] H := hP
  have hD : va_D A [(hm, .inr (2, [.int (nI 0), .ref ml, .ref mw, .ref mb, .ref ms, .ref mn])), (ml, .inl (cI, 8, .inl ln)), (mw, .inl (cI, 512, .inl wh)), (mb, .inl (cI, 48, .inl bi)), (ms, .inl (cZ, 48, .inl si)), (mn, .inl (cJ, 6, .inr (.inl nu)))] := hD
  refine lv_aload_n hx hb dM_fits_5 rfl (lv_at hl 0 rfl) ?_
  refine lv_aload_n hx hb dM_fits_6 rfl (lv_at hl 0 rfl) ?_
  refine lv_iload_n hx hb dM_fits_7 rfl (lv_at hl 1 rfl) ?_
  refine lv_iload_n hx hb dM_fits_8 rfl (lv_at hl 2 rfl) ?_
  refine vp_callSi (W.runV (As := [.int x, .int y]) (rest := [.ref hm]) ⟨hx, hb, hml, hown, hw⟩ (c_M_isThere l dC dI cI cZ cJ hm ml mw mb ms mn (nI 0) ln wh bi si nu ns its wss sbs hM x y) (cwV 2 hw (gV kw_448 kw_450 kw_7 kw_16 kw_451) rfl rfl rfl (by decide +kernel) ⟨Nat.le_of_ble_eq_true rfl, Nat.le_of_ble_eq_true rfl⟩) (ro_preV (q0 := 0) hK hP rfl rfl) rfl rfl hl.1 rfl (lv_room (Nat.le_of_ble_eq_true rfl)) dM_fits_9 ⟨Nat.zero_le _, Nat.zero_le _⟩) (fun v9 e9 => ?_)
  obtain rfl : v9 = nI (thr wss x y).toNat := e9
  refine lv_if_ne (tgt := 19) hx hb dM_fits_12 (by decide) (fun h12 => ?_) (fun h12 => ?_)
  · obtain ⟨f, o, hf, ho, hw1, rfl, rfl⟩ := thr_of (b_nf h12)
    have hff : fi (nI f) = f := fi_nI (by omega)
    have hfo : fi (nI o) = o := fi_nI (by omega)
    have hok := (hM f hf).1
    have hn := hok.1
    have hw64 := hok.2.1
    have hit := cw_it hok
    have hwo := hw64 o ho
    refine lv_iconst (v := nI 0) hx hb dM_fits_19 (by decide +kernel) ?_
    refine lv_iconst (v := nI 1) hx hb dM_fits_20 (by decide +kernel) ?_
    have hPc := hP.sub (ws' := [(hm, .inr (2, [.int (nI 0), .ref ml, .ref mw, .ref mb, .ref ms, .ref mn])), (ml, .inl (cI, 8, .inl ln)), (mw, .inl (cI, 512, .inl wh)), (mb, .inl (cI, 48, .inl bi)), (ms, .inl (cZ, 48, .inl si)), (mn, .inl (cJ, 6, .inr (.inl nu)))]) [0, 1, 2, 3, 4, 5] rfl
    have hDc := hD.sub (ws' := [(hm, .inr (2, [.int (nI 0), .ref ml, .ref mw, .ref mb, .ref ms, .ref mn])), (ml, .inl (cI, 8, .inl ln)), (mw, .inl (cI, 512, .inl wh)), (mb, .inl (cI, 48, .inl bi)), (ms, .inl (cZ, 48, .inl si)), (mn, .inl (cJ, 6, .inr (.inl nu)))]) [0, 1, 2, 3, 4, 5] (by decide) rfl
    have hKc := hK.sub (tys' := [(cI, .int), (cZ, .boolean), (cJ, .long)]) [0, 1, 2] rfl
    have hFc := va_free (wc := [(hm, .inr (2, [.int (nI 0), .ref ml, .ref mw, .ref mb, .ref ms, .ref mn])), (ml, .inl (cI, 8, .inl ln)), (mw, .inl (cI, 512, .inl wh)), (mb, .inl (cI, 48, .inl bi)), (ms, .inl (cZ, 48, .inl si)), (mn, .inl (cJ, 6, .inr (.inl nu)))]) hD hS hA [0, 1, 2, 3, 4, 5] rfl
    refine va_calli (va_runV (As := [.int (nI 0), .int (nI 1)]) (rest := []) ⟨hx, hb, hml, hown, hw⟩ (c_M_fails0 l dC dI _ cI cZ cJ hm ml mw mb ms mn ln wh bi si nu 1 (by decide)) (cwV 2 hw (gV kw_420 kw_422 kw_5 kw_16 kw_423) rfl rfl rfl (by decide +kernel) ⟨Nat.le_of_ble_eq_true rfl, Nat.le_of_ble_eq_true rfl⟩) (rw_preV (q0 := 0) hKc hPc hDc rfl rfl) rfl rfl hl.1 rfl (lv_room (Nat.le_of_ble_eq_true rfl)) dM_fits_21 ⟨Nat.zero_le _, Nat.zero_le _⟩) hS (fun q _ h => hFc q h) hFc (fun v21 u t H1 locs ht hvm e21 hB hz1 hk1 hS => ?_)
    obtain ⟨hP1, hK1, hD1⟩ := hB
    rw [ht] at hP1
    obtain ⟨hP, hD⟩ := va_join (wr := []) (w1 := [(hm, .inr (2, [.int (nI 0), .ref ml, .ref mw, .ref mb, .ref ms, .ref mn])), (ml, .inl (cI, 8, .inl ln)), (mw, .inl (cI, 512, .inl wh)), (mb, .inl (cI, 48, .inl bi)), (ms, .inl (cZ, 48, .inl si)), (mn, .inl (cJ, 6, .inr (.inl nu)))]) hP hD [0, 1, 2, 3, 4, 5] [] rfl rfl (by decide) (by decide) hk1 hFc hP1 hD1
    generalize H1 = H at hP hS ⊢
    have hP : va_P (dC, dI) cls3 [(hm, .inr (2, [.int (nI 0), .ref ml, .ref mw, .ref mb, .ref ms, .ref mn])), (ml, .inl (cI, 8, .inl ln)), (mw, .inl (cI, 512, .inl wh)), (mb, .inl (cI, 48, .inl bi)), (ms, .inl (cZ, 48, .inl si)), (mn, .inl (cJ, 6, .inr (.inl nu)))] H := hP
    have hD : va_D A [(hm, .inr (2, [.int (nI 0), .ref ml, .ref mw, .ref mb, .ref ms, .ref mn])), (ml, .inl (cI, 8, .inl ln)), (mw, .inl (cI, 512, .inl wh)), (mb, .inl (cI, 48, .inl bi)), (ms, .inl (cZ, 48, .inl si)), (mn, .inl (cJ, 6, .inr (.inl nu)))] := hD
    obtain rfl : v21 = nI 0 := e21
    refine lv_if_ne (tgt := 41) hx hb dM_fits_24 (by decide) (fun h24 => ?_) (fun h24 => ?_)
    · exfalso
      first | exact h24 (by decide +kernel) | exact absurd h24 (by decide +kernel)
    · refine lv_aload_n hx hb dM_fits_27 rfl (lv_at hl 0 rfl) ?_
      refine lv_iload_n hx hb dM_fits_28 rfl (lv_at hl 1 rfl) ?_
      refine lv_iload_n hx hb dM_fits_29 rfl (lv_at hl 2 rfl) ?_
      refine lv_lload_n hx hb dM_fits_30 rfl (lv_at hl 3 rfl) ?_
      refine vp_callSi (W.runV (As := [.int (nI f), .int (nI o), .long v]) (rest := []) ⟨hx, hb, hml, hown, hw⟩ (c_M_holds l dC dI cI cZ cJ hm ml mw mb ms mn (nI 0) ln wh bi si nu ns its wss sbs hM f o v hf ho hw1) (cwV 3 hw (gV kw_472 kw_474 kw_10 kw_16 kw_475) rfl rfl rfl (by decide +kernel) ⟨Nat.le_of_ble_eq_true rfl, Nat.le_of_ble_eq_true rfl⟩) (ro_preV (q0 := 0) hK hP rfl rfl) rfl rfl hl.1 rfl (lv_room (Nat.le_of_ble_eq_true rfl)) dM_fits_31 ⟨Nat.zero_le _, Nat.zero_le _⟩) (fun v31 e31 => ?_)
      obtain rfl : v31 = nI (fitB (wss f o) (sbs f o) v).toNat := e31
      refine lv_if_eq (tgt := 41) hx hb dM_fits_34 (by decide) (fun h34 => ?_) (fun h34 => ?_)
      · refine lv_iconst (v := nI 0) hx hb dM_fits_41 (by decide +kernel) ?_
        have hcd : cdFits wss (nI f) (nI o) = 0 := by unfold cdFits; first | (rw [h12]; rfl) | (rw [thr_t hf ho hw1]; rfl)
        exact W.zret (v := nI 0) hx hb hr (by first | exact b_nar _ | decide +kernel) (fun t ht hW => ⟨⟨_, (), rfl, (by intro h0; first | exact absurd (hcd.symm.trans h0) (by decide) | (rw [hff, hfo]; first | (rw [(b_nat0 _).mp h34]; rfl) | (rw [b_nf h34]; rfl))), by rw [ht, hcd]; exact hP, va_K.moved hW.alike hK, by rw [hcd]; exact hD⟩, hS.F ht⟩) hS.2.2 dM_fits_42
      · refine lv_iconst (v := nI 1) hx hb dM_fits_37 (by decide +kernel) ?_
        refine lv_goto (tgt := 42) hx hb dM_fits_38 (by decide) ?_
        have hcd : cdFits wss (nI f) (nI o) = 0 := by unfold cdFits; first | (rw [h12]; rfl) | (rw [thr_t hf ho hw1]; rfl)
        exact W.zret (v := nI 1) hx hb hr (by first | exact b_nar _ | decide +kernel) (fun t ht hW => ⟨⟨_, (), rfl, (by intro h0; first | exact absurd (hcd.symm.trans h0) (by decide) | (rw [hff, hfo]; first | (rw [(b_nat0 _).mp h34]; rfl) | (rw [b_nf h34]; rfl))), by rw [ht, hcd]; exact hP, va_K.moved hW.alike hK, by rw [hcd]; exact hD⟩, hS.F ht⟩) hS.2.2 dM_fits_42
  · rw [b_nat0] at h12
    refine lv_iconst (v := nI 1) hx hb dM_fits_15 (by decide +kernel) ?_
    refine lv_goto (tgt := 20) hx hb dM_fits_16 (by decide) ?_
    refine lv_iconst (v := nI 1) hx hb dM_fits_20 (by decide +kernel) ?_
    have hPc := hP.sub (ws' := [(hm, .inr (2, [.int (nI 0), .ref ml, .ref mw, .ref mb, .ref ms, .ref mn])), (ml, .inl (cI, 8, .inl ln)), (mw, .inl (cI, 512, .inl wh)), (mb, .inl (cI, 48, .inl bi)), (ms, .inl (cZ, 48, .inl si)), (mn, .inl (cJ, 6, .inr (.inl nu)))]) [0, 1, 2, 3, 4, 5] rfl
    have hDc := hD.sub (ws' := [(hm, .inr (2, [.int (nI 0), .ref ml, .ref mw, .ref mb, .ref ms, .ref mn])), (ml, .inl (cI, 8, .inl ln)), (mw, .inl (cI, 512, .inl wh)), (mb, .inl (cI, 48, .inl bi)), (ms, .inl (cZ, 48, .inl si)), (mn, .inl (cJ, 6, .inr (.inl nu)))]) [0, 1, 2, 3, 4, 5] (by decide) rfl
    have hKc := hK.sub (tys' := [(cI, .int), (cZ, .boolean), (cJ, .long)]) [0, 1, 2] rfl
    have hFc := va_free (wc := [(hm, .inr (2, [.int (nI 0), .ref ml, .ref mw, .ref mb, .ref ms, .ref mn])), (ml, .inl (cI, 8, .inl ln)), (mw, .inl (cI, 512, .inl wh)), (mb, .inl (cI, 48, .inl bi)), (ms, .inl (cZ, 48, .inl si)), (mn, .inl (cJ, 6, .inr (.inl nu)))]) hD hS hA [0, 1, 2, 3, 4, 5] rfl
    refine va_calli (va_runV (As := [.int (nI 1), .int (nI 1)]) (rest := []) ⟨hx, hb, hml, hown, hw⟩ (c_M_fails1 l dC dI _ cI cZ cJ hm ml mw mb ms mn ln wh bi si nu 1 (by decide)) (cwV 2 hw (gV kw_420 kw_422 kw_5 kw_16 kw_423) rfl rfl rfl (by decide +kernel) ⟨Nat.le_of_ble_eq_true rfl, Nat.le_of_ble_eq_true rfl⟩) (rw_preV (q0 := 0) hKc hPc hDc rfl rfl) rfl rfl hl.1 rfl (lv_room (Nat.le_of_ble_eq_true rfl)) dM_fits_21 ⟨Nat.zero_le _, Nat.zero_le _⟩) hS (fun q _ h => hFc q h) hFc (fun v21 u t H1 locs ht hvm e21 hB hz1 hk1 hS => ?_)
    obtain ⟨hP1, hK1, hD1⟩ := hB
    rw [ht] at hP1
    obtain ⟨hP, hD⟩ := va_join (wr := []) (w1 := [(hm, .inr (2, [.int (nI 1), .ref ml, .ref mw, .ref mb, .ref ms, .ref mn])), (ml, .inl (cI, 8, .inl ln)), (mw, .inl (cI, 512, .inl wh)), (mb, .inl (cI, 48, .inl bi)), (ms, .inl (cZ, 48, .inl si)), (mn, .inl (cJ, 6, .inr (.inl nu)))]) hP hD [0, 1, 2, 3, 4, 5] [] rfl rfl (by decide) (by decide) hk1 hFc hP1 hD1
    generalize H1 = H at hP hS ⊢
    have hP : va_P (dC, dI) cls3 [(hm, .inr (2, [.int (nI 1), .ref ml, .ref mw, .ref mb, .ref ms, .ref mn])), (ml, .inl (cI, 8, .inl ln)), (mw, .inl (cI, 512, .inl wh)), (mb, .inl (cI, 48, .inl bi)), (ms, .inl (cZ, 48, .inl si)), (mn, .inl (cJ, 6, .inr (.inl nu)))] H := hP
    have hD : va_D A [(hm, .inr (2, [.int (nI 1), .ref ml, .ref mw, .ref mb, .ref ms, .ref mn])), (ml, .inl (cI, 8, .inl ln)), (mw, .inl (cI, 512, .inl wh)), (mb, .inl (cI, 48, .inl bi)), (ms, .inl (cZ, 48, .inl si)), (mn, .inl (cJ, 6, .inr (.inl nu)))] := hD
    obtain rfl : v21 = nI 1 := e21
    refine lv_if_ne (tgt := 41) hx hb dM_fits_24 (by decide) (fun h24 => ?_) (fun h24 => ?_)
    · refine lv_iconst (v := nI 0) hx hb dM_fits_41 (by decide +kernel) ?_
      have hcd : cdFits wss x y = 1 := by unfold cdFits; first | (rw [h12]; rfl) | (rw [thr_t hf ho hw1]; rfl)
      exact W.zret (v := nI 0) hx hb hr (by first | exact b_nar _ | decide +kernel) (fun t ht hW => ⟨⟨_, (), rfl, (by intro h0; first | exact absurd (hcd.symm.trans h0) (by decide) | (rw [hff, hfo]; first | (rw [(b_nat0 _).mp h34]; rfl) | (rw [b_nf h34]; rfl))), by rw [ht, hcd]; exact hP, va_K.moved hW.alike hK, by rw [hcd]; exact hD⟩, hS.F ht⟩) hS.2.2 dM_fits_42
    · exfalso
      first | exact h24 (by decide +kernel) | exact absurd h24 (by decide +kernel)

set_option maxHeartbeats 4000000 in
set_option maxRecDepth 100000 in
theorem c_M_is (l : Launch) (dC : Nat → ClassId) (dI : Nat → Nat → Nat) (sz : Nat) (cI cZ cJ : ClassId) (hm ml mw mb ms mn : Nat) (er : Int32) (ln wh bi si : Nat → Int32) (nu : Nat → Int64) (ns : Nat → Nat) (its wss : Nat → Nat → Nat) (sbs : Nat → Nat → Bool) (hM : mR ns its wss sbs ln wh bi si) (x : Int32) (wo : Int64) : Met l yM_is wM_is { frames := 2, cells := 0, slots := 0, locals := 46 } (rw_Pc (dC, dI) cls3 [(hm, .inr (2, [.int er, .ref ml, .ref mw, .ref mb, .ref ms, .ref mn])), (ml, .inl (cI, 8, .inl ln)), (mw, .inl (cI, 512, .inl wh)), (mb, .inl (cI, 48, .inl bi)), (ms, .inl (cZ, 48, .inl si)), (mn, .inl (cJ, 6, .inr (.inl nu)))] [(cI, .int), (cZ, .boolean), (cJ, .long)] sz [.ref hm, .int x, .long wo]) (va_Qi (fun (r : Int32) (_ : Unit) => cdClear x = 0 → r = nI (isof (its (fi x)) (ns (fi x)) wo).toNat) (fun _ t => va_P (dC, dI) cls3 [(hm, .inr (2, [.int (nI (cdClear x)), .ref ml, .ref mw, .ref mb, .ref ms, .ref mn])), (ml, .inl (cI, 8, .inl ln)), (mw, .inl (cI, 512, .inl wh)), (mb, .inl (cI, 48, .inl bi)), (ms, .inl (cZ, 48, .inl si)), (mn, .inl (cJ, 6, .inr (.inl nu)))] t.heap ∧ va_K (dC, dI) cls3 [(cI, .int), (cZ, .boolean), (cJ, .long)] t ∧ va_D (va_A [(hm, .inr (2, [.int er, .ref ml, .ref mw, .ref mb, .ref ms, .ref mn])), (ml, .inl (cI, 8, .inl ln)), (mw, .inl (cI, 512, .inl wh)), (mb, .inl (cI, 48, .inl bi)), (ms, .inl (cZ, 48, .inl si)), (mn, .inl (cJ, 6, .inr (.inl nu)))] sz) [(hm, .inr (2, [.int (nI (cdClear x)), .ref ml, .ref mw, .ref mb, .ref ms, .ref mn])), (ml, .inl (cI, 8, .inl ln)), (mw, .inl (cI, 512, .inl wh)), (mb, .inl (cI, 48, .inl bi)), (ms, .inl (cZ, 48, .inl si)), (mn, .inl (cJ, 6, .inr (.inl nu)))]) (va_A [(hm, .inr (2, [.int er, .ref ml, .ref mw, .ref mb, .ref ms, .ref mn])), (ml, .inl (cI, 8, .inl ln)), (mw, .inl (cI, 512, .inl wh)), (mb, .inl (cI, 48, .inl bi)), (ms, .inl (cZ, 48, .inl si)), (mn, .inl (cJ, 6, .inr (.inl nu)))] sz)) 0 0 (va_A [(hm, .inr (2, [.int er, .ref ml, .ref mw, .ref mb, .ref ms, .ref mn])), (ml, .inl (cI, 8, .inl ln)), (mw, .inl (cI, 512, .inl wh)), (mb, .inl (cI, 48, .inl bi)), (ms, .inl (cZ, 48, .inl si)), (mn, .inl (cJ, 6, .inr (.inl nu)))] sz) := by
  refine Met.ofW (cc := cM_is) (maxL := 4) (ret := (some .boolean)) (by decide) rfl ?_
  intro p e s m args below meth c s₁ B hml hv
  obtain ⟨rfl, hsz, hP, hK, hD0⟩ := hv
  have hx := B.exec
  have hb := B.bytes
  have hr := B.returns
  have hts := atoms_spec (ws := wM_is) B.pre
  have hw : ∀ w ∈ wA, w.before _ s = true := fun w h => hts w (List.mem_cons_of_mem _ h)
  have hown : s.vm.findClass RM = some m.cls := findClass_of_methodNamed B.named
  have hlocks := B.notSynchronized
  subst hsz
  have hD := hD0.self (sz := s.heap.size)
  generalize hAe : va_A [(hm, .inr (2, [.int er, .ref ml, .ref mw, .ref mb, .ref ms, .ref mn])), (ml, .inl (cI, 8, .inl ln)), (mw, .inl (cI, 512, .inl wh)), (mb, .inl (cI, 48, .inl bi)), (ms, .inl (cZ, 48, .inl si)), (mn, .inl (cJ, 6, .inr (.inl nu)))] s.heap.size = A at hD ⊢
  have hA : ∀ q : Nat, s.heap.size ≤ q → A q := fun q h => by rw [← hAe]; exact Or.inr h
  have hS : va_S A s.heap s.heap [] := va_S.rf
  have hl := lv_entry ([.ref hm, .int x, .long wo]) (n := 4) (Nat.le_of_ble_eq_true rfl)
  rw [lg_entry_eq]
  generalize (lg_sl ([.ref hm, .int x, .long wo]) ++ List.replicate (4 - (lg_sl ([.ref hm, .int x, .long wo])).length) Slot.unset).toArray = ls at hl ⊢
  have hl : lv_has ls 4 [(0, .ref hm), (1, .int x), (2, .long wo)] := hl
  refine lv_aload_n hx hb dM_is_0 rfl (lv_at hl 0 rfl) ?_
  refine lv_iconst (v := nI 0) hx hb dM_is_1 (by decide +kernel) ?_
  refine va_put (D := (dC, dI)) (ci := 2) (v := .int (nI 0)) (ty := .int) (C := RM) (T := TM) (N := 6) hx hb hw inM tM tM_ok nM hown hK hP hD hS 0 rfl rfl 0 (by decide) (hw _ kw_386) (fun _ h9 => h9) rfl (by decide +kernel) rfl rfl (Nat.le_of_ble_eq_true rfl) dM_is_2 (fun H locs hP hD hS => ?_)
  have hP : va_P (dC, dI) cls3 [(hm, .inr (2, [.int (nI 0), .ref ml, .ref mw, .ref mb, .ref ms, .ref mn])), (ml, .inl (cI, 8, .inl ln)), (mw, .inl (cI, 512, .inl wh)), (mb, .inl (cI, 48, .inl bi)), (ms, .inl (cZ, 48, .inl si)), (mn, .inl (cJ, 6, .inr (.inl nu)))] H := hP
  have hD : va_D A [(hm, .inr (2, [.int (nI 0), .ref ml, .ref mw, .ref mb, .ref ms, .ref mn])), (ml, .inl (cI, 8, .inl ln)), (mw, .inl (cI, 512, .inl wh)), (mb, .inl (cI, 48, .inl bi)), (ms, .inl (cZ, 48, .inl si)), (mn, .inl (cJ, 6, .inr (.inl nu)))] := hD
  refine lv_aload_n hx hb dM_is_5 rfl (lv_at hl 0 rfl) ?_
  refine lv_iload_n hx hb dM_is_6 rfl (lv_at hl 1 rfl) ?_
  refine vp_callSi (W.runS (As := [.int x]) (rest := [.ref hm]) ⟨hx, hb, hml, hown, hw⟩ (c_M_isForm l x) (cwS 1 hw (gS kw_413 kw_414 kw_16 kw_415) rfl rfl rfl (by decide +kernel) ⟨Nat.le_of_ble_eq_true rfl, Nat.le_of_ble_eq_true rfl⟩) preEq rfl rfl hl.1 rfl (lv_room (Nat.le_of_ble_eq_true rfl)) dM_is_7 ⟨Nat.zero_le _, Nat.zero_le _⟩) (fun v7 e7 => ?_)
  obtain rfl : v7 = nI (isF x).toNat := e7
  refine lv_if_ne (tgt := 17) hx hb dM_is_10 (by decide) (fun h10 => ?_) (fun h10 => ?_)
  · obtain ⟨f, hf, rfl⟩ := isF_of (b_nf h10)
    have hff : fi (nI f) = f := fi_nI (by omega)
    refine lv_iconst (v := nI 0) hx hb dM_is_17 (by decide +kernel) ?_
    refine lv_iconst (v := nI 1) hx hb dM_is_18 (by decide +kernel) ?_
    have hPc := hP.sub (ws' := [(hm, .inr (2, [.int (nI 0), .ref ml, .ref mw, .ref mb, .ref ms, .ref mn])), (ml, .inl (cI, 8, .inl ln)), (mw, .inl (cI, 512, .inl wh)), (mb, .inl (cI, 48, .inl bi)), (ms, .inl (cZ, 48, .inl si)), (mn, .inl (cJ, 6, .inr (.inl nu)))]) [0, 1, 2, 3, 4, 5] rfl
    have hDc := hD.sub (ws' := [(hm, .inr (2, [.int (nI 0), .ref ml, .ref mw, .ref mb, .ref ms, .ref mn])), (ml, .inl (cI, 8, .inl ln)), (mw, .inl (cI, 512, .inl wh)), (mb, .inl (cI, 48, .inl bi)), (ms, .inl (cZ, 48, .inl si)), (mn, .inl (cJ, 6, .inr (.inl nu)))]) [0, 1, 2, 3, 4, 5] (by decide) rfl
    have hKc := hK.sub (tys' := [(cI, .int), (cZ, .boolean), (cJ, .long)]) [0, 1, 2] rfl
    have hFc := va_free (wc := [(hm, .inr (2, [.int (nI 0), .ref ml, .ref mw, .ref mb, .ref ms, .ref mn])), (ml, .inl (cI, 8, .inl ln)), (mw, .inl (cI, 512, .inl wh)), (mb, .inl (cI, 48, .inl bi)), (ms, .inl (cZ, 48, .inl si)), (mn, .inl (cJ, 6, .inr (.inl nu)))]) hD hS hA [0, 1, 2, 3, 4, 5] rfl
    refine va_calli (va_runV (As := [.int (nI 0), .int (nI 1)]) (rest := []) ⟨hx, hb, hml, hown, hw⟩ (c_M_fails0 l dC dI _ cI cZ cJ hm ml mw mb ms mn ln wh bi si nu 1 (by decide)) (cwV 2 hw (gV kw_420 kw_422 kw_5 kw_16 kw_423) rfl rfl rfl (by decide +kernel) ⟨Nat.le_of_ble_eq_true rfl, Nat.le_of_ble_eq_true rfl⟩) (rw_preV (q0 := 0) hKc hPc hDc rfl rfl) rfl rfl hl.1 rfl (lv_room (Nat.le_of_ble_eq_true rfl)) dM_is_19 ⟨Nat.zero_le _, Nat.zero_le _⟩) hS (fun q _ h => hFc q h) hFc (fun v19 u t H1 locs ht hvm e19 hB hz1 hk1 hS => ?_)
    obtain ⟨hP1, hK1, hD1⟩ := hB
    rw [ht] at hP1
    obtain ⟨hP, hD⟩ := va_join (wr := []) (w1 := [(hm, .inr (2, [.int (nI 0), .ref ml, .ref mw, .ref mb, .ref ms, .ref mn])), (ml, .inl (cI, 8, .inl ln)), (mw, .inl (cI, 512, .inl wh)), (mb, .inl (cI, 48, .inl bi)), (ms, .inl (cZ, 48, .inl si)), (mn, .inl (cJ, 6, .inr (.inl nu)))]) hP hD [0, 1, 2, 3, 4, 5] [] rfl rfl (by decide) (by decide) hk1 hFc hP1 hD1
    generalize H1 = H at hP hS ⊢
    have hP : va_P (dC, dI) cls3 [(hm, .inr (2, [.int (nI 0), .ref ml, .ref mw, .ref mb, .ref ms, .ref mn])), (ml, .inl (cI, 8, .inl ln)), (mw, .inl (cI, 512, .inl wh)), (mb, .inl (cI, 48, .inl bi)), (ms, .inl (cZ, 48, .inl si)), (mn, .inl (cJ, 6, .inr (.inl nu)))] H := hP
    have hD : va_D A [(hm, .inr (2, [.int (nI 0), .ref ml, .ref mw, .ref mb, .ref ms, .ref mn])), (ml, .inl (cI, 8, .inl ln)), (mw, .inl (cI, 512, .inl wh)), (mb, .inl (cI, 48, .inl bi)), (ms, .inl (cZ, 48, .inl si)), (mn, .inl (cJ, 6, .inr (.inl nu)))] := hD
    obtain rfl : v19 = nI 0 := e19
    refine lv_if_ne (tgt := 38) hx hb dM_is_22 (by decide) (fun h22 => ?_) (fun h22 => ?_)
    · exfalso
      first | exact h22 (by decide +kernel) | exact absurd h22 (by decide +kernel)
    · refine lv_aload_n hx hb dM_is_25 rfl (lv_at hl 0 rfl) ?_
      refine lv_iload_n hx hb dM_is_26 rfl (lv_at hl 1 rfl) ?_
      refine lv_lload_n hx hb dM_is_27 rfl (lv_at hl 2 rfl) ?_
      refine vp_callSi (W.runV (As := [.int (nI f), .long wo]) (rest := []) ⟨hx, hb, hml, hown, hw⟩ (c_M_isOf l dC dI cI cZ cJ hm ml mw mb ms mn (nI 0) ln wh bi si nu ns its wss sbs hM f wo hf) (cwV 2 hw (gV kw_488 kw_490 kw_12 kw_16 kw_491) rfl rfl rfl (by decide +kernel) ⟨Nat.le_of_ble_eq_true rfl, Nat.le_of_ble_eq_true rfl⟩) (ro_preV (q0 := 0) hK hP rfl rfl) rfl rfl hl.1 rfl (lv_room (Nat.le_of_ble_eq_true rfl)) dM_is_28 ⟨Nat.zero_le _, Nat.zero_le _⟩) (fun v28 e28 => ?_)
      obtain rfl : v28 = nI (isof (its f) (ns f) wo).toNat := e28
      refine lv_if_eq (tgt := 38) hx hb dM_is_31 (by decide) (fun h31 => ?_) (fun h31 => ?_)
      · refine lv_iconst (v := nI 0) hx hb dM_is_38 (by decide +kernel) ?_
        have hcd : cdClear (nI f) = 0 := by unfold cdClear; first | (rw [h10]; rfl) | (rw [isF_nI hf]; rfl)
        exact W.zret (v := nI 0) hx hb hr (by first | exact b_nar _ | decide +kernel) (fun t ht hW => ⟨⟨_, (), rfl, (by intro h0; first | exact absurd (hcd.symm.trans h0) (by decide) | (rw [hff]; first | (rw [(b_nat0 _).mp h31]; rfl) | (rw [b_nf h31]; rfl))), by rw [ht, hcd]; exact hP, va_K.moved hW.alike hK, by rw [hcd]; exact hD⟩, hS.F ht⟩) hS.2.2 dM_is_39
      · refine lv_iconst (v := nI 1) hx hb dM_is_34 (by decide +kernel) ?_
        refine lv_goto (tgt := 39) hx hb dM_is_35 (by decide) ?_
        have hcd : cdClear (nI f) = 0 := by unfold cdClear; first | (rw [h10]; rfl) | (rw [isF_nI hf]; rfl)
        exact W.zret (v := nI 1) hx hb hr (by first | exact b_nar _ | decide +kernel) (fun t ht hW => ⟨⟨_, (), rfl, (by intro h0; first | exact absurd (hcd.symm.trans h0) (by decide) | (rw [hff]; first | (rw [(b_nat0 _).mp h31]; rfl) | (rw [b_nf h31]; rfl))), by rw [ht, hcd]; exact hP, va_K.moved hW.alike hK, by rw [hcd]; exact hD⟩, hS.F ht⟩) hS.2.2 dM_is_39
  · rw [b_nat0] at h10
    refine lv_iconst (v := nI 1) hx hb dM_is_13 (by decide +kernel) ?_
    refine lv_goto (tgt := 18) hx hb dM_is_14 (by decide) ?_
    refine lv_iconst (v := nI 1) hx hb dM_is_18 (by decide +kernel) ?_
    have hPc := hP.sub (ws' := [(hm, .inr (2, [.int (nI 0), .ref ml, .ref mw, .ref mb, .ref ms, .ref mn])), (ml, .inl (cI, 8, .inl ln)), (mw, .inl (cI, 512, .inl wh)), (mb, .inl (cI, 48, .inl bi)), (ms, .inl (cZ, 48, .inl si)), (mn, .inl (cJ, 6, .inr (.inl nu)))]) [0, 1, 2, 3, 4, 5] rfl
    have hDc := hD.sub (ws' := [(hm, .inr (2, [.int (nI 0), .ref ml, .ref mw, .ref mb, .ref ms, .ref mn])), (ml, .inl (cI, 8, .inl ln)), (mw, .inl (cI, 512, .inl wh)), (mb, .inl (cI, 48, .inl bi)), (ms, .inl (cZ, 48, .inl si)), (mn, .inl (cJ, 6, .inr (.inl nu)))]) [0, 1, 2, 3, 4, 5] (by decide) rfl
    have hKc := hK.sub (tys' := [(cI, .int), (cZ, .boolean), (cJ, .long)]) [0, 1, 2] rfl
    have hFc := va_free (wc := [(hm, .inr (2, [.int (nI 0), .ref ml, .ref mw, .ref mb, .ref ms, .ref mn])), (ml, .inl (cI, 8, .inl ln)), (mw, .inl (cI, 512, .inl wh)), (mb, .inl (cI, 48, .inl bi)), (ms, .inl (cZ, 48, .inl si)), (mn, .inl (cJ, 6, .inr (.inl nu)))]) hD hS hA [0, 1, 2, 3, 4, 5] rfl
    refine va_calli (va_runV (As := [.int (nI 1), .int (nI 1)]) (rest := []) ⟨hx, hb, hml, hown, hw⟩ (c_M_fails1 l dC dI _ cI cZ cJ hm ml mw mb ms mn ln wh bi si nu 1 (by decide)) (cwV 2 hw (gV kw_420 kw_422 kw_5 kw_16 kw_423) rfl rfl rfl (by decide +kernel) ⟨Nat.le_of_ble_eq_true rfl, Nat.le_of_ble_eq_true rfl⟩) (rw_preV (q0 := 0) hKc hPc hDc rfl rfl) rfl rfl hl.1 rfl (lv_room (Nat.le_of_ble_eq_true rfl)) dM_is_19 ⟨Nat.zero_le _, Nat.zero_le _⟩) hS (fun q _ h => hFc q h) hFc (fun v19 u t H1 locs ht hvm e19 hB hz1 hk1 hS => ?_)
    obtain ⟨hP1, hK1, hD1⟩ := hB
    rw [ht] at hP1
    obtain ⟨hP, hD⟩ := va_join (wr := []) (w1 := [(hm, .inr (2, [.int (nI 1), .ref ml, .ref mw, .ref mb, .ref ms, .ref mn])), (ml, .inl (cI, 8, .inl ln)), (mw, .inl (cI, 512, .inl wh)), (mb, .inl (cI, 48, .inl bi)), (ms, .inl (cZ, 48, .inl si)), (mn, .inl (cJ, 6, .inr (.inl nu)))]) hP hD [0, 1, 2, 3, 4, 5] [] rfl rfl (by decide) (by decide) hk1 hFc hP1 hD1
    generalize H1 = H at hP hS ⊢
    have hP : va_P (dC, dI) cls3 [(hm, .inr (2, [.int (nI 1), .ref ml, .ref mw, .ref mb, .ref ms, .ref mn])), (ml, .inl (cI, 8, .inl ln)), (mw, .inl (cI, 512, .inl wh)), (mb, .inl (cI, 48, .inl bi)), (ms, .inl (cZ, 48, .inl si)), (mn, .inl (cJ, 6, .inr (.inl nu)))] H := hP
    have hD : va_D A [(hm, .inr (2, [.int (nI 1), .ref ml, .ref mw, .ref mb, .ref ms, .ref mn])), (ml, .inl (cI, 8, .inl ln)), (mw, .inl (cI, 512, .inl wh)), (mb, .inl (cI, 48, .inl bi)), (ms, .inl (cZ, 48, .inl si)), (mn, .inl (cJ, 6, .inr (.inl nu)))] := hD
    obtain rfl : v19 = nI 1 := e19
    refine lv_if_ne (tgt := 38) hx hb dM_is_22 (by decide) (fun h22 => ?_) (fun h22 => ?_)
    · refine lv_iconst (v := nI 0) hx hb dM_is_38 (by decide +kernel) ?_
      have hcd : cdClear x = 1 := by unfold cdClear; first | (rw [h10]; rfl) | (rw [isF_nI hf]; rfl)
      exact W.zret (v := nI 0) hx hb hr (by first | exact b_nar _ | decide +kernel) (fun t ht hW => ⟨⟨_, (), rfl, (by intro h0; first | exact absurd (hcd.symm.trans h0) (by decide) | (rw [hff]; first | (rw [(b_nat0 _).mp h31]; rfl) | (rw [b_nf h31]; rfl))), by rw [ht, hcd]; exact hP, va_K.moved hW.alike hK, by rw [hcd]; exact hD⟩, hS.F ht⟩) hS.2.2 dM_is_39
    · exfalso
      first | exact h22 (by decide +kernel) | exact absurd h22 (by decide +kernel)

set_option maxHeartbeats 4000000 in
set_option maxRecDepth 100000 in
theorem c_M_meet (l : Launch) (dC : Nat → ClassId) (dI : Nat → Nat → Nat) (sz : Nat) (cI cZ cJ : ClassId) (hm ml mw mb ms mn : Nat) (er : Int32) (ln wh bi si : Nat → Int32) (nu : Nat → Int64) (ns : Nat → Nat) (its wss : Nat → Nat → Nat) (sbs : Nat → Nat → Bool) (hM : mR ns its wss sbs ln wh bi si) (x y : Int32) : Met l yM_meet wM_meet { frames := 2, cells := 0, slots := 0, locals := 45 } (rw_Pc (dC, dI) cls3 [(hm, .inr (2, [.int er, .ref ml, .ref mw, .ref mb, .ref ms, .ref mn])), (ml, .inl (cI, 8, .inl ln)), (mw, .inl (cI, 512, .inl wh)), (mb, .inl (cI, 48, .inl bi)), (ms, .inl (cZ, 48, .inl si)), (mn, .inl (cJ, 6, .inr (.inl nu)))] [(cI, .int), (cZ, .boolean), (cJ, .long)] sz [.ref hm, .int x, .int y]) (va_Qi (fun (r : Int32) (_ : Unit) => cdMeet x y = 0 → r = nI (allb (shw (its (fi x)) (ns (fi x)) (its (fi y)) (ns (fi y))) 64).toNat) (fun _ t => va_P (dC, dI) cls3 [(hm, .inr (2, [.int (nI (cdMeet x y)), .ref ml, .ref mw, .ref mb, .ref ms, .ref mn])), (ml, .inl (cI, 8, .inl ln)), (mw, .inl (cI, 512, .inl wh)), (mb, .inl (cI, 48, .inl bi)), (ms, .inl (cZ, 48, .inl si)), (mn, .inl (cJ, 6, .inr (.inl nu)))] t.heap ∧ va_K (dC, dI) cls3 [(cI, .int), (cZ, .boolean), (cJ, .long)] t ∧ va_D (va_A [(hm, .inr (2, [.int er, .ref ml, .ref mw, .ref mb, .ref ms, .ref mn])), (ml, .inl (cI, 8, .inl ln)), (mw, .inl (cI, 512, .inl wh)), (mb, .inl (cI, 48, .inl bi)), (ms, .inl (cZ, 48, .inl si)), (mn, .inl (cJ, 6, .inr (.inl nu)))] sz) [(hm, .inr (2, [.int (nI (cdMeet x y)), .ref ml, .ref mw, .ref mb, .ref ms, .ref mn])), (ml, .inl (cI, 8, .inl ln)), (mw, .inl (cI, 512, .inl wh)), (mb, .inl (cI, 48, .inl bi)), (ms, .inl (cZ, 48, .inl si)), (mn, .inl (cJ, 6, .inr (.inl nu)))]) (va_A [(hm, .inr (2, [.int er, .ref ml, .ref mw, .ref mb, .ref ms, .ref mn])), (ml, .inl (cI, 8, .inl ln)), (mw, .inl (cI, 512, .inl wh)), (mb, .inl (cI, 48, .inl bi)), (ms, .inl (cZ, 48, .inl si)), (mn, .inl (cJ, 6, .inr (.inl nu)))] sz)) 0 0 (va_A [(hm, .inr (2, [.int er, .ref ml, .ref mw, .ref mb, .ref ms, .ref mn])), (ml, .inl (cI, 8, .inl ln)), (mw, .inl (cI, 512, .inl wh)), (mb, .inl (cI, 48, .inl bi)), (ms, .inl (cZ, 48, .inl si)), (mn, .inl (cJ, 6, .inr (.inl nu)))] sz) := by
  refine Met.ofW (cc := cM_meet) (maxL := 6) (ret := (some .boolean)) (by decide) rfl ?_
  intro p e s m args below meth c s₁ B hml hv
  obtain ⟨rfl, hsz, hP, hK, hD0⟩ := hv
  have hx := B.exec
  have hb := B.bytes
  have hr := B.returns
  have hts := atoms_spec (ws := wM_meet) B.pre
  have hw : ∀ w ∈ wA, w.before _ s = true := fun w h => hts w (List.mem_cons_of_mem _ h)
  have hown : s.vm.findClass RM = some m.cls := findClass_of_methodNamed B.named
  have hlocks := B.notSynchronized
  subst hsz
  have hD := hD0.self (sz := s.heap.size)
  generalize hAe : va_A [(hm, .inr (2, [.int er, .ref ml, .ref mw, .ref mb, .ref ms, .ref mn])), (ml, .inl (cI, 8, .inl ln)), (mw, .inl (cI, 512, .inl wh)), (mb, .inl (cI, 48, .inl bi)), (ms, .inl (cZ, 48, .inl si)), (mn, .inl (cJ, 6, .inr (.inl nu)))] s.heap.size = A at hD ⊢
  have hA : ∀ q : Nat, s.heap.size ≤ q → A q := fun q h => by rw [← hAe]; exact Or.inr h
  have hS : va_S A s.heap s.heap [] := va_S.rf
  have hl := lv_entry ([.ref hm, .int x, .int y]) (n := 6) (Nat.le_of_ble_eq_true rfl)
  rw [lg_entry_eq]
  generalize (lg_sl ([.ref hm, .int x, .int y]) ++ List.replicate (6 - (lg_sl ([.ref hm, .int x, .int y])).length) Slot.unset).toArray = ls at hl ⊢
  have hl : lv_has ls 6 [(0, .ref hm), (1, .int x), (2, .int y)] := hl
  refine lv_aload_n hx hb dM_meet_0 rfl (lv_at hl 0 rfl) ?_
  refine lv_iconst (v := nI 0) hx hb dM_meet_1 (by decide +kernel) ?_
  refine va_put (D := (dC, dI)) (ci := 2) (v := .int (nI 0)) (ty := .int) (C := RM) (T := TM) (N := 6) hx hb hw inM tM tM_ok nM hown hK hP hD hS 0 rfl rfl 0 (by decide) (hw _ kw_386) (fun _ h9 => h9) rfl (by decide +kernel) rfl rfl (Nat.le_of_ble_eq_true rfl) dM_meet_2 (fun H locs hP hD hS => ?_)
  have hP : va_P (dC, dI) cls3 [(hm, .inr (2, [.int (nI 0), .ref ml, .ref mw, .ref mb, .ref ms, .ref mn])), (ml, .inl (cI, 8, .inl ln)), (mw, .inl (cI, 512, .inl wh)), (mb, .inl (cI, 48, .inl bi)), (ms, .inl (cZ, 48, .inl si)), (mn, .inl (cJ, 6, .inr (.inl nu)))] H := hP
  have hD : va_D A [(hm, .inr (2, [.int (nI 0), .ref ml, .ref mw, .ref mb, .ref ms, .ref mn])), (ml, .inl (cI, 8, .inl ln)), (mw, .inl (cI, 512, .inl wh)), (mb, .inl (cI, 48, .inl bi)), (ms, .inl (cZ, 48, .inl si)), (mn, .inl (cJ, 6, .inr (.inl nu)))] := hD
  refine lv_aload_n hx hb dM_meet_5 rfl (lv_at hl 0 rfl) ?_
  refine lv_iload_n hx hb dM_meet_6 rfl (lv_at hl 1 rfl) ?_
  refine vp_callSi (W.runS (As := [.int x]) (rest := [.ref hm]) ⟨hx, hb, hml, hown, hw⟩ (c_M_isForm l x) (cwS 1 hw (gS kw_413 kw_414 kw_16 kw_415) rfl rfl rfl (by decide +kernel) ⟨Nat.le_of_ble_eq_true rfl, Nat.le_of_ble_eq_true rfl⟩) preEq rfl rfl hl.1 rfl (lv_room (Nat.le_of_ble_eq_true rfl)) dM_meet_7 ⟨Nat.zero_le _, Nat.zero_le _⟩) (fun v7 e7 => ?_)
  obtain rfl : v7 = nI (isF x).toNat := e7
  refine lv_if_eq (tgt := 20) hx hb dM_meet_10 (by decide) (fun h10 => ?_) (fun h10 => ?_)
  · rw [b_nat0] at h10
    refine lv_iconst (v := nI 1) hx hb dM_meet_20 (by decide +kernel) ?_
    refine lv_goto (tgt := 25) hx hb dM_meet_21 (by decide) ?_
    refine lv_iconst (v := nI 1) hx hb dM_meet_25 (by decide +kernel) ?_
    have hPc := hP.sub (ws' := [(hm, .inr (2, [.int (nI 0), .ref ml, .ref mw, .ref mb, .ref ms, .ref mn])), (ml, .inl (cI, 8, .inl ln)), (mw, .inl (cI, 512, .inl wh)), (mb, .inl (cI, 48, .inl bi)), (ms, .inl (cZ, 48, .inl si)), (mn, .inl (cJ, 6, .inr (.inl nu)))]) [0, 1, 2, 3, 4, 5] rfl
    have hDc := hD.sub (ws' := [(hm, .inr (2, [.int (nI 0), .ref ml, .ref mw, .ref mb, .ref ms, .ref mn])), (ml, .inl (cI, 8, .inl ln)), (mw, .inl (cI, 512, .inl wh)), (mb, .inl (cI, 48, .inl bi)), (ms, .inl (cZ, 48, .inl si)), (mn, .inl (cJ, 6, .inr (.inl nu)))]) [0, 1, 2, 3, 4, 5] (by decide) rfl
    have hKc := hK.sub (tys' := [(cI, .int), (cZ, .boolean), (cJ, .long)]) [0, 1, 2] rfl
    have hFc := va_free (wc := [(hm, .inr (2, [.int (nI 0), .ref ml, .ref mw, .ref mb, .ref ms, .ref mn])), (ml, .inl (cI, 8, .inl ln)), (mw, .inl (cI, 512, .inl wh)), (mb, .inl (cI, 48, .inl bi)), (ms, .inl (cZ, 48, .inl si)), (mn, .inl (cJ, 6, .inr (.inl nu)))]) hD hS hA [0, 1, 2, 3, 4, 5] rfl
    refine va_calli (va_runV (As := [.int (nI 1), .int (nI 1)]) (rest := []) ⟨hx, hb, hml, hown, hw⟩ (c_M_fails1 l dC dI _ cI cZ cJ hm ml mw mb ms mn ln wh bi si nu 1 (by decide)) (cwV 2 hw (gV kw_420 kw_422 kw_5 kw_16 kw_423) rfl rfl rfl (by decide +kernel) ⟨Nat.le_of_ble_eq_true rfl, Nat.le_of_ble_eq_true rfl⟩) (rw_preV (q0 := 0) hKc hPc hDc rfl rfl) rfl rfl hl.1 rfl (lv_room (Nat.le_of_ble_eq_true rfl)) dM_meet_26 ⟨Nat.zero_le _, Nat.zero_le _⟩) hS (fun q _ h => hFc q h) hFc (fun v26 u t H1 locs ht hvm e26 hB hz1 hk1 hS => ?_)
    obtain ⟨hP1, hK1, hD1⟩ := hB
    rw [ht] at hP1
    obtain ⟨hP, hD⟩ := va_join (wr := []) (w1 := [(hm, .inr (2, [.int (nI 1), .ref ml, .ref mw, .ref mb, .ref ms, .ref mn])), (ml, .inl (cI, 8, .inl ln)), (mw, .inl (cI, 512, .inl wh)), (mb, .inl (cI, 48, .inl bi)), (ms, .inl (cZ, 48, .inl si)), (mn, .inl (cJ, 6, .inr (.inl nu)))]) hP hD [0, 1, 2, 3, 4, 5] [] rfl rfl (by decide) (by decide) hk1 hFc hP1 hD1
    generalize H1 = H at hP hS ⊢
    have hP : va_P (dC, dI) cls3 [(hm, .inr (2, [.int (nI 1), .ref ml, .ref mw, .ref mb, .ref ms, .ref mn])), (ml, .inl (cI, 8, .inl ln)), (mw, .inl (cI, 512, .inl wh)), (mb, .inl (cI, 48, .inl bi)), (ms, .inl (cZ, 48, .inl si)), (mn, .inl (cJ, 6, .inr (.inl nu)))] H := hP
    have hD : va_D A [(hm, .inr (2, [.int (nI 1), .ref ml, .ref mw, .ref mb, .ref ms, .ref mn])), (ml, .inl (cI, 8, .inl ln)), (mw, .inl (cI, 512, .inl wh)), (mb, .inl (cI, 48, .inl bi)), (ms, .inl (cZ, 48, .inl si)), (mn, .inl (cJ, 6, .inr (.inl nu)))] := hD
    obtain rfl : v26 = nI 1 := e26
    refine lv_if_eq (tgt := 34) hx hb dM_meet_29 (by decide) (fun h29 => ?_) (fun h29 => ?_)
    · exfalso
      first | exact h29 (by decide +kernel) | exact absurd h29 (by decide +kernel)
    · refine lv_iconst (v := nI 0) hx hb dM_meet_32 (by decide +kernel) ?_
      have hcd : cdMeet x y = 1 := by unfold cdMeet; first | (rw [h10]; rfl) | (rw [isF_nI hf, h17]; rfl) | (rw [isF_nI hf, isF_nI hg]; rfl)
      exact W.zret (v := nI 0) hx hb hr (by first | exact b_nar _ | decide +kernel) (fun t ht hW => ⟨⟨_, (), rfl, (by intro h0; first | exact absurd (hcd.symm.trans h0) (by decide) | (rw [hff, hfg]; first | (rw [show j = 64 by omega] at ha; rw [ha]; rfl) | (rw [allb_f (shw (its f) (ns f) (its g) (ns g)) 64 (k := j) (by omega) (shw_af (by omega) (by omega) h102)]; rfl))), by rw [ht, hcd]; exact hP, va_K.moved hW.alike hK, by rw [hcd]; exact hD⟩, hS.F ht⟩) hS.2.2 dM_meet_33
  · obtain ⟨f, hf, rfl⟩ := isF_of (b_nf h10)
    have hff : fi (nI f) = f := fi_nI (by omega)
    have hok := (hM f hf).1
    have hn := hok.1
    have hw64 := hok.2.1
    have hit := cw_it hok
    refine lv_iload_n hx hb dM_meet_13 rfl (lv_at hl 2 rfl) ?_
    refine vp_callSi (W.runS (As := [.int y]) (rest := [.ref hm]) ⟨hx, hb, hml, hown, hw⟩ (c_M_isForm l y) (cwS 1 hw (gS kw_413 kw_414 kw_16 kw_415) rfl rfl rfl (by decide +kernel) ⟨Nat.le_of_ble_eq_true rfl, Nat.le_of_ble_eq_true rfl⟩) preEq rfl rfl hl.1 rfl (lv_room (Nat.le_of_ble_eq_true rfl)) dM_meet_14 ⟨Nat.zero_le _, Nat.zero_le _⟩) (fun v14 e14 => ?_)
    obtain rfl : v14 = nI (isF y).toNat := e14
    refine lv_if_ne (tgt := 24) hx hb dM_meet_17 (by decide) (fun h17 => ?_) (fun h17 => ?_)
    · obtain ⟨g, hg, rfl⟩ := isF_of (b_nf h17)
      have hfg : fi (nI g) = g := fi_nI (by omega)
      have hn2 := (hM g hg).1.1
      have hit2 := cw_it (hM g hg).1
      refine lv_iconst (v := nI 0) hx hb dM_meet_24 (by decide +kernel) ?_
      refine lv_iconst (v := nI 1) hx hb dM_meet_25 (by decide +kernel) ?_
      have hPc := hP.sub (ws' := [(hm, .inr (2, [.int (nI 0), .ref ml, .ref mw, .ref mb, .ref ms, .ref mn])), (ml, .inl (cI, 8, .inl ln)), (mw, .inl (cI, 512, .inl wh)), (mb, .inl (cI, 48, .inl bi)), (ms, .inl (cZ, 48, .inl si)), (mn, .inl (cJ, 6, .inr (.inl nu)))]) [0, 1, 2, 3, 4, 5] rfl
      have hDc := hD.sub (ws' := [(hm, .inr (2, [.int (nI 0), .ref ml, .ref mw, .ref mb, .ref ms, .ref mn])), (ml, .inl (cI, 8, .inl ln)), (mw, .inl (cI, 512, .inl wh)), (mb, .inl (cI, 48, .inl bi)), (ms, .inl (cZ, 48, .inl si)), (mn, .inl (cJ, 6, .inr (.inl nu)))]) [0, 1, 2, 3, 4, 5] (by decide) rfl
      have hKc := hK.sub (tys' := [(cI, .int), (cZ, .boolean), (cJ, .long)]) [0, 1, 2] rfl
      have hFc := va_free (wc := [(hm, .inr (2, [.int (nI 0), .ref ml, .ref mw, .ref mb, .ref ms, .ref mn])), (ml, .inl (cI, 8, .inl ln)), (mw, .inl (cI, 512, .inl wh)), (mb, .inl (cI, 48, .inl bi)), (ms, .inl (cZ, 48, .inl si)), (mn, .inl (cJ, 6, .inr (.inl nu)))]) hD hS hA [0, 1, 2, 3, 4, 5] rfl
      refine va_calli (va_runV (As := [.int (nI 0), .int (nI 1)]) (rest := []) ⟨hx, hb, hml, hown, hw⟩ (c_M_fails0 l dC dI _ cI cZ cJ hm ml mw mb ms mn ln wh bi si nu 1 (by decide)) (cwV 2 hw (gV kw_420 kw_422 kw_5 kw_16 kw_423) rfl rfl rfl (by decide +kernel) ⟨Nat.le_of_ble_eq_true rfl, Nat.le_of_ble_eq_true rfl⟩) (rw_preV (q0 := 0) hKc hPc hDc rfl rfl) rfl rfl hl.1 rfl (lv_room (Nat.le_of_ble_eq_true rfl)) dM_meet_26 ⟨Nat.zero_le _, Nat.zero_le _⟩) hS (fun q _ h => hFc q h) hFc (fun v26 u t H1 locs ht hvm e26 hB hz1 hk1 hS => ?_)
      obtain ⟨hP1, hK1, hD1⟩ := hB
      rw [ht] at hP1
      obtain ⟨hP, hD⟩ := va_join (wr := []) (w1 := [(hm, .inr (2, [.int (nI 0), .ref ml, .ref mw, .ref mb, .ref ms, .ref mn])), (ml, .inl (cI, 8, .inl ln)), (mw, .inl (cI, 512, .inl wh)), (mb, .inl (cI, 48, .inl bi)), (ms, .inl (cZ, 48, .inl si)), (mn, .inl (cJ, 6, .inr (.inl nu)))]) hP hD [0, 1, 2, 3, 4, 5] [] rfl rfl (by decide) (by decide) hk1 hFc hP1 hD1
      generalize H1 = H at hP hS ⊢
      have hP : va_P (dC, dI) cls3 [(hm, .inr (2, [.int (nI 0), .ref ml, .ref mw, .ref mb, .ref ms, .ref mn])), (ml, .inl (cI, 8, .inl ln)), (mw, .inl (cI, 512, .inl wh)), (mb, .inl (cI, 48, .inl bi)), (ms, .inl (cZ, 48, .inl si)), (mn, .inl (cJ, 6, .inr (.inl nu)))] H := hP
      have hD : va_D A [(hm, .inr (2, [.int (nI 0), .ref ml, .ref mw, .ref mb, .ref ms, .ref mn])), (ml, .inl (cI, 8, .inl ln)), (mw, .inl (cI, 512, .inl wh)), (mb, .inl (cI, 48, .inl bi)), (ms, .inl (cZ, 48, .inl si)), (mn, .inl (cJ, 6, .inr (.inl nu)))] := hD
      obtain rfl : v26 = nI 0 := e26
      refine lv_if_eq (tgt := 34) hx hb dM_meet_29 (by decide) (fun h29 => ?_) (fun h29 => ?_)
      · refine lv_iconst (v := nI 0) hx hb dM_meet_34 (by decide +kernel) ?_
        refine lv_istore_n hx hb dM_meet_35 rfl hl (by decide) rfl (fun ls hl => ?_)
        have hl : lv_has ls 6 [(3, .int (nI 0)), (0, .ref hm), (1, .int (nI f)), (2, .int (nI g))] := hl
        refine (?_ : ∀ (kk : Nat) (j : Nat) (H : Heap) (locs : List Loc) (ls : Array Slot), kk = 64 - j → lv_has ls 6 [(3, .int (nI j)), (0, .ref hm), (1, .int (nI f)), (2, .int (nI g))] → (j ≤ 64) → (allb (shw (its f) (ns f) (its g) (ns g)) j = true) → va_P (dC, dI) cls3 [(hm, .inr (2, [.int (nI 0), .ref ml, .ref mw, .ref mb, .ref ms, .ref mn])), (ml, .inl (cI, 8, .inl ln)), (mw, .inl (cI, 512, .inl wh)), (mb, .inl (cI, 48, .inl bi)), (ms, .inl (cZ, 48, .inl si)), (mn, .inl (cJ, 6, .inr (.inl nu)))] H → va_D A [(hm, .inr (2, [.int (nI 0), .ref ml, .ref mw, .ref mb, .ref ms, .ref mn])), (ml, .inl (cI, 8, .inl ln)), (mw, .inl (cI, 512, .inl wh)), (mb, .inl (cI, 48, .inl bi)), (ms, .inl (cZ, 48, .inl si)), (mn, .inl (cJ, 6, .inr (.inl nu)))] → va_S A s.heap H locs → W p l e _ s m _ below meth c H locs _ _ _ (F0 m 36 ls [])) _ 0 _ _ ls rfl (lv_sub hl [0, 1, 2, 3] rfl) (by omega) rfl hP hD hS
        intro kk
        induction kk using Nat.strongRecOn with
        | ind kk36 ih36 =>
          intro j H locs ls hkk36 hl hj ha hP hD hS
          refine lv_iload_n hx hb dM_meet_36 rfl (lv_at hl 0 rfl) ?_
          refine lv_bipush (v := nI 64) hx hb dM_meet_37 (by decide +kernel) ?_
          refine lv_icmp_ge (tgt := 113) hx hb dM_meet_39 (by decide) (fun h39 => ?_) (fun h39 => ?_)
          · rw [nI_leI (by omega) (by omega)] at h39
            refine lv_iconst (v := nI 1) hx hb dM_meet_113 (by decide +kernel) ?_
            have hcd : cdMeet (nI f) (nI g) = 0 := by unfold cdMeet; first | (rw [h10]; rfl) | (rw [isF_nI hf, h17]; rfl) | (rw [isF_nI hf, isF_nI hg]; rfl)
            exact W.zret (v := nI 1) hx hb hr (by first | exact b_nar _ | decide +kernel) (fun t ht hW => ⟨⟨_, (), rfl, (by intro h0; first | exact absurd (hcd.symm.trans h0) (by decide) | (rw [hff, hfg]; first | (rw [show j = 64 by omega] at ha; rw [ha]; rfl) | (rw [allb_f (shw (its f) (ns f) (its g) (ns g)) 64 (k := j) (by omega) (shw_af (by omega) (by omega) h102)]; rfl))), by rw [ht, hcd]; exact hP, va_K.moved hW.alike hK, by rw [hcd]; exact hD⟩, hS.F ht⟩) hS.2.2 dM_meet_114
          · rw [nI_leI (by omega) (by omega)] at h39
            refine lv_iload_n hx hb dM_meet_42 rfl (lv_at hl 0 rfl) ?_
            refine lv_aload_n hx hb dM_meet_43 rfl (lv_at hl 1 rfl) ?_
            refine va_get (D := (dC, dI)) (ci := 2) (v := .ref ml) (C := RM) (T := TM) (N := 6) hx hb hw inM hown hK hP 0 rfl rfl 1 (by decide) (hw _ kw_387) (fun _ h9 => h9) rfl dM_meet_44 ?_
            refine lv_iload_n hx hb dM_meet_47 rfl (lv_at hl 2 rfl) ?_
            refine va_iald hx hb hK hP 1 0 rfl rfl (vp_in_nI (by omega) (by decide)) dM_meet_48 ?_
            refine lv_topi (fun v48 e48 => ?_)
            rw [nI_clamp (by omega)] at e48
            obtain rfl : v48 = nI (ns f) := e48.trans (hM f hf).2.1
            refine lv_icmp_ge (tgt := 61) hx hb dM_meet_49 (by decide) (fun h49 => ?_) (fun h49 => ?_)
            · rw [nI_leI (by omega) (by omega)] at h49
              refine lv_iconst (v := nI 0) hx hb dM_meet_61 (by decide +kernel) ?_
              refine lv_topi (fun w61 ew61 => ?_)
              obtain rfl : w61 = nI (atS (its f) (ns f) j) := ew61.trans (atS_ge (by omega))
              refine lv_istore hx hb dM_meet_62 hl (by decide) rfl (fun ls hl => ?_)
              have hl : lv_has ls 6 [(4, .int (nI (atS (its f) (ns f) j))), (3, .int (nI j)), (0, .ref hm), (1, .int (nI f)), (2, .int (nI g))] := hl
              refine lv_iload_n hx hb dM_meet_64 rfl (lv_at hl 1 rfl) ?_
              refine lv_aload_n hx hb dM_meet_65 rfl (lv_at hl 2 rfl) ?_
              refine va_get (D := (dC, dI)) (ci := 2) (v := .ref ml) (C := RM) (T := TM) (N := 6) hx hb hw inM hown hK hP 0 rfl rfl 1 (by decide) (hw _ kw_387) (fun _ h9 => h9) rfl dM_meet_66 ?_
              refine lv_iload_n hx hb dM_meet_69 rfl (lv_at hl 4 rfl) ?_
              refine va_iald hx hb hK hP 1 0 rfl rfl (vp_in_nI (by omega) (by decide)) dM_meet_70 ?_
              refine lv_topi (fun v70 e70 => ?_)
              rw [nI_clamp (by omega)] at e70
              obtain rfl : v70 = nI (ns g) := e70.trans (hM g hg).2.1
              refine lv_icmp_ge (tgt := 83) hx hb dM_meet_71 (by decide) (fun h71 => ?_) (fun h71 => ?_)
              · rw [nI_leI (by omega) (by omega)] at h71
                refine lv_iconst (v := nI 0) hx hb dM_meet_83 (by decide +kernel) ?_
                refine lv_topi (fun w83 ew83 => ?_)
                obtain rfl : w83 = nI (atS (its g) (ns g) j) := ew83.trans (atS_ge (by omega))
                refine lv_istore hx hb dM_meet_84 hl (by decide) rfl (fun ls hl => ?_)
                have hl : lv_has ls 6 [(5, .int (nI (atS (its g) (ns g) j))), (4, .int (nI (atS (its f) (ns f) j))), (3, .int (nI j)), (0, .ref hm), (1, .int (nI f)), (2, .int (nI g))] := hl
                refine lv_iload hx hb dM_meet_86 (lv_at hl 1 rfl) ?_
                refine lv_iconst (v := nI 2) hx hb dM_meet_88 (by decide +kernel) ?_
                refine lv_icmp_ge (tgt := 107) hx hb dM_meet_89 (by decide) (fun h89 => ?_) (fun h89 => ?_)
                · have hz1 := atS_b hit j
                  rw [nI_leI (by omega) (by omega)] at h89
                  refine lv_iinc (k := 2) (v := nI (j + 1)) hx hb dM_meet_107 hl rfl (cw_inc _) (by decide) rfl (fun ls hl => ?_)
                  have hl : lv_has ls 6 [(3, .int (nI (j + 1))), (5, .int (nI (atS (its g) (ns g) j))), (4, .int (nI (atS (its f) (ns f) j))), (0, .ref hm), (1, .int (nI f)), (2, .int (nI g))] := hl
                  refine lv_goto (tgt := 36) hx hb dM_meet_110 (by decide) ?_
                  exact ih36 _ (by omega) (j + 1) _ _ ls rfl (lv_sub (l' := [(3, .int (nI (j + 1))), (0, .ref hm), (1, .int (nI f)), (2, .int (nI g))]) hl [0, 3, 4, 5] rfl) (by omega) (by simp only [allb, ha, Bool.true_and]; exact shw_at (by omega)) hP hD hS
                · have hz1 := atS_b hit j
                  rw [nI_leI (by omega) (by omega)] at h89
                  refine lv_iload hx hb dM_meet_92 (lv_at hl 0 rfl) ?_
                  refine lv_iconst (v := nI 2) hx hb dM_meet_94 (by decide +kernel) ?_
                  refine lv_icmp_ge (tgt := 107) hx hb dM_meet_95 (by decide) (fun h95 => ?_) (fun h95 => ?_)
                  · have hz2 := atS_b hit2 j
                    rw [nI_leI (by omega) (by omega)] at h95
                    refine lv_iinc (k := 2) (v := nI (j + 1)) hx hb dM_meet_107 hl rfl (cw_inc _) (by decide) rfl (fun ls hl => ?_)
                    have hl : lv_has ls 6 [(3, .int (nI (j + 1))), (5, .int (nI (atS (its g) (ns g) j))), (4, .int (nI (atS (its f) (ns f) j))), (0, .ref hm), (1, .int (nI f)), (2, .int (nI g))] := hl
                    refine lv_goto (tgt := 36) hx hb dM_meet_110 (by decide) ?_
                    exact ih36 _ (by omega) (j + 1) _ _ ls rfl (lv_sub (l' := [(3, .int (nI (j + 1))), (0, .ref hm), (1, .int (nI f)), (2, .int (nI g))]) hl [0, 3, 4, 5] rfl) (by omega) (by simp only [allb, ha, Bool.true_and]; exact shw_at (by omega)) hP hD hS
                  · have hz2 := atS_b hit2 j
                    rw [nI_leI (by omega) (by omega)] at h95
                    refine lv_iload hx hb dM_meet_98 (lv_at hl 1 rfl) ?_
                    refine lv_iload hx hb dM_meet_100 (lv_at hl 0 rfl) ?_
                    refine lv_icmp_eq (tgt := 107) hx hb dM_meet_102 (by decide) (fun h102 => ?_) (fun h102 => ?_)
                    · rw [nI_eq (by omega) (by omega)] at h102
                      refine lv_iinc (k := 2) (v := nI (j + 1)) hx hb dM_meet_107 hl rfl (cw_inc _) (by decide) rfl (fun ls hl => ?_)
                      have hl : lv_has ls 6 [(3, .int (nI (j + 1))), (5, .int (nI (atS (its g) (ns g) j))), (4, .int (nI (atS (its f) (ns f) j))), (0, .ref hm), (1, .int (nI f)), (2, .int (nI g))] := hl
                      refine lv_goto (tgt := 36) hx hb dM_meet_110 (by decide) ?_
                      exact ih36 _ (by omega) (j + 1) _ _ ls rfl (lv_sub (l' := [(3, .int (nI (j + 1))), (0, .ref hm), (1, .int (nI f)), (2, .int (nI g))]) hl [0, 3, 4, 5] rfl) (by omega) (by simp only [allb, ha, Bool.true_and]; exact shw_at (by omega)) hP hD hS
                    · rw [nI_eq (by omega) (by omega)] at h102
                      refine lv_iconst (v := nI 0) hx hb dM_meet_105 (by decide +kernel) ?_
                      have hcd : cdMeet (nI f) (nI g) = 0 := by unfold cdMeet; first | (rw [h10]; rfl) | (rw [isF_nI hf, h17]; rfl) | (rw [isF_nI hf, isF_nI hg]; rfl)
                      exact W.zret (v := nI 0) hx hb hr (by first | exact b_nar _ | decide +kernel) (fun t ht hW => ⟨⟨_, (), rfl, (by intro h0; first | exact absurd (hcd.symm.trans h0) (by decide) | (rw [hff, hfg]; first | (rw [show j = 64 by omega] at ha; rw [ha]; rfl) | (rw [allb_f (shw (its f) (ns f) (its g) (ns g)) 64 (k := j) (by omega) (shw_af (by omega) (by omega) h102)]; rfl))), by rw [ht, hcd]; exact hP, va_K.moved hW.alike hK, by rw [hcd]; exact hD⟩, hS.F ht⟩) hS.2.2 dM_meet_106
              · rw [nI_leI (by omega) (by omega)] at h71
                refine lv_aload_n hx hb dM_meet_74 rfl (lv_at hl 2 rfl) ?_
                refine lv_iload_n hx hb dM_meet_75 rfl (lv_at hl 4 rfl) ?_
                refine lv_iload_n hx hb dM_meet_76 rfl (lv_at hl 1 rfl) ?_
                refine vp_callSi (W.runV (As := [.int (nI g), .int (nI j)]) (rest := []) ⟨hx, hb, hml, hown, hw⟩ (c_M_at l dC dI cI cZ cJ hm ml mw mb ms mn (nI 0) ln wh bi si nu ns its wss sbs hM g j hg (by omega)) (cwV 2 hw (gV kw_480 kw_482 kw_11 kw_16 kw_483) rfl rfl rfl (by decide +kernel) ⟨Nat.le_of_ble_eq_true rfl, Nat.le_of_ble_eq_true rfl⟩) (ro_preV (q0 := 0) hK hP rfl rfl) rfl rfl hl.1 rfl (lv_room (Nat.le_of_ble_eq_true rfl)) dM_meet_77 ⟨Nat.zero_le _, Nat.zero_le _⟩) (fun v77 e77 => ?_)
                obtain rfl : v77 = nI (atS (its g) (ns g) j) := e77.trans (atS_lt (by omega))
                refine lv_goto (tgt := 84) hx hb dM_meet_80 (by decide) ?_
                refine lv_istore hx hb dM_meet_84 hl (by decide) rfl (fun ls hl => ?_)
                have hl : lv_has ls 6 [(5, .int (nI (atS (its g) (ns g) j))), (4, .int (nI (atS (its f) (ns f) j))), (3, .int (nI j)), (0, .ref hm), (1, .int (nI f)), (2, .int (nI g))] := hl
                refine lv_iload hx hb dM_meet_86 (lv_at hl 1 rfl) ?_
                refine lv_iconst (v := nI 2) hx hb dM_meet_88 (by decide +kernel) ?_
                refine lv_icmp_ge (tgt := 107) hx hb dM_meet_89 (by decide) (fun h89 => ?_) (fun h89 => ?_)
                · have hz1 := atS_b hit j
                  rw [nI_leI (by omega) (by omega)] at h89
                  refine lv_iinc (k := 2) (v := nI (j + 1)) hx hb dM_meet_107 hl rfl (cw_inc _) (by decide) rfl (fun ls hl => ?_)
                  have hl : lv_has ls 6 [(3, .int (nI (j + 1))), (5, .int (nI (atS (its g) (ns g) j))), (4, .int (nI (atS (its f) (ns f) j))), (0, .ref hm), (1, .int (nI f)), (2, .int (nI g))] := hl
                  refine lv_goto (tgt := 36) hx hb dM_meet_110 (by decide) ?_
                  exact ih36 _ (by omega) (j + 1) _ _ ls rfl (lv_sub (l' := [(3, .int (nI (j + 1))), (0, .ref hm), (1, .int (nI f)), (2, .int (nI g))]) hl [0, 3, 4, 5] rfl) (by omega) (by simp only [allb, ha, Bool.true_and]; exact shw_at (by omega)) hP hD hS
                · have hz1 := atS_b hit j
                  rw [nI_leI (by omega) (by omega)] at h89
                  refine lv_iload hx hb dM_meet_92 (lv_at hl 0 rfl) ?_
                  refine lv_iconst (v := nI 2) hx hb dM_meet_94 (by decide +kernel) ?_
                  refine lv_icmp_ge (tgt := 107) hx hb dM_meet_95 (by decide) (fun h95 => ?_) (fun h95 => ?_)
                  · have hz2 := atS_b hit2 j
                    rw [nI_leI (by omega) (by omega)] at h95
                    refine lv_iinc (k := 2) (v := nI (j + 1)) hx hb dM_meet_107 hl rfl (cw_inc _) (by decide) rfl (fun ls hl => ?_)
                    have hl : lv_has ls 6 [(3, .int (nI (j + 1))), (5, .int (nI (atS (its g) (ns g) j))), (4, .int (nI (atS (its f) (ns f) j))), (0, .ref hm), (1, .int (nI f)), (2, .int (nI g))] := hl
                    refine lv_goto (tgt := 36) hx hb dM_meet_110 (by decide) ?_
                    exact ih36 _ (by omega) (j + 1) _ _ ls rfl (lv_sub (l' := [(3, .int (nI (j + 1))), (0, .ref hm), (1, .int (nI f)), (2, .int (nI g))]) hl [0, 3, 4, 5] rfl) (by omega) (by simp only [allb, ha, Bool.true_and]; exact shw_at (by omega)) hP hD hS
                  · have hz2 := atS_b hit2 j
                    rw [nI_leI (by omega) (by omega)] at h95
                    refine lv_iload hx hb dM_meet_98 (lv_at hl 1 rfl) ?_
                    refine lv_iload hx hb dM_meet_100 (lv_at hl 0 rfl) ?_
                    refine lv_icmp_eq (tgt := 107) hx hb dM_meet_102 (by decide) (fun h102 => ?_) (fun h102 => ?_)
                    · rw [nI_eq (by omega) (by omega)] at h102
                      refine lv_iinc (k := 2) (v := nI (j + 1)) hx hb dM_meet_107 hl rfl (cw_inc _) (by decide) rfl (fun ls hl => ?_)
                      have hl : lv_has ls 6 [(3, .int (nI (j + 1))), (5, .int (nI (atS (its g) (ns g) j))), (4, .int (nI (atS (its f) (ns f) j))), (0, .ref hm), (1, .int (nI f)), (2, .int (nI g))] := hl
                      refine lv_goto (tgt := 36) hx hb dM_meet_110 (by decide) ?_
                      exact ih36 _ (by omega) (j + 1) _ _ ls rfl (lv_sub (l' := [(3, .int (nI (j + 1))), (0, .ref hm), (1, .int (nI f)), (2, .int (nI g))]) hl [0, 3, 4, 5] rfl) (by omega) (by simp only [allb, ha, Bool.true_and]; exact shw_at (by omega)) hP hD hS
                    · rw [nI_eq (by omega) (by omega)] at h102
                      refine lv_iconst (v := nI 0) hx hb dM_meet_105 (by decide +kernel) ?_
                      have hcd : cdMeet (nI f) (nI g) = 0 := by unfold cdMeet; first | (rw [h10]; rfl) | (rw [isF_nI hf, h17]; rfl) | (rw [isF_nI hf, isF_nI hg]; rfl)
                      exact W.zret (v := nI 0) hx hb hr (by first | exact b_nar _ | decide +kernel) (fun t ht hW => ⟨⟨_, (), rfl, (by intro h0; first | exact absurd (hcd.symm.trans h0) (by decide) | (rw [hff, hfg]; first | (rw [show j = 64 by omega] at ha; rw [ha]; rfl) | (rw [allb_f (shw (its f) (ns f) (its g) (ns g)) 64 (k := j) (by omega) (shw_af (by omega) (by omega) h102)]; rfl))), by rw [ht, hcd]; exact hP, va_K.moved hW.alike hK, by rw [hcd]; exact hD⟩, hS.F ht⟩) hS.2.2 dM_meet_106
            · rw [nI_leI (by omega) (by omega)] at h49
              refine lv_aload_n hx hb dM_meet_52 rfl (lv_at hl 1 rfl) ?_
              refine lv_iload_n hx hb dM_meet_53 rfl (lv_at hl 2 rfl) ?_
              refine lv_iload_n hx hb dM_meet_54 rfl (lv_at hl 0 rfl) ?_
              refine vp_callSi (W.runV (As := [.int (nI f), .int (nI j)]) (rest := []) ⟨hx, hb, hml, hown, hw⟩ (c_M_at l dC dI cI cZ cJ hm ml mw mb ms mn (nI 0) ln wh bi si nu ns its wss sbs hM f j hf (by omega)) (cwV 2 hw (gV kw_480 kw_482 kw_11 kw_16 kw_483) rfl rfl rfl (by decide +kernel) ⟨Nat.le_of_ble_eq_true rfl, Nat.le_of_ble_eq_true rfl⟩) (ro_preV (q0 := 0) hK hP rfl rfl) rfl rfl hl.1 rfl (lv_room (Nat.le_of_ble_eq_true rfl)) dM_meet_55 ⟨Nat.zero_le _, Nat.zero_le _⟩) (fun v55 e55 => ?_)
              obtain rfl : v55 = nI (atS (its f) (ns f) j) := e55.trans (atS_lt (by omega))
              refine lv_goto (tgt := 62) hx hb dM_meet_58 (by decide) ?_
              refine lv_istore hx hb dM_meet_62 hl (by decide) rfl (fun ls hl => ?_)
              have hl : lv_has ls 6 [(4, .int (nI (atS (its f) (ns f) j))), (3, .int (nI j)), (0, .ref hm), (1, .int (nI f)), (2, .int (nI g))] := hl
              refine lv_iload_n hx hb dM_meet_64 rfl (lv_at hl 1 rfl) ?_
              refine lv_aload_n hx hb dM_meet_65 rfl (lv_at hl 2 rfl) ?_
              refine va_get (D := (dC, dI)) (ci := 2) (v := .ref ml) (C := RM) (T := TM) (N := 6) hx hb hw inM hown hK hP 0 rfl rfl 1 (by decide) (hw _ kw_387) (fun _ h9 => h9) rfl dM_meet_66 ?_
              refine lv_iload_n hx hb dM_meet_69 rfl (lv_at hl 4 rfl) ?_
              refine va_iald hx hb hK hP 1 0 rfl rfl (vp_in_nI (by omega) (by decide)) dM_meet_70 ?_
              refine lv_topi (fun v70 e70 => ?_)
              rw [nI_clamp (by omega)] at e70
              obtain rfl : v70 = nI (ns g) := e70.trans (hM g hg).2.1
              refine lv_icmp_ge (tgt := 83) hx hb dM_meet_71 (by decide) (fun h71 => ?_) (fun h71 => ?_)
              · rw [nI_leI (by omega) (by omega)] at h71
                refine lv_iconst (v := nI 0) hx hb dM_meet_83 (by decide +kernel) ?_
                refine lv_topi (fun w83 ew83 => ?_)
                obtain rfl : w83 = nI (atS (its g) (ns g) j) := ew83.trans (atS_ge (by omega))
                refine lv_istore hx hb dM_meet_84 hl (by decide) rfl (fun ls hl => ?_)
                have hl : lv_has ls 6 [(5, .int (nI (atS (its g) (ns g) j))), (4, .int (nI (atS (its f) (ns f) j))), (3, .int (nI j)), (0, .ref hm), (1, .int (nI f)), (2, .int (nI g))] := hl
                refine lv_iload hx hb dM_meet_86 (lv_at hl 1 rfl) ?_
                refine lv_iconst (v := nI 2) hx hb dM_meet_88 (by decide +kernel) ?_
                refine lv_icmp_ge (tgt := 107) hx hb dM_meet_89 (by decide) (fun h89 => ?_) (fun h89 => ?_)
                · have hz1 := atS_b hit j
                  rw [nI_leI (by omega) (by omega)] at h89
                  refine lv_iinc (k := 2) (v := nI (j + 1)) hx hb dM_meet_107 hl rfl (cw_inc _) (by decide) rfl (fun ls hl => ?_)
                  have hl : lv_has ls 6 [(3, .int (nI (j + 1))), (5, .int (nI (atS (its g) (ns g) j))), (4, .int (nI (atS (its f) (ns f) j))), (0, .ref hm), (1, .int (nI f)), (2, .int (nI g))] := hl
                  refine lv_goto (tgt := 36) hx hb dM_meet_110 (by decide) ?_
                  exact ih36 _ (by omega) (j + 1) _ _ ls rfl (lv_sub (l' := [(3, .int (nI (j + 1))), (0, .ref hm), (1, .int (nI f)), (2, .int (nI g))]) hl [0, 3, 4, 5] rfl) (by omega) (by simp only [allb, ha, Bool.true_and]; exact shw_at (by omega)) hP hD hS
                · have hz1 := atS_b hit j
                  rw [nI_leI (by omega) (by omega)] at h89
                  refine lv_iload hx hb dM_meet_92 (lv_at hl 0 rfl) ?_
                  refine lv_iconst (v := nI 2) hx hb dM_meet_94 (by decide +kernel) ?_
                  refine lv_icmp_ge (tgt := 107) hx hb dM_meet_95 (by decide) (fun h95 => ?_) (fun h95 => ?_)
                  · have hz2 := atS_b hit2 j
                    rw [nI_leI (by omega) (by omega)] at h95
                    refine lv_iinc (k := 2) (v := nI (j + 1)) hx hb dM_meet_107 hl rfl (cw_inc _) (by decide) rfl (fun ls hl => ?_)
                    have hl : lv_has ls 6 [(3, .int (nI (j + 1))), (5, .int (nI (atS (its g) (ns g) j))), (4, .int (nI (atS (its f) (ns f) j))), (0, .ref hm), (1, .int (nI f)), (2, .int (nI g))] := hl
                    refine lv_goto (tgt := 36) hx hb dM_meet_110 (by decide) ?_
                    exact ih36 _ (by omega) (j + 1) _ _ ls rfl (lv_sub (l' := [(3, .int (nI (j + 1))), (0, .ref hm), (1, .int (nI f)), (2, .int (nI g))]) hl [0, 3, 4, 5] rfl) (by omega) (by simp only [allb, ha, Bool.true_and]; exact shw_at (by omega)) hP hD hS
                  · have hz2 := atS_b hit2 j
                    rw [nI_leI (by omega) (by omega)] at h95
                    refine lv_iload hx hb dM_meet_98 (lv_at hl 1 rfl) ?_
                    refine lv_iload hx hb dM_meet_100 (lv_at hl 0 rfl) ?_
                    refine lv_icmp_eq (tgt := 107) hx hb dM_meet_102 (by decide) (fun h102 => ?_) (fun h102 => ?_)
                    · rw [nI_eq (by omega) (by omega)] at h102
                      refine lv_iinc (k := 2) (v := nI (j + 1)) hx hb dM_meet_107 hl rfl (cw_inc _) (by decide) rfl (fun ls hl => ?_)
                      have hl : lv_has ls 6 [(3, .int (nI (j + 1))), (5, .int (nI (atS (its g) (ns g) j))), (4, .int (nI (atS (its f) (ns f) j))), (0, .ref hm), (1, .int (nI f)), (2, .int (nI g))] := hl
                      refine lv_goto (tgt := 36) hx hb dM_meet_110 (by decide) ?_
                      exact ih36 _ (by omega) (j + 1) _ _ ls rfl (lv_sub (l' := [(3, .int (nI (j + 1))), (0, .ref hm), (1, .int (nI f)), (2, .int (nI g))]) hl [0, 3, 4, 5] rfl) (by omega) (by simp only [allb, ha, Bool.true_and]; exact shw_at (by omega)) hP hD hS
                    · rw [nI_eq (by omega) (by omega)] at h102
                      refine lv_iconst (v := nI 0) hx hb dM_meet_105 (by decide +kernel) ?_
                      have hcd : cdMeet (nI f) (nI g) = 0 := by unfold cdMeet; first | (rw [h10]; rfl) | (rw [isF_nI hf, h17]; rfl) | (rw [isF_nI hf, isF_nI hg]; rfl)
                      exact W.zret (v := nI 0) hx hb hr (by first | exact b_nar _ | decide +kernel) (fun t ht hW => ⟨⟨_, (), rfl, (by intro h0; first | exact absurd (hcd.symm.trans h0) (by decide) | (rw [hff, hfg]; first | (rw [show j = 64 by omega] at ha; rw [ha]; rfl) | (rw [allb_f (shw (its f) (ns f) (its g) (ns g)) 64 (k := j) (by omega) (shw_af (by omega) (by omega) h102)]; rfl))), by rw [ht, hcd]; exact hP, va_K.moved hW.alike hK, by rw [hcd]; exact hD⟩, hS.F ht⟩) hS.2.2 dM_meet_106
              · rw [nI_leI (by omega) (by omega)] at h71
                refine lv_aload_n hx hb dM_meet_74 rfl (lv_at hl 2 rfl) ?_
                refine lv_iload_n hx hb dM_meet_75 rfl (lv_at hl 4 rfl) ?_
                refine lv_iload_n hx hb dM_meet_76 rfl (lv_at hl 1 rfl) ?_
                refine vp_callSi (W.runV (As := [.int (nI g), .int (nI j)]) (rest := []) ⟨hx, hb, hml, hown, hw⟩ (c_M_at l dC dI cI cZ cJ hm ml mw mb ms mn (nI 0) ln wh bi si nu ns its wss sbs hM g j hg (by omega)) (cwV 2 hw (gV kw_480 kw_482 kw_11 kw_16 kw_483) rfl rfl rfl (by decide +kernel) ⟨Nat.le_of_ble_eq_true rfl, Nat.le_of_ble_eq_true rfl⟩) (ro_preV (q0 := 0) hK hP rfl rfl) rfl rfl hl.1 rfl (lv_room (Nat.le_of_ble_eq_true rfl)) dM_meet_77 ⟨Nat.zero_le _, Nat.zero_le _⟩) (fun v77 e77 => ?_)
                obtain rfl : v77 = nI (atS (its g) (ns g) j) := e77.trans (atS_lt (by omega))
                refine lv_goto (tgt := 84) hx hb dM_meet_80 (by decide) ?_
                refine lv_istore hx hb dM_meet_84 hl (by decide) rfl (fun ls hl => ?_)
                have hl : lv_has ls 6 [(5, .int (nI (atS (its g) (ns g) j))), (4, .int (nI (atS (its f) (ns f) j))), (3, .int (nI j)), (0, .ref hm), (1, .int (nI f)), (2, .int (nI g))] := hl
                refine lv_iload hx hb dM_meet_86 (lv_at hl 1 rfl) ?_
                refine lv_iconst (v := nI 2) hx hb dM_meet_88 (by decide +kernel) ?_
                refine lv_icmp_ge (tgt := 107) hx hb dM_meet_89 (by decide) (fun h89 => ?_) (fun h89 => ?_)
                · have hz1 := atS_b hit j
                  rw [nI_leI (by omega) (by omega)] at h89
                  refine lv_iinc (k := 2) (v := nI (j + 1)) hx hb dM_meet_107 hl rfl (cw_inc _) (by decide) rfl (fun ls hl => ?_)
                  have hl : lv_has ls 6 [(3, .int (nI (j + 1))), (5, .int (nI (atS (its g) (ns g) j))), (4, .int (nI (atS (its f) (ns f) j))), (0, .ref hm), (1, .int (nI f)), (2, .int (nI g))] := hl
                  refine lv_goto (tgt := 36) hx hb dM_meet_110 (by decide) ?_
                  exact ih36 _ (by omega) (j + 1) _ _ ls rfl (lv_sub (l' := [(3, .int (nI (j + 1))), (0, .ref hm), (1, .int (nI f)), (2, .int (nI g))]) hl [0, 3, 4, 5] rfl) (by omega) (by simp only [allb, ha, Bool.true_and]; exact shw_at (by omega)) hP hD hS
                · have hz1 := atS_b hit j
                  rw [nI_leI (by omega) (by omega)] at h89
                  refine lv_iload hx hb dM_meet_92 (lv_at hl 0 rfl) ?_
                  refine lv_iconst (v := nI 2) hx hb dM_meet_94 (by decide +kernel) ?_
                  refine lv_icmp_ge (tgt := 107) hx hb dM_meet_95 (by decide) (fun h95 => ?_) (fun h95 => ?_)
                  · have hz2 := atS_b hit2 j
                    rw [nI_leI (by omega) (by omega)] at h95
                    refine lv_iinc (k := 2) (v := nI (j + 1)) hx hb dM_meet_107 hl rfl (cw_inc _) (by decide) rfl (fun ls hl => ?_)
                    have hl : lv_has ls 6 [(3, .int (nI (j + 1))), (5, .int (nI (atS (its g) (ns g) j))), (4, .int (nI (atS (its f) (ns f) j))), (0, .ref hm), (1, .int (nI f)), (2, .int (nI g))] := hl
                    refine lv_goto (tgt := 36) hx hb dM_meet_110 (by decide) ?_
                    exact ih36 _ (by omega) (j + 1) _ _ ls rfl (lv_sub (l' := [(3, .int (nI (j + 1))), (0, .ref hm), (1, .int (nI f)), (2, .int (nI g))]) hl [0, 3, 4, 5] rfl) (by omega) (by simp only [allb, ha, Bool.true_and]; exact shw_at (by omega)) hP hD hS
                  · have hz2 := atS_b hit2 j
                    rw [nI_leI (by omega) (by omega)] at h95
                    refine lv_iload hx hb dM_meet_98 (lv_at hl 1 rfl) ?_
                    refine lv_iload hx hb dM_meet_100 (lv_at hl 0 rfl) ?_
                    refine lv_icmp_eq (tgt := 107) hx hb dM_meet_102 (by decide) (fun h102 => ?_) (fun h102 => ?_)
                    · rw [nI_eq (by omega) (by omega)] at h102
                      refine lv_iinc (k := 2) (v := nI (j + 1)) hx hb dM_meet_107 hl rfl (cw_inc _) (by decide) rfl (fun ls hl => ?_)
                      have hl : lv_has ls 6 [(3, .int (nI (j + 1))), (5, .int (nI (atS (its g) (ns g) j))), (4, .int (nI (atS (its f) (ns f) j))), (0, .ref hm), (1, .int (nI f)), (2, .int (nI g))] := hl
                      refine lv_goto (tgt := 36) hx hb dM_meet_110 (by decide) ?_
                      exact ih36 _ (by omega) (j + 1) _ _ ls rfl (lv_sub (l' := [(3, .int (nI (j + 1))), (0, .ref hm), (1, .int (nI f)), (2, .int (nI g))]) hl [0, 3, 4, 5] rfl) (by omega) (by simp only [allb, ha, Bool.true_and]; exact shw_at (by omega)) hP hD hS
                    · rw [nI_eq (by omega) (by omega)] at h102
                      refine lv_iconst (v := nI 0) hx hb dM_meet_105 (by decide +kernel) ?_
                      have hcd : cdMeet (nI f) (nI g) = 0 := by unfold cdMeet; first | (rw [h10]; rfl) | (rw [isF_nI hf, h17]; rfl) | (rw [isF_nI hf, isF_nI hg]; rfl)
                      exact W.zret (v := nI 0) hx hb hr (by first | exact b_nar _ | decide +kernel) (fun t ht hW => ⟨⟨_, (), rfl, (by intro h0; first | exact absurd (hcd.symm.trans h0) (by decide) | (rw [hff, hfg]; first | (rw [show j = 64 by omega] at ha; rw [ha]; rfl) | (rw [allb_f (shw (its f) (ns f) (its g) (ns g)) 64 (k := j) (by omega) (shw_af (by omega) (by omega) h102)]; rfl))), by rw [ht, hcd]; exact hP, va_K.moved hW.alike hK, by rw [hcd]; exact hD⟩, hS.F ht⟩) hS.2.2 dM_meet_106
      · exfalso
        first | exact h29 (by decide +kernel) | exact absurd h29 (by decide +kernel)
    · rw [b_nat0] at h17
      refine lv_iconst (v := nI 1) hx hb dM_meet_20 (by decide +kernel) ?_
      refine lv_goto (tgt := 25) hx hb dM_meet_21 (by decide) ?_
      refine lv_iconst (v := nI 1) hx hb dM_meet_25 (by decide +kernel) ?_
      have hPc := hP.sub (ws' := [(hm, .inr (2, [.int (nI 0), .ref ml, .ref mw, .ref mb, .ref ms, .ref mn])), (ml, .inl (cI, 8, .inl ln)), (mw, .inl (cI, 512, .inl wh)), (mb, .inl (cI, 48, .inl bi)), (ms, .inl (cZ, 48, .inl si)), (mn, .inl (cJ, 6, .inr (.inl nu)))]) [0, 1, 2, 3, 4, 5] rfl
      have hDc := hD.sub (ws' := [(hm, .inr (2, [.int (nI 0), .ref ml, .ref mw, .ref mb, .ref ms, .ref mn])), (ml, .inl (cI, 8, .inl ln)), (mw, .inl (cI, 512, .inl wh)), (mb, .inl (cI, 48, .inl bi)), (ms, .inl (cZ, 48, .inl si)), (mn, .inl (cJ, 6, .inr (.inl nu)))]) [0, 1, 2, 3, 4, 5] (by decide) rfl
      have hKc := hK.sub (tys' := [(cI, .int), (cZ, .boolean), (cJ, .long)]) [0, 1, 2] rfl
      have hFc := va_free (wc := [(hm, .inr (2, [.int (nI 0), .ref ml, .ref mw, .ref mb, .ref ms, .ref mn])), (ml, .inl (cI, 8, .inl ln)), (mw, .inl (cI, 512, .inl wh)), (mb, .inl (cI, 48, .inl bi)), (ms, .inl (cZ, 48, .inl si)), (mn, .inl (cJ, 6, .inr (.inl nu)))]) hD hS hA [0, 1, 2, 3, 4, 5] rfl
      refine va_calli (va_runV (As := [.int (nI 1), .int (nI 1)]) (rest := []) ⟨hx, hb, hml, hown, hw⟩ (c_M_fails1 l dC dI _ cI cZ cJ hm ml mw mb ms mn ln wh bi si nu 1 (by decide)) (cwV 2 hw (gV kw_420 kw_422 kw_5 kw_16 kw_423) rfl rfl rfl (by decide +kernel) ⟨Nat.le_of_ble_eq_true rfl, Nat.le_of_ble_eq_true rfl⟩) (rw_preV (q0 := 0) hKc hPc hDc rfl rfl) rfl rfl hl.1 rfl (lv_room (Nat.le_of_ble_eq_true rfl)) dM_meet_26 ⟨Nat.zero_le _, Nat.zero_le _⟩) hS (fun q _ h => hFc q h) hFc (fun v26 u t H1 locs ht hvm e26 hB hz1 hk1 hS => ?_)
      obtain ⟨hP1, hK1, hD1⟩ := hB
      rw [ht] at hP1
      obtain ⟨hP, hD⟩ := va_join (wr := []) (w1 := [(hm, .inr (2, [.int (nI 1), .ref ml, .ref mw, .ref mb, .ref ms, .ref mn])), (ml, .inl (cI, 8, .inl ln)), (mw, .inl (cI, 512, .inl wh)), (mb, .inl (cI, 48, .inl bi)), (ms, .inl (cZ, 48, .inl si)), (mn, .inl (cJ, 6, .inr (.inl nu)))]) hP hD [0, 1, 2, 3, 4, 5] [] rfl rfl (by decide) (by decide) hk1 hFc hP1 hD1
      generalize H1 = H at hP hS ⊢
      have hP : va_P (dC, dI) cls3 [(hm, .inr (2, [.int (nI 1), .ref ml, .ref mw, .ref mb, .ref ms, .ref mn])), (ml, .inl (cI, 8, .inl ln)), (mw, .inl (cI, 512, .inl wh)), (mb, .inl (cI, 48, .inl bi)), (ms, .inl (cZ, 48, .inl si)), (mn, .inl (cJ, 6, .inr (.inl nu)))] H := hP
      have hD : va_D A [(hm, .inr (2, [.int (nI 1), .ref ml, .ref mw, .ref mb, .ref ms, .ref mn])), (ml, .inl (cI, 8, .inl ln)), (mw, .inl (cI, 512, .inl wh)), (mb, .inl (cI, 48, .inl bi)), (ms, .inl (cZ, 48, .inl si)), (mn, .inl (cJ, 6, .inr (.inl nu)))] := hD
      obtain rfl : v26 = nI 1 := e26
      refine lv_if_eq (tgt := 34) hx hb dM_meet_29 (by decide) (fun h29 => ?_) (fun h29 => ?_)
      · exfalso
        first | exact h29 (by decide +kernel) | exact absurd h29 (by decide +kernel)
      · refine lv_iconst (v := nI 0) hx hb dM_meet_32 (by decide +kernel) ?_
        have hcd : cdMeet (nI f) y = 1 := by unfold cdMeet; first | (rw [h10]; rfl) | (rw [isF_nI hf, h17]; rfl) | (rw [isF_nI hf, isF_nI hg]; rfl)
        exact W.zret (v := nI 0) hx hb hr (by first | exact b_nar _ | decide +kernel) (fun t ht hW => ⟨⟨_, (), rfl, (by intro h0; first | exact absurd (hcd.symm.trans h0) (by decide) | (rw [hff, hfg]; first | (rw [show j = 64 by omega] at ha; rw [ha]; rfl) | (rw [allb_f (shw (its f) (ns f) (its g) (ns g)) 64 (k := j) (by omega) (shw_af (by omega) (by omega) h102)]; rfl))), by rw [ht, hcd]; exact hP, va_K.moved hW.alike hK, by rw [hcd]; exact hD⟩, hS.F ht⟩) hS.2.2 dM_meet_33

set_option maxHeartbeats 4000000 in
set_option maxRecDepth 100000 in
theorem c_M_count (l : Launch) (dC : Nat → ClassId) (dI : Nat → Nat → Nat) (sz : Nat) (cI cZ cJ : ClassId) (hm ml mw mb ms mn : Nat) (er : Int32) (ln wh bi si : Nat → Int32) (nu : Nat → Int64) (ns : Nat → Nat) (its wss : Nat → Nat → Nat) (sbs : Nat → Nat → Bool) (hM : mR ns its wss sbs ln wh bi si) (x y : Int32) : Met l yM_count wM_count { frames := 2, cells := 0, slots := 0, locals := 48 } (rw_Pc (dC, dI) cls3 [(hm, .inr (2, [.int er, .ref ml, .ref mw, .ref mb, .ref ms, .ref mn])), (ml, .inl (cI, 8, .inl ln)), (mw, .inl (cI, 512, .inl wh)), (mb, .inl (cI, 48, .inl bi)), (ms, .inl (cZ, 48, .inl si)), (mn, .inl (cJ, 6, .inr (.inl nu)))] [(cI, .int), (cZ, .boolean), (cJ, .long)] sz [.ref hm, .int x, .int y]) (va_Qi (fun (r : Int32) (_ : Unit) => cdCnt x y = 0 → r = nI (cntR ns its wss (fi x) (fi y))) (fun _ t => va_P (dC, dI) cls3 [(hm, .inr (2, [.int (nI (cdCnt x y)), .ref ml, .ref mw, .ref mb, .ref ms, .ref mn])), (ml, .inl (cI, 8, .inl ln)), (mw, .inl (cI, 512, .inl wh)), (mb, .inl (cI, 48, .inl bi)), (ms, .inl (cZ, 48, .inl si)), (mn, .inl (cJ, 6, .inr (.inl nu)))] t.heap ∧ va_K (dC, dI) cls3 [(cI, .int), (cZ, .boolean), (cJ, .long)] t ∧ va_D (va_A [(hm, .inr (2, [.int er, .ref ml, .ref mw, .ref mb, .ref ms, .ref mn])), (ml, .inl (cI, 8, .inl ln)), (mw, .inl (cI, 512, .inl wh)), (mb, .inl (cI, 48, .inl bi)), (ms, .inl (cZ, 48, .inl si)), (mn, .inl (cJ, 6, .inr (.inl nu)))] sz) [(hm, .inr (2, [.int (nI (cdCnt x y)), .ref ml, .ref mw, .ref mb, .ref ms, .ref mn])), (ml, .inl (cI, 8, .inl ln)), (mw, .inl (cI, 512, .inl wh)), (mb, .inl (cI, 48, .inl bi)), (ms, .inl (cZ, 48, .inl si)), (mn, .inl (cJ, 6, .inr (.inl nu)))]) (va_A [(hm, .inr (2, [.int er, .ref ml, .ref mw, .ref mb, .ref ms, .ref mn])), (ml, .inl (cI, 8, .inl ln)), (mw, .inl (cI, 512, .inl wh)), (mb, .inl (cI, 48, .inl bi)), (ms, .inl (cZ, 48, .inl si)), (mn, .inl (cJ, 6, .inr (.inl nu)))] sz)) 0 0 (va_A [(hm, .inr (2, [.int er, .ref ml, .ref mw, .ref mb, .ref ms, .ref mn])), (ml, .inl (cI, 8, .inl ln)), (mw, .inl (cI, 512, .inl wh)), (mb, .inl (cI, 48, .inl bi)), (ms, .inl (cZ, 48, .inl si)), (mn, .inl (cJ, 6, .inr (.inl nu)))] sz) := by
  refine Met.ofW (cc := cM_count) (maxL := 5) (ret := (some .int)) (by decide) rfl ?_
  intro p e s m args below meth c s₁ B hml hv
  obtain ⟨rfl, hsz, hP, hK, hD0⟩ := hv
  have hx := B.exec
  have hb := B.bytes
  have hr := B.returns
  have hts := atoms_spec (ws := wM_count) B.pre
  have hw : ∀ w ∈ wA, w.before _ s = true := fun w h => hts w (List.mem_cons_of_mem _ h)
  have hown : s.vm.findClass RM = some m.cls := findClass_of_methodNamed B.named
  have hlocks := B.notSynchronized
  subst hsz
  have hD := hD0.self (sz := s.heap.size)
  generalize hAe : va_A [(hm, .inr (2, [.int er, .ref ml, .ref mw, .ref mb, .ref ms, .ref mn])), (ml, .inl (cI, 8, .inl ln)), (mw, .inl (cI, 512, .inl wh)), (mb, .inl (cI, 48, .inl bi)), (ms, .inl (cZ, 48, .inl si)), (mn, .inl (cJ, 6, .inr (.inl nu)))] s.heap.size = A at hD ⊢
  have hA : ∀ q : Nat, s.heap.size ≤ q → A q := fun q h => by rw [← hAe]; exact Or.inr h
  have hS : va_S A s.heap s.heap [] := va_S.rf
  have hl := lv_entry ([.ref hm, .int x, .int y]) (n := 5) (Nat.le_of_ble_eq_true rfl)
  rw [lg_entry_eq]
  generalize (lg_sl ([.ref hm, .int x, .int y]) ++ List.replicate (5 - (lg_sl ([.ref hm, .int x, .int y])).length) Slot.unset).toArray = ls at hl ⊢
  have hl : lv_has ls 5 [(0, .ref hm), (1, .int x), (2, .int y)] := hl
  refine lv_aload_n hx hb dM_count_0 rfl (lv_at hl 0 rfl) ?_
  refine lv_iconst (v := nI 0) hx hb dM_count_1 (by decide +kernel) ?_
  refine va_put (D := (dC, dI)) (ci := 2) (v := .int (nI 0)) (ty := .int) (C := RM) (T := TM) (N := 6) hx hb hw inM tM tM_ok nM hown hK hP hD hS 0 rfl rfl 0 (by decide) (hw _ kw_386) (fun _ h9 => h9) rfl (by decide +kernel) rfl rfl (Nat.le_of_ble_eq_true rfl) dM_count_2 (fun H locs hP hD hS => ?_)
  have hP : va_P (dC, dI) cls3 [(hm, .inr (2, [.int (nI 0), .ref ml, .ref mw, .ref mb, .ref ms, .ref mn])), (ml, .inl (cI, 8, .inl ln)), (mw, .inl (cI, 512, .inl wh)), (mb, .inl (cI, 48, .inl bi)), (ms, .inl (cZ, 48, .inl si)), (mn, .inl (cJ, 6, .inr (.inl nu)))] H := hP
  have hD : va_D A [(hm, .inr (2, [.int (nI 0), .ref ml, .ref mw, .ref mb, .ref ms, .ref mn])), (ml, .inl (cI, 8, .inl ln)), (mw, .inl (cI, 512, .inl wh)), (mb, .inl (cI, 48, .inl bi)), (ms, .inl (cZ, 48, .inl si)), (mn, .inl (cJ, 6, .inr (.inl nu)))] := hD
  refine lv_aload_n hx hb dM_count_5 rfl (lv_at hl 0 rfl) ?_
  refine lv_iload_n hx hb dM_count_6 rfl (lv_at hl 1 rfl) ?_
  refine vp_callSi (W.runS (As := [.int x]) (rest := [.ref hm]) ⟨hx, hb, hml, hown, hw⟩ (c_M_isForm l x) (cwS 1 hw (gS kw_413 kw_414 kw_16 kw_415) rfl rfl rfl (by decide +kernel) ⟨Nat.le_of_ble_eq_true rfl, Nat.le_of_ble_eq_true rfl⟩) preEq rfl rfl hl.1 rfl (lv_room (Nat.le_of_ble_eq_true rfl)) dM_count_7 ⟨Nat.zero_le _, Nat.zero_le _⟩) (fun v7 e7 => ?_)
  obtain rfl : v7 = nI (isF x).toNat := e7
  refine lv_if_eq (tgt := 25) hx hb dM_count_10 (by decide) (fun h10 => ?_) (fun h10 => ?_)
  · rw [b_nat0] at h10
    refine lv_iconst (v := nI 1) hx hb dM_count_25 (by decide +kernel) ?_
    refine lv_goto (tgt := 30) hx hb dM_count_26 (by decide) ?_
    refine lv_iconst (v := nI 1) hx hb dM_count_30 (by decide +kernel) ?_
    have hPc := hP.sub (ws' := [(hm, .inr (2, [.int (nI 0), .ref ml, .ref mw, .ref mb, .ref ms, .ref mn])), (ml, .inl (cI, 8, .inl ln)), (mw, .inl (cI, 512, .inl wh)), (mb, .inl (cI, 48, .inl bi)), (ms, .inl (cZ, 48, .inl si)), (mn, .inl (cJ, 6, .inr (.inl nu)))]) [0, 1, 2, 3, 4, 5] rfl
    have hDc := hD.sub (ws' := [(hm, .inr (2, [.int (nI 0), .ref ml, .ref mw, .ref mb, .ref ms, .ref mn])), (ml, .inl (cI, 8, .inl ln)), (mw, .inl (cI, 512, .inl wh)), (mb, .inl (cI, 48, .inl bi)), (ms, .inl (cZ, 48, .inl si)), (mn, .inl (cJ, 6, .inr (.inl nu)))]) [0, 1, 2, 3, 4, 5] (by decide) rfl
    have hKc := hK.sub (tys' := [(cI, .int), (cZ, .boolean), (cJ, .long)]) [0, 1, 2] rfl
    have hFc := va_free (wc := [(hm, .inr (2, [.int (nI 0), .ref ml, .ref mw, .ref mb, .ref ms, .ref mn])), (ml, .inl (cI, 8, .inl ln)), (mw, .inl (cI, 512, .inl wh)), (mb, .inl (cI, 48, .inl bi)), (ms, .inl (cZ, 48, .inl si)), (mn, .inl (cJ, 6, .inr (.inl nu)))]) hD hS hA [0, 1, 2, 3, 4, 5] rfl
    refine va_calli (va_runV (As := [.int (nI 1), .int (nI 1)]) (rest := []) ⟨hx, hb, hml, hown, hw⟩ (c_M_fails1 l dC dI _ cI cZ cJ hm ml mw mb ms mn ln wh bi si nu 1 (by decide)) (cwV 2 hw (gV kw_420 kw_422 kw_5 kw_16 kw_423) rfl rfl rfl (by decide +kernel) ⟨Nat.le_of_ble_eq_true rfl, Nat.le_of_ble_eq_true rfl⟩) (rw_preV (q0 := 0) hKc hPc hDc rfl rfl) rfl rfl hl.1 rfl (lv_room (Nat.le_of_ble_eq_true rfl)) dM_count_31 ⟨Nat.zero_le _, Nat.zero_le _⟩) hS (fun q _ h => hFc q h) hFc (fun v31 u t H1 locs ht hvm e31 hB hz1 hk1 hS => ?_)
    obtain ⟨hP1, hK1, hD1⟩ := hB
    rw [ht] at hP1
    obtain ⟨hP, hD⟩ := va_join (wr := []) (w1 := [(hm, .inr (2, [.int (nI 1), .ref ml, .ref mw, .ref mb, .ref ms, .ref mn])), (ml, .inl (cI, 8, .inl ln)), (mw, .inl (cI, 512, .inl wh)), (mb, .inl (cI, 48, .inl bi)), (ms, .inl (cZ, 48, .inl si)), (mn, .inl (cJ, 6, .inr (.inl nu)))]) hP hD [0, 1, 2, 3, 4, 5] [] rfl rfl (by decide) (by decide) hk1 hFc hP1 hD1
    generalize H1 = H at hP hS ⊢
    have hP : va_P (dC, dI) cls3 [(hm, .inr (2, [.int (nI 1), .ref ml, .ref mw, .ref mb, .ref ms, .ref mn])), (ml, .inl (cI, 8, .inl ln)), (mw, .inl (cI, 512, .inl wh)), (mb, .inl (cI, 48, .inl bi)), (ms, .inl (cZ, 48, .inl si)), (mn, .inl (cJ, 6, .inr (.inl nu)))] H := hP
    have hD : va_D A [(hm, .inr (2, [.int (nI 1), .ref ml, .ref mw, .ref mb, .ref ms, .ref mn])), (ml, .inl (cI, 8, .inl ln)), (mw, .inl (cI, 512, .inl wh)), (mb, .inl (cI, 48, .inl bi)), (ms, .inl (cZ, 48, .inl si)), (mn, .inl (cJ, 6, .inr (.inl nu)))] := hD
    obtain rfl : v31 = nI 1 := e31
    refine lv_if_eq (tgt := 39) hx hb dM_count_34 (by decide) (fun h34 => ?_) (fun h34 => ?_)
    · exfalso
      first | exact h34 (by decide +kernel) | exact absurd h34 (by decide +kernel)
    · refine lv_iconst (v := nI 0) hx hb dM_count_37 (by decide +kernel) ?_
      have hcd : cdCnt x y = 1 := by unfold cdCnt; first | (rw [h10]; rfl) | (rw [isF_nI hf, h22]; rfl) | (rw [isF_nI hf, isW_nI hq]; rfl)
      exact W.iret (v := nI 0) hx hb hr (fun t ht hW => ⟨⟨_, (), rfl, (by intro h0; first | exact absurd (hcd.symm.trans h0) (by decide) | (rw [hff, hfq]; first | rfl | (rw [show j = 6 by omega]; rfl) | (rw [show j = ns f by omega, cw_fxr_all]; rfl))), by rw [ht, hcd]; exact hP, va_K.moved hW.alike hK, by rw [hcd]; exact hD⟩, hS.F ht⟩) hS.2.2 dM_count_38
  · obtain ⟨f, hf, rfl⟩ := isF_of (b_nf h10)
    have hff : fi (nI f) = f := fi_nI (by omega)
    have hok := (hM f hf).1
    have hn := hok.1
    have hw64 := hok.2.1
    have hit := cw_it hok
    refine lv_iload_n hx hb dM_count_13 rfl (lv_at hl 2 rfl) ?_
    refine lv_i2l hx hb dM_count_14 rfl ?_
    refine lv_topl (fun v14 e14 => ?_)
    refine lv_lconst (v := lN 0) hx hb dM_count_15 (by decide +kernel) ?_
    refine lv_ldc2 (v := lN 3) hx hb hown (hw _ kw_504) dM_count_16 ?_
    refine vp_callSi (W.runS (As := [.long v14, .long (lN 0), .long (lN 3)]) (rest := [.ref hm]) ⟨hx, hb, hml, hown, hw⟩ (c_M_in l v14 (lN 0) (lN 3)) (cwS 3 hw (gS kw_417 kw_418 kw_16 kw_419) rfl rfl rfl (by decide +kernel) ⟨Nat.le_of_ble_eq_true rfl, Nat.le_of_ble_eq_true rfl⟩) preEq rfl rfl hl.1 rfl (lv_room (Nat.le_of_ble_eq_true rfl)) dM_count_19 ⟨Nat.zero_le _, Nat.zero_le _⟩) (fun v19 e19 => ?_)
    obtain rfl : v19 = nI (isW y).toNat := e19.trans (by rw [e14]; exact isW_in y)
    refine lv_if_ne (tgt := 29) hx hb dM_count_22 (by decide) (fun h22 => ?_) (fun h22 => ?_)
    · obtain ⟨q, hq, rfl⟩ := isW_of (b_nf h22)
      have hfq : fi (nI q) = q := fi_nI (by omega)
      refine lv_iconst (v := nI 0) hx hb dM_count_29 (by decide +kernel) ?_
      refine lv_iconst (v := nI 1) hx hb dM_count_30 (by decide +kernel) ?_
      have hPc := hP.sub (ws' := [(hm, .inr (2, [.int (nI 0), .ref ml, .ref mw, .ref mb, .ref ms, .ref mn])), (ml, .inl (cI, 8, .inl ln)), (mw, .inl (cI, 512, .inl wh)), (mb, .inl (cI, 48, .inl bi)), (ms, .inl (cZ, 48, .inl si)), (mn, .inl (cJ, 6, .inr (.inl nu)))]) [0, 1, 2, 3, 4, 5] rfl
      have hDc := hD.sub (ws' := [(hm, .inr (2, [.int (nI 0), .ref ml, .ref mw, .ref mb, .ref ms, .ref mn])), (ml, .inl (cI, 8, .inl ln)), (mw, .inl (cI, 512, .inl wh)), (mb, .inl (cI, 48, .inl bi)), (ms, .inl (cZ, 48, .inl si)), (mn, .inl (cJ, 6, .inr (.inl nu)))]) [0, 1, 2, 3, 4, 5] (by decide) rfl
      have hKc := hK.sub (tys' := [(cI, .int), (cZ, .boolean), (cJ, .long)]) [0, 1, 2] rfl
      have hFc := va_free (wc := [(hm, .inr (2, [.int (nI 0), .ref ml, .ref mw, .ref mb, .ref ms, .ref mn])), (ml, .inl (cI, 8, .inl ln)), (mw, .inl (cI, 512, .inl wh)), (mb, .inl (cI, 48, .inl bi)), (ms, .inl (cZ, 48, .inl si)), (mn, .inl (cJ, 6, .inr (.inl nu)))]) hD hS hA [0, 1, 2, 3, 4, 5] rfl
      refine va_calli (va_runV (As := [.int (nI 0), .int (nI 1)]) (rest := []) ⟨hx, hb, hml, hown, hw⟩ (c_M_fails0 l dC dI _ cI cZ cJ hm ml mw mb ms mn ln wh bi si nu 1 (by decide)) (cwV 2 hw (gV kw_420 kw_422 kw_5 kw_16 kw_423) rfl rfl rfl (by decide +kernel) ⟨Nat.le_of_ble_eq_true rfl, Nat.le_of_ble_eq_true rfl⟩) (rw_preV (q0 := 0) hKc hPc hDc rfl rfl) rfl rfl hl.1 rfl (lv_room (Nat.le_of_ble_eq_true rfl)) dM_count_31 ⟨Nat.zero_le _, Nat.zero_le _⟩) hS (fun q _ h => hFc q h) hFc (fun v31 u t H1 locs ht hvm e31 hB hz1 hk1 hS => ?_)
      obtain ⟨hP1, hK1, hD1⟩ := hB
      rw [ht] at hP1
      obtain ⟨hP, hD⟩ := va_join (wr := []) (w1 := [(hm, .inr (2, [.int (nI 0), .ref ml, .ref mw, .ref mb, .ref ms, .ref mn])), (ml, .inl (cI, 8, .inl ln)), (mw, .inl (cI, 512, .inl wh)), (mb, .inl (cI, 48, .inl bi)), (ms, .inl (cZ, 48, .inl si)), (mn, .inl (cJ, 6, .inr (.inl nu)))]) hP hD [0, 1, 2, 3, 4, 5] [] rfl rfl (by decide) (by decide) hk1 hFc hP1 hD1
      generalize H1 = H at hP hS ⊢
      have hP : va_P (dC, dI) cls3 [(hm, .inr (2, [.int (nI 0), .ref ml, .ref mw, .ref mb, .ref ms, .ref mn])), (ml, .inl (cI, 8, .inl ln)), (mw, .inl (cI, 512, .inl wh)), (mb, .inl (cI, 48, .inl bi)), (ms, .inl (cZ, 48, .inl si)), (mn, .inl (cJ, 6, .inr (.inl nu)))] H := hP
      have hD : va_D A [(hm, .inr (2, [.int (nI 0), .ref ml, .ref mw, .ref mb, .ref ms, .ref mn])), (ml, .inl (cI, 8, .inl ln)), (mw, .inl (cI, 512, .inl wh)), (mb, .inl (cI, 48, .inl bi)), (ms, .inl (cZ, 48, .inl si)), (mn, .inl (cJ, 6, .inr (.inl nu)))] := hD
      obtain rfl : v31 = nI 0 := e31
      refine lv_if_eq (tgt := 39) hx hb dM_count_34 (by decide) (fun h34 => ?_) (fun h34 => ?_)
      · refine lv_iconst (v := nI 0) hx hb dM_count_39 (by decide +kernel) ?_
        refine lv_istore_n hx hb dM_count_40 rfl hl (by decide) rfl (fun ls hl => ?_)
        have hl : lv_has ls 5 [(3, .int (nI 0)), (0, .ref hm), (1, .int (nI f)), (2, .int (nI q))] := hl
        refine lv_iload_n hx hb dM_count_41 rfl (lv_at hl 3 rfl) ?_
        rcases (show q = 0 ∨ q = 1 ∨ q = 2 ∨ q = 3 by omega) with rfl | rfl | rfl | rfl
        · refine lv_tableIn (tgt := 68) hx hb dM_count_42 (by decide +kernel) (by decide +kernel) rfl (by decide) ?_
          refine lv_aload_n hx hb dM_count_68 rfl (lv_at hl 1 rfl) ?_
          refine va_get (D := (dC, dI)) (ci := 2) (v := .ref ml) (C := RM) (T := TM) (N := 6) hx hb hw inM hown hK hP 0 rfl rfl 1 (by decide) (hw _ kw_387) (fun _ h9 => h9) rfl dM_count_69 ?_
          refine lv_iload_n hx hb dM_count_72 rfl (lv_at hl 2 rfl) ?_
          refine va_iald hx hb hK hP 1 0 rfl rfl (vp_in_nI (by omega) (by decide)) dM_count_73 ?_
          refine lv_topi (fun v73 e73 => ?_)
          rw [nI_clamp (by omega)] at e73
          obtain rfl : v73 = nI (ns f) := e73.trans (hM f hf).2.1
          have hcd : cdCnt (nI f) (nI 0) = 0 := by unfold cdCnt; first | (rw [h10]; rfl) | (rw [isF_nI hf, h22]; rfl) | (rw [isF_nI hf, isW_nI hq]; rfl)
          exact W.iret (v := nI (ns f)) hx hb hr (fun t ht hW => ⟨⟨_, (), rfl, (by intro h0; first | exact absurd (hcd.symm.trans h0) (by decide) | (rw [hff, hfq]; first | rfl | (rw [show j = 6 by omega]; rfl) | (rw [show j = ns f by omega, cw_fxr_all]; rfl))), by rw [ht, hcd]; exact hP, va_K.moved hW.alike hK, by rw [hcd]; exact hD⟩, hS.F ht⟩) hS.2.2 dM_count_74
        · refine lv_tableIn (tgt := 75) hx hb dM_count_42 (by decide +kernel) (by decide +kernel) rfl (by decide) ?_
          refine lv_iconst (v := nI 0) hx hb dM_count_75 (by decide +kernel) ?_
          refine lv_istore hx hb dM_count_76 hl (by decide) rfl (fun ls hl => ?_)
          have hl : lv_has ls 5 [(4, .int (nI 0)), (3, .int (nI 0)), (0, .ref hm), (1, .int (nI f)), (2, .int (nI 1))] := hl
          refine (?_ : ∀ (kk : Nat) (j : Nat) (H : Heap) (locs : List Loc) (ls : Array Slot), kk = ns f - j → lv_has ls 5 [(4, .int (nI j)), (3, .int (nI (cw_fxr (its f) (ns f) j))), (0, .ref hm), (1, .int (nI f)), (2, .int (nI 1))] → (j ≤ ns f) → va_P (dC, dI) cls3 [(hm, .inr (2, [.int (nI 0), .ref ml, .ref mw, .ref mb, .ref ms, .ref mn])), (ml, .inl (cI, 8, .inl ln)), (mw, .inl (cI, 512, .inl wh)), (mb, .inl (cI, 48, .inl bi)), (ms, .inl (cZ, 48, .inl si)), (mn, .inl (cJ, 6, .inr (.inl nu)))] H → va_D A [(hm, .inr (2, [.int (nI 0), .ref ml, .ref mw, .ref mb, .ref ms, .ref mn])), (ml, .inl (cI, 8, .inl ln)), (mw, .inl (cI, 512, .inl wh)), (mb, .inl (cI, 48, .inl bi)), (ms, .inl (cZ, 48, .inl si)), (mn, .inl (cJ, 6, .inr (.inl nu)))] → va_S A s.heap H locs → W p l e _ s m _ below meth c H locs _ _ _ (F0 m 78 ls [])) _ 0 _ _ ls rfl (lv_sub hl [0, 1, 2, 3, 4] rfl) (by omega) hP hD hS
          intro kk
          induction kk using Nat.strongRecOn with
          | ind kk78 ih78 =>
            intro j H locs ls hkk78 hl hj hP hD hS
            refine lv_iload hx hb dM_count_78 (lv_at hl 0 rfl) ?_
            refine lv_aload_n hx hb dM_count_80 rfl (lv_at hl 2 rfl) ?_
            refine va_get (D := (dC, dI)) (ci := 2) (v := .ref ml) (C := RM) (T := TM) (N := 6) hx hb hw inM hown hK hP 0 rfl rfl 1 (by decide) (hw _ kw_387) (fun _ h9 => h9) rfl dM_count_81 ?_
            refine lv_iload_n hx hb dM_count_84 rfl (lv_at hl 3 rfl) ?_
            refine va_iald hx hb hK hP 1 0 rfl rfl (vp_in_nI (by omega) (by decide)) dM_count_85 ?_
            refine lv_topi (fun v85 e85 => ?_)
            rw [nI_clamp (by omega)] at e85
            obtain rfl : v85 = nI (ns f) := e85.trans (hM f hf).2.1
            refine lv_icmp_ge (tgt := 109) hx hb dM_count_86 (by decide) (fun h86 => ?_) (fun h86 => ?_)
            · rw [nI_leI (by omega) (by omega)] at h86
              refine lv_iload_n hx hb dM_count_109 rfl (lv_at hl 1 rfl) ?_
              have hcd : cdCnt (nI f) (nI 1) = 0 := by unfold cdCnt; first | (rw [h10]; rfl) | (rw [isF_nI hf, h22]; rfl) | (rw [isF_nI hf, isW_nI hq]; rfl)
              exact W.iret (v := nI (cw_fxr (its f) (ns f) j)) hx hb hr (fun t ht hW => ⟨⟨_, (), rfl, (by intro h0; first | exact absurd (hcd.symm.trans h0) (by decide) | (rw [hff, hfq]; first | rfl | (rw [show j = 6 by omega]; rfl) | (rw [show j = ns f by omega, cw_fxr_all]; rfl))), by rw [ht, hcd]; exact hP, va_K.moved hW.alike hK, by rw [hcd]; exact hD⟩, hS.F ht⟩) hS.2.2 dM_count_110
            · rw [nI_leI (by omega) (by omega)] at h86
              refine lv_aload_n hx hb dM_count_89 rfl (lv_at hl 2 rfl) ?_
              refine lv_iload_n hx hb dM_count_90 rfl (lv_at hl 3 rfl) ?_
              refine lv_iload hx hb dM_count_91 (lv_at hl 0 rfl) ?_
              refine vp_callSi (W.runV (As := [.int (nI f), .int (nI j)]) (rest := []) ⟨hx, hb, hml, hown, hw⟩ (c_M_at l dC dI cI cZ cJ hm ml mw mb ms mn (nI 0) ln wh bi si nu ns its wss sbs hM f j hf (by omega)) (cwV 2 hw (gV kw_480 kw_482 kw_11 kw_16 kw_483) rfl rfl rfl (by decide +kernel) ⟨Nat.le_of_ble_eq_true rfl, Nat.le_of_ble_eq_true rfl⟩) (ro_preV (q0 := 0) hK hP rfl rfl) rfl rfl hl.1 rfl (lv_room (Nat.le_of_ble_eq_true rfl)) dM_count_93 ⟨Nat.zero_le _, Nat.zero_le _⟩) (fun v93 e93 => ?_)
              obtain rfl : v93 = nI (its f (ns f - 1 - j)) := e93
              refine lv_iconst (v := nI 2) hx hb dM_count_96 (by decide +kernel) ?_
              refine lv_icmp_ge (tgt := 103) hx hb dM_count_97 (by decide) (fun h97 => ?_) (fun h97 => ?_)
              · have hij := hit (ns f - 1 - j) (by omega)
                rw [nI_leI (by omega) (by omega)] at h97
                refine lv_iinc (k := 0) (v := nI (j + 1)) hx hb dM_count_103 hl rfl (cw_inc _) (by decide) rfl (fun ls hl => ?_)
                have hl : lv_has ls 5 [(4, .int (nI (j + 1))), (3, .int (nI (cw_fxr (its f) (ns f) j))), (0, .ref hm), (1, .int (nI f)), (2, .int (nI 1))] := hl
                refine lv_goto (tgt := 78) hx hb dM_count_106 (by decide) ?_
                exact ih78 _ (by omega) (j + 1) _ _ ls rfl (cw_lvx (lv_sub (l' := [(4, .int (nI (j + 1))), (3, .int (nI (cw_fxr (its f) (ns f) j))), (0, .ref hm), (1, .int (nI f)), (2, .int (nI 1))]) hl [0, 1, 2, 3, 4] rfl) (by simp only [cw_fxr]; first | (rw [if_neg (by omega)]; rfl) | (rw [if_pos (by omega)]))) (by omega) hP hD hS
              · have hij := hit (ns f - 1 - j) (by omega)
                rw [nI_leI (by omega) (by omega)] at h97
                refine lv_iinc (k := 1) (v := nI ((cw_fxr (its f) (ns f) j) + 1)) hx hb dM_count_100 hl rfl (cw_inc _) (by decide) rfl (fun ls hl => ?_)
                have hl : lv_has ls 5 [(3, .int (nI ((cw_fxr (its f) (ns f) j) + 1))), (4, .int (nI j)), (0, .ref hm), (1, .int (nI f)), (2, .int (nI 1))] := hl
                refine lv_iinc (k := 1) (v := nI (j + 1)) hx hb dM_count_103 hl rfl (cw_inc _) (by decide) rfl (fun ls hl => ?_)
                have hl : lv_has ls 5 [(4, .int (nI (j + 1))), (3, .int (nI ((cw_fxr (its f) (ns f) j) + 1))), (0, .ref hm), (1, .int (nI f)), (2, .int (nI 1))] := hl
                refine lv_goto (tgt := 78) hx hb dM_count_106 (by decide) ?_
                exact ih78 _ (by omega) (j + 1) _ _ ls rfl (cw_lvx (lv_sub (l' := [(4, .int (nI (j + 1))), (3, .int (nI ((cw_fxr (its f) (ns f) j) + 1))), (0, .ref hm), (1, .int (nI f)), (2, .int (nI 1))]) hl [0, 1, 2, 3, 4] rfl) (by simp only [cw_fxr]; first | (rw [if_neg (by omega)]; rfl) | (rw [if_pos (by omega)]))) (by omega) hP hD hS
        · refine lv_tableIn (tgt := 111) hx hb dM_count_42 (by decide +kernel) (by decide +kernel) rfl (by decide) ?_
          refine lv_iconst (v := nI 0) hx hb dM_count_111 (by decide +kernel) ?_
          refine lv_istore hx hb dM_count_112 hl (by decide) rfl (fun ls hl => ?_)
          have hl : lv_has ls 5 [(4, .int (nI 0)), (3, .int (nI 0)), (0, .ref hm), (1, .int (nI f)), (2, .int (nI 2))] := hl
          refine (?_ : ∀ (kk : Nat) (j : Nat) (H : Heap) (locs : List Loc) (ls : Array Slot), kk = 6 - j → lv_has ls 5 [(4, .int (nI j)), (3, .int (nI (cw_ops (wss f) j))), (0, .ref hm), (1, .int (nI f)), (2, .int (nI 2))] → (j ≤ 6) → va_P (dC, dI) cls3 [(hm, .inr (2, [.int (nI 0), .ref ml, .ref mw, .ref mb, .ref ms, .ref mn])), (ml, .inl (cI, 8, .inl ln)), (mw, .inl (cI, 512, .inl wh)), (mb, .inl (cI, 48, .inl bi)), (ms, .inl (cZ, 48, .inl si)), (mn, .inl (cJ, 6, .inr (.inl nu)))] H → va_D A [(hm, .inr (2, [.int (nI 0), .ref ml, .ref mw, .ref mb, .ref ms, .ref mn])), (ml, .inl (cI, 8, .inl ln)), (mw, .inl (cI, 512, .inl wh)), (mb, .inl (cI, 48, .inl bi)), (ms, .inl (cZ, 48, .inl si)), (mn, .inl (cJ, 6, .inr (.inl nu)))] → va_S A s.heap H locs → W p l e _ s m _ below meth c H locs _ _ _ (F0 m 114 ls [])) _ 0 _ _ ls rfl (lv_sub hl [0, 1, 2, 3, 4] rfl) (by omega) hP hD hS
          intro kk
          induction kk using Nat.strongRecOn with
          | ind kk114 ih114 =>
            intro j H locs ls hkk114 hl hj hP hD hS
            refine lv_iload hx hb dM_count_114 (lv_at hl 0 rfl) ?_
            refine lv_bipush (v := nI 6) hx hb dM_count_116 (by decide +kernel) ?_
            refine lv_icmp_ge (tgt := 140) hx hb dM_count_118 (by decide) (fun h118 => ?_) (fun h118 => ?_)
            · rw [nI_leI (by omega) (by omega)] at h118
              refine lv_iload_n hx hb dM_count_140 rfl (lv_at hl 1 rfl) ?_
              have hcd : cdCnt (nI f) (nI 2) = 0 := by unfold cdCnt; first | (rw [h10]; rfl) | (rw [isF_nI hf, h22]; rfl) | (rw [isF_nI hf, isW_nI hq]; rfl)
              exact W.iret (v := nI (cw_ops (wss f) j)) hx hb hr (fun t ht hW => ⟨⟨_, (), rfl, (by intro h0; first | exact absurd (hcd.symm.trans h0) (by decide) | (rw [hff, hfq]; first | rfl | (rw [show j = 6 by omega]; rfl) | (rw [show j = ns f by omega, cw_fxr_all]; rfl))), by rw [ht, hcd]; exact hP, va_K.moved hW.alike hK, by rw [hcd]; exact hD⟩, hS.F ht⟩) hS.2.2 dM_count_141
            · rw [nI_leI (by omega) (by omega)] at h118
              refine lv_aload_n hx hb dM_count_121 rfl (lv_at hl 2 rfl) ?_
              refine lv_iload_n hx hb dM_count_122 rfl (lv_at hl 3 rfl) ?_
              refine lv_iload hx hb dM_count_123 (lv_at hl 0 rfl) ?_
              refine vp_callSi (W.runV (As := [.int (nI f), .int (nI j)]) (rest := []) ⟨hx, hb, hml, hown, hw⟩ (c_M_many l dC dI cI cZ cJ hm ml mw mb ms mn (nI 0) ln wh bi si nu ns its wss sbs hM f j hf (by omega)) (cwV 2 hw (gV kw_433 kw_435 kw_6 kw_16 kw_436) rfl rfl rfl (by decide +kernel) ⟨Nat.le_of_ble_eq_true rfl, Nat.le_of_ble_eq_true rfl⟩) (ro_preV (q0 := 0) hK hP rfl rfl) rfl rfl hl.1 rfl (lv_room (Nat.le_of_ble_eq_true rfl)) dM_count_125 ⟨Nat.zero_le _, Nat.zero_le _⟩) (fun v125 e125 => ?_)
              obtain rfl : v125 = nI (wss f j) := e125
              refine lv_if_le (tgt := 134) hx hb dM_count_128 (by decide) (fun h128 => ?_) (fun h128 => ?_)
              · have hwo := hw64 j (by omega)
                rw [nI_le0 (by omega)] at h128
                refine lv_iinc (k := 0) (v := nI (j + 1)) hx hb dM_count_134 hl rfl (cw_inc _) (by decide) rfl (fun ls hl => ?_)
                have hl : lv_has ls 5 [(4, .int (nI (j + 1))), (3, .int (nI (cw_ops (wss f) j))), (0, .ref hm), (1, .int (nI f)), (2, .int (nI 2))] := hl
                refine lv_goto (tgt := 114) hx hb dM_count_137 (by decide) ?_
                exact ih114 _ (by omega) (j + 1) _ _ ls rfl (cw_lvx (lv_sub (l' := [(4, .int (nI (j + 1))), (3, .int (nI (cw_ops (wss f) j))), (0, .ref hm), (1, .int (nI f)), (2, .int (nI 2))]) hl [0, 1, 2, 3, 4] rfl) (by simp only [cw_ops]; first | (rw [if_neg (by omega)]; rfl) | (rw [if_pos (by omega)]))) (by omega) hP hD hS
              · have hwo := hw64 j (by omega)
                rw [nI_le0 (by omega)] at h128
                refine lv_iinc (k := 1) (v := nI ((cw_ops (wss f) j) + 1)) hx hb dM_count_131 hl rfl (cw_inc _) (by decide) rfl (fun ls hl => ?_)
                have hl : lv_has ls 5 [(3, .int (nI ((cw_ops (wss f) j) + 1))), (4, .int (nI j)), (0, .ref hm), (1, .int (nI f)), (2, .int (nI 2))] := hl
                refine lv_iinc (k := 1) (v := nI (j + 1)) hx hb dM_count_134 hl rfl (cw_inc _) (by decide) rfl (fun ls hl => ?_)
                have hl : lv_has ls 5 [(4, .int (nI (j + 1))), (3, .int (nI ((cw_ops (wss f) j) + 1))), (0, .ref hm), (1, .int (nI f)), (2, .int (nI 2))] := hl
                refine lv_goto (tgt := 114) hx hb dM_count_137 (by decide) ?_
                exact ih114 _ (by omega) (j + 1) _ _ ls rfl (cw_lvx (lv_sub (l' := [(4, .int (nI (j + 1))), (3, .int (nI ((cw_ops (wss f) j) + 1))), (0, .ref hm), (1, .int (nI f)), (2, .int (nI 2))]) hl [0, 1, 2, 3, 4] rfl) (by simp only [cw_ops]; first | (rw [if_neg (by omega)]; rfl) | (rw [if_pos (by omega)]))) (by omega) hP hD hS
        · refine lv_tableOut (tgt := 142) hx hb dM_count_42 (by decide +kernel) (by decide) ?_
          refine lv_aload_n hx hb dM_count_142 rfl (lv_at hl 1 rfl) ?_
          refine lv_iload_n hx hb dM_count_143 rfl (lv_at hl 2 rfl) ?_
          refine vp_callSi (W.runV (As := [.int (nI f)]) (rest := []) ⟨hx, hb, hml, hown, hw⟩ (c_M_left l dC dI cI cZ cJ hm ml mw mb ms mn (nI 0) ln wh bi si nu ns its wss sbs hM f hf) (cwV 1 hw (gV kw_460 kw_462 kw_9 kw_16 kw_463) rfl rfl rfl (by decide +kernel) ⟨Nat.le_of_ble_eq_true rfl, Nat.le_of_ble_eq_true rfl⟩) (ro_preV (q0 := 0) hK hP rfl rfl) rfl rfl hl.1 rfl (lv_room (Nat.le_of_ble_eq_true rfl)) dM_count_144 ⟨Nat.zero_le _, Nat.zero_le _⟩) (fun v144 e144 => ?_)
          obtain rfl : v144 = nI (cw_lft (its f) (ns f) (wss f) 6) := e144
          have hcd : cdCnt (nI f) (nI 3) = 0 := by unfold cdCnt; first | (rw [h10]; rfl) | (rw [isF_nI hf, h22]; rfl) | (rw [isF_nI hf, isW_nI hq]; rfl)
          exact W.iret (v := nI (cw_lft (its f) (ns f) (wss f) 6)) hx hb hr (fun t ht hW => ⟨⟨_, (), rfl, (by intro h0; first | exact absurd (hcd.symm.trans h0) (by decide) | (rw [hff, hfq]; first | rfl | (rw [show j = 6 by omega]; rfl) | (rw [show j = ns f by omega, cw_fxr_all]; rfl))), by rw [ht, hcd]; exact hP, va_K.moved hW.alike hK, by rw [hcd]; exact hD⟩, hS.F ht⟩) hS.2.2 dM_count_147
      · exfalso
        first | exact h34 (by decide +kernel) | exact absurd h34 (by decide +kernel)
    · rw [b_nat0] at h22
      refine lv_iconst (v := nI 1) hx hb dM_count_25 (by decide +kernel) ?_
      refine lv_goto (tgt := 30) hx hb dM_count_26 (by decide) ?_
      refine lv_iconst (v := nI 1) hx hb dM_count_30 (by decide +kernel) ?_
      have hPc := hP.sub (ws' := [(hm, .inr (2, [.int (nI 0), .ref ml, .ref mw, .ref mb, .ref ms, .ref mn])), (ml, .inl (cI, 8, .inl ln)), (mw, .inl (cI, 512, .inl wh)), (mb, .inl (cI, 48, .inl bi)), (ms, .inl (cZ, 48, .inl si)), (mn, .inl (cJ, 6, .inr (.inl nu)))]) [0, 1, 2, 3, 4, 5] rfl
      have hDc := hD.sub (ws' := [(hm, .inr (2, [.int (nI 0), .ref ml, .ref mw, .ref mb, .ref ms, .ref mn])), (ml, .inl (cI, 8, .inl ln)), (mw, .inl (cI, 512, .inl wh)), (mb, .inl (cI, 48, .inl bi)), (ms, .inl (cZ, 48, .inl si)), (mn, .inl (cJ, 6, .inr (.inl nu)))]) [0, 1, 2, 3, 4, 5] (by decide) rfl
      have hKc := hK.sub (tys' := [(cI, .int), (cZ, .boolean), (cJ, .long)]) [0, 1, 2] rfl
      have hFc := va_free (wc := [(hm, .inr (2, [.int (nI 0), .ref ml, .ref mw, .ref mb, .ref ms, .ref mn])), (ml, .inl (cI, 8, .inl ln)), (mw, .inl (cI, 512, .inl wh)), (mb, .inl (cI, 48, .inl bi)), (ms, .inl (cZ, 48, .inl si)), (mn, .inl (cJ, 6, .inr (.inl nu)))]) hD hS hA [0, 1, 2, 3, 4, 5] rfl
      refine va_calli (va_runV (As := [.int (nI 1), .int (nI 1)]) (rest := []) ⟨hx, hb, hml, hown, hw⟩ (c_M_fails1 l dC dI _ cI cZ cJ hm ml mw mb ms mn ln wh bi si nu 1 (by decide)) (cwV 2 hw (gV kw_420 kw_422 kw_5 kw_16 kw_423) rfl rfl rfl (by decide +kernel) ⟨Nat.le_of_ble_eq_true rfl, Nat.le_of_ble_eq_true rfl⟩) (rw_preV (q0 := 0) hKc hPc hDc rfl rfl) rfl rfl hl.1 rfl (lv_room (Nat.le_of_ble_eq_true rfl)) dM_count_31 ⟨Nat.zero_le _, Nat.zero_le _⟩) hS (fun q _ h => hFc q h) hFc (fun v31 u t H1 locs ht hvm e31 hB hz1 hk1 hS => ?_)
      obtain ⟨hP1, hK1, hD1⟩ := hB
      rw [ht] at hP1
      obtain ⟨hP, hD⟩ := va_join (wr := []) (w1 := [(hm, .inr (2, [.int (nI 1), .ref ml, .ref mw, .ref mb, .ref ms, .ref mn])), (ml, .inl (cI, 8, .inl ln)), (mw, .inl (cI, 512, .inl wh)), (mb, .inl (cI, 48, .inl bi)), (ms, .inl (cZ, 48, .inl si)), (mn, .inl (cJ, 6, .inr (.inl nu)))]) hP hD [0, 1, 2, 3, 4, 5] [] rfl rfl (by decide) (by decide) hk1 hFc hP1 hD1
      generalize H1 = H at hP hS ⊢
      have hP : va_P (dC, dI) cls3 [(hm, .inr (2, [.int (nI 1), .ref ml, .ref mw, .ref mb, .ref ms, .ref mn])), (ml, .inl (cI, 8, .inl ln)), (mw, .inl (cI, 512, .inl wh)), (mb, .inl (cI, 48, .inl bi)), (ms, .inl (cZ, 48, .inl si)), (mn, .inl (cJ, 6, .inr (.inl nu)))] H := hP
      have hD : va_D A [(hm, .inr (2, [.int (nI 1), .ref ml, .ref mw, .ref mb, .ref ms, .ref mn])), (ml, .inl (cI, 8, .inl ln)), (mw, .inl (cI, 512, .inl wh)), (mb, .inl (cI, 48, .inl bi)), (ms, .inl (cZ, 48, .inl si)), (mn, .inl (cJ, 6, .inr (.inl nu)))] := hD
      obtain rfl : v31 = nI 1 := e31
      refine lv_if_eq (tgt := 39) hx hb dM_count_34 (by decide) (fun h34 => ?_) (fun h34 => ?_)
      · exfalso
        first | exact h34 (by decide +kernel) | exact absurd h34 (by decide +kernel)
      · refine lv_iconst (v := nI 0) hx hb dM_count_37 (by decide +kernel) ?_
        have hcd : cdCnt (nI f) y = 1 := by unfold cdCnt; first | (rw [h10]; rfl) | (rw [isF_nI hf, h22]; rfl) | (rw [isF_nI hf, isW_nI hq]; rfl)
        exact W.iret (v := nI 0) hx hb hr (fun t ht hW => ⟨⟨_, (), rfl, (by intro h0; first | exact absurd (hcd.symm.trans h0) (by decide) | (rw [hff, hfq]; first | rfl | (rw [show j = 6 by omega]; rfl) | (rw [show j = ns f by omega, cw_fxr_all]; rfl))), by rw [ht, hcd]; exact hP, va_K.moved hW.alike hK, by rw [hcd]; exact hD⟩, hS.F ht⟩) hS.2.2 dM_count_38

set_option maxHeartbeats 4000000 in
set_option maxRecDepth 100000 in
theorem c_M_encode (l : Launch) (dC : Nat → ClassId) (dI : Nat → Nat → Nat) (sz : Nat) (cI cZ cJ : ClassId) (hm ml mw mb ms mn : Nat) (er : Int32) (ln wh bi si : Nat → Int32) (nu : Nat → Int64) (ns : Nat → Nat) (its wss : Nat → Nat → Nat) (sbs : Nat → Nat → Bool) (hM : mR ns its wss sbs ln wh bi si) (x : Int32) : Met l yM_encode wM_encode { frames := 2, cells := 0, slots := 0, locals := 50 } (rw_Pc (dC, dI) cls3 [(hm, .inr (2, [.int er, .ref ml, .ref mw, .ref mb, .ref ms, .ref mn])), (ml, .inl (cI, 8, .inl ln)), (mw, .inl (cI, 512, .inl wh)), (mb, .inl (cI, 48, .inl bi)), (ms, .inl (cZ, 48, .inl si)), (mn, .inl (cJ, 6, .inr (.inl nu)))] [(cI, .int), (cZ, .boolean), (cJ, .long)] sz [.ref hm, .int x]) (va_Ql (fun (r : Int64) (_ : Unit) => cdEnc ns its wss sbs nu x = 0 → r = lN (wrd (ebit (its (fi x)) nu) (ns (fi x)))) (fun _ t => va_P (dC, dI) cls3 [(hm, .inr (2, [.int (nI (cdEnc ns its wss sbs nu x)), .ref ml, .ref mw, .ref mb, .ref ms, .ref mn])), (ml, .inl (cI, 8, .inl ln)), (mw, .inl (cI, 512, .inl wh)), (mb, .inl (cI, 48, .inl bi)), (ms, .inl (cZ, 48, .inl si)), (mn, .inl (cJ, 6, .inr (.inl nu)))] t.heap ∧ va_K (dC, dI) cls3 [(cI, .int), (cZ, .boolean), (cJ, .long)] t ∧ va_D (va_A [(hm, .inr (2, [.int er, .ref ml, .ref mw, .ref mb, .ref ms, .ref mn])), (ml, .inl (cI, 8, .inl ln)), (mw, .inl (cI, 512, .inl wh)), (mb, .inl (cI, 48, .inl bi)), (ms, .inl (cZ, 48, .inl si)), (mn, .inl (cJ, 6, .inr (.inl nu)))] sz) [(hm, .inr (2, [.int (nI (cdEnc ns its wss sbs nu x)), .ref ml, .ref mw, .ref mb, .ref ms, .ref mn])), (ml, .inl (cI, 8, .inl ln)), (mw, .inl (cI, 512, .inl wh)), (mb, .inl (cI, 48, .inl bi)), (ms, .inl (cZ, 48, .inl si)), (mn, .inl (cJ, 6, .inr (.inl nu)))]) (va_A [(hm, .inr (2, [.int er, .ref ml, .ref mw, .ref mb, .ref ms, .ref mn])), (ml, .inl (cI, 8, .inl ln)), (mw, .inl (cI, 512, .inl wh)), (mb, .inl (cI, 48, .inl bi)), (ms, .inl (cZ, 48, .inl si)), (mn, .inl (cJ, 6, .inr (.inl nu)))] sz)) 0 0 (va_A [(hm, .inr (2, [.int er, .ref ml, .ref mw, .ref mb, .ref ms, .ref mn])), (ml, .inl (cI, 8, .inl ln)), (mw, .inl (cI, 512, .inl wh)), (mb, .inl (cI, 48, .inl bi)), (ms, .inl (cZ, 48, .inl si)), (mn, .inl (cJ, 6, .inr (.inl nu)))] sz) := by
  refine Met.ofW (cc := cM_encode) (maxL := 7) (ret := (some .long)) (by decide) rfl ?_
  intro p e s m args below meth c s₁ B hml hv
  obtain ⟨rfl, hsz, hP, hK, hD0⟩ := hv
  have hx := B.exec
  have hb := B.bytes
  have hr := B.returns
  have hts := atoms_spec (ws := wM_encode) B.pre
  have hw : ∀ w ∈ wA, w.before _ s = true := fun w h => hts w (List.mem_cons_of_mem _ h)
  have hown : s.vm.findClass RM = some m.cls := findClass_of_methodNamed B.named
  have hlocks := B.notSynchronized
  subst hsz
  have hD := hD0.self (sz := s.heap.size)
  generalize hAe : va_A [(hm, .inr (2, [.int er, .ref ml, .ref mw, .ref mb, .ref ms, .ref mn])), (ml, .inl (cI, 8, .inl ln)), (mw, .inl (cI, 512, .inl wh)), (mb, .inl (cI, 48, .inl bi)), (ms, .inl (cZ, 48, .inl si)), (mn, .inl (cJ, 6, .inr (.inl nu)))] s.heap.size = A at hD ⊢
  have hA : ∀ q : Nat, s.heap.size ≤ q → A q := fun q h => by rw [← hAe]; exact Or.inr h
  have hS : va_S A s.heap s.heap [] := va_S.rf
  have hl := lv_entry ([.ref hm, .int x]) (n := 7) (Nat.le_of_ble_eq_true rfl)
  rw [lg_entry_eq]
  generalize (lg_sl ([.ref hm, .int x]) ++ List.replicate (7 - (lg_sl ([.ref hm, .int x])).length) Slot.unset).toArray = ls at hl ⊢
  have hl : lv_has ls 7 [(0, .ref hm), (1, .int x)] := hl
  refine lv_aload_n hx hb dM_encode_0 rfl (lv_at hl 0 rfl) ?_
  refine lv_iconst (v := nI 0) hx hb dM_encode_1 (by decide +kernel) ?_
  refine va_put (D := (dC, dI)) (ci := 2) (v := .int (nI 0)) (ty := .int) (C := RM) (T := TM) (N := 6) hx hb hw inM tM tM_ok nM hown hK hP hD hS 0 rfl rfl 0 (by decide) (hw _ kw_386) (fun _ h9 => h9) rfl (by decide +kernel) rfl rfl (Nat.le_of_ble_eq_true rfl) dM_encode_2 (fun H locs hP hD hS => ?_)
  have hP : va_P (dC, dI) cls3 [(hm, .inr (2, [.int (nI 0), .ref ml, .ref mw, .ref mb, .ref ms, .ref mn])), (ml, .inl (cI, 8, .inl ln)), (mw, .inl (cI, 512, .inl wh)), (mb, .inl (cI, 48, .inl bi)), (ms, .inl (cZ, 48, .inl si)), (mn, .inl (cJ, 6, .inr (.inl nu)))] H := hP
  have hD : va_D A [(hm, .inr (2, [.int (nI 0), .ref ml, .ref mw, .ref mb, .ref ms, .ref mn])), (ml, .inl (cI, 8, .inl ln)), (mw, .inl (cI, 512, .inl wh)), (mb, .inl (cI, 48, .inl bi)), (ms, .inl (cZ, 48, .inl si)), (mn, .inl (cJ, 6, .inr (.inl nu)))] := hD
  refine lv_aload_n hx hb dM_encode_5 rfl (lv_at hl 0 rfl) ?_
  refine lv_iload_n hx hb dM_encode_6 rfl (lv_at hl 1 rfl) ?_
  refine vp_callSi (W.runS (As := [.int x]) (rest := [.ref hm]) ⟨hx, hb, hml, hown, hw⟩ (c_M_isForm l x) (cwS 1 hw (gS kw_413 kw_414 kw_16 kw_415) rfl rfl rfl (by decide +kernel) ⟨Nat.le_of_ble_eq_true rfl, Nat.le_of_ble_eq_true rfl⟩) preEq rfl rfl hl.1 rfl (lv_room (Nat.le_of_ble_eq_true rfl)) dM_encode_7 ⟨Nat.zero_le _, Nat.zero_le _⟩) (fun v7 e7 => ?_)
  obtain rfl : v7 = nI (isF x).toNat := e7
  refine lv_if_ne (tgt := 17) hx hb dM_encode_10 (by decide) (fun h10 => ?_) (fun h10 => ?_)
  · obtain ⟨f, hf, rfl⟩ := isF_of (b_nf h10)
    have hff : fi (nI f) = f := fi_nI (by omega)
    have hok := (hM f hf).1
    have hn := hok.1
    have hw64 := hok.2.1
    have hit := cw_it hok
    have hlf : cw_lft (its f) (ns f) (wss f) 6 ≤ 384 := by have := cw_missing (its f) (wss f) (ns f) hok; have := cw_sum_le (wss f) 6 hw64; omega
    refine lv_iconst (v := nI 0) hx hb dM_encode_17 (by decide +kernel) ?_
    refine lv_iconst (v := nI 1) hx hb dM_encode_18 (by decide +kernel) ?_
    have hPc := hP.sub (ws' := [(hm, .inr (2, [.int (nI 0), .ref ml, .ref mw, .ref mb, .ref ms, .ref mn])), (ml, .inl (cI, 8, .inl ln)), (mw, .inl (cI, 512, .inl wh)), (mb, .inl (cI, 48, .inl bi)), (ms, .inl (cZ, 48, .inl si)), (mn, .inl (cJ, 6, .inr (.inl nu)))]) [0, 1, 2, 3, 4, 5] rfl
    have hDc := hD.sub (ws' := [(hm, .inr (2, [.int (nI 0), .ref ml, .ref mw, .ref mb, .ref ms, .ref mn])), (ml, .inl (cI, 8, .inl ln)), (mw, .inl (cI, 512, .inl wh)), (mb, .inl (cI, 48, .inl bi)), (ms, .inl (cZ, 48, .inl si)), (mn, .inl (cJ, 6, .inr (.inl nu)))]) [0, 1, 2, 3, 4, 5] (by decide) rfl
    have hKc := hK.sub (tys' := [(cI, .int), (cZ, .boolean), (cJ, .long)]) [0, 1, 2] rfl
    have hFc := va_free (wc := [(hm, .inr (2, [.int (nI 0), .ref ml, .ref mw, .ref mb, .ref ms, .ref mn])), (ml, .inl (cI, 8, .inl ln)), (mw, .inl (cI, 512, .inl wh)), (mb, .inl (cI, 48, .inl bi)), (ms, .inl (cZ, 48, .inl si)), (mn, .inl (cJ, 6, .inr (.inl nu)))]) hD hS hA [0, 1, 2, 3, 4, 5] rfl
    refine va_calli (va_runV (As := [.int (nI 0), .int (nI 1)]) (rest := []) ⟨hx, hb, hml, hown, hw⟩ (c_M_fails0 l dC dI _ cI cZ cJ hm ml mw mb ms mn ln wh bi si nu 1 (by decide)) (cwV 2 hw (gV kw_420 kw_422 kw_5 kw_16 kw_423) rfl rfl rfl (by decide +kernel) ⟨Nat.le_of_ble_eq_true rfl, Nat.le_of_ble_eq_true rfl⟩) (rw_preV (q0 := 0) hKc hPc hDc rfl rfl) rfl rfl hl.1 rfl (lv_room (Nat.le_of_ble_eq_true rfl)) dM_encode_19 ⟨Nat.zero_le _, Nat.zero_le _⟩) hS (fun q _ h => hFc q h) hFc (fun v19 u t H1 locs ht hvm e19 hB hz1 hk1 hS => ?_)
    obtain ⟨hP1, hK1, hD1⟩ := hB
    rw [ht] at hP1
    obtain ⟨hP, hD⟩ := va_join (wr := []) (w1 := [(hm, .inr (2, [.int (nI 0), .ref ml, .ref mw, .ref mb, .ref ms, .ref mn])), (ml, .inl (cI, 8, .inl ln)), (mw, .inl (cI, 512, .inl wh)), (mb, .inl (cI, 48, .inl bi)), (ms, .inl (cZ, 48, .inl si)), (mn, .inl (cJ, 6, .inr (.inl nu)))]) hP hD [0, 1, 2, 3, 4, 5] [] rfl rfl (by decide) (by decide) hk1 hFc hP1 hD1
    generalize H1 = H at hP hS ⊢
    have hP : va_P (dC, dI) cls3 [(hm, .inr (2, [.int (nI 0), .ref ml, .ref mw, .ref mb, .ref ms, .ref mn])), (ml, .inl (cI, 8, .inl ln)), (mw, .inl (cI, 512, .inl wh)), (mb, .inl (cI, 48, .inl bi)), (ms, .inl (cZ, 48, .inl si)), (mn, .inl (cJ, 6, .inr (.inl nu)))] H := hP
    have hD : va_D A [(hm, .inr (2, [.int (nI 0), .ref ml, .ref mw, .ref mb, .ref ms, .ref mn])), (ml, .inl (cI, 8, .inl ln)), (mw, .inl (cI, 512, .inl wh)), (mb, .inl (cI, 48, .inl bi)), (ms, .inl (cZ, 48, .inl si)), (mn, .inl (cJ, 6, .inr (.inl nu)))] := hD
    obtain rfl : v19 = nI 0 := e19
    refine lv_if_ne (tgt := 46) hx hb dM_encode_22 (by decide) (fun h22 => ?_) (fun h22 => ?_)
    · exfalso
      first | exact h22 (by decide +kernel) | exact absurd h22 (by decide +kernel)
    · refine lv_aload_n hx hb dM_encode_25 rfl (lv_at hl 0 rfl) ?_
      refine lv_aload_n hx hb dM_encode_26 rfl (lv_at hl 0 rfl) ?_
      refine lv_iload_n hx hb dM_encode_27 rfl (lv_at hl 1 rfl) ?_
      refine vp_callSi (W.runV (As := [.int (nI f)]) (rest := [.ref hm]) ⟨hx, hb, hml, hown, hw⟩ (c_M_left l dC dI cI cZ cJ hm ml mw mb ms mn (nI 0) ln wh bi si nu ns its wss sbs hM f hf) (cwV 1 hw (gV kw_460 kw_462 kw_9 kw_16 kw_463) rfl rfl rfl (by decide +kernel) ⟨Nat.le_of_ble_eq_true rfl, Nat.le_of_ble_eq_true rfl⟩) (ro_preV (q0 := 0) hK hP rfl rfl) rfl rfl hl.1 rfl (lv_room (Nat.le_of_ble_eq_true rfl)) dM_encode_28 ⟨Nat.zero_le _, Nat.zero_le _⟩) (fun v28 e28 => ?_)
      obtain rfl : v28 = nI (cw_lft (its f) (ns f) (wss f) 6) := e28
      refine lv_if_le (tgt := 38) hx hb dM_encode_31 (by decide) (fun h31 => ?_) (fun h31 => ?_)
      · rw [nI_le0 (by omega)] at h31
        refine lv_iconst (v := nI 0) hx hb dM_encode_38 (by decide +kernel) ?_
        refine lv_iconst (v := nI 2) hx hb dM_encode_39 (by decide +kernel) ?_
        have hPc := hP.sub (ws' := [(hm, .inr (2, [.int (nI 0), .ref ml, .ref mw, .ref mb, .ref ms, .ref mn])), (ml, .inl (cI, 8, .inl ln)), (mw, .inl (cI, 512, .inl wh)), (mb, .inl (cI, 48, .inl bi)), (ms, .inl (cZ, 48, .inl si)), (mn, .inl (cJ, 6, .inr (.inl nu)))]) [0, 1, 2, 3, 4, 5] rfl
        have hDc := hD.sub (ws' := [(hm, .inr (2, [.int (nI 0), .ref ml, .ref mw, .ref mb, .ref ms, .ref mn])), (ml, .inl (cI, 8, .inl ln)), (mw, .inl (cI, 512, .inl wh)), (mb, .inl (cI, 48, .inl bi)), (ms, .inl (cZ, 48, .inl si)), (mn, .inl (cJ, 6, .inr (.inl nu)))]) [0, 1, 2, 3, 4, 5] (by decide) rfl
        have hKc := hK.sub (tys' := [(cI, .int), (cZ, .boolean), (cJ, .long)]) [0, 1, 2] rfl
        have hFc := va_free (wc := [(hm, .inr (2, [.int (nI 0), .ref ml, .ref mw, .ref mb, .ref ms, .ref mn])), (ml, .inl (cI, 8, .inl ln)), (mw, .inl (cI, 512, .inl wh)), (mb, .inl (cI, 48, .inl bi)), (ms, .inl (cZ, 48, .inl si)), (mn, .inl (cJ, 6, .inr (.inl nu)))]) hD hS hA [0, 1, 2, 3, 4, 5] rfl
        refine va_calli (va_runV (As := [.int (nI 0), .int (nI 2)]) (rest := []) ⟨hx, hb, hml, hown, hw⟩ (c_M_fails0 l dC dI _ cI cZ cJ hm ml mw mb ms mn ln wh bi si nu 2 (by decide)) (cwV 2 hw (gV kw_420 kw_422 kw_5 kw_16 kw_423) rfl rfl rfl (by decide +kernel) ⟨Nat.le_of_ble_eq_true rfl, Nat.le_of_ble_eq_true rfl⟩) (rw_preV (q0 := 0) hKc hPc hDc rfl rfl) rfl rfl hl.1 rfl (lv_room (Nat.le_of_ble_eq_true rfl)) dM_encode_40 ⟨Nat.zero_le _, Nat.zero_le _⟩) hS (fun q _ h => hFc q h) hFc (fun v40 u t H1 locs ht hvm e40 hB hz1 hk1 hS => ?_)
        obtain ⟨hP1, hK1, hD1⟩ := hB
        rw [ht] at hP1
        obtain ⟨hP, hD⟩ := va_join (wr := []) (w1 := [(hm, .inr (2, [.int (nI 0), .ref ml, .ref mw, .ref mb, .ref ms, .ref mn])), (ml, .inl (cI, 8, .inl ln)), (mw, .inl (cI, 512, .inl wh)), (mb, .inl (cI, 48, .inl bi)), (ms, .inl (cZ, 48, .inl si)), (mn, .inl (cJ, 6, .inr (.inl nu)))]) hP hD [0, 1, 2, 3, 4, 5] [] rfl rfl (by decide) (by decide) hk1 hFc hP1 hD1
        generalize H1 = H at hP hS ⊢
        have hP : va_P (dC, dI) cls3 [(hm, .inr (2, [.int (nI 0), .ref ml, .ref mw, .ref mb, .ref ms, .ref mn])), (ml, .inl (cI, 8, .inl ln)), (mw, .inl (cI, 512, .inl wh)), (mb, .inl (cI, 48, .inl bi)), (ms, .inl (cZ, 48, .inl si)), (mn, .inl (cJ, 6, .inr (.inl nu)))] H := hP
        have hD : va_D A [(hm, .inr (2, [.int (nI 0), .ref ml, .ref mw, .ref mb, .ref ms, .ref mn])), (ml, .inl (cI, 8, .inl ln)), (mw, .inl (cI, 512, .inl wh)), (mb, .inl (cI, 48, .inl bi)), (ms, .inl (cZ, 48, .inl si)), (mn, .inl (cJ, 6, .inr (.inl nu)))] := hD
        obtain rfl : v40 = nI 0 := e40
        refine lv_if_eq (tgt := 48) hx hb dM_encode_43 (by decide) (fun h43 => ?_) (fun h43 => ?_)
        · refine lv_iconst (v := nI 0) hx hb dM_encode_48 (by decide +kernel) ?_
          refine lv_istore_n hx hb dM_encode_49 rfl hl (by decide) rfl (fun ls hl => ?_)
          have hl : lv_has ls 7 [(2, .int (nI 0)), (0, .ref hm), (1, .int (nI f))] := hl
          refine (?_ : ∀ (kk : Nat) (o : Nat) (H : Heap) (locs : List Loc) (ls : Array Slot), kk = 6 - o → lv_has ls 7 [(2, .int (nI o)), (0, .ref hm), (1, .int (nI f))] → (o ≤ 6) → (allb (fun o => decide (wss f o = 0) || fitB (wss f o) (sbs f o) (nu o)) o = true) → va_P (dC, dI) cls3 [(hm, .inr (2, [.int (nI 0), .ref ml, .ref mw, .ref mb, .ref ms, .ref mn])), (ml, .inl (cI, 8, .inl ln)), (mw, .inl (cI, 512, .inl wh)), (mb, .inl (cI, 48, .inl bi)), (ms, .inl (cZ, 48, .inl si)), (mn, .inl (cJ, 6, .inr (.inl nu)))] H → va_D A [(hm, .inr (2, [.int (nI 0), .ref ml, .ref mw, .ref mb, .ref ms, .ref mn])), (ml, .inl (cI, 8, .inl ln)), (mw, .inl (cI, 512, .inl wh)), (mb, .inl (cI, 48, .inl bi)), (ms, .inl (cZ, 48, .inl si)), (mn, .inl (cJ, 6, .inr (.inl nu)))] → va_S A s.heap H locs → W p l e _ s m _ below meth c H locs _ _ _ (F0 m 50 ls [])) _ 0 _ _ ls rfl (lv_sub hl [0, 1, 2] rfl) (by omega) rfl hP hD hS
          intro kk
          induction kk using Nat.strongRecOn with
          | ind kk50 ih50 =>
            intro o H locs ls hkk50 hl ho ha hP hD hS
            refine lv_iload_n hx hb dM_encode_50 rfl (lv_at hl 0 rfl) ?_
            refine lv_bipush (v := nI 6) hx hb dM_encode_51 (by decide +kernel) ?_
            refine lv_icmp_ge (tgt := 101) hx hb dM_encode_53 (by decide) (fun h53 => ?_) (fun h53 => ?_)
            · rw [nI_leI (by omega) (by omega)] at h53
              have haf : afit (wss f) (sbs f) nu = true := by rw [show o = 6 by omega] at ha; exact ha
              refine lv_lconst (v := lN 0) hx hb dM_encode_101 (by decide +kernel) ?_
              refine lv_lstore_n hx hb dM_encode_102 rfl hl (by decide) rfl (fun ls hl => ?_)
              have hl : lv_has ls 7 [(2, .long (lN 0)), (0, .ref hm), (1, .int (nI f))] := hl
              refine lv_iconst (v := nI 0) hx hb dM_encode_103 (by decide +kernel) ?_
              refine lv_istore hx hb dM_encode_104 hl (by decide) rfl (fun ls hl => ?_)
              have hl : lv_has ls 7 [(4, .int (nI 0)), (2, .long (lN 0)), (0, .ref hm), (1, .int (nI f))] := hl
              refine (?_ : ∀ (kk : Nat) (j : Nat) (H : Heap) (locs : List Loc) (ls : Array Slot), kk = ns f - j → lv_has ls 7 [(4, .int (nI j)), (2, .long (lN (wrp (ebit (its f) nu) (ns f) j))), (0, .ref hm), (1, .int (nI f))] → (j ≤ ns f) → va_P (dC, dI) cls3 [(hm, .inr (2, [.int (nI 0), .ref ml, .ref mw, .ref mb, .ref ms, .ref mn])), (ml, .inl (cI, 8, .inl ln)), (mw, .inl (cI, 512, .inl wh)), (mb, .inl (cI, 48, .inl bi)), (ms, .inl (cZ, 48, .inl si)), (mn, .inl (cJ, 6, .inr (.inl nu)))] H → va_D A [(hm, .inr (2, [.int (nI 0), .ref ml, .ref mw, .ref mb, .ref ms, .ref mn])), (ml, .inl (cI, 8, .inl ln)), (mw, .inl (cI, 512, .inl wh)), (mb, .inl (cI, 48, .inl bi)), (ms, .inl (cZ, 48, .inl si)), (mn, .inl (cJ, 6, .inr (.inl nu)))] → va_S A s.heap H locs → W p l e _ s m _ below meth c H locs _ _ _ (F0 m 106 ls [])) _ 0 _ _ ls rfl (lv_sub hl [0, 1, 2, 3] rfl) (by omega) hP hD hS
              intro kk
              induction kk using Nat.strongRecOn with
              | ind kk106 ih106 =>
                intro j H locs ls hkk106 hl hj hP hD hS
                refine lv_iload hx hb dM_encode_106 (lv_at hl 0 rfl) ?_
                refine lv_aload_n hx hb dM_encode_108 rfl (lv_at hl 2 rfl) ?_
                refine va_get (D := (dC, dI)) (ci := 2) (v := .ref ml) (C := RM) (T := TM) (N := 6) hx hb hw inM hown hK hP 0 rfl rfl 1 (by decide) (hw _ kw_387) (fun _ h9 => h9) rfl dM_encode_109 ?_
                refine lv_iload_n hx hb dM_encode_112 rfl (lv_at hl 3 rfl) ?_
                refine va_iald hx hb hK hP 1 0 rfl rfl (vp_in_nI (by omega) (by decide)) dM_encode_113 ?_
                refine lv_topi (fun v113 e113 => ?_)
                rw [nI_clamp (by omega)] at e113
                obtain rfl : v113 = nI (ns f) := e113.trans (hM f hf).2.1
                refine lv_icmp_ge (tgt := 180) hx hb dM_encode_114 (by decide) (fun h114 => ?_) (fun h114 => ?_)
                · rw [nI_leI (by omega) (by omega)] at h114
                  refine lv_lload_n hx hb dM_encode_180 rfl (lv_at hl 1 rfl) ?_
                  have hcd : cdEnc ns its wss sbs nu (nI f) = 0 := by unfold cdEnc; first | (rw [h10]; rfl) | (rw [isF_nI hf, if_pos rfl, hff, if_neg (by omega)]) | (rw [isF_nI hf, if_pos rfl, hff, if_pos (by omega), b_ff (b := afit (wss f) (sbs f) nu) (fun q9 => absurd ((allb_iff _ 6).mp q9 o (by omega)) (by rw [decide_eq_false h63, (b_nat0 _).mp h78]; decide))]; rfl) | (rw [isF_nI hf, if_pos rfl, hff, if_pos (by omega), if_pos haf])
                  exact W.lret (v := lN (wrp (ebit (its f) nu) (ns f) j)) hx hb hr (fun t ht hW => ⟨⟨_, (), rfl, (by intro h0; first | exact absurd (hcd.symm.trans h0) (by decide) | (rw [hff, show j = ns f by omega, wrp_all])), by rw [ht, hcd]; exact hP, va_K.moved hW.alike hK, by rw [hcd]; exact hD⟩, hS.F ht⟩) hS.2.2 dM_encode_181
                · rw [nI_leI (by omega) (by omega)] at h114
                  have hij := hit (ns f - 1 - j) (by omega)
                  refine lv_aload_n hx hb dM_encode_117 rfl (lv_at hl 2 rfl) ?_
                  refine lv_iload_n hx hb dM_encode_118 rfl (lv_at hl 3 rfl) ?_
                  refine lv_iload hx hb dM_encode_119 (lv_at hl 0 rfl) ?_
                  refine vp_callSi (W.runV (As := [.int (nI f), .int (nI j)]) (rest := []) ⟨hx, hb, hml, hown, hw⟩ (c_M_at l dC dI cI cZ cJ hm ml mw mb ms mn (nI 0) ln wh bi si nu ns its wss sbs hM f j hf (by omega)) (cwV 2 hw (gV kw_480 kw_482 kw_11 kw_16 kw_483) rfl rfl rfl (by decide +kernel) ⟨Nat.le_of_ble_eq_true rfl, Nat.le_of_ble_eq_true rfl⟩) (ro_preV (q0 := 0) hK hP rfl rfl) rfl rfl hl.1 rfl (lv_room (Nat.le_of_ble_eq_true rfl)) dM_encode_121 ⟨Nat.zero_le _, Nat.zero_le _⟩) (fun v121 e121 => ?_)
                  obtain rfl : v121 = nI (its f (ns f - 1 - j)) := e121
                  refine lv_istore hx hb dM_encode_124 hl (by decide) rfl (fun ls hl => ?_)
                  have hl : lv_has ls 7 [(5, .int (nI (its f (ns f - 1 - j)))), (4, .int (nI j)), (2, .long (lN (wrp (ebit (its f) nu) (ns f) j))), (0, .ref hm), (1, .int (nI f))] := hl
                  refine lv_iload hx hb dM_encode_126 (lv_at hl 0 rfl) ?_
                  refine lv_iconst (v := nI 2) hx hb dM_encode_128 (by decide +kernel) ?_
                  refine lv_icmp_ge (tgt := 137) hx hb dM_encode_129 (by decide) (fun h129 => ?_) (fun h129 => ?_)
                  · rw [nI_leI (by omega) (by omega)] at h129
                    have h129 : ¬ its f (ns f - 1 - j) < 2 := by omega
                    refine lv_aload_n hx hb dM_encode_137 rfl (lv_at hl 3 rfl) ?_
                    refine va_get (D := (dC, dI)) (ci := 2) (v := .ref mn) (C := RM) (T := TM) (N := 6) hx hb hw inM hown hK hP 0 rfl rfl 5 (by decide) (hw _ kw_391) (fun _ h9 => h9) rfl dM_encode_138 ?_
                    refine lv_iload hx hb dM_encode_141 (lv_at hl 0 rfl) ?_
                    refine lv_iconst (v := nI 2) hx hb dM_encode_143 (by decide +kernel) ?_
                    refine lv_isub hx hb dM_encode_144 ?_
                    refine lv_topi (fun v144 e144 => ?_)
                    obtain rfl : v144 = nI (its f (ns f - 1 - j) - 2) := e144.trans (pk_sub (by omega))
                    refine lv_bipush (v := nI 64) hx hb dM_encode_145 (by decide +kernel) ?_
                    refine lv_idiv hx hb dM_encode_147 (by decide +kernel) ?_
                    refine lv_topi (fun v147 e147 => ?_)
                    obtain rfl : v147 = nI ((its f (ns f - 1 - j) - 2) / 64) := e147.trans (pk_div (by omega) (by decide) (by decide))
                    refine va_lald hx hb hK hP 5 2 rfl rfl (vp_in_nI (by omega) (by decide)) dM_encode_148 ?_
                    refine lv_topl (fun v148 e148 => ?_)
                    rw [nI_clamp (by omega)] at e148
                    obtain rfl : v148 = nu ((its f (ns f - 1 - j) - 2) / 64) := e148
                    refine lv_iload hx hb dM_encode_149 (lv_at hl 0 rfl) ?_
                    refine lv_iconst (v := nI 2) hx hb dM_encode_151 (by decide +kernel) ?_
                    refine lv_isub hx hb dM_encode_152 ?_
                    refine lv_topi (fun v152 e152 => ?_)
                    obtain rfl : v152 = nI (its f (ns f - 1 - j) - 2) := e152.trans (pk_sub (by omega))
                    refine lv_bipush (v := nI 64) hx hb dM_encode_153 (by decide +kernel) ?_
                    refine lv_irem hx hb dM_encode_155 (by decide +kernel) ?_
                    refine lv_topi (fun v155 e155 => ?_)
                    obtain rfl : v155 = nI ((its f (ns f - 1 - j) - 2) % 64) := e155.trans (pk_rem (by omega) (by decide) (by decide))
                    refine vp_callSi (W.runS (As := [.long (nu ((its f (ns f - 1 - j) - 2) / 64)), .int (nI ((its f (ns f - 1 - j) - 2) % 64))]) (rest := []) ⟨hx, hb, hml, hown, hw⟩ (c_M_bit l (nu ((its f (ns f - 1 - j) - 2) / 64)) ((its f (ns f - 1 - j) - 2) % 64) (by omega)) (cwS 2 hw (gS kw_441 kw_442 kw_16 kw_443) rfl rfl rfl (by decide +kernel) ⟨Nat.le_of_ble_eq_true rfl, Nat.le_of_ble_eq_true rfl⟩) preEq rfl rfl hl.1 rfl (lv_room (Nat.le_of_ble_eq_true rfl)) dM_encode_156 ⟨Nat.zero_le _, Nat.zero_le _⟩) (fun v156 e156 => ?_)
                    obtain rfl : v156 = nI (ebit (its f) nu (ns f - 1 - j)) := e156.trans (ebit_hi h129)
                    refine lv_istore hx hb dM_encode_159 hl (by decide) rfl (fun ls hl => ?_)
                    have hl : lv_has ls 7 [(6, .int (nI (ebit (its f) nu (ns f - 1 - j)))), (5, .int (nI (its f (ns f - 1 - j)))), (4, .int (nI j)), (2, .long (lN (wrp (ebit (its f) nu) (ns f) j))), (0, .ref hm), (1, .int (nI f))] := hl
                    refine lv_iload hx hb dM_encode_161 (lv_at hl 0 rfl) ?_
                    refine lv_iconst (v := nI 1) hx hb dM_encode_163 (by decide +kernel) ?_
                    refine lv_icmp_ne (tgt := 174) hx hb dM_encode_164 (by decide) (fun h164 => ?_) (fun h164 => ?_)
                    · have hb1 := ebit_lt (its f) nu (ns f - 1 - j)
                      rw [nI_eq (by omega) (by omega)] at h164
                      refine lv_iinc (k := 2) (v := nI (j + 1)) hx hb dM_encode_174 hl rfl (cw_inc _) (by decide) rfl (fun ls hl => ?_)
                      have hl : lv_has ls 7 [(4, .int (nI (j + 1))), (6, .int (nI (ebit (its f) nu (ns f - 1 - j)))), (5, .int (nI (its f (ns f - 1 - j)))), (2, .long (lN (wrp (ebit (its f) nu) (ns f) j))), (0, .ref hm), (1, .int (nI f))] := hl
                      refine lv_goto (tgt := 106) hx hb dM_encode_177 (by decide) ?_
                      exact ih106 _ (by omega) (j + 1) _ _ ls rfl (cw_lvx (lv_sub (l' := [(4, .int (nI (j + 1))), (2, .long (lN (wrp (ebit (its f) nu) (ns f) j))), (0, .ref hm), (1, .int (nI f))]) hl [0, 3, 4, 5] rfl) (by first | rfl | rw [wrp_stay (ebit (its f) nu) (ns f) (j := j) (by omega)])) (by omega) hP hD hS
                    · have hb1 := ebit_lt (its f) nu (ns f - 1 - j)
                      rw [nI_eq (by omega) (by omega)] at h164
                      refine lv_lload_n hx hb dM_encode_167 rfl (lv_at hl 3 rfl) ?_
                      refine lv_lconst (v := lN 1) hx hb dM_encode_168 (by decide +kernel) ?_
                      refine lv_iload hx hb dM_encode_169 (lv_at hl 2 rfl) ?_
                      refine lv_lshl hx hb dM_encode_171 rfl ?_
                      refine lv_topl (fun v171 e171 => ?_)
                      refine lv_lor hx hb dM_encode_172 ?_
                      refine lv_topl (fun v172 e172 => ?_)
                      obtain rfl : v172 = lN (wrp (ebit (its f) nu) (ns f) (j + 1)) := e172.trans (by rw [e171]; exact wrp_step _ _ (by omega) (by omega) (fun i _ => ebit_lt _ _ _) h164)
                      refine lv_lstore_n hx hb dM_encode_173 rfl hl (by decide) rfl (fun ls hl => ?_)
                      have hl : lv_has ls 7 [(2, .long (lN (wrp (ebit (its f) nu) (ns f) (j + 1)))), (6, .int (nI (ebit (its f) nu (ns f - 1 - j)))), (5, .int (nI (its f (ns f - 1 - j)))), (4, .int (nI j)), (0, .ref hm), (1, .int (nI f))] := hl
                      refine lv_iinc (k := 3) (v := nI (j + 1)) hx hb dM_encode_174 hl rfl (cw_inc _) (by decide) rfl (fun ls hl => ?_)
                      have hl : lv_has ls 7 [(4, .int (nI (j + 1))), (2, .long (lN (wrp (ebit (its f) nu) (ns f) (j + 1)))), (6, .int (nI (ebit (its f) nu (ns f - 1 - j)))), (5, .int (nI (its f (ns f - 1 - j)))), (0, .ref hm), (1, .int (nI f))] := hl
                      refine lv_goto (tgt := 106) hx hb dM_encode_177 (by decide) ?_
                      exact ih106 _ (by omega) (j + 1) _ _ ls rfl (cw_lvx (lv_sub (l' := [(4, .int (nI (j + 1))), (2, .long (lN (wrp (ebit (its f) nu) (ns f) (j + 1)))), (0, .ref hm), (1, .int (nI f))]) hl [0, 1, 4, 5] rfl) (by first | rfl | rw [wrp_stay (ebit (its f) nu) (ns f) (j := j) (by omega)])) (by omega) hP hD hS
                  · rw [nI_leI (by omega) (by omega)] at h129
                    have h129 : its f (ns f - 1 - j) < 2 := by omega
                    refine lv_iload hx hb dM_encode_132 (lv_at hl 0 rfl) ?_
                    refine lv_topi (fun w132 ew132 => ?_)
                    obtain rfl : w132 = nI (ebit (its f) nu (ns f - 1 - j)) := ew132.trans (by rw [← ebit_lo h129, cw_C_lo h129])
                    refine lv_goto (tgt := 159) hx hb dM_encode_134 (by decide) ?_
                    refine lv_istore hx hb dM_encode_159 hl (by decide) rfl (fun ls hl => ?_)
                    have hl : lv_has ls 7 [(6, .int (nI (ebit (its f) nu (ns f - 1 - j)))), (5, .int (nI (its f (ns f - 1 - j)))), (4, .int (nI j)), (2, .long (lN (wrp (ebit (its f) nu) (ns f) j))), (0, .ref hm), (1, .int (nI f))] := hl
                    refine lv_iload hx hb dM_encode_161 (lv_at hl 0 rfl) ?_
                    refine lv_iconst (v := nI 1) hx hb dM_encode_163 (by decide +kernel) ?_
                    refine lv_icmp_ne (tgt := 174) hx hb dM_encode_164 (by decide) (fun h164 => ?_) (fun h164 => ?_)
                    · have hb1 := ebit_lt (its f) nu (ns f - 1 - j)
                      rw [nI_eq (by omega) (by omega)] at h164
                      refine lv_iinc (k := 2) (v := nI (j + 1)) hx hb dM_encode_174 hl rfl (cw_inc _) (by decide) rfl (fun ls hl => ?_)
                      have hl : lv_has ls 7 [(4, .int (nI (j + 1))), (6, .int (nI (ebit (its f) nu (ns f - 1 - j)))), (5, .int (nI (its f (ns f - 1 - j)))), (2, .long (lN (wrp (ebit (its f) nu) (ns f) j))), (0, .ref hm), (1, .int (nI f))] := hl
                      refine lv_goto (tgt := 106) hx hb dM_encode_177 (by decide) ?_
                      exact ih106 _ (by omega) (j + 1) _ _ ls rfl (cw_lvx (lv_sub (l' := [(4, .int (nI (j + 1))), (2, .long (lN (wrp (ebit (its f) nu) (ns f) j))), (0, .ref hm), (1, .int (nI f))]) hl [0, 3, 4, 5] rfl) (by first | rfl | rw [wrp_stay (ebit (its f) nu) (ns f) (j := j) (by omega)])) (by omega) hP hD hS
                    · have hb1 := ebit_lt (its f) nu (ns f - 1 - j)
                      rw [nI_eq (by omega) (by omega)] at h164
                      refine lv_lload_n hx hb dM_encode_167 rfl (lv_at hl 3 rfl) ?_
                      refine lv_lconst (v := lN 1) hx hb dM_encode_168 (by decide +kernel) ?_
                      refine lv_iload hx hb dM_encode_169 (lv_at hl 2 rfl) ?_
                      refine lv_lshl hx hb dM_encode_171 rfl ?_
                      refine lv_topl (fun v171 e171 => ?_)
                      refine lv_lor hx hb dM_encode_172 ?_
                      refine lv_topl (fun v172 e172 => ?_)
                      obtain rfl : v172 = lN (wrp (ebit (its f) nu) (ns f) (j + 1)) := e172.trans (by rw [e171]; exact wrp_step _ _ (by omega) (by omega) (fun i _ => ebit_lt _ _ _) h164)
                      refine lv_lstore_n hx hb dM_encode_173 rfl hl (by decide) rfl (fun ls hl => ?_)
                      have hl : lv_has ls 7 [(2, .long (lN (wrp (ebit (its f) nu) (ns f) (j + 1)))), (6, .int (nI (ebit (its f) nu (ns f - 1 - j)))), (5, .int (nI (its f (ns f - 1 - j)))), (4, .int (nI j)), (0, .ref hm), (1, .int (nI f))] := hl
                      refine lv_iinc (k := 3) (v := nI (j + 1)) hx hb dM_encode_174 hl rfl (cw_inc _) (by decide) rfl (fun ls hl => ?_)
                      have hl : lv_has ls 7 [(4, .int (nI (j + 1))), (2, .long (lN (wrp (ebit (its f) nu) (ns f) (j + 1)))), (6, .int (nI (ebit (its f) nu (ns f - 1 - j)))), (5, .int (nI (its f (ns f - 1 - j)))), (0, .ref hm), (1, .int (nI f))] := hl
                      refine lv_goto (tgt := 106) hx hb dM_encode_177 (by decide) ?_
                      exact ih106 _ (by omega) (j + 1) _ _ ls rfl (cw_lvx (lv_sub (l' := [(4, .int (nI (j + 1))), (2, .long (lN (wrp (ebit (its f) nu) (ns f) (j + 1)))), (0, .ref hm), (1, .int (nI f))]) hl [0, 1, 4, 5] rfl) (by first | rfl | rw [wrp_stay (ebit (its f) nu) (ns f) (j := j) (by omega)])) (by omega) hP hD hS
            · rw [nI_leI (by omega) (by omega)] at h53
              refine lv_aload_n hx hb dM_encode_56 rfl (lv_at hl 1 rfl) ?_
              refine lv_aload_n hx hb dM_encode_57 rfl (lv_at hl 1 rfl) ?_
              refine lv_iload_n hx hb dM_encode_58 rfl (lv_at hl 2 rfl) ?_
              refine lv_iload_n hx hb dM_encode_59 rfl (lv_at hl 0 rfl) ?_
              refine vp_callSi (W.runV (As := [.int (nI f), .int (nI o)]) (rest := [.ref hm]) ⟨hx, hb, hml, hown, hw⟩ (c_M_many l dC dI cI cZ cJ hm ml mw mb ms mn (nI 0) ln wh bi si nu ns its wss sbs hM f o hf (by omega)) (cwV 2 hw (gV kw_433 kw_435 kw_6 kw_16 kw_436) rfl rfl rfl (by decide +kernel) ⟨Nat.le_of_ble_eq_true rfl, Nat.le_of_ble_eq_true rfl⟩) (ro_preV (q0 := 0) hK hP rfl rfl) rfl rfl hl.1 rfl (lv_room (Nat.le_of_ble_eq_true rfl)) dM_encode_60 ⟨Nat.zero_le _, Nat.zero_le _⟩) (fun v60 e60 => ?_)
              obtain rfl : v60 = nI (wss f o) := e60
              refine lv_if_le (tgt := 85) hx hb dM_encode_63 (by decide) (fun h63 => ?_) (fun h63 => ?_)
              · have hwo := hw64 o (by omega)
                rw [nI_le0 (by omega)] at h63
                refine lv_iconst (v := nI 0) hx hb dM_encode_85 (by decide +kernel) ?_
                refine lv_iconst (v := nI 3) hx hb dM_encode_86 (by decide +kernel) ?_
                have hPc := hP.sub (ws' := [(hm, .inr (2, [.int (nI 0), .ref ml, .ref mw, .ref mb, .ref ms, .ref mn])), (ml, .inl (cI, 8, .inl ln)), (mw, .inl (cI, 512, .inl wh)), (mb, .inl (cI, 48, .inl bi)), (ms, .inl (cZ, 48, .inl si)), (mn, .inl (cJ, 6, .inr (.inl nu)))]) [0, 1, 2, 3, 4, 5] rfl
                have hDc := hD.sub (ws' := [(hm, .inr (2, [.int (nI 0), .ref ml, .ref mw, .ref mb, .ref ms, .ref mn])), (ml, .inl (cI, 8, .inl ln)), (mw, .inl (cI, 512, .inl wh)), (mb, .inl (cI, 48, .inl bi)), (ms, .inl (cZ, 48, .inl si)), (mn, .inl (cJ, 6, .inr (.inl nu)))]) [0, 1, 2, 3, 4, 5] (by decide) rfl
                have hKc := hK.sub (tys' := [(cI, .int), (cZ, .boolean), (cJ, .long)]) [0, 1, 2] rfl
                have hFc := va_free (wc := [(hm, .inr (2, [.int (nI 0), .ref ml, .ref mw, .ref mb, .ref ms, .ref mn])), (ml, .inl (cI, 8, .inl ln)), (mw, .inl (cI, 512, .inl wh)), (mb, .inl (cI, 48, .inl bi)), (ms, .inl (cZ, 48, .inl si)), (mn, .inl (cJ, 6, .inr (.inl nu)))]) hD hS hA [0, 1, 2, 3, 4, 5] rfl
                refine va_calli (va_runV (As := [.int (nI 0), .int (nI 3)]) (rest := []) ⟨hx, hb, hml, hown, hw⟩ (c_M_fails0 l dC dI _ cI cZ cJ hm ml mw mb ms mn ln wh bi si nu 3 (by decide)) (cwV 2 hw (gV kw_420 kw_422 kw_5 kw_16 kw_423) rfl rfl rfl (by decide +kernel) ⟨Nat.le_of_ble_eq_true rfl, Nat.le_of_ble_eq_true rfl⟩) (rw_preV (q0 := 0) hKc hPc hDc rfl rfl) rfl rfl hl.1 rfl (lv_room (Nat.le_of_ble_eq_true rfl)) dM_encode_87 ⟨Nat.zero_le _, Nat.zero_le _⟩) hS (fun q _ h => hFc q h) hFc (fun v87 u t H1 locs ht hvm e87 hB hz1 hk1 hS => ?_)
                obtain ⟨hP1, hK1, hD1⟩ := hB
                rw [ht] at hP1
                obtain ⟨hP, hD⟩ := va_join (wr := []) (w1 := [(hm, .inr (2, [.int (nI 0), .ref ml, .ref mw, .ref mb, .ref ms, .ref mn])), (ml, .inl (cI, 8, .inl ln)), (mw, .inl (cI, 512, .inl wh)), (mb, .inl (cI, 48, .inl bi)), (ms, .inl (cZ, 48, .inl si)), (mn, .inl (cJ, 6, .inr (.inl nu)))]) hP hD [0, 1, 2, 3, 4, 5] [] rfl rfl (by decide) (by decide) hk1 hFc hP1 hD1
                generalize H1 = H at hP hS ⊢
                have hP : va_P (dC, dI) cls3 [(hm, .inr (2, [.int (nI 0), .ref ml, .ref mw, .ref mb, .ref ms, .ref mn])), (ml, .inl (cI, 8, .inl ln)), (mw, .inl (cI, 512, .inl wh)), (mb, .inl (cI, 48, .inl bi)), (ms, .inl (cZ, 48, .inl si)), (mn, .inl (cJ, 6, .inr (.inl nu)))] H := hP
                have hD : va_D A [(hm, .inr (2, [.int (nI 0), .ref ml, .ref mw, .ref mb, .ref ms, .ref mn])), (ml, .inl (cI, 8, .inl ln)), (mw, .inl (cI, 512, .inl wh)), (mb, .inl (cI, 48, .inl bi)), (ms, .inl (cZ, 48, .inl si)), (mn, .inl (cJ, 6, .inr (.inl nu)))] := hD
                obtain rfl : v87 = nI 0 := e87
                refine lv_if_eq (tgt := 95) hx hb dM_encode_90 (by decide) (fun h90 => ?_) (fun h90 => ?_)
                · refine lv_iinc (k := 0) (v := nI (o + 1)) hx hb dM_encode_95 hl rfl (cw_inc _) (by decide) rfl (fun ls hl => ?_)
                  have hl : lv_has ls 7 [(2, .int (nI (o + 1))), (0, .ref hm), (1, .int (nI f))] := hl
                  refine lv_goto (tgt := 50) hx hb dM_encode_98 (by decide) ?_
                  exact ih50 _ (by omega) (o + 1) _ _ ls rfl (lv_sub (l' := [(2, .int (nI (o + 1))), (0, .ref hm), (1, .int (nI f))]) hl [0, 1, 2] rfl) (by omega) (by simp only [allb, ha, Bool.true_and]; first | (rw [decide_eq_true h63, Bool.true_or]) | (rw [b_nf h78, Bool.or_true])) hP hD hS
                · exfalso
                  first | exact h90 (by decide +kernel) | exact absurd h90 (by decide +kernel)
              · have hwo := hw64 o (by omega)
                rw [nI_le0 (by omega)] at h63
                refine lv_aload_n hx hb dM_encode_66 rfl (lv_at hl 1 rfl) ?_
                refine lv_iload_n hx hb dM_encode_67 rfl (lv_at hl 2 rfl) ?_
                refine lv_iload_n hx hb dM_encode_68 rfl (lv_at hl 0 rfl) ?_
                refine lv_aload_n hx hb dM_encode_69 rfl (lv_at hl 1 rfl) ?_
                refine va_get (D := (dC, dI)) (ci := 2) (v := .ref mn) (C := RM) (T := TM) (N := 6) hx hb hw inM hown hK hP 0 rfl rfl 5 (by decide) (hw _ kw_391) (fun _ h9 => h9) rfl dM_encode_70 ?_
                refine lv_iload_n hx hb dM_encode_73 rfl (lv_at hl 0 rfl) ?_
                refine va_lald hx hb hK hP 5 2 rfl rfl (vp_in_nI (by omega) (by decide)) dM_encode_74 ?_
                refine lv_topl (fun v74 e74 => ?_)
                rw [nI_clamp (by omega)] at e74
                obtain rfl : v74 = nu o := e74
                refine vp_callSi (W.runV (As := [.int (nI f), .int (nI o), .long (nu o)]) (rest := [.ref hm]) ⟨hx, hb, hml, hown, hw⟩ (c_M_holds l dC dI cI cZ cJ hm ml mw mb ms mn (nI 0) ln wh bi si nu ns its wss sbs hM f o (nu o) hf (by omega) (by omega)) (cwV 3 hw (gV kw_472 kw_474 kw_10 kw_16 kw_475) rfl rfl rfl (by decide +kernel) ⟨Nat.le_of_ble_eq_true rfl, Nat.le_of_ble_eq_true rfl⟩) (ro_preV (q0 := 0) hK hP rfl rfl) rfl rfl hl.1 rfl (lv_room (Nat.le_of_ble_eq_true rfl)) dM_encode_75 ⟨Nat.zero_le _, Nat.zero_le _⟩) (fun v75 e75 => ?_)
                obtain rfl : v75 = nI (fitB (wss f o) (sbs f o) (nu o)).toNat := e75
                refine lv_if_ne (tgt := 85) hx hb dM_encode_78 (by decide) (fun h78 => ?_) (fun h78 => ?_)
                · refine lv_iconst (v := nI 0) hx hb dM_encode_85 (by decide +kernel) ?_
                  refine lv_iconst (v := nI 3) hx hb dM_encode_86 (by decide +kernel) ?_
                  have hPc := hP.sub (ws' := [(hm, .inr (2, [.int (nI 0), .ref ml, .ref mw, .ref mb, .ref ms, .ref mn])), (ml, .inl (cI, 8, .inl ln)), (mw, .inl (cI, 512, .inl wh)), (mb, .inl (cI, 48, .inl bi)), (ms, .inl (cZ, 48, .inl si)), (mn, .inl (cJ, 6, .inr (.inl nu)))]) [0, 1, 2, 3, 4, 5] rfl
                  have hDc := hD.sub (ws' := [(hm, .inr (2, [.int (nI 0), .ref ml, .ref mw, .ref mb, .ref ms, .ref mn])), (ml, .inl (cI, 8, .inl ln)), (mw, .inl (cI, 512, .inl wh)), (mb, .inl (cI, 48, .inl bi)), (ms, .inl (cZ, 48, .inl si)), (mn, .inl (cJ, 6, .inr (.inl nu)))]) [0, 1, 2, 3, 4, 5] (by decide) rfl
                  have hKc := hK.sub (tys' := [(cI, .int), (cZ, .boolean), (cJ, .long)]) [0, 1, 2] rfl
                  have hFc := va_free (wc := [(hm, .inr (2, [.int (nI 0), .ref ml, .ref mw, .ref mb, .ref ms, .ref mn])), (ml, .inl (cI, 8, .inl ln)), (mw, .inl (cI, 512, .inl wh)), (mb, .inl (cI, 48, .inl bi)), (ms, .inl (cZ, 48, .inl si)), (mn, .inl (cJ, 6, .inr (.inl nu)))]) hD hS hA [0, 1, 2, 3, 4, 5] rfl
                  refine va_calli (va_runV (As := [.int (nI 0), .int (nI 3)]) (rest := []) ⟨hx, hb, hml, hown, hw⟩ (c_M_fails0 l dC dI _ cI cZ cJ hm ml mw mb ms mn ln wh bi si nu 3 (by decide)) (cwV 2 hw (gV kw_420 kw_422 kw_5 kw_16 kw_423) rfl rfl rfl (by decide +kernel) ⟨Nat.le_of_ble_eq_true rfl, Nat.le_of_ble_eq_true rfl⟩) (rw_preV (q0 := 0) hKc hPc hDc rfl rfl) rfl rfl hl.1 rfl (lv_room (Nat.le_of_ble_eq_true rfl)) dM_encode_87 ⟨Nat.zero_le _, Nat.zero_le _⟩) hS (fun q _ h => hFc q h) hFc (fun v87 u t H1 locs ht hvm e87 hB hz1 hk1 hS => ?_)
                  obtain ⟨hP1, hK1, hD1⟩ := hB
                  rw [ht] at hP1
                  obtain ⟨hP, hD⟩ := va_join (wr := []) (w1 := [(hm, .inr (2, [.int (nI 0), .ref ml, .ref mw, .ref mb, .ref ms, .ref mn])), (ml, .inl (cI, 8, .inl ln)), (mw, .inl (cI, 512, .inl wh)), (mb, .inl (cI, 48, .inl bi)), (ms, .inl (cZ, 48, .inl si)), (mn, .inl (cJ, 6, .inr (.inl nu)))]) hP hD [0, 1, 2, 3, 4, 5] [] rfl rfl (by decide) (by decide) hk1 hFc hP1 hD1
                  generalize H1 = H at hP hS ⊢
                  have hP : va_P (dC, dI) cls3 [(hm, .inr (2, [.int (nI 0), .ref ml, .ref mw, .ref mb, .ref ms, .ref mn])), (ml, .inl (cI, 8, .inl ln)), (mw, .inl (cI, 512, .inl wh)), (mb, .inl (cI, 48, .inl bi)), (ms, .inl (cZ, 48, .inl si)), (mn, .inl (cJ, 6, .inr (.inl nu)))] H := hP
                  have hD : va_D A [(hm, .inr (2, [.int (nI 0), .ref ml, .ref mw, .ref mb, .ref ms, .ref mn])), (ml, .inl (cI, 8, .inl ln)), (mw, .inl (cI, 512, .inl wh)), (mb, .inl (cI, 48, .inl bi)), (ms, .inl (cZ, 48, .inl si)), (mn, .inl (cJ, 6, .inr (.inl nu)))] := hD
                  obtain rfl : v87 = nI 0 := e87
                  refine lv_if_eq (tgt := 95) hx hb dM_encode_90 (by decide) (fun h90 => ?_) (fun h90 => ?_)
                  · refine lv_iinc (k := 0) (v := nI (o + 1)) hx hb dM_encode_95 hl rfl (cw_inc _) (by decide) rfl (fun ls hl => ?_)
                    have hl : lv_has ls 7 [(2, .int (nI (o + 1))), (0, .ref hm), (1, .int (nI f))] := hl
                    refine lv_goto (tgt := 50) hx hb dM_encode_98 (by decide) ?_
                    exact ih50 _ (by omega) (o + 1) _ _ ls rfl (lv_sub (l' := [(2, .int (nI (o + 1))), (0, .ref hm), (1, .int (nI f))]) hl [0, 1, 2] rfl) (by omega) (by simp only [allb, ha, Bool.true_and]; first | (rw [decide_eq_true h63, Bool.true_or]) | (rw [b_nf h78, Bool.or_true])) hP hD hS
                  · exfalso
                    first | exact h90 (by decide +kernel) | exact absurd h90 (by decide +kernel)
                · refine lv_iconst (v := nI 1) hx hb dM_encode_81 (by decide +kernel) ?_
                  refine lv_goto (tgt := 86) hx hb dM_encode_82 (by decide) ?_
                  refine lv_iconst (v := nI 3) hx hb dM_encode_86 (by decide +kernel) ?_
                  have hPc := hP.sub (ws' := [(hm, .inr (2, [.int (nI 0), .ref ml, .ref mw, .ref mb, .ref ms, .ref mn])), (ml, .inl (cI, 8, .inl ln)), (mw, .inl (cI, 512, .inl wh)), (mb, .inl (cI, 48, .inl bi)), (ms, .inl (cZ, 48, .inl si)), (mn, .inl (cJ, 6, .inr (.inl nu)))]) [0, 1, 2, 3, 4, 5] rfl
                  have hDc := hD.sub (ws' := [(hm, .inr (2, [.int (nI 0), .ref ml, .ref mw, .ref mb, .ref ms, .ref mn])), (ml, .inl (cI, 8, .inl ln)), (mw, .inl (cI, 512, .inl wh)), (mb, .inl (cI, 48, .inl bi)), (ms, .inl (cZ, 48, .inl si)), (mn, .inl (cJ, 6, .inr (.inl nu)))]) [0, 1, 2, 3, 4, 5] (by decide) rfl
                  have hKc := hK.sub (tys' := [(cI, .int), (cZ, .boolean), (cJ, .long)]) [0, 1, 2] rfl
                  have hFc := va_free (wc := [(hm, .inr (2, [.int (nI 0), .ref ml, .ref mw, .ref mb, .ref ms, .ref mn])), (ml, .inl (cI, 8, .inl ln)), (mw, .inl (cI, 512, .inl wh)), (mb, .inl (cI, 48, .inl bi)), (ms, .inl (cZ, 48, .inl si)), (mn, .inl (cJ, 6, .inr (.inl nu)))]) hD hS hA [0, 1, 2, 3, 4, 5] rfl
                  refine va_calli (va_runV (As := [.int (nI 1), .int (nI 3)]) (rest := []) ⟨hx, hb, hml, hown, hw⟩ (c_M_fails1 l dC dI _ cI cZ cJ hm ml mw mb ms mn ln wh bi si nu 3 (by decide)) (cwV 2 hw (gV kw_420 kw_422 kw_5 kw_16 kw_423) rfl rfl rfl (by decide +kernel) ⟨Nat.le_of_ble_eq_true rfl, Nat.le_of_ble_eq_true rfl⟩) (rw_preV (q0 := 0) hKc hPc hDc rfl rfl) rfl rfl hl.1 rfl (lv_room (Nat.le_of_ble_eq_true rfl)) dM_encode_87 ⟨Nat.zero_le _, Nat.zero_le _⟩) hS (fun q _ h => hFc q h) hFc (fun v87 u t H1 locs ht hvm e87 hB hz1 hk1 hS => ?_)
                  obtain ⟨hP1, hK1, hD1⟩ := hB
                  rw [ht] at hP1
                  obtain ⟨hP, hD⟩ := va_join (wr := []) (w1 := [(hm, .inr (2, [.int (nI 3), .ref ml, .ref mw, .ref mb, .ref ms, .ref mn])), (ml, .inl (cI, 8, .inl ln)), (mw, .inl (cI, 512, .inl wh)), (mb, .inl (cI, 48, .inl bi)), (ms, .inl (cZ, 48, .inl si)), (mn, .inl (cJ, 6, .inr (.inl nu)))]) hP hD [0, 1, 2, 3, 4, 5] [] rfl rfl (by decide) (by decide) hk1 hFc hP1 hD1
                  generalize H1 = H at hP hS ⊢
                  have hP : va_P (dC, dI) cls3 [(hm, .inr (2, [.int (nI 3), .ref ml, .ref mw, .ref mb, .ref ms, .ref mn])), (ml, .inl (cI, 8, .inl ln)), (mw, .inl (cI, 512, .inl wh)), (mb, .inl (cI, 48, .inl bi)), (ms, .inl (cZ, 48, .inl si)), (mn, .inl (cJ, 6, .inr (.inl nu)))] H := hP
                  have hD : va_D A [(hm, .inr (2, [.int (nI 3), .ref ml, .ref mw, .ref mb, .ref ms, .ref mn])), (ml, .inl (cI, 8, .inl ln)), (mw, .inl (cI, 512, .inl wh)), (mb, .inl (cI, 48, .inl bi)), (ms, .inl (cZ, 48, .inl si)), (mn, .inl (cJ, 6, .inr (.inl nu)))] := hD
                  obtain rfl : v87 = nI 1 := e87
                  refine lv_if_eq (tgt := 95) hx hb dM_encode_90 (by decide) (fun h90 => ?_) (fun h90 => ?_)
                  · exfalso
                    first | exact h90 (by decide +kernel) | exact absurd h90 (by decide +kernel)
                  · refine lv_lconst (v := lN 0) hx hb dM_encode_93 (by decide +kernel) ?_
                    have hcd : cdEnc ns its wss sbs nu (nI f) = 3 := by unfold cdEnc; first | (rw [h10]; rfl) | (rw [isF_nI hf, if_pos rfl, hff, if_neg (by omega)]) | (rw [isF_nI hf, if_pos rfl, hff, if_pos (by omega), b_ff (b := afit (wss f) (sbs f) nu) (fun q9 => absurd ((allb_iff _ 6).mp q9 o (by omega)) (by rw [decide_eq_false h63, (b_nat0 _).mp h78]; decide))]; rfl) | (rw [isF_nI hf, if_pos rfl, hff, if_pos (by omega), if_pos haf])
                    exact W.lret (v := lN 0) hx hb hr (fun t ht hW => ⟨⟨_, (), rfl, (by intro h0; first | exact absurd (hcd.symm.trans h0) (by decide) | (rw [hff, show j = ns f by omega, wrp_all])), by rw [ht, hcd]; exact hP, va_K.moved hW.alike hK, by rw [hcd]; exact hD⟩, hS.F ht⟩) hS.2.2 dM_encode_94
        · exfalso
          first | exact h43 (by decide +kernel) | exact absurd h43 (by decide +kernel)
      · rw [nI_le0 (by omega)] at h31
        refine lv_iconst (v := nI 1) hx hb dM_encode_34 (by decide +kernel) ?_
        refine lv_goto (tgt := 39) hx hb dM_encode_35 (by decide) ?_
        refine lv_iconst (v := nI 2) hx hb dM_encode_39 (by decide +kernel) ?_
        have hPc := hP.sub (ws' := [(hm, .inr (2, [.int (nI 0), .ref ml, .ref mw, .ref mb, .ref ms, .ref mn])), (ml, .inl (cI, 8, .inl ln)), (mw, .inl (cI, 512, .inl wh)), (mb, .inl (cI, 48, .inl bi)), (ms, .inl (cZ, 48, .inl si)), (mn, .inl (cJ, 6, .inr (.inl nu)))]) [0, 1, 2, 3, 4, 5] rfl
        have hDc := hD.sub (ws' := [(hm, .inr (2, [.int (nI 0), .ref ml, .ref mw, .ref mb, .ref ms, .ref mn])), (ml, .inl (cI, 8, .inl ln)), (mw, .inl (cI, 512, .inl wh)), (mb, .inl (cI, 48, .inl bi)), (ms, .inl (cZ, 48, .inl si)), (mn, .inl (cJ, 6, .inr (.inl nu)))]) [0, 1, 2, 3, 4, 5] (by decide) rfl
        have hKc := hK.sub (tys' := [(cI, .int), (cZ, .boolean), (cJ, .long)]) [0, 1, 2] rfl
        have hFc := va_free (wc := [(hm, .inr (2, [.int (nI 0), .ref ml, .ref mw, .ref mb, .ref ms, .ref mn])), (ml, .inl (cI, 8, .inl ln)), (mw, .inl (cI, 512, .inl wh)), (mb, .inl (cI, 48, .inl bi)), (ms, .inl (cZ, 48, .inl si)), (mn, .inl (cJ, 6, .inr (.inl nu)))]) hD hS hA [0, 1, 2, 3, 4, 5] rfl
        refine va_calli (va_runV (As := [.int (nI 1), .int (nI 2)]) (rest := []) ⟨hx, hb, hml, hown, hw⟩ (c_M_fails1 l dC dI _ cI cZ cJ hm ml mw mb ms mn ln wh bi si nu 2 (by decide)) (cwV 2 hw (gV kw_420 kw_422 kw_5 kw_16 kw_423) rfl rfl rfl (by decide +kernel) ⟨Nat.le_of_ble_eq_true rfl, Nat.le_of_ble_eq_true rfl⟩) (rw_preV (q0 := 0) hKc hPc hDc rfl rfl) rfl rfl hl.1 rfl (lv_room (Nat.le_of_ble_eq_true rfl)) dM_encode_40 ⟨Nat.zero_le _, Nat.zero_le _⟩) hS (fun q _ h => hFc q h) hFc (fun v40 u t H1 locs ht hvm e40 hB hz1 hk1 hS => ?_)
        obtain ⟨hP1, hK1, hD1⟩ := hB
        rw [ht] at hP1
        obtain ⟨hP, hD⟩ := va_join (wr := []) (w1 := [(hm, .inr (2, [.int (nI 2), .ref ml, .ref mw, .ref mb, .ref ms, .ref mn])), (ml, .inl (cI, 8, .inl ln)), (mw, .inl (cI, 512, .inl wh)), (mb, .inl (cI, 48, .inl bi)), (ms, .inl (cZ, 48, .inl si)), (mn, .inl (cJ, 6, .inr (.inl nu)))]) hP hD [0, 1, 2, 3, 4, 5] [] rfl rfl (by decide) (by decide) hk1 hFc hP1 hD1
        generalize H1 = H at hP hS ⊢
        have hP : va_P (dC, dI) cls3 [(hm, .inr (2, [.int (nI 2), .ref ml, .ref mw, .ref mb, .ref ms, .ref mn])), (ml, .inl (cI, 8, .inl ln)), (mw, .inl (cI, 512, .inl wh)), (mb, .inl (cI, 48, .inl bi)), (ms, .inl (cZ, 48, .inl si)), (mn, .inl (cJ, 6, .inr (.inl nu)))] H := hP
        have hD : va_D A [(hm, .inr (2, [.int (nI 2), .ref ml, .ref mw, .ref mb, .ref ms, .ref mn])), (ml, .inl (cI, 8, .inl ln)), (mw, .inl (cI, 512, .inl wh)), (mb, .inl (cI, 48, .inl bi)), (ms, .inl (cZ, 48, .inl si)), (mn, .inl (cJ, 6, .inr (.inl nu)))] := hD
        obtain rfl : v40 = nI 1 := e40
        refine lv_if_eq (tgt := 48) hx hb dM_encode_43 (by decide) (fun h43 => ?_) (fun h43 => ?_)
        · exfalso
          first | exact h43 (by decide +kernel) | exact absurd h43 (by decide +kernel)
        · refine lv_lconst (v := lN 0) hx hb dM_encode_46 (by decide +kernel) ?_
          have hcd : cdEnc ns its wss sbs nu (nI f) = 2 := by unfold cdEnc; first | (rw [h10]; rfl) | (rw [isF_nI hf, if_pos rfl, hff, if_neg (by omega)]) | (rw [isF_nI hf, if_pos rfl, hff, if_pos (by omega), b_ff (b := afit (wss f) (sbs f) nu) (fun q9 => absurd ((allb_iff _ 6).mp q9 o (by omega)) (by rw [decide_eq_false h63, (b_nat0 _).mp h78]; decide))]; rfl) | (rw [isF_nI hf, if_pos rfl, hff, if_pos (by omega), if_pos haf])
          exact W.lret (v := lN 0) hx hb hr (fun t ht hW => ⟨⟨_, (), rfl, (by intro h0; first | exact absurd (hcd.symm.trans h0) (by decide) | (rw [hff, show j = ns f by omega, wrp_all])), by rw [ht, hcd]; exact hP, va_K.moved hW.alike hK, by rw [hcd]; exact hD⟩, hS.F ht⟩) hS.2.2 dM_encode_47
  · rw [b_nat0] at h10
    refine lv_iconst (v := nI 1) hx hb dM_encode_13 (by decide +kernel) ?_
    refine lv_goto (tgt := 18) hx hb dM_encode_14 (by decide) ?_
    refine lv_iconst (v := nI 1) hx hb dM_encode_18 (by decide +kernel) ?_
    have hPc := hP.sub (ws' := [(hm, .inr (2, [.int (nI 0), .ref ml, .ref mw, .ref mb, .ref ms, .ref mn])), (ml, .inl (cI, 8, .inl ln)), (mw, .inl (cI, 512, .inl wh)), (mb, .inl (cI, 48, .inl bi)), (ms, .inl (cZ, 48, .inl si)), (mn, .inl (cJ, 6, .inr (.inl nu)))]) [0, 1, 2, 3, 4, 5] rfl
    have hDc := hD.sub (ws' := [(hm, .inr (2, [.int (nI 0), .ref ml, .ref mw, .ref mb, .ref ms, .ref mn])), (ml, .inl (cI, 8, .inl ln)), (mw, .inl (cI, 512, .inl wh)), (mb, .inl (cI, 48, .inl bi)), (ms, .inl (cZ, 48, .inl si)), (mn, .inl (cJ, 6, .inr (.inl nu)))]) [0, 1, 2, 3, 4, 5] (by decide) rfl
    have hKc := hK.sub (tys' := [(cI, .int), (cZ, .boolean), (cJ, .long)]) [0, 1, 2] rfl
    have hFc := va_free (wc := [(hm, .inr (2, [.int (nI 0), .ref ml, .ref mw, .ref mb, .ref ms, .ref mn])), (ml, .inl (cI, 8, .inl ln)), (mw, .inl (cI, 512, .inl wh)), (mb, .inl (cI, 48, .inl bi)), (ms, .inl (cZ, 48, .inl si)), (mn, .inl (cJ, 6, .inr (.inl nu)))]) hD hS hA [0, 1, 2, 3, 4, 5] rfl
    refine va_calli (va_runV (As := [.int (nI 1), .int (nI 1)]) (rest := []) ⟨hx, hb, hml, hown, hw⟩ (c_M_fails1 l dC dI _ cI cZ cJ hm ml mw mb ms mn ln wh bi si nu 1 (by decide)) (cwV 2 hw (gV kw_420 kw_422 kw_5 kw_16 kw_423) rfl rfl rfl (by decide +kernel) ⟨Nat.le_of_ble_eq_true rfl, Nat.le_of_ble_eq_true rfl⟩) (rw_preV (q0 := 0) hKc hPc hDc rfl rfl) rfl rfl hl.1 rfl (lv_room (Nat.le_of_ble_eq_true rfl)) dM_encode_19 ⟨Nat.zero_le _, Nat.zero_le _⟩) hS (fun q _ h => hFc q h) hFc (fun v19 u t H1 locs ht hvm e19 hB hz1 hk1 hS => ?_)
    obtain ⟨hP1, hK1, hD1⟩ := hB
    rw [ht] at hP1
    obtain ⟨hP, hD⟩ := va_join (wr := []) (w1 := [(hm, .inr (2, [.int (nI 1), .ref ml, .ref mw, .ref mb, .ref ms, .ref mn])), (ml, .inl (cI, 8, .inl ln)), (mw, .inl (cI, 512, .inl wh)), (mb, .inl (cI, 48, .inl bi)), (ms, .inl (cZ, 48, .inl si)), (mn, .inl (cJ, 6, .inr (.inl nu)))]) hP hD [0, 1, 2, 3, 4, 5] [] rfl rfl (by decide) (by decide) hk1 hFc hP1 hD1
    generalize H1 = H at hP hS ⊢
    have hP : va_P (dC, dI) cls3 [(hm, .inr (2, [.int (nI 1), .ref ml, .ref mw, .ref mb, .ref ms, .ref mn])), (ml, .inl (cI, 8, .inl ln)), (mw, .inl (cI, 512, .inl wh)), (mb, .inl (cI, 48, .inl bi)), (ms, .inl (cZ, 48, .inl si)), (mn, .inl (cJ, 6, .inr (.inl nu)))] H := hP
    have hD : va_D A [(hm, .inr (2, [.int (nI 1), .ref ml, .ref mw, .ref mb, .ref ms, .ref mn])), (ml, .inl (cI, 8, .inl ln)), (mw, .inl (cI, 512, .inl wh)), (mb, .inl (cI, 48, .inl bi)), (ms, .inl (cZ, 48, .inl si)), (mn, .inl (cJ, 6, .inr (.inl nu)))] := hD
    obtain rfl : v19 = nI 1 := e19
    refine lv_if_ne (tgt := 46) hx hb dM_encode_22 (by decide) (fun h22 => ?_) (fun h22 => ?_)
    · refine lv_lconst (v := lN 0) hx hb dM_encode_46 (by decide +kernel) ?_
      have hcd : cdEnc ns its wss sbs nu x = 1 := by unfold cdEnc; first | (rw [h10]; rfl) | (rw [isF_nI hf, if_pos rfl, hff, if_neg (by omega)]) | (rw [isF_nI hf, if_pos rfl, hff, if_pos (by omega), b_ff (b := afit (wss f) (sbs f) nu) (fun q9 => absurd ((allb_iff _ 6).mp q9 o (by omega)) (by rw [decide_eq_false h63, (b_nat0 _).mp h78]; decide))]; rfl) | (rw [isF_nI hf, if_pos rfl, hff, if_pos (by omega), if_pos haf])
      exact W.lret (v := lN 0) hx hb hr (fun t ht hW => ⟨⟨_, (), rfl, (by intro h0; first | exact absurd (hcd.symm.trans h0) (by decide) | (rw [hff, show j = ns f by omega, wrp_all])), by rw [ht, hcd]; exact hP, va_K.moved hW.alike hK, by rw [hcd]; exact hD⟩, hS.F ht⟩) hS.2.2 dM_encode_47
    · exfalso
      first | exact h22 (by decide +kernel) | exact absurd h22 (by decide +kernel)
end
section
theorem sl_of {zh zl : Int32} {w : Nat} (hw : w ≤ 64) (h1 : ¬ zl < 0) (h2 : zl ≤ zh) (h3 : zh < nI w) : ∃ hi lo, hi < w ∧ lo ≤ hi ∧ zh = nI hi ∧ zl = nI lo := by
  have a1 : 0 ≤ zl.toInt := by
    have := Int32.not_lt.mp h1
    simpa using Int32.le_iff_toInt_le.mp this
  have a2 := Int32.le_iff_toInt_le.mp h2
  have a3 := Int32.lt_iff_toInt_lt.mp h3
  rw [nI_toInt (by omega)] at a3
  exact ⟨zh.toInt.toNat, zl.toInt.toNat, by omega, by omega, toI_of (by omega) (by omega), toI_of (by omega) (by omega)⟩
theorem lft1_0 {it : Nat → Nat} {n o : Nat} : ∀ K, cw_lft1 it n o K = 0 → ∀ k, k < K → cw_has it (2 + 64 * o + k) n = true := by
  intro K
  induction K with
  | zero => intro _ k hk; omega
  | succ K ih =>
    intro h k hk
    simp only [cw_lft1] at h
    by_cases e : k = K
    · subst e
      cases hh : cw_has it (2 + 64 * o + k) n with
      | true => rfl
      | false => rw [hh] at h; simp at h
    · exact ih (by omega) k (by omega)
theorem lft_0 {it w : Nat → Nat} {n : Nat} : ∀ O, cw_lft it n w O = 0 → ∀ o k, o < O → k < w o → cw_has it (2 + 64 * o + k) n = true := by
  intro O
  induction O with
  | zero => intro _ o k ho; omega
  | succ O ih =>
    intro h o k ho hk
    simp only [cw_lft] at h
    by_cases e : o = O
    · subst e; exact lft1_0 (w o) (by omega) k hk
    · exact ih (by omega) o k (by omega) hk
theorem plR_has {it : Nat → Nat} {n x : Nat} {r : Int32} (h : plR it n x r) (hh : cw_has it x n = true) : ∃ j, j < n ∧ it j = x ∧ r = nI j := by
  rcases h with h | ⟨h, -⟩
  · exact h
  · obtain ⟨j, h1, h2⟩ := (cw_has_iff _ _ _).mp hh
    exact absurd h2 (h j h1)
/-- the number so far: its k lowest bits are told, the others are 0 -/
def dcI (it : Nat → Nat) (n w : Nat) (sg : Bool) (o : Nat) (wo : Int64) (k : Nat) (x : Int64) : Prop :=
  (∀ q, q < k → ∀ j, j < n → it j = 2 + 64 * o + (if q < w then q else w - 1) → bq x q = if q < w ∨ sg = true then bq wo (n - 1 - j) else 0) ∧ ∀ q, k ≤ q → q < 64 → bq x q = 0
theorem dcI_0 (it : Nat → Nat) (n w : Nat) (sg : Bool) (o : Nat) (wo : Int64) : dcI it n w sg o wo 0 (lN 0) :=
  ⟨fun q hq => by omega, fun q _ _ => by rw [bq_lN (by decide)]; simp⟩
theorem dcI_z {it w : Nat → Nat} {n : Nat} {sg : Bool} {o : Nat} {wo : Int64} {k : Nat} {x : Int64} (hok : cw_ok it n w) (h : dcI it n (w o) sg o wo k x) (hk : k < 64) {j : Nat} (hj : j < n) (e : it j = 2 + 64 * o + (if k < w o then k else w o - 1)) (hb : bq wo (n - 1 - j) = 0) : dcI it n (w o) sg o wo (k + 1) x := by
  refine ⟨fun q hq i hi ei => ?_, fun q h1 h2 => h.2 q (by omega) h2⟩
  by_cases c : q = k
  · subst c
    have : i = j := hok.2.2.2 i j hi hj (by omega) (by omega)
    rw [h.2 q (Nat.le_refl _) hk, this, hb]
    split <;> rfl
  · exact h.1 q (by omega) i hi ei
theorem dcI_o {it w : Nat → Nat} {n : Nat} {sg : Bool} {o : Nat} {wo : Int64} {k : Nat} {x : Int64} (hok : cw_ok it n w) (h : dcI it n (w o) sg o wo k x) (hk : k < 64) {j : Nat} (hj : j < n) (e : it j = 2 + 64 * o + (if k < w o then k else w o - 1)) (hc : k < w o ∨ sg = true) (hb : bq wo (n - 1 - j) = 1) :
    dcI it n (w o) sg o wo (k + 1) (x ||| (lN 1 <<< ((nI k).toInt64 &&& 63))) := by
  have hq1 : ∀ q, q ≠ k → bq (x ||| (lN 1 <<< ((nI k).toInt64 &&& 63))) q = bq x q := by
    intro q hq
    have := bq_lt x q
    rw [bq_or, bq_one 1 k q (by decide) hk, if_neg hq]
    by_cases z : bq x q = 1
    · rw [if_pos (Or.inl z), z]
    · rw [if_neg (by omega)]; omega
  refine ⟨fun q hq i hi ei => ?_, fun q h1 h2 => by rw [hq1 q (by omega)]; exact h.2 q (by omega) h2⟩
  by_cases c : q = k
  · subst c
    have : i = j := hok.2.2.2 i j hi hj (by omega) (by omega)
    rw [bq_or, bq_one 1 q q (by decide) hk, if_pos rfl, if_pos (Or.inr rfl), if_pos hc, this, hb]
  · rw [hq1 q c]; exact h.1 q (by omega) i hi ei
theorem dcI_end {it : Nat → Nat} {n w : Nat} {sg : Bool} {o : Nat} {wo x : Int64} {k : Nat} (hk : k = 64) (h : dcI it n w sg o wo k x) : dcP it n w sg o wo x := by
  subst hk; exact fun k hk j hj e => h.1 k hk j hj e
theorem dcI_stop {it : Nat → Nat} {n w : Nat} {o : Nat} {wo x : Int64} {k : Nat} (h : dcI it n w false o wo k x) (hw : w ≤ k) : dcP it n w false o wo x := by
  intro q hq j hj e
  by_cases c : q < k
  · exact h.1 q c j hj e
  · rw [h.2 q (by omega) hq, if_neg (fun z => z.elim (fun z => by omega) (fun z => by cases z))]
set_option maxHeartbeats 4000000 in
set_option maxRecDepth 100000 in
theorem c_M_slice (l : Launch) (dC : Nat → ClassId) (dI : Nat → Nat → Nat) (sz : Nat) (cI cZ cJ : ClassId) (hm ml mw mb ms mn : Nat) (er : Int32) (ln wh bi si : Nat → Int32) (nu : Nat → Int64) (ns : Nat → Nat) (its wss : Nat → Nat → Nat) (sbs : Nat → Nat → Bool) (hM : mR ns its wss sbs ln wh bi si) (x y zh zl : Int32) : Met l yM_slice wM_slice { frames := 3, cells := 0, slots := 0, locals := 67 } (rw_Pc (dC, dI) cls3 [(hm, .inr (2, [.int er, .ref ml, .ref mw, .ref mb, .ref ms, .ref mn])), (ml, .inl (cI, 8, .inl ln)), (mw, .inl (cI, 512, .inl wh)), (mb, .inl (cI, 48, .inl bi)), (ms, .inl (cZ, 48, .inl si)), (mn, .inl (cJ, 6, .inr (.inl nu)))] [(cI, .int), (cZ, .boolean), (cJ, .long)] sz [.ref hm, .int x, .int y, .int zh, .int zl]) (va_Qi (fun (r : Int32) (_ : Unit) => cdSlice ns its wss x y zh zl = 0 → r = nI (ns (fi x) + (fi zh + 1 - fi zl))) (fun _ t => ∃ ln' wh' : Nat → Int32, mR (stp (cdSlice ns its wss x y zh zl) (va_up ns (fi x) (ns (fi x) + (fi zh + 1 - fi zl))) ns) (stp (cdSlice ns its wss x y zh zl) (va_up its (fi x) (itS (its (fi x)) (ns (fi x)) (fi y) (fi zh))) its) wss sbs ln' wh' bi si ∧ va_P (dC, dI) cls3 [(hm, .inr (2, [.int (nI (cdSlice ns its wss x y zh zl)), .ref ml, .ref mw, .ref mb, .ref ms, .ref mn])), (ml, .inl (cI, 8, .inl ln')), (mw, .inl (cI, 512, .inl wh')), (mb, .inl (cI, 48, .inl bi)), (ms, .inl (cZ, 48, .inl si)), (mn, .inl (cJ, 6, .inr (.inl nu)))] t.heap ∧ va_K (dC, dI) cls3 [(cI, .int), (cZ, .boolean), (cJ, .long)] t ∧ va_D (va_A [(hm, .inr (2, [.int er, .ref ml, .ref mw, .ref mb, .ref ms, .ref mn])), (ml, .inl (cI, 8, .inl ln)), (mw, .inl (cI, 512, .inl wh)), (mb, .inl (cI, 48, .inl bi)), (ms, .inl (cZ, 48, .inl si)), (mn, .inl (cJ, 6, .inr (.inl nu)))] sz) [(hm, .inr (2, [.int (nI (cdSlice ns its wss x y zh zl)), .ref ml, .ref mw, .ref mb, .ref ms, .ref mn])), (ml, .inl (cI, 8, .inl ln')), (mw, .inl (cI, 512, .inl wh')), (mb, .inl (cI, 48, .inl bi)), (ms, .inl (cZ, 48, .inl si)), (mn, .inl (cJ, 6, .inr (.inl nu)))]) (va_A [(hm, .inr (2, [.int er, .ref ml, .ref mw, .ref mb, .ref ms, .ref mn])), (ml, .inl (cI, 8, .inl ln)), (mw, .inl (cI, 512, .inl wh)), (mb, .inl (cI, 48, .inl bi)), (ms, .inl (cZ, 48, .inl si)), (mn, .inl (cJ, 6, .inr (.inl nu)))] sz)) 0 0 (va_A [(hm, .inr (2, [.int er, .ref ml, .ref mw, .ref mb, .ref ms, .ref mn])), (ml, .inl (cI, 8, .inl ln)), (mw, .inl (cI, 512, .inl wh)), (mb, .inl (cI, 48, .inl bi)), (ms, .inl (cZ, 48, .inl si)), (mn, .inl (cJ, 6, .inr (.inl nu)))] sz) := by
  refine Met.ofW (cc := cM_slice) (maxL := 6) (ret := (some .int)) (by decide) rfl ?_
  intro p e s m args below meth c s₁ B hml hv
  obtain ⟨rfl, hsz, hP, hK, hD0⟩ := hv
  have hx := B.exec
  have hb := B.bytes
  have hr := B.returns
  have hts := atoms_spec (ws := wM_slice) B.pre
  have hw : ∀ w ∈ wA, w.before _ s = true := fun w h => hts w (List.mem_cons_of_mem _ h)
  have hown : s.vm.findClass RM = some m.cls := findClass_of_methodNamed B.named
  have hlocks := B.notSynchronized
  subst hsz
  have hD := hD0.self (sz := s.heap.size)
  generalize hAe : va_A [(hm, .inr (2, [.int er, .ref ml, .ref mw, .ref mb, .ref ms, .ref mn])), (ml, .inl (cI, 8, .inl ln)), (mw, .inl (cI, 512, .inl wh)), (mb, .inl (cI, 48, .inl bi)), (ms, .inl (cZ, 48, .inl si)), (mn, .inl (cJ, 6, .inr (.inl nu)))] s.heap.size = A at hD ⊢
  have hA : ∀ q : Nat, s.heap.size ≤ q → A q := fun q h => by rw [← hAe]; exact Or.inr h
  have hS : va_S A s.heap s.heap [] := va_S.rf
  have hl := lv_entry ([.ref hm, .int x, .int y, .int zh, .int zl]) (n := 6) (Nat.le_of_ble_eq_true rfl)
  rw [lg_entry_eq]
  generalize (lg_sl ([.ref hm, .int x, .int y, .int zh, .int zl]) ++ List.replicate (6 - (lg_sl ([.ref hm, .int x, .int y, .int zh, .int zl])).length) Slot.unset).toArray = ls at hl ⊢
  have hl : lv_has ls 6 [(0, .ref hm), (1, .int x), (2, .int y), (3, .int zh), (4, .int zl)] := hl
  refine lv_aload_n hx hb dM_slice_0 rfl (lv_at hl 0 rfl) ?_
  refine lv_iconst (v := nI 0) hx hb dM_slice_1 (by decide +kernel) ?_
  refine va_put (D := (dC, dI)) (ci := 2) (v := .int (nI 0)) (ty := .int) (C := RM) (T := TM) (N := 6) hx hb hw inM tM tM_ok nM hown hK hP hD hS 0 rfl rfl 0 (by decide) (hw _ kw_386) (fun _ h9 => h9) rfl (by decide +kernel) rfl rfl (Nat.le_of_ble_eq_true rfl) dM_slice_2 (fun H locs hP hD hS => ?_)
  have hP : va_P (dC, dI) cls3 [(hm, .inr (2, [.int (nI 0), .ref ml, .ref mw, .ref mb, .ref ms, .ref mn])), (ml, .inl (cI, 8, .inl ln)), (mw, .inl (cI, 512, .inl wh)), (mb, .inl (cI, 48, .inl bi)), (ms, .inl (cZ, 48, .inl si)), (mn, .inl (cJ, 6, .inr (.inl nu)))] H := hP
  have hD : va_D A [(hm, .inr (2, [.int (nI 0), .ref ml, .ref mw, .ref mb, .ref ms, .ref mn])), (ml, .inl (cI, 8, .inl ln)), (mw, .inl (cI, 512, .inl wh)), (mb, .inl (cI, 48, .inl bi)), (ms, .inl (cZ, 48, .inl si)), (mn, .inl (cJ, 6, .inr (.inl nu)))] := hD
  refine lv_aload_n hx hb dM_slice_5 rfl (lv_at hl 0 rfl) ?_
  refine lv_aload_n hx hb dM_slice_6 rfl (lv_at hl 0 rfl) ?_
  refine lv_iload_n hx hb dM_slice_7 rfl (lv_at hl 1 rfl) ?_
  refine lv_iload_n hx hb dM_slice_8 rfl (lv_at hl 2 rfl) ?_
  refine vp_callSi (W.runV (As := [.int x, .int y]) (rest := [.ref hm]) ⟨hx, hb, hml, hown, hw⟩ (c_M_isThere l dC dI cI cZ cJ hm ml mw mb ms mn (nI 0) ln wh bi si nu ns its wss sbs hM x y) (cwV 2 hw (gV kw_448 kw_450 kw_7 kw_16 kw_451) rfl rfl rfl (by decide +kernel) ⟨Nat.le_of_ble_eq_true rfl, Nat.le_of_ble_eq_true rfl⟩) (ro_preV (q0 := 0) hK hP rfl rfl) rfl rfl hl.1 rfl (lv_room (Nat.le_of_ble_eq_true rfl)) dM_slice_9 ⟨Nat.zero_le _, Nat.zero_le _⟩) (fun v9 e9 => ?_)
  obtain rfl : v9 = nI (thr wss x y).toNat := e9
  refine lv_if_eq (tgt := 21) hx hb dM_slice_12 (by decide) (fun h12 => ?_) (fun h12 => ?_)
  · rw [b_nat0] at h12
    refine lv_iconst (v := nI 1) hx hb dM_slice_21 (by decide +kernel) ?_
    refine lv_goto (tgt := 26) hx hb dM_slice_22 (by decide) ?_
    refine lv_iconst (v := nI 1) hx hb dM_slice_26 (by decide +kernel) ?_
    have hPc := hP.sub (ws' := [(hm, .inr (2, [.int (nI 0), .ref ml, .ref mw, .ref mb, .ref ms, .ref mn])), (ml, .inl (cI, 8, .inl ln)), (mw, .inl (cI, 512, .inl wh)), (mb, .inl (cI, 48, .inl bi)), (ms, .inl (cZ, 48, .inl si)), (mn, .inl (cJ, 6, .inr (.inl nu)))]) [0, 1, 2, 3, 4, 5] rfl
    have hDc := hD.sub (ws' := [(hm, .inr (2, [.int (nI 0), .ref ml, .ref mw, .ref mb, .ref ms, .ref mn])), (ml, .inl (cI, 8, .inl ln)), (mw, .inl (cI, 512, .inl wh)), (mb, .inl (cI, 48, .inl bi)), (ms, .inl (cZ, 48, .inl si)), (mn, .inl (cJ, 6, .inr (.inl nu)))]) [0, 1, 2, 3, 4, 5] (by decide) rfl
    have hKc := hK.sub (tys' := [(cI, .int), (cZ, .boolean), (cJ, .long)]) [0, 1, 2] rfl
    have hFc := va_free (wc := [(hm, .inr (2, [.int (nI 0), .ref ml, .ref mw, .ref mb, .ref ms, .ref mn])), (ml, .inl (cI, 8, .inl ln)), (mw, .inl (cI, 512, .inl wh)), (mb, .inl (cI, 48, .inl bi)), (ms, .inl (cZ, 48, .inl si)), (mn, .inl (cJ, 6, .inr (.inl nu)))]) hD hS hA [0, 1, 2, 3, 4, 5] rfl
    refine va_calli (va_runV (As := [.int (nI 1), .int (nI 1)]) (rest := []) ⟨hx, hb, hml, hown, hw⟩ (c_M_fails1 l dC dI _ cI cZ cJ hm ml mw mb ms mn ln wh bi si nu 1 (by decide)) (cwV 2 hw (gV kw_420 kw_422 kw_5 kw_16 kw_423) rfl rfl rfl (by decide +kernel) ⟨Nat.le_of_ble_eq_true rfl, Nat.le_of_ble_eq_true rfl⟩) (rw_preV (q0 := 0) hKc hPc hDc rfl rfl) rfl rfl hl.1 rfl (lv_room (Nat.le_of_ble_eq_true rfl)) dM_slice_27 ⟨Nat.zero_le _, Nat.zero_le _⟩) hS (fun q _ h => hFc q h) hFc (fun v27 u t H1 locs ht hvm e27 hB hz1 hk1 hS => ?_)
    obtain ⟨hP1, hK1, hD1⟩ := hB
    rw [ht] at hP1
    obtain ⟨hP, hD⟩ := va_join (wr := []) (w1 := [(hm, .inr (2, [.int (nI 1), .ref ml, .ref mw, .ref mb, .ref ms, .ref mn])), (ml, .inl (cI, 8, .inl ln)), (mw, .inl (cI, 512, .inl wh)), (mb, .inl (cI, 48, .inl bi)), (ms, .inl (cZ, 48, .inl si)), (mn, .inl (cJ, 6, .inr (.inl nu)))]) hP hD [0, 1, 2, 3, 4, 5] [] rfl rfl (by decide) (by decide) hk1 hFc hP1 hD1
    generalize H1 = H at hP hS ⊢
    have hP : va_P (dC, dI) cls3 [(hm, .inr (2, [.int (nI 1), .ref ml, .ref mw, .ref mb, .ref ms, .ref mn])), (ml, .inl (cI, 8, .inl ln)), (mw, .inl (cI, 512, .inl wh)), (mb, .inl (cI, 48, .inl bi)), (ms, .inl (cZ, 48, .inl si)), (mn, .inl (cJ, 6, .inr (.inl nu)))] H := hP
    have hD : va_D A [(hm, .inr (2, [.int (nI 1), .ref ml, .ref mw, .ref mb, .ref ms, .ref mn])), (ml, .inl (cI, 8, .inl ln)), (mw, .inl (cI, 512, .inl wh)), (mb, .inl (cI, 48, .inl bi)), (ms, .inl (cZ, 48, .inl si)), (mn, .inl (cJ, 6, .inr (.inl nu)))] := hD
    obtain rfl : v27 = nI 1 := e27
    refine lv_if_eq (tgt := 35) hx hb dM_slice_30 (by decide) (fun h30 => ?_) (fun h30 => ?_)
    · exfalso
      first | exact h30 (by decide +kernel) | exact absurd h30 (by decide +kernel)
    · refine lv_iconst (v := nI 0) hx hb dM_slice_33 (by decide +kernel) ?_
      have hcd : cdSlice ns its wss x y zh zl = 1 := by unfold cdSlice; first | (rw [if_neg (fun q9 => by rw [h12] at q9; exact absurd q9.1 (by decide))]) | (rw [if_neg (fun q9 => h18 q9.2)]) | (rw [if_pos ⟨thr_t hf ho hw1, h18⟩, if_pos (Or.inl h38)]) | (rw [if_pos ⟨thr_t hf ho hw1, h18⟩, if_pos (Or.inr (by rw [hff, hfo]; exact Int32.not_lt.mp h48))]) | (rw [if_pos ⟨thr_t hf ho hw1, h18⟩, if_neg (fun q9 => q9.elim h38 (fun q9 => absurd h48 (Int32.not_lt.mpr (by rw [hff, hfo] at q9; exact q9)))), hff, hfh, hfl, if_pos (by omega)]) | (rw [if_pos ⟨thr_t hf ho hw1, h18⟩, if_neg (fun q9 => q9.elim h38 (fun q9 => absurd h48 (Int32.not_lt.mpr (by rw [hff, hfo] at q9; exact q9)))), hff, hfo, hfh, hfl, if_neg (by omega), hany_p (by omega) hk (by omega) (Classical.byContradiction (fun q9 => h115 ((plR_lt hn e112).mpr q9)))]; rfl) | (rw [if_pos ⟨thr_t hf ho hw1, h18⟩, if_neg (fun q9 => q9.elim h38 (fun q9 => absurd h48 (Int32.not_lt.mpr (by rw [hff, hfo] at q9; exact q9)))), hff, hfo, hfh, hfl, if_neg (by omega), hnone]; rfl)
      exact W.iret (v := nI 0) hx hb hr (fun t ht hW => ⟨⟨_, (), rfl, (by intro h0; first | exact absurd (hcd.symm.trans h0) (by decide) | (rw [hff, hfh, hfl])), ln, wh, by rw [hcd]; exact hM, by rw [ht, hcd]; exact hP, va_K.moved hW.alike hK, by rw [hcd]; exact hD⟩, hS.F ht⟩) hS.2.2 dM_slice_34
  · obtain ⟨f, o, hf, ho, hw1, rfl, rfl⟩ := thr_of (b_nf h12)
    have hff : fi (nI f) = f := fi_nI (by omega)
    have hfo : fi (nI o) = o := fi_nI (by omega)
    have hok := (hM f hf).1
    have hn := hok.1
    have hw64 := hok.2.1
    have hit := cw_it hok
    have hwo := hw64 o ho
    refine lv_iload_n hx hb dM_slice_15 rfl (lv_at hl 3 rfl) ?_
    refine lv_iload hx hb dM_slice_16 (lv_at hl 4 rfl) ?_
    refine lv_icmp_ge (tgt := 25) hx hb dM_slice_18 (by decide) (fun h18 => ?_) (fun h18 => ?_)
    · refine lv_iconst (v := nI 0) hx hb dM_slice_25 (by decide +kernel) ?_
      refine lv_iconst (v := nI 1) hx hb dM_slice_26 (by decide +kernel) ?_
      have hPc := hP.sub (ws' := [(hm, .inr (2, [.int (nI 0), .ref ml, .ref mw, .ref mb, .ref ms, .ref mn])), (ml, .inl (cI, 8, .inl ln)), (mw, .inl (cI, 512, .inl wh)), (mb, .inl (cI, 48, .inl bi)), (ms, .inl (cZ, 48, .inl si)), (mn, .inl (cJ, 6, .inr (.inl nu)))]) [0, 1, 2, 3, 4, 5] rfl
      have hDc := hD.sub (ws' := [(hm, .inr (2, [.int (nI 0), .ref ml, .ref mw, .ref mb, .ref ms, .ref mn])), (ml, .inl (cI, 8, .inl ln)), (mw, .inl (cI, 512, .inl wh)), (mb, .inl (cI, 48, .inl bi)), (ms, .inl (cZ, 48, .inl si)), (mn, .inl (cJ, 6, .inr (.inl nu)))]) [0, 1, 2, 3, 4, 5] (by decide) rfl
      have hKc := hK.sub (tys' := [(cI, .int), (cZ, .boolean), (cJ, .long)]) [0, 1, 2] rfl
      have hFc := va_free (wc := [(hm, .inr (2, [.int (nI 0), .ref ml, .ref mw, .ref mb, .ref ms, .ref mn])), (ml, .inl (cI, 8, .inl ln)), (mw, .inl (cI, 512, .inl wh)), (mb, .inl (cI, 48, .inl bi)), (ms, .inl (cZ, 48, .inl si)), (mn, .inl (cJ, 6, .inr (.inl nu)))]) hD hS hA [0, 1, 2, 3, 4, 5] rfl
      refine va_calli (va_runV (As := [.int (nI 0), .int (nI 1)]) (rest := []) ⟨hx, hb, hml, hown, hw⟩ (c_M_fails0 l dC dI _ cI cZ cJ hm ml mw mb ms mn ln wh bi si nu 1 (by decide)) (cwV 2 hw (gV kw_420 kw_422 kw_5 kw_16 kw_423) rfl rfl rfl (by decide +kernel) ⟨Nat.le_of_ble_eq_true rfl, Nat.le_of_ble_eq_true rfl⟩) (rw_preV (q0 := 0) hKc hPc hDc rfl rfl) rfl rfl hl.1 rfl (lv_room (Nat.le_of_ble_eq_true rfl)) dM_slice_27 ⟨Nat.zero_le _, Nat.zero_le _⟩) hS (fun q _ h => hFc q h) hFc (fun v27 u t H1 locs ht hvm e27 hB hz1 hk1 hS => ?_)
      obtain ⟨hP1, hK1, hD1⟩ := hB
      rw [ht] at hP1
      obtain ⟨hP, hD⟩ := va_join (wr := []) (w1 := [(hm, .inr (2, [.int (nI 0), .ref ml, .ref mw, .ref mb, .ref ms, .ref mn])), (ml, .inl (cI, 8, .inl ln)), (mw, .inl (cI, 512, .inl wh)), (mb, .inl (cI, 48, .inl bi)), (ms, .inl (cZ, 48, .inl si)), (mn, .inl (cJ, 6, .inr (.inl nu)))]) hP hD [0, 1, 2, 3, 4, 5] [] rfl rfl (by decide) (by decide) hk1 hFc hP1 hD1
      generalize H1 = H at hP hS ⊢
      have hP : va_P (dC, dI) cls3 [(hm, .inr (2, [.int (nI 0), .ref ml, .ref mw, .ref mb, .ref ms, .ref mn])), (ml, .inl (cI, 8, .inl ln)), (mw, .inl (cI, 512, .inl wh)), (mb, .inl (cI, 48, .inl bi)), (ms, .inl (cZ, 48, .inl si)), (mn, .inl (cJ, 6, .inr (.inl nu)))] H := hP
      have hD : va_D A [(hm, .inr (2, [.int (nI 0), .ref ml, .ref mw, .ref mb, .ref ms, .ref mn])), (ml, .inl (cI, 8, .inl ln)), (mw, .inl (cI, 512, .inl wh)), (mb, .inl (cI, 48, .inl bi)), (ms, .inl (cZ, 48, .inl si)), (mn, .inl (cJ, 6, .inr (.inl nu)))] := hD
      obtain rfl : v27 = nI 0 := e27
      refine lv_if_eq (tgt := 35) hx hb dM_slice_30 (by decide) (fun h30 => ?_) (fun h30 => ?_)
      · refine lv_aload_n hx hb dM_slice_35 rfl (lv_at hl 0 rfl) ?_
        refine lv_iload hx hb dM_slice_36 (lv_at hl 4 rfl) ?_
        refine lv_if_lt (tgt := 51) hx hb dM_slice_38 (by decide) (fun h38 => ?_) (fun h38 => ?_)
        · refine lv_iconst (v := nI 1) hx hb dM_slice_51 (by decide +kernel) ?_
          refine lv_goto (tgt := 56) hx hb dM_slice_52 (by decide) ?_
          refine lv_iconst (v := nI 2) hx hb dM_slice_56 (by decide +kernel) ?_
          have hPc := hP.sub (ws' := [(hm, .inr (2, [.int (nI 0), .ref ml, .ref mw, .ref mb, .ref ms, .ref mn])), (ml, .inl (cI, 8, .inl ln)), (mw, .inl (cI, 512, .inl wh)), (mb, .inl (cI, 48, .inl bi)), (ms, .inl (cZ, 48, .inl si)), (mn, .inl (cJ, 6, .inr (.inl nu)))]) [0, 1, 2, 3, 4, 5] rfl
          have hDc := hD.sub (ws' := [(hm, .inr (2, [.int (nI 0), .ref ml, .ref mw, .ref mb, .ref ms, .ref mn])), (ml, .inl (cI, 8, .inl ln)), (mw, .inl (cI, 512, .inl wh)), (mb, .inl (cI, 48, .inl bi)), (ms, .inl (cZ, 48, .inl si)), (mn, .inl (cJ, 6, .inr (.inl nu)))]) [0, 1, 2, 3, 4, 5] (by decide) rfl
          have hKc := hK.sub (tys' := [(cI, .int), (cZ, .boolean), (cJ, .long)]) [0, 1, 2] rfl
          have hFc := va_free (wc := [(hm, .inr (2, [.int (nI 0), .ref ml, .ref mw, .ref mb, .ref ms, .ref mn])), (ml, .inl (cI, 8, .inl ln)), (mw, .inl (cI, 512, .inl wh)), (mb, .inl (cI, 48, .inl bi)), (ms, .inl (cZ, 48, .inl si)), (mn, .inl (cJ, 6, .inr (.inl nu)))]) hD hS hA [0, 1, 2, 3, 4, 5] rfl
          refine va_calli (va_runV (As := [.int (nI 1), .int (nI 2)]) (rest := []) ⟨hx, hb, hml, hown, hw⟩ (c_M_fails1 l dC dI _ cI cZ cJ hm ml mw mb ms mn ln wh bi si nu 2 (by decide)) (cwV 2 hw (gV kw_420 kw_422 kw_5 kw_16 kw_423) rfl rfl rfl (by decide +kernel) ⟨Nat.le_of_ble_eq_true rfl, Nat.le_of_ble_eq_true rfl⟩) (rw_preV (q0 := 0) hKc hPc hDc rfl rfl) rfl rfl hl.1 rfl (lv_room (Nat.le_of_ble_eq_true rfl)) dM_slice_57 ⟨Nat.zero_le _, Nat.zero_le _⟩) hS (fun q _ h => hFc q h) hFc (fun v57 u t H1 locs ht hvm e57 hB hz1 hk1 hS => ?_)
          obtain ⟨hP1, hK1, hD1⟩ := hB
          rw [ht] at hP1
          obtain ⟨hP, hD⟩ := va_join (wr := []) (w1 := [(hm, .inr (2, [.int (nI 2), .ref ml, .ref mw, .ref mb, .ref ms, .ref mn])), (ml, .inl (cI, 8, .inl ln)), (mw, .inl (cI, 512, .inl wh)), (mb, .inl (cI, 48, .inl bi)), (ms, .inl (cZ, 48, .inl si)), (mn, .inl (cJ, 6, .inr (.inl nu)))]) hP hD [0, 1, 2, 3, 4, 5] [] rfl rfl (by decide) (by decide) hk1 hFc hP1 hD1
          generalize H1 = H at hP hS ⊢
          have hP : va_P (dC, dI) cls3 [(hm, .inr (2, [.int (nI 2), .ref ml, .ref mw, .ref mb, .ref ms, .ref mn])), (ml, .inl (cI, 8, .inl ln)), (mw, .inl (cI, 512, .inl wh)), (mb, .inl (cI, 48, .inl bi)), (ms, .inl (cZ, 48, .inl si)), (mn, .inl (cJ, 6, .inr (.inl nu)))] H := hP
          have hD : va_D A [(hm, .inr (2, [.int (nI 2), .ref ml, .ref mw, .ref mb, .ref ms, .ref mn])), (ml, .inl (cI, 8, .inl ln)), (mw, .inl (cI, 512, .inl wh)), (mb, .inl (cI, 48, .inl bi)), (ms, .inl (cZ, 48, .inl si)), (mn, .inl (cJ, 6, .inr (.inl nu)))] := hD
          obtain rfl : v57 = nI 1 := e57
          refine lv_if_ne (tgt := 94) hx hb dM_slice_60 (by decide) (fun h60 => ?_) (fun h60 => ?_)
          · refine lv_iconst (v := nI 0) hx hb dM_slice_94 (by decide +kernel) ?_
            have hcd : cdSlice ns its wss (nI f) (nI o) zh zl = 2 := by unfold cdSlice; first | (rw [if_neg (fun q9 => by rw [h12] at q9; exact absurd q9.1 (by decide))]) | (rw [if_neg (fun q9 => h18 q9.2)]) | (rw [if_pos ⟨thr_t hf ho hw1, h18⟩, if_pos (Or.inl h38)]) | (rw [if_pos ⟨thr_t hf ho hw1, h18⟩, if_pos (Or.inr (by rw [hff, hfo]; exact Int32.not_lt.mp h48))]) | (rw [if_pos ⟨thr_t hf ho hw1, h18⟩, if_neg (fun q9 => q9.elim h38 (fun q9 => absurd h48 (Int32.not_lt.mpr (by rw [hff, hfo] at q9; exact q9)))), hff, hfh, hfl, if_pos (by omega)]) | (rw [if_pos ⟨thr_t hf ho hw1, h18⟩, if_neg (fun q9 => q9.elim h38 (fun q9 => absurd h48 (Int32.not_lt.mpr (by rw [hff, hfo] at q9; exact q9)))), hff, hfo, hfh, hfl, if_neg (by omega), hany_p (by omega) hk (by omega) (Classical.byContradiction (fun q9 => h115 ((plR_lt hn e112).mpr q9)))]; rfl) | (rw [if_pos ⟨thr_t hf ho hw1, h18⟩, if_neg (fun q9 => q9.elim h38 (fun q9 => absurd h48 (Int32.not_lt.mpr (by rw [hff, hfo] at q9; exact q9)))), hff, hfo, hfh, hfl, if_neg (by omega), hnone]; rfl)
            exact W.iret (v := nI 0) hx hb hr (fun t ht hW => ⟨⟨_, (), rfl, (by intro h0; first | exact absurd (hcd.symm.trans h0) (by decide) | (rw [hff, hfh, hfl])), ln, wh, by rw [hcd]; exact hM, by rw [ht, hcd]; exact hP, va_K.moved hW.alike hK, by rw [hcd]; exact hD⟩, hS.F ht⟩) hS.2.2 dM_slice_95
          · exfalso
            first | exact h60 (by decide +kernel) | exact absurd h60 (by decide +kernel)
        · refine lv_iload_n hx hb dM_slice_41 rfl (lv_at hl 3 rfl) ?_
          refine lv_aload_n hx hb dM_slice_42 rfl (lv_at hl 0 rfl) ?_
          refine lv_iload_n hx hb dM_slice_43 rfl (lv_at hl 1 rfl) ?_
          refine lv_iload_n hx hb dM_slice_44 rfl (lv_at hl 2 rfl) ?_
          refine vp_callSi (W.runV (As := [.int (nI f), .int (nI o)]) (rest := [.int zh, .ref hm]) ⟨hx, hb, hml, hown, hw⟩ (c_M_many l dC dI cI cZ cJ hm ml mw mb ms mn (nI 0) ln wh bi si nu ns its wss sbs hM f o hf ho) (cwV 2 hw (gV kw_433 kw_435 kw_6 kw_16 kw_436) rfl rfl rfl (by decide +kernel) ⟨Nat.le_of_ble_eq_true rfl, Nat.le_of_ble_eq_true rfl⟩) (ro_preV (q0 := 0) hK hP rfl rfl) rfl rfl hl.1 rfl (lv_room (Nat.le_of_ble_eq_true rfl)) dM_slice_45 ⟨Nat.zero_le _, Nat.zero_le _⟩) (fun v45 e45 => ?_)
          obtain rfl : v45 = nI (wss f o) := e45
          refine lv_icmp_lt (tgt := 55) hx hb dM_slice_48 (by decide) (fun h48 => ?_) (fun h48 => ?_)
          · obtain ⟨hi, lo, hh, hlo, rfl, rfl⟩ := sl_of hwo h38 h18 h48
            have hfh : fi (nI hi) = hi := fi_nI (by omega)
            have hfl : fi (nI lo) = lo := fi_nI (by omega)
            refine lv_iconst (v := nI 0) hx hb dM_slice_55 (by decide +kernel) ?_
            refine lv_iconst (v := nI 2) hx hb dM_slice_56 (by decide +kernel) ?_
            have hPc := hP.sub (ws' := [(hm, .inr (2, [.int (nI 0), .ref ml, .ref mw, .ref mb, .ref ms, .ref mn])), (ml, .inl (cI, 8, .inl ln)), (mw, .inl (cI, 512, .inl wh)), (mb, .inl (cI, 48, .inl bi)), (ms, .inl (cZ, 48, .inl si)), (mn, .inl (cJ, 6, .inr (.inl nu)))]) [0, 1, 2, 3, 4, 5] rfl
            have hDc := hD.sub (ws' := [(hm, .inr (2, [.int (nI 0), .ref ml, .ref mw, .ref mb, .ref ms, .ref mn])), (ml, .inl (cI, 8, .inl ln)), (mw, .inl (cI, 512, .inl wh)), (mb, .inl (cI, 48, .inl bi)), (ms, .inl (cZ, 48, .inl si)), (mn, .inl (cJ, 6, .inr (.inl nu)))]) [0, 1, 2, 3, 4, 5] (by decide) rfl
            have hKc := hK.sub (tys' := [(cI, .int), (cZ, .boolean), (cJ, .long)]) [0, 1, 2] rfl
            have hFc := va_free (wc := [(hm, .inr (2, [.int (nI 0), .ref ml, .ref mw, .ref mb, .ref ms, .ref mn])), (ml, .inl (cI, 8, .inl ln)), (mw, .inl (cI, 512, .inl wh)), (mb, .inl (cI, 48, .inl bi)), (ms, .inl (cZ, 48, .inl si)), (mn, .inl (cJ, 6, .inr (.inl nu)))]) hD hS hA [0, 1, 2, 3, 4, 5] rfl
            refine va_calli (va_runV (As := [.int (nI 0), .int (nI 2)]) (rest := []) ⟨hx, hb, hml, hown, hw⟩ (c_M_fails0 l dC dI _ cI cZ cJ hm ml mw mb ms mn ln wh bi si nu 2 (by decide)) (cwV 2 hw (gV kw_420 kw_422 kw_5 kw_16 kw_423) rfl rfl rfl (by decide +kernel) ⟨Nat.le_of_ble_eq_true rfl, Nat.le_of_ble_eq_true rfl⟩) (rw_preV (q0 := 0) hKc hPc hDc rfl rfl) rfl rfl hl.1 rfl (lv_room (Nat.le_of_ble_eq_true rfl)) dM_slice_57 ⟨Nat.zero_le _, Nat.zero_le _⟩) hS (fun q _ h => hFc q h) hFc (fun v57 u t H1 locs ht hvm e57 hB hz1 hk1 hS => ?_)
            obtain ⟨hP1, hK1, hD1⟩ := hB
            rw [ht] at hP1
            obtain ⟨hP, hD⟩ := va_join (wr := []) (w1 := [(hm, .inr (2, [.int (nI 0), .ref ml, .ref mw, .ref mb, .ref ms, .ref mn])), (ml, .inl (cI, 8, .inl ln)), (mw, .inl (cI, 512, .inl wh)), (mb, .inl (cI, 48, .inl bi)), (ms, .inl (cZ, 48, .inl si)), (mn, .inl (cJ, 6, .inr (.inl nu)))]) hP hD [0, 1, 2, 3, 4, 5] [] rfl rfl (by decide) (by decide) hk1 hFc hP1 hD1
            generalize H1 = H at hP hS ⊢
            have hP : va_P (dC, dI) cls3 [(hm, .inr (2, [.int (nI 0), .ref ml, .ref mw, .ref mb, .ref ms, .ref mn])), (ml, .inl (cI, 8, .inl ln)), (mw, .inl (cI, 512, .inl wh)), (mb, .inl (cI, 48, .inl bi)), (ms, .inl (cZ, 48, .inl si)), (mn, .inl (cJ, 6, .inr (.inl nu)))] H := hP
            have hD : va_D A [(hm, .inr (2, [.int (nI 0), .ref ml, .ref mw, .ref mb, .ref ms, .ref mn])), (ml, .inl (cI, 8, .inl ln)), (mw, .inl (cI, 512, .inl wh)), (mb, .inl (cI, 48, .inl bi)), (ms, .inl (cZ, 48, .inl si)), (mn, .inl (cJ, 6, .inr (.inl nu)))] := hD
            obtain rfl : v57 = nI 0 := e57
            refine lv_if_ne (tgt := 94) hx hb dM_slice_60 (by decide) (fun h60 => ?_) (fun h60 => ?_)
            · exfalso
              first | exact h60 (by decide +kernel) | exact absurd h60 (by decide +kernel)
            · refine lv_aload_n hx hb dM_slice_63 rfl (lv_at hl 0 rfl) ?_
              refine lv_aload_n hx hb dM_slice_64 rfl (lv_at hl 0 rfl) ?_
              refine va_get (D := (dC, dI)) (ci := 2) (v := .ref ml) (C := RM) (T := TM) (N := 6) hx hb hw inM hown hK hP 0 rfl rfl 1 (by decide) (hw _ kw_387) (fun _ h9 => h9) rfl dM_slice_65 ?_
              refine lv_iload_n hx hb dM_slice_68 rfl (lv_at hl 1 rfl) ?_
              refine va_iald hx hb hK hP 1 0 rfl rfl (vp_in_nI (by omega) (by decide)) dM_slice_69 ?_
              refine lv_topi (fun v69 e69 => ?_)
              rw [nI_clamp (by omega)] at e69
              obtain rfl : v69 = nI (ns f) := e69.trans (hM f hf).2.1
              refine lv_iload_n hx hb dM_slice_70 rfl (lv_at hl 3 rfl) ?_
              refine lv_iadd hx hb dM_slice_71 ?_
              refine lv_topi (fun v71 e71 => ?_)
              obtain rfl : v71 = nI (ns f + hi) := e71.trans (nI_add _ _)
              refine lv_iload hx hb dM_slice_72 (lv_at hl 4 rfl) ?_
              refine lv_isub hx hb dM_slice_74 ?_
              refine lv_topi (fun v74 e74 => ?_)
              obtain rfl : v74 = nI (ns f + hi - lo) := e74.trans (pk_sub (by omega))
              refine lv_iconst (v := nI 1) hx hb dM_slice_75 (by decide +kernel) ?_
              refine lv_iadd hx hb dM_slice_76 ?_
              refine lv_topi (fun v76 e76 => ?_)
              obtain rfl : v76 = nI (ns f + hi - lo + 1) := e76.trans (nI_add _ _)
              refine lv_bipush (v := nI 64) hx hb dM_slice_77 (by decide +kernel) ?_
              refine lv_icmp_le (tgt := 86) hx hb dM_slice_79 (by decide) (fun h79 => ?_) (fun h79 => ?_)
              · rw [nI_leI (by omega) (by omega)] at h79
                refine lv_iconst (v := nI 0) hx hb dM_slice_86 (by decide +kernel) ?_
                refine lv_iconst (v := nI 2) hx hb dM_slice_87 (by decide +kernel) ?_
                have hPc := hP.sub (ws' := [(hm, .inr (2, [.int (nI 0), .ref ml, .ref mw, .ref mb, .ref ms, .ref mn])), (ml, .inl (cI, 8, .inl ln)), (mw, .inl (cI, 512, .inl wh)), (mb, .inl (cI, 48, .inl bi)), (ms, .inl (cZ, 48, .inl si)), (mn, .inl (cJ, 6, .inr (.inl nu)))]) [0, 1, 2, 3, 4, 5] rfl
                have hDc := hD.sub (ws' := [(hm, .inr (2, [.int (nI 0), .ref ml, .ref mw, .ref mb, .ref ms, .ref mn])), (ml, .inl (cI, 8, .inl ln)), (mw, .inl (cI, 512, .inl wh)), (mb, .inl (cI, 48, .inl bi)), (ms, .inl (cZ, 48, .inl si)), (mn, .inl (cJ, 6, .inr (.inl nu)))]) [0, 1, 2, 3, 4, 5] (by decide) rfl
                have hKc := hK.sub (tys' := [(cI, .int), (cZ, .boolean), (cJ, .long)]) [0, 1, 2] rfl
                have hFc := va_free (wc := [(hm, .inr (2, [.int (nI 0), .ref ml, .ref mw, .ref mb, .ref ms, .ref mn])), (ml, .inl (cI, 8, .inl ln)), (mw, .inl (cI, 512, .inl wh)), (mb, .inl (cI, 48, .inl bi)), (ms, .inl (cZ, 48, .inl si)), (mn, .inl (cJ, 6, .inr (.inl nu)))]) hD hS hA [0, 1, 2, 3, 4, 5] rfl
                refine va_calli (va_runV (As := [.int (nI 0), .int (nI 2)]) (rest := []) ⟨hx, hb, hml, hown, hw⟩ (c_M_fails0 l dC dI _ cI cZ cJ hm ml mw mb ms mn ln wh bi si nu 2 (by decide)) (cwV 2 hw (gV kw_420 kw_422 kw_5 kw_16 kw_423) rfl rfl rfl (by decide +kernel) ⟨Nat.le_of_ble_eq_true rfl, Nat.le_of_ble_eq_true rfl⟩) (rw_preV (q0 := 0) hKc hPc hDc rfl rfl) rfl rfl hl.1 rfl (lv_room (Nat.le_of_ble_eq_true rfl)) dM_slice_88 ⟨Nat.zero_le _, Nat.zero_le _⟩) hS (fun q _ h => hFc q h) hFc (fun v88 u t H1 locs ht hvm e88 hB hz1 hk1 hS => ?_)
                obtain ⟨hP1, hK1, hD1⟩ := hB
                rw [ht] at hP1
                obtain ⟨hP, hD⟩ := va_join (wr := []) (w1 := [(hm, .inr (2, [.int (nI 0), .ref ml, .ref mw, .ref mb, .ref ms, .ref mn])), (ml, .inl (cI, 8, .inl ln)), (mw, .inl (cI, 512, .inl wh)), (mb, .inl (cI, 48, .inl bi)), (ms, .inl (cZ, 48, .inl si)), (mn, .inl (cJ, 6, .inr (.inl nu)))]) hP hD [0, 1, 2, 3, 4, 5] [] rfl rfl (by decide) (by decide) hk1 hFc hP1 hD1
                generalize H1 = H at hP hS ⊢
                have hP : va_P (dC, dI) cls3 [(hm, .inr (2, [.int (nI 0), .ref ml, .ref mw, .ref mb, .ref ms, .ref mn])), (ml, .inl (cI, 8, .inl ln)), (mw, .inl (cI, 512, .inl wh)), (mb, .inl (cI, 48, .inl bi)), (ms, .inl (cZ, 48, .inl si)), (mn, .inl (cJ, 6, .inr (.inl nu)))] H := hP
                have hD : va_D A [(hm, .inr (2, [.int (nI 0), .ref ml, .ref mw, .ref mb, .ref ms, .ref mn])), (ml, .inl (cI, 8, .inl ln)), (mw, .inl (cI, 512, .inl wh)), (mb, .inl (cI, 48, .inl bi)), (ms, .inl (cZ, 48, .inl si)), (mn, .inl (cJ, 6, .inr (.inl nu)))] := hD
                obtain rfl : v88 = nI 0 := e88
                refine lv_if_eq (tgt := 96) hx hb dM_slice_91 (by decide) (fun h91 => ?_) (fun h91 => ?_)
                · refine lv_iload hx hb dM_slice_96 (lv_at hl 4 rfl) ?_
                  refine lv_istore hx hb dM_slice_98 hl (by decide) rfl (fun ls hl => ?_)
                  have hl : lv_has ls 6 [(5, .int (nI lo)), (0, .ref hm), (1, .int (nI f)), (2, .int (nI o)), (3, .int (nI hi)), (4, .int (nI lo))] := hl
                  refine (?_ : ∀ (kk : Nat) (k : Nat) (H : Heap) (locs : List Loc) (ls : Array Slot), kk = hi + 1 - k → lv_has ls 6 [(5, .int (nI k)), (0, .ref hm), (1, .int (nI f)), (2, .int (nI o)), (3, .int (nI hi)), (4, .int (nI lo))] → (lo ≤ k) → (k ≤ hi + 1) → (∀ q, lo ≤ q → q < k → ¬ cw_has (its f) (2 + 64 * o + q) (ns f) = true) → va_P (dC, dI) cls3 [(hm, .inr (2, [.int (nI 0), .ref ml, .ref mw, .ref mb, .ref ms, .ref mn])), (ml, .inl (cI, 8, .inl ln)), (mw, .inl (cI, 512, .inl wh)), (mb, .inl (cI, 48, .inl bi)), (ms, .inl (cZ, 48, .inl si)), (mn, .inl (cJ, 6, .inr (.inl nu)))] H → va_D A [(hm, .inr (2, [.int (nI 0), .ref ml, .ref mw, .ref mb, .ref ms, .ref mn])), (ml, .inl (cI, 8, .inl ln)), (mw, .inl (cI, 512, .inl wh)), (mb, .inl (cI, 48, .inl bi)), (ms, .inl (cZ, 48, .inl si)), (mn, .inl (cJ, 6, .inr (.inl nu)))] → va_S A s.heap H locs → W p l e _ s m _ below meth c H locs _ _ _ (F0 m 100 ls [])) _ lo _ _ ls rfl (lv_sub hl [0, 1, 2, 3, 4, 5] rfl) (by omega) (by omega) (fun q _ _ => by omega) hP hD hS
                  intro kk
                  induction kk using Nat.strongRecOn with
                  | ind kk100 ih100 =>
                    intro k H locs ls hkk100 hl hk hk1 hq hP hD hS
                    refine lv_iload hx hb dM_slice_100 (lv_at hl 0 rfl) ?_
                    refine lv_iload_n hx hb dM_slice_102 rfl (lv_at hl 4 rfl) ?_
                    refine lv_icmp_gt (tgt := 138) hx hb dM_slice_103 (by decide) (fun h103 => ?_) (fun h103 => ?_)
                    · rw [nI_ltI (by omega) (by omega)] at h103
                      have hnone := hany_q (it := its f) (n := ns f) (o := o) (hi := hi) (lo := lo) (fun q h1 h2 => hq q h1 (by omega))
                      have hno := hany_no hnone (by omega)
                      refine lv_iload_n hx hb dM_slice_138 rfl (lv_at hl 4 rfl) ?_
                      refine lv_istore hx hb dM_slice_139 hl (by decide) rfl (fun ls hl => ?_)
                      have hl : lv_has ls 6 [(5, .int (nI hi)), (0, .ref hm), (1, .int (nI f)), (2, .int (nI o)), (3, .int (nI hi)), (4, .int (nI lo))] := hl
                      refine (?_ : ∀ (kk : Nat) (k2 : Nat) (ln2 : Nat → Int32) (wh2 : Nat → Int32) (H : Heap) (locs : List Loc) (ls : Array Slot), kk = k2 → lv_has ls 6 [(5, .int (nI k2 - nI 1)), (0, .ref hm), (1, .int (nI f)), (2, .int (nI o)), (3, .int (nI hi)), (4, .int (nI lo))] → (k2 ≤ hi + 1) → (lo ≤ k2) → (mR (va_up ns f (ns f + (hi + 1 - k2))) (va_up its f (itS (its f) (ns f) o hi)) wss sbs ln2 wh2 bi si) → va_P (dC, dI) cls3 [(hm, .inr (2, [.int (nI 0), .ref ml, .ref mw, .ref mb, .ref ms, .ref mn])), (ml, .inl (cI, 8, .inl ln2)), (mw, .inl (cI, 512, .inl wh2)), (mb, .inl (cI, 48, .inl bi)), (ms, .inl (cZ, 48, .inl si)), (mn, .inl (cJ, 6, .inr (.inl nu)))] H → va_D A [(hm, .inr (2, [.int (nI 0), .ref ml, .ref mw, .ref mb, .ref ms, .ref mn])), (ml, .inl (cI, 8, .inl ln2)), (mw, .inl (cI, 512, .inl wh2)), (mb, .inl (cI, 48, .inl bi)), (ms, .inl (cZ, 48, .inl si)), (mn, .inl (cJ, 6, .inr (.inl nu)))] → va_S A s.heap H locs → W p l e _ s m _ below meth c H locs _ _ _ (F0 m 141 ls [])) _ (hi + 1) ln wh _ _ ls rfl (cw_lvx (lv_sub (l' := [(5, .int (nI hi)), (0, .ref hm), (1, .int (nI f)), (2, .int (nI o)), (3, .int (nI hi)), (4, .int (nI lo))]) hl [0, 1, 2, 3, 4, 5] rfl) (by rw [show nI (hi + 1) - nI 1 = nI hi from nI_pred hi])) (by omega) (by omega) (by rw [Nat.sub_self, Nat.add_zero]; exact mR_st hM (fun j hj => itS_lt hj)) hP hD hS
                      intro kk
                      induction kk using Nat.strongRecOn with
                      | ind kk141 ih141 =>
                        intro k2 ln2 wh2 H locs ls hkk141 hl hm1 hm2 hR hP hD hS
                        refine lv_iload hx hb dM_slice_141 (lv_at hl 0 rfl) ?_
                        refine lv_iload hx hb dM_slice_143 (lv_at hl 5 rfl) ?_
                        refine lv_icmp_lt (tgt := 184) hx hb dM_slice_145 (by decide) (fun h145 => ?_) (fun h145 => ?_)
                        · rw [dn_lt (by omega) (by omega)] at h145
                          have hkl : k2 = lo := by omega
                          rw [hkl] at hR
                          refine lv_aload_n hx hb dM_slice_184 rfl (lv_at hl 1 rfl) ?_
                          refine va_get (D := (dC, dI)) (ci := 2) (v := .ref ml) (C := RM) (T := TM) (N := 6) hx hb hw inM hown hK hP 0 rfl rfl 1 (by decide) (hw _ kw_387) (fun _ h9 => h9) rfl dM_slice_185 ?_
                          refine lv_iload_n hx hb dM_slice_188 rfl (lv_at hl 2 rfl) ?_
                          refine va_iald hx hb hK hP 1 0 rfl rfl (vp_in_nI (by omega) (by decide)) dM_slice_189 ?_
                          refine lv_topi (fun v189 e189 => ?_)
                          rw [nI_clamp (by omega)] at e189
                          obtain rfl : v189 = nI (ns f + (hi + 1 - lo)) := e189.trans (mR_ln hR hf)
                          have hcd : cdSlice ns its wss (nI f) (nI o) (nI hi) (nI lo) = 0 := by unfold cdSlice; first | (rw [if_neg (fun q9 => by rw [h12] at q9; exact absurd q9.1 (by decide))]) | (rw [if_neg (fun q9 => h18 q9.2)]) | (rw [if_pos ⟨thr_t hf ho hw1, h18⟩, if_pos (Or.inl h38)]) | (rw [if_pos ⟨thr_t hf ho hw1, h18⟩, if_pos (Or.inr (by rw [hff, hfo]; exact Int32.not_lt.mp h48))]) | (rw [if_pos ⟨thr_t hf ho hw1, h18⟩, if_neg (fun q9 => q9.elim h38 (fun q9 => absurd h48 (Int32.not_lt.mpr (by rw [hff, hfo] at q9; exact q9)))), hff, hfh, hfl, if_pos (by omega)]) | (rw [if_pos ⟨thr_t hf ho hw1, h18⟩, if_neg (fun q9 => q9.elim h38 (fun q9 => absurd h48 (Int32.not_lt.mpr (by rw [hff, hfo] at q9; exact q9)))), hff, hfo, hfh, hfl, if_neg (by omega), hany_p (by omega) hk (by omega) (Classical.byContradiction (fun q9 => h115 ((plR_lt hn e112).mpr q9)))]; rfl) | (rw [if_pos ⟨thr_t hf ho hw1, h18⟩, if_neg (fun q9 => q9.elim h38 (fun q9 => absurd h48 (Int32.not_lt.mpr (by rw [hff, hfo] at q9; exact q9)))), hff, hfo, hfh, hfl, if_neg (by omega), hnone]; rfl)
                          exact W.iret (v := nI (ns f + (hi + 1 - lo))) hx hb hr (fun t ht hW => ⟨⟨_, (), rfl, (by intro h0; first | exact absurd (hcd.symm.trans h0) (by decide) | (rw [hff, hfh, hfl])), ln2, wh2, by rw [hcd, hff, hfo, hfh, hfl]; exact hR, by rw [ht, hcd]; exact hP, va_K.moved hW.alike hK, by rw [hcd]; exact hD⟩, hS.F ht⟩) hS.2.2 dM_slice_190
                        · rw [dn_lt (by omega) (by omega)] at h145
                          have hnn : ns f + (hi + 1 - (k2 - 1)) = ns f + (hi + 1 - k2) + 1 := by omega
                          have hok1 : cw_ok (itS (its f) (ns f) o hi) (ns f + (hi + 1 - k2) + 1) (wss f) := itS_ok hok ho hh hlo hno (by omega) (by omega) (by omega)
                          have hnx : itS (its f) (ns f) o hi (ns f + (hi + 1 - k2)) = 2 + 64 * o + (k2 - 1) := by rw [itS_ge (by omega)]; omega
                          refine lv_aload_n hx hb dM_slice_148 rfl (lv_at hl 1 rfl) ?_
                          refine va_get (D := (dC, dI)) (ci := 2) (v := .ref mw) (C := RM) (T := TM) (N := 6) hx hb hw inM hown hK hP 0 rfl rfl 2 (by decide) (hw _ kw_388) (fun _ h9 => h9) rfl dM_slice_149 ?_
                          refine lv_bipush (v := nI 64) hx hb dM_slice_152 (by decide +kernel) ?_
                          refine lv_iload_n hx hb dM_slice_154 rfl (lv_at hl 2 rfl) ?_
                          refine lv_imul hx hb dM_slice_155 ?_
                          refine lv_topi (fun v155 e155 => ?_)
                          obtain rfl : v155 = nI (64 * f) := e155.trans (pk_mul _ _)
                          refine lv_aload_n hx hb dM_slice_156 rfl (lv_at hl 1 rfl) ?_
                          refine va_get (D := (dC, dI)) (ci := 2) (v := .ref ml) (C := RM) (T := TM) (N := 6) hx hb hw inM hown hK hP 0 rfl rfl 1 (by decide) (hw _ kw_387) (fun _ h9 => h9) rfl dM_slice_157 ?_
                          refine lv_iload_n hx hb dM_slice_160 rfl (lv_at hl 2 rfl) ?_
                          refine lv_dup2_11 hx hb dM_slice_161 rfl rfl ?_
                          refine va_iald hx hb hK hP 1 0 rfl rfl (vp_in_nI (by omega) (by decide)) dM_slice_162 ?_
                          refine lv_topi (fun v162 e162 => ?_)
                          rw [nI_clamp (by omega)] at e162
                          obtain rfl : v162 = nI (ns f + (hi + 1 - k2)) := e162.trans (mR_ln hR hf)
                          refine lv_dup_x2 hx hb dM_slice_163 rfl rfl rfl ?_
                          refine lv_iconst (v := nI 1) hx hb dM_slice_164 (by decide +kernel) ?_
                          refine lv_iadd hx hb dM_slice_165 ?_
                          refine lv_topi (fun v165 e165 => ?_)
                          obtain rfl : v165 = nI (ns f + (hi + 1 - k2) + 1) := e165.trans (nI_add _ _)
                          refine va_iast hx hb hK hP hD hS 1 0 rfl rfl (vp_in_nI (by omega) (by decide)) dM_slice_166 (fun H locs hP hD hS => ?_)
                          rw [show (nI f).toNatClampNeg = f from nI_clamp (by omega)] at hP hD
                          have hP : va_P (dC, dI) cls3 [(hm, .inr (2, [.int (nI 0), .ref ml, .ref mw, .ref mb, .ref ms, .ref mn])), (ml, .inl (cI, 8, .inl (upd ln2 f (nI (ns f + (hi + 1 - k2) + 1))))), (mw, .inl (cI, 512, .inl wh2)), (mb, .inl (cI, 48, .inl bi)), (ms, .inl (cZ, 48, .inl si)), (mn, .inl (cJ, 6, .inr (.inl nu)))] H := hP
                          have hD : va_D A [(hm, .inr (2, [.int (nI 0), .ref ml, .ref mw, .ref mb, .ref ms, .ref mn])), (ml, .inl (cI, 8, .inl (upd ln2 f (nI (ns f + (hi + 1 - k2) + 1))))), (mw, .inl (cI, 512, .inl wh2)), (mb, .inl (cI, 48, .inl bi)), (ms, .inl (cZ, 48, .inl si)), (mn, .inl (cJ, 6, .inr (.inl nu)))] := hD
                          refine lv_iadd hx hb dM_slice_167 ?_
                          refine lv_topi (fun v167 e167 => ?_)
                          obtain rfl : v167 = nI (64 * f + (ns f + (hi + 1 - k2))) := e167.trans (nI_add _ _)
                          refine lv_iconst (v := nI 2) hx hb dM_slice_168 (by decide +kernel) ?_
                          refine lv_bipush (v := nI 64) hx hb dM_slice_169 (by decide +kernel) ?_
                          refine lv_iload_n hx hb dM_slice_171 rfl (lv_at hl 3 rfl) ?_
                          refine lv_imul hx hb dM_slice_172 ?_
                          refine lv_topi (fun v172 e172 => ?_)
                          obtain rfl : v172 = nI (64 * o) := e172.trans (pk_mul _ _)
                          refine lv_iadd hx hb dM_slice_173 ?_
                          refine lv_topi (fun v173 e173 => ?_)
                          obtain rfl : v173 = nI (2 + 64 * o) := e173.trans (nI_add _ _)
                          refine lv_iload hx hb dM_slice_174 (lv_at hl 0 rfl) ?_
                          refine lv_topi (fun w174 ew174 => ?_)
                          obtain rfl : w174 = nI (k2 - 1) := ew174.trans (cw_m1 (by omega))
                          refine lv_iadd hx hb dM_slice_176 ?_
                          refine lv_topi (fun v176 e176 => ?_)
                          obtain rfl : v176 = nI (itS (its f) (ns f) o hi (ns f + (hi + 1 - k2))) := (e176.trans (nI_add _ _)).trans (by rw [hnx])
                          refine va_iast hx hb hK hP hD hS 2 0 rfl rfl (vp_in_nI (by omega) (by decide)) dM_slice_177 (fun H locs hP hD hS => ?_)
                          rw [show (nI (64 * f + (ns f + (hi + 1 - k2)))).toNatClampNeg = (64 * f + (ns f + (hi + 1 - k2))) from nI_clamp (by omega)] at hP hD
                          have hP : va_P (dC, dI) cls3 [(hm, .inr (2, [.int (nI 0), .ref ml, .ref mw, .ref mb, .ref ms, .ref mn])), (ml, .inl (cI, 8, .inl (upd ln2 f (nI (ns f + (hi + 1 - k2) + 1))))), (mw, .inl (cI, 512, .inl (upd wh2 (64 * f + (ns f + (hi + 1 - k2))) (nI (itS (its f) (ns f) o hi (ns f + (hi + 1 - k2))))))), (mb, .inl (cI, 48, .inl bi)), (ms, .inl (cZ, 48, .inl si)), (mn, .inl (cJ, 6, .inr (.inl nu)))] H := hP
                          have hD : va_D A [(hm, .inr (2, [.int (nI 0), .ref ml, .ref mw, .ref mb, .ref ms, .ref mn])), (ml, .inl (cI, 8, .inl (upd ln2 f (nI (ns f + (hi + 1 - k2) + 1))))), (mw, .inl (cI, 512, .inl (upd wh2 (64 * f + (ns f + (hi + 1 - k2))) (nI (itS (its f) (ns f) o hi (ns f + (hi + 1 - k2))))))), (mb, .inl (cI, 48, .inl bi)), (ms, .inl (cZ, 48, .inl si)), (mn, .inl (cJ, 6, .inr (.inl nu)))] := hD
                          refine lv_iinc (k := 0) (v := nI (k2 - 1) - nI 1) hx hb dM_slice_178 hl rfl (cw_dec (by omega)) (by decide) rfl (fun ls hl => ?_)
                          have hl : lv_has ls 6 [(5, .int (nI (k2 - 1) - nI 1)), (0, .ref hm), (1, .int (nI f)), (2, .int (nI o)), (3, .int (nI hi)), (4, .int (nI lo))] := hl
                          refine lv_goto (tgt := 141) hx hb dM_slice_181 (by decide) ?_
                          exact ih141 _ (by omega) (k2 - 1) (upd ln2 f (nI (ns f + (hi + 1 - k2) + 1))) (upd wh2 (64 * f + (ns f + (hi + 1 - k2))) (nI (itS (its f) (ns f) o hi (ns f + (hi + 1 - k2))))) _ _ ls rfl (lv_sub (l' := [(5, .int (nI (k2 - 1) - nI 1)), (0, .ref hm), (1, .int (nI f)), (2, .int (nI o)), (3, .int (nI hi)), (4, .int (nI lo))]) hl [0, 1, 2, 3, 4, 5] rfl) (by omega) (by omega) (by rw [hnn]; exact mR_app hf hR hok1) hP hD hS
                    · rw [nI_ltI (by omega) (by omega)] at h103
                      refine lv_aload_n hx hb dM_slice_106 rfl (lv_at hl 1 rfl) ?_
                      refine lv_aload_n hx hb dM_slice_107 rfl (lv_at hl 1 rfl) ?_
                      refine lv_iload_n hx hb dM_slice_108 rfl (lv_at hl 2 rfl) ?_
                      refine lv_iload_n hx hb dM_slice_109 rfl (lv_at hl 3 rfl) ?_
                      refine lv_iload hx hb dM_slice_110 (lv_at hl 0 rfl) ?_
                      refine vp_callSi (W.runV (As := [.int (nI f), .int (nI o), .int (nI k)]) (rest := [.ref hm]) ⟨hx, hb, hml, hown, hw⟩ (c_M_place l dC dI cI cZ cJ hm ml mw mb ms mn (nI 0) ln wh bi si nu ns its wss sbs hM f o k hf ho (by omega)) (cwV 3 hw (gV kw_452 kw_454 kw_8 kw_16 kw_455) rfl rfl rfl (by decide +kernel) ⟨Nat.le_of_ble_eq_true rfl, Nat.le_of_ble_eq_true rfl⟩) (ro_preV (q0 := 0) hK hP rfl rfl) rfl rfl hl.1 rfl (lv_room (Nat.le_of_ble_eq_true rfl)) dM_slice_112 ⟨Nat.zero_le _, Nat.zero_le _⟩) (fun v112 e112 => ?_)
                      refine lv_if_lt (tgt := 122) hx hb dM_slice_115 (by decide) (fun h115 => ?_) (fun h115 => ?_)
                      · refine lv_iconst (v := nI 0) hx hb dM_slice_122 (by decide +kernel) ?_
                        refine lv_iconst (v := nI 3) hx hb dM_slice_123 (by decide +kernel) ?_
                        have hPc := hP.sub (ws' := [(hm, .inr (2, [.int (nI 0), .ref ml, .ref mw, .ref mb, .ref ms, .ref mn])), (ml, .inl (cI, 8, .inl ln)), (mw, .inl (cI, 512, .inl wh)), (mb, .inl (cI, 48, .inl bi)), (ms, .inl (cZ, 48, .inl si)), (mn, .inl (cJ, 6, .inr (.inl nu)))]) [0, 1, 2, 3, 4, 5] rfl
                        have hDc := hD.sub (ws' := [(hm, .inr (2, [.int (nI 0), .ref ml, .ref mw, .ref mb, .ref ms, .ref mn])), (ml, .inl (cI, 8, .inl ln)), (mw, .inl (cI, 512, .inl wh)), (mb, .inl (cI, 48, .inl bi)), (ms, .inl (cZ, 48, .inl si)), (mn, .inl (cJ, 6, .inr (.inl nu)))]) [0, 1, 2, 3, 4, 5] (by decide) rfl
                        have hKc := hK.sub (tys' := [(cI, .int), (cZ, .boolean), (cJ, .long)]) [0, 1, 2] rfl
                        have hFc := va_free (wc := [(hm, .inr (2, [.int (nI 0), .ref ml, .ref mw, .ref mb, .ref ms, .ref mn])), (ml, .inl (cI, 8, .inl ln)), (mw, .inl (cI, 512, .inl wh)), (mb, .inl (cI, 48, .inl bi)), (ms, .inl (cZ, 48, .inl si)), (mn, .inl (cJ, 6, .inr (.inl nu)))]) hD hS hA [0, 1, 2, 3, 4, 5] rfl
                        refine va_calli (va_runV (As := [.int (nI 0), .int (nI 3)]) (rest := []) ⟨hx, hb, hml, hown, hw⟩ (c_M_fails0 l dC dI _ cI cZ cJ hm ml mw mb ms mn ln wh bi si nu 3 (by decide)) (cwV 2 hw (gV kw_420 kw_422 kw_5 kw_16 kw_423) rfl rfl rfl (by decide +kernel) ⟨Nat.le_of_ble_eq_true rfl, Nat.le_of_ble_eq_true rfl⟩) (rw_preV (q0 := 0) hKc hPc hDc rfl rfl) rfl rfl hl.1 rfl (lv_room (Nat.le_of_ble_eq_true rfl)) dM_slice_124 ⟨Nat.zero_le _, Nat.zero_le _⟩) hS (fun q _ h => hFc q h) hFc (fun v124 u t H1 locs ht hvm e124 hB hz1 hk1 hS => ?_)
                        obtain ⟨hP1, hK1, hD1⟩ := hB
                        rw [ht] at hP1
                        obtain ⟨hP, hD⟩ := va_join (wr := []) (w1 := [(hm, .inr (2, [.int (nI 0), .ref ml, .ref mw, .ref mb, .ref ms, .ref mn])), (ml, .inl (cI, 8, .inl ln)), (mw, .inl (cI, 512, .inl wh)), (mb, .inl (cI, 48, .inl bi)), (ms, .inl (cZ, 48, .inl si)), (mn, .inl (cJ, 6, .inr (.inl nu)))]) hP hD [0, 1, 2, 3, 4, 5] [] rfl rfl (by decide) (by decide) hk1 hFc hP1 hD1
                        generalize H1 = H at hP hS ⊢
                        have hP : va_P (dC, dI) cls3 [(hm, .inr (2, [.int (nI 0), .ref ml, .ref mw, .ref mb, .ref ms, .ref mn])), (ml, .inl (cI, 8, .inl ln)), (mw, .inl (cI, 512, .inl wh)), (mb, .inl (cI, 48, .inl bi)), (ms, .inl (cZ, 48, .inl si)), (mn, .inl (cJ, 6, .inr (.inl nu)))] H := hP
                        have hD : va_D A [(hm, .inr (2, [.int (nI 0), .ref ml, .ref mw, .ref mb, .ref ms, .ref mn])), (ml, .inl (cI, 8, .inl ln)), (mw, .inl (cI, 512, .inl wh)), (mb, .inl (cI, 48, .inl bi)), (ms, .inl (cZ, 48, .inl si)), (mn, .inl (cJ, 6, .inr (.inl nu)))] := hD
                        obtain rfl : v124 = nI 0 := e124
                        refine lv_if_eq (tgt := 132) hx hb dM_slice_127 (by decide) (fun h127 => ?_) (fun h127 => ?_)
                        · refine lv_iinc (k := 0) (v := nI (k + 1)) hx hb dM_slice_132 hl rfl (cw_inc _) (by decide) rfl (fun ls hl => ?_)
                          have hl : lv_has ls 6 [(5, .int (nI (k + 1))), (0, .ref hm), (1, .int (nI f)), (2, .int (nI o)), (3, .int (nI hi)), (4, .int (nI lo))] := hl
                          refine lv_goto (tgt := 100) hx hb dM_slice_135 (by decide) ?_
                          exact ih100 _ (by omega) (k + 1) _ _ ls rfl (lv_sub (l' := [(5, .int (nI (k + 1))), (0, .ref hm), (1, .int (nI f)), (2, .int (nI o)), (3, .int (nI hi)), (4, .int (nI lo))]) hl [0, 1, 2, 3, 4, 5] rfl) (by omega) (by omega) (cw_ext hq ((plR_lt hn e112).mp h115)) hP hD hS
                        · exfalso
                          first | exact h127 (by decide +kernel) | exact absurd h127 (by decide +kernel)
                      · refine lv_iconst (v := nI 1) hx hb dM_slice_118 (by decide +kernel) ?_
                        refine lv_goto (tgt := 123) hx hb dM_slice_119 (by decide) ?_
                        refine lv_iconst (v := nI 3) hx hb dM_slice_123 (by decide +kernel) ?_
                        have hPc := hP.sub (ws' := [(hm, .inr (2, [.int (nI 0), .ref ml, .ref mw, .ref mb, .ref ms, .ref mn])), (ml, .inl (cI, 8, .inl ln)), (mw, .inl (cI, 512, .inl wh)), (mb, .inl (cI, 48, .inl bi)), (ms, .inl (cZ, 48, .inl si)), (mn, .inl (cJ, 6, .inr (.inl nu)))]) [0, 1, 2, 3, 4, 5] rfl
                        have hDc := hD.sub (ws' := [(hm, .inr (2, [.int (nI 0), .ref ml, .ref mw, .ref mb, .ref ms, .ref mn])), (ml, .inl (cI, 8, .inl ln)), (mw, .inl (cI, 512, .inl wh)), (mb, .inl (cI, 48, .inl bi)), (ms, .inl (cZ, 48, .inl si)), (mn, .inl (cJ, 6, .inr (.inl nu)))]) [0, 1, 2, 3, 4, 5] (by decide) rfl
                        have hKc := hK.sub (tys' := [(cI, .int), (cZ, .boolean), (cJ, .long)]) [0, 1, 2] rfl
                        have hFc := va_free (wc := [(hm, .inr (2, [.int (nI 0), .ref ml, .ref mw, .ref mb, .ref ms, .ref mn])), (ml, .inl (cI, 8, .inl ln)), (mw, .inl (cI, 512, .inl wh)), (mb, .inl (cI, 48, .inl bi)), (ms, .inl (cZ, 48, .inl si)), (mn, .inl (cJ, 6, .inr (.inl nu)))]) hD hS hA [0, 1, 2, 3, 4, 5] rfl
                        refine va_calli (va_runV (As := [.int (nI 1), .int (nI 3)]) (rest := []) ⟨hx, hb, hml, hown, hw⟩ (c_M_fails1 l dC dI _ cI cZ cJ hm ml mw mb ms mn ln wh bi si nu 3 (by decide)) (cwV 2 hw (gV kw_420 kw_422 kw_5 kw_16 kw_423) rfl rfl rfl (by decide +kernel) ⟨Nat.le_of_ble_eq_true rfl, Nat.le_of_ble_eq_true rfl⟩) (rw_preV (q0 := 0) hKc hPc hDc rfl rfl) rfl rfl hl.1 rfl (lv_room (Nat.le_of_ble_eq_true rfl)) dM_slice_124 ⟨Nat.zero_le _, Nat.zero_le _⟩) hS (fun q _ h => hFc q h) hFc (fun v124 u t H1 locs ht hvm e124 hB hz1 hk1 hS => ?_)
                        obtain ⟨hP1, hK1, hD1⟩ := hB
                        rw [ht] at hP1
                        obtain ⟨hP, hD⟩ := va_join (wr := []) (w1 := [(hm, .inr (2, [.int (nI 3), .ref ml, .ref mw, .ref mb, .ref ms, .ref mn])), (ml, .inl (cI, 8, .inl ln)), (mw, .inl (cI, 512, .inl wh)), (mb, .inl (cI, 48, .inl bi)), (ms, .inl (cZ, 48, .inl si)), (mn, .inl (cJ, 6, .inr (.inl nu)))]) hP hD [0, 1, 2, 3, 4, 5] [] rfl rfl (by decide) (by decide) hk1 hFc hP1 hD1
                        generalize H1 = H at hP hS ⊢
                        have hP : va_P (dC, dI) cls3 [(hm, .inr (2, [.int (nI 3), .ref ml, .ref mw, .ref mb, .ref ms, .ref mn])), (ml, .inl (cI, 8, .inl ln)), (mw, .inl (cI, 512, .inl wh)), (mb, .inl (cI, 48, .inl bi)), (ms, .inl (cZ, 48, .inl si)), (mn, .inl (cJ, 6, .inr (.inl nu)))] H := hP
                        have hD : va_D A [(hm, .inr (2, [.int (nI 3), .ref ml, .ref mw, .ref mb, .ref ms, .ref mn])), (ml, .inl (cI, 8, .inl ln)), (mw, .inl (cI, 512, .inl wh)), (mb, .inl (cI, 48, .inl bi)), (ms, .inl (cZ, 48, .inl si)), (mn, .inl (cJ, 6, .inr (.inl nu)))] := hD
                        obtain rfl : v124 = nI 1 := e124
                        refine lv_if_eq (tgt := 132) hx hb dM_slice_127 (by decide) (fun h127 => ?_) (fun h127 => ?_)
                        · exfalso
                          first | exact h127 (by decide +kernel) | exact absurd h127 (by decide +kernel)
                        · refine lv_iconst (v := nI 0) hx hb dM_slice_130 (by decide +kernel) ?_
                          have hcd : cdSlice ns its wss (nI f) (nI o) (nI hi) (nI lo) = 3 := by unfold cdSlice; first | (rw [if_neg (fun q9 => by rw [h12] at q9; exact absurd q9.1 (by decide))]) | (rw [if_neg (fun q9 => h18 q9.2)]) | (rw [if_pos ⟨thr_t hf ho hw1, h18⟩, if_pos (Or.inl h38)]) | (rw [if_pos ⟨thr_t hf ho hw1, h18⟩, if_pos (Or.inr (by rw [hff, hfo]; exact Int32.not_lt.mp h48))]) | (rw [if_pos ⟨thr_t hf ho hw1, h18⟩, if_neg (fun q9 => q9.elim h38 (fun q9 => absurd h48 (Int32.not_lt.mpr (by rw [hff, hfo] at q9; exact q9)))), hff, hfh, hfl, if_pos (by omega)]) | (rw [if_pos ⟨thr_t hf ho hw1, h18⟩, if_neg (fun q9 => q9.elim h38 (fun q9 => absurd h48 (Int32.not_lt.mpr (by rw [hff, hfo] at q9; exact q9)))), hff, hfo, hfh, hfl, if_neg (by omega), hany_p (by omega) hk (by omega) (Classical.byContradiction (fun q9 => h115 ((plR_lt hn e112).mpr q9)))]; rfl) | (rw [if_pos ⟨thr_t hf ho hw1, h18⟩, if_neg (fun q9 => q9.elim h38 (fun q9 => absurd h48 (Int32.not_lt.mpr (by rw [hff, hfo] at q9; exact q9)))), hff, hfo, hfh, hfl, if_neg (by omega), hnone]; rfl)
                          exact W.iret (v := nI 0) hx hb hr (fun t ht hW => ⟨⟨_, (), rfl, (by intro h0; first | exact absurd (hcd.symm.trans h0) (by decide) | (rw [hff, hfh, hfl])), ln, wh, by rw [hcd]; exact hM, by rw [ht, hcd]; exact hP, va_K.moved hW.alike hK, by rw [hcd]; exact hD⟩, hS.F ht⟩) hS.2.2 dM_slice_131
                · exfalso
                  first | exact h91 (by decide +kernel) | exact absurd h91 (by decide +kernel)
              · rw [nI_leI (by omega) (by omega)] at h79
                refine lv_iconst (v := nI 1) hx hb dM_slice_82 (by decide +kernel) ?_
                refine lv_goto (tgt := 87) hx hb dM_slice_83 (by decide) ?_
                refine lv_iconst (v := nI 2) hx hb dM_slice_87 (by decide +kernel) ?_
                have hPc := hP.sub (ws' := [(hm, .inr (2, [.int (nI 0), .ref ml, .ref mw, .ref mb, .ref ms, .ref mn])), (ml, .inl (cI, 8, .inl ln)), (mw, .inl (cI, 512, .inl wh)), (mb, .inl (cI, 48, .inl bi)), (ms, .inl (cZ, 48, .inl si)), (mn, .inl (cJ, 6, .inr (.inl nu)))]) [0, 1, 2, 3, 4, 5] rfl
                have hDc := hD.sub (ws' := [(hm, .inr (2, [.int (nI 0), .ref ml, .ref mw, .ref mb, .ref ms, .ref mn])), (ml, .inl (cI, 8, .inl ln)), (mw, .inl (cI, 512, .inl wh)), (mb, .inl (cI, 48, .inl bi)), (ms, .inl (cZ, 48, .inl si)), (mn, .inl (cJ, 6, .inr (.inl nu)))]) [0, 1, 2, 3, 4, 5] (by decide) rfl
                have hKc := hK.sub (tys' := [(cI, .int), (cZ, .boolean), (cJ, .long)]) [0, 1, 2] rfl
                have hFc := va_free (wc := [(hm, .inr (2, [.int (nI 0), .ref ml, .ref mw, .ref mb, .ref ms, .ref mn])), (ml, .inl (cI, 8, .inl ln)), (mw, .inl (cI, 512, .inl wh)), (mb, .inl (cI, 48, .inl bi)), (ms, .inl (cZ, 48, .inl si)), (mn, .inl (cJ, 6, .inr (.inl nu)))]) hD hS hA [0, 1, 2, 3, 4, 5] rfl
                refine va_calli (va_runV (As := [.int (nI 1), .int (nI 2)]) (rest := []) ⟨hx, hb, hml, hown, hw⟩ (c_M_fails1 l dC dI _ cI cZ cJ hm ml mw mb ms mn ln wh bi si nu 2 (by decide)) (cwV 2 hw (gV kw_420 kw_422 kw_5 kw_16 kw_423) rfl rfl rfl (by decide +kernel) ⟨Nat.le_of_ble_eq_true rfl, Nat.le_of_ble_eq_true rfl⟩) (rw_preV (q0 := 0) hKc hPc hDc rfl rfl) rfl rfl hl.1 rfl (lv_room (Nat.le_of_ble_eq_true rfl)) dM_slice_88 ⟨Nat.zero_le _, Nat.zero_le _⟩) hS (fun q _ h => hFc q h) hFc (fun v88 u t H1 locs ht hvm e88 hB hz1 hk1 hS => ?_)
                obtain ⟨hP1, hK1, hD1⟩ := hB
                rw [ht] at hP1
                obtain ⟨hP, hD⟩ := va_join (wr := []) (w1 := [(hm, .inr (2, [.int (nI 2), .ref ml, .ref mw, .ref mb, .ref ms, .ref mn])), (ml, .inl (cI, 8, .inl ln)), (mw, .inl (cI, 512, .inl wh)), (mb, .inl (cI, 48, .inl bi)), (ms, .inl (cZ, 48, .inl si)), (mn, .inl (cJ, 6, .inr (.inl nu)))]) hP hD [0, 1, 2, 3, 4, 5] [] rfl rfl (by decide) (by decide) hk1 hFc hP1 hD1
                generalize H1 = H at hP hS ⊢
                have hP : va_P (dC, dI) cls3 [(hm, .inr (2, [.int (nI 2), .ref ml, .ref mw, .ref mb, .ref ms, .ref mn])), (ml, .inl (cI, 8, .inl ln)), (mw, .inl (cI, 512, .inl wh)), (mb, .inl (cI, 48, .inl bi)), (ms, .inl (cZ, 48, .inl si)), (mn, .inl (cJ, 6, .inr (.inl nu)))] H := hP
                have hD : va_D A [(hm, .inr (2, [.int (nI 2), .ref ml, .ref mw, .ref mb, .ref ms, .ref mn])), (ml, .inl (cI, 8, .inl ln)), (mw, .inl (cI, 512, .inl wh)), (mb, .inl (cI, 48, .inl bi)), (ms, .inl (cZ, 48, .inl si)), (mn, .inl (cJ, 6, .inr (.inl nu)))] := hD
                obtain rfl : v88 = nI 1 := e88
                refine lv_if_eq (tgt := 96) hx hb dM_slice_91 (by decide) (fun h91 => ?_) (fun h91 => ?_)
                · exfalso
                  first | exact h91 (by decide +kernel) | exact absurd h91 (by decide +kernel)
                · refine lv_iconst (v := nI 0) hx hb dM_slice_94 (by decide +kernel) ?_
                  have hcd : cdSlice ns its wss (nI f) (nI o) (nI hi) (nI lo) = 2 := by unfold cdSlice; first | (rw [if_neg (fun q9 => by rw [h12] at q9; exact absurd q9.1 (by decide))]) | (rw [if_neg (fun q9 => h18 q9.2)]) | (rw [if_pos ⟨thr_t hf ho hw1, h18⟩, if_pos (Or.inl h38)]) | (rw [if_pos ⟨thr_t hf ho hw1, h18⟩, if_pos (Or.inr (by rw [hff, hfo]; exact Int32.not_lt.mp h48))]) | (rw [if_pos ⟨thr_t hf ho hw1, h18⟩, if_neg (fun q9 => q9.elim h38 (fun q9 => absurd h48 (Int32.not_lt.mpr (by rw [hff, hfo] at q9; exact q9)))), hff, hfh, hfl, if_pos (by omega)]) | (rw [if_pos ⟨thr_t hf ho hw1, h18⟩, if_neg (fun q9 => q9.elim h38 (fun q9 => absurd h48 (Int32.not_lt.mpr (by rw [hff, hfo] at q9; exact q9)))), hff, hfo, hfh, hfl, if_neg (by omega), hany_p (by omega) hk (by omega) (Classical.byContradiction (fun q9 => h115 ((plR_lt hn e112).mpr q9)))]; rfl) | (rw [if_pos ⟨thr_t hf ho hw1, h18⟩, if_neg (fun q9 => q9.elim h38 (fun q9 => absurd h48 (Int32.not_lt.mpr (by rw [hff, hfo] at q9; exact q9)))), hff, hfo, hfh, hfl, if_neg (by omega), hnone]; rfl)
                  exact W.iret (v := nI 0) hx hb hr (fun t ht hW => ⟨⟨_, (), rfl, (by intro h0; first | exact absurd (hcd.symm.trans h0) (by decide) | (rw [hff, hfh, hfl])), ln, wh, by rw [hcd]; exact hM, by rw [ht, hcd]; exact hP, va_K.moved hW.alike hK, by rw [hcd]; exact hD⟩, hS.F ht⟩) hS.2.2 dM_slice_95
          · refine lv_iconst (v := nI 1) hx hb dM_slice_51 (by decide +kernel) ?_
            refine lv_goto (tgt := 56) hx hb dM_slice_52 (by decide) ?_
            refine lv_iconst (v := nI 2) hx hb dM_slice_56 (by decide +kernel) ?_
            have hPc := hP.sub (ws' := [(hm, .inr (2, [.int (nI 0), .ref ml, .ref mw, .ref mb, .ref ms, .ref mn])), (ml, .inl (cI, 8, .inl ln)), (mw, .inl (cI, 512, .inl wh)), (mb, .inl (cI, 48, .inl bi)), (ms, .inl (cZ, 48, .inl si)), (mn, .inl (cJ, 6, .inr (.inl nu)))]) [0, 1, 2, 3, 4, 5] rfl
            have hDc := hD.sub (ws' := [(hm, .inr (2, [.int (nI 0), .ref ml, .ref mw, .ref mb, .ref ms, .ref mn])), (ml, .inl (cI, 8, .inl ln)), (mw, .inl (cI, 512, .inl wh)), (mb, .inl (cI, 48, .inl bi)), (ms, .inl (cZ, 48, .inl si)), (mn, .inl (cJ, 6, .inr (.inl nu)))]) [0, 1, 2, 3, 4, 5] (by decide) rfl
            have hKc := hK.sub (tys' := [(cI, .int), (cZ, .boolean), (cJ, .long)]) [0, 1, 2] rfl
            have hFc := va_free (wc := [(hm, .inr (2, [.int (nI 0), .ref ml, .ref mw, .ref mb, .ref ms, .ref mn])), (ml, .inl (cI, 8, .inl ln)), (mw, .inl (cI, 512, .inl wh)), (mb, .inl (cI, 48, .inl bi)), (ms, .inl (cZ, 48, .inl si)), (mn, .inl (cJ, 6, .inr (.inl nu)))]) hD hS hA [0, 1, 2, 3, 4, 5] rfl
            refine va_calli (va_runV (As := [.int (nI 1), .int (nI 2)]) (rest := []) ⟨hx, hb, hml, hown, hw⟩ (c_M_fails1 l dC dI _ cI cZ cJ hm ml mw mb ms mn ln wh bi si nu 2 (by decide)) (cwV 2 hw (gV kw_420 kw_422 kw_5 kw_16 kw_423) rfl rfl rfl (by decide +kernel) ⟨Nat.le_of_ble_eq_true rfl, Nat.le_of_ble_eq_true rfl⟩) (rw_preV (q0 := 0) hKc hPc hDc rfl rfl) rfl rfl hl.1 rfl (lv_room (Nat.le_of_ble_eq_true rfl)) dM_slice_57 ⟨Nat.zero_le _, Nat.zero_le _⟩) hS (fun q _ h => hFc q h) hFc (fun v57 u t H1 locs ht hvm e57 hB hz1 hk1 hS => ?_)
            obtain ⟨hP1, hK1, hD1⟩ := hB
            rw [ht] at hP1
            obtain ⟨hP, hD⟩ := va_join (wr := []) (w1 := [(hm, .inr (2, [.int (nI 2), .ref ml, .ref mw, .ref mb, .ref ms, .ref mn])), (ml, .inl (cI, 8, .inl ln)), (mw, .inl (cI, 512, .inl wh)), (mb, .inl (cI, 48, .inl bi)), (ms, .inl (cZ, 48, .inl si)), (mn, .inl (cJ, 6, .inr (.inl nu)))]) hP hD [0, 1, 2, 3, 4, 5] [] rfl rfl (by decide) (by decide) hk1 hFc hP1 hD1
            generalize H1 = H at hP hS ⊢
            have hP : va_P (dC, dI) cls3 [(hm, .inr (2, [.int (nI 2), .ref ml, .ref mw, .ref mb, .ref ms, .ref mn])), (ml, .inl (cI, 8, .inl ln)), (mw, .inl (cI, 512, .inl wh)), (mb, .inl (cI, 48, .inl bi)), (ms, .inl (cZ, 48, .inl si)), (mn, .inl (cJ, 6, .inr (.inl nu)))] H := hP
            have hD : va_D A [(hm, .inr (2, [.int (nI 2), .ref ml, .ref mw, .ref mb, .ref ms, .ref mn])), (ml, .inl (cI, 8, .inl ln)), (mw, .inl (cI, 512, .inl wh)), (mb, .inl (cI, 48, .inl bi)), (ms, .inl (cZ, 48, .inl si)), (mn, .inl (cJ, 6, .inr (.inl nu)))] := hD
            obtain rfl : v57 = nI 1 := e57
            refine lv_if_ne (tgt := 94) hx hb dM_slice_60 (by decide) (fun h60 => ?_) (fun h60 => ?_)
            · refine lv_iconst (v := nI 0) hx hb dM_slice_94 (by decide +kernel) ?_
              have hcd : cdSlice ns its wss (nI f) (nI o) zh zl = 2 := by unfold cdSlice; first | (rw [if_neg (fun q9 => by rw [h12] at q9; exact absurd q9.1 (by decide))]) | (rw [if_neg (fun q9 => h18 q9.2)]) | (rw [if_pos ⟨thr_t hf ho hw1, h18⟩, if_pos (Or.inl h38)]) | (rw [if_pos ⟨thr_t hf ho hw1, h18⟩, if_pos (Or.inr (by rw [hff, hfo]; exact Int32.not_lt.mp h48))]) | (rw [if_pos ⟨thr_t hf ho hw1, h18⟩, if_neg (fun q9 => q9.elim h38 (fun q9 => absurd h48 (Int32.not_lt.mpr (by rw [hff, hfo] at q9; exact q9)))), hff, hfh, hfl, if_pos (by omega)]) | (rw [if_pos ⟨thr_t hf ho hw1, h18⟩, if_neg (fun q9 => q9.elim h38 (fun q9 => absurd h48 (Int32.not_lt.mpr (by rw [hff, hfo] at q9; exact q9)))), hff, hfo, hfh, hfl, if_neg (by omega), hany_p (by omega) hk (by omega) (Classical.byContradiction (fun q9 => h115 ((plR_lt hn e112).mpr q9)))]; rfl) | (rw [if_pos ⟨thr_t hf ho hw1, h18⟩, if_neg (fun q9 => q9.elim h38 (fun q9 => absurd h48 (Int32.not_lt.mpr (by rw [hff, hfo] at q9; exact q9)))), hff, hfo, hfh, hfl, if_neg (by omega), hnone]; rfl)
              exact W.iret (v := nI 0) hx hb hr (fun t ht hW => ⟨⟨_, (), rfl, (by intro h0; first | exact absurd (hcd.symm.trans h0) (by decide) | (rw [hff, hfh, hfl])), ln, wh, by rw [hcd]; exact hM, by rw [ht, hcd]; exact hP, va_K.moved hW.alike hK, by rw [hcd]; exact hD⟩, hS.F ht⟩) hS.2.2 dM_slice_95
            · exfalso
              first | exact h60 (by decide +kernel) | exact absurd h60 (by decide +kernel)
      · exfalso
        first | exact h30 (by decide +kernel) | exact absurd h30 (by decide +kernel)
    · refine lv_iconst (v := nI 1) hx hb dM_slice_21 (by decide +kernel) ?_
      refine lv_goto (tgt := 26) hx hb dM_slice_22 (by decide) ?_
      refine lv_iconst (v := nI 1) hx hb dM_slice_26 (by decide +kernel) ?_
      have hPc := hP.sub (ws' := [(hm, .inr (2, [.int (nI 0), .ref ml, .ref mw, .ref mb, .ref ms, .ref mn])), (ml, .inl (cI, 8, .inl ln)), (mw, .inl (cI, 512, .inl wh)), (mb, .inl (cI, 48, .inl bi)), (ms, .inl (cZ, 48, .inl si)), (mn, .inl (cJ, 6, .inr (.inl nu)))]) [0, 1, 2, 3, 4, 5] rfl
      have hDc := hD.sub (ws' := [(hm, .inr (2, [.int (nI 0), .ref ml, .ref mw, .ref mb, .ref ms, .ref mn])), (ml, .inl (cI, 8, .inl ln)), (mw, .inl (cI, 512, .inl wh)), (mb, .inl (cI, 48, .inl bi)), (ms, .inl (cZ, 48, .inl si)), (mn, .inl (cJ, 6, .inr (.inl nu)))]) [0, 1, 2, 3, 4, 5] (by decide) rfl
      have hKc := hK.sub (tys' := [(cI, .int), (cZ, .boolean), (cJ, .long)]) [0, 1, 2] rfl
      have hFc := va_free (wc := [(hm, .inr (2, [.int (nI 0), .ref ml, .ref mw, .ref mb, .ref ms, .ref mn])), (ml, .inl (cI, 8, .inl ln)), (mw, .inl (cI, 512, .inl wh)), (mb, .inl (cI, 48, .inl bi)), (ms, .inl (cZ, 48, .inl si)), (mn, .inl (cJ, 6, .inr (.inl nu)))]) hD hS hA [0, 1, 2, 3, 4, 5] rfl
      refine va_calli (va_runV (As := [.int (nI 1), .int (nI 1)]) (rest := []) ⟨hx, hb, hml, hown, hw⟩ (c_M_fails1 l dC dI _ cI cZ cJ hm ml mw mb ms mn ln wh bi si nu 1 (by decide)) (cwV 2 hw (gV kw_420 kw_422 kw_5 kw_16 kw_423) rfl rfl rfl (by decide +kernel) ⟨Nat.le_of_ble_eq_true rfl, Nat.le_of_ble_eq_true rfl⟩) (rw_preV (q0 := 0) hKc hPc hDc rfl rfl) rfl rfl hl.1 rfl (lv_room (Nat.le_of_ble_eq_true rfl)) dM_slice_27 ⟨Nat.zero_le _, Nat.zero_le _⟩) hS (fun q _ h => hFc q h) hFc (fun v27 u t H1 locs ht hvm e27 hB hz1 hk1 hS => ?_)
      obtain ⟨hP1, hK1, hD1⟩ := hB
      rw [ht] at hP1
      obtain ⟨hP, hD⟩ := va_join (wr := []) (w1 := [(hm, .inr (2, [.int (nI 1), .ref ml, .ref mw, .ref mb, .ref ms, .ref mn])), (ml, .inl (cI, 8, .inl ln)), (mw, .inl (cI, 512, .inl wh)), (mb, .inl (cI, 48, .inl bi)), (ms, .inl (cZ, 48, .inl si)), (mn, .inl (cJ, 6, .inr (.inl nu)))]) hP hD [0, 1, 2, 3, 4, 5] [] rfl rfl (by decide) (by decide) hk1 hFc hP1 hD1
      generalize H1 = H at hP hS ⊢
      have hP : va_P (dC, dI) cls3 [(hm, .inr (2, [.int (nI 1), .ref ml, .ref mw, .ref mb, .ref ms, .ref mn])), (ml, .inl (cI, 8, .inl ln)), (mw, .inl (cI, 512, .inl wh)), (mb, .inl (cI, 48, .inl bi)), (ms, .inl (cZ, 48, .inl si)), (mn, .inl (cJ, 6, .inr (.inl nu)))] H := hP
      have hD : va_D A [(hm, .inr (2, [.int (nI 1), .ref ml, .ref mw, .ref mb, .ref ms, .ref mn])), (ml, .inl (cI, 8, .inl ln)), (mw, .inl (cI, 512, .inl wh)), (mb, .inl (cI, 48, .inl bi)), (ms, .inl (cZ, 48, .inl si)), (mn, .inl (cJ, 6, .inr (.inl nu)))] := hD
      obtain rfl : v27 = nI 1 := e27
      refine lv_if_eq (tgt := 35) hx hb dM_slice_30 (by decide) (fun h30 => ?_) (fun h30 => ?_)
      · exfalso
        first | exact h30 (by decide +kernel) | exact absurd h30 (by decide +kernel)
      · refine lv_iconst (v := nI 0) hx hb dM_slice_33 (by decide +kernel) ?_
        have hcd : cdSlice ns its wss (nI f) (nI o) zh zl = 1 := by unfold cdSlice; first | (rw [if_neg (fun q9 => by rw [h12] at q9; exact absurd q9.1 (by decide))]) | (rw [if_neg (fun q9 => h18 q9.2)]) | (rw [if_pos ⟨thr_t hf ho hw1, h18⟩, if_pos (Or.inl h38)]) | (rw [if_pos ⟨thr_t hf ho hw1, h18⟩, if_pos (Or.inr (by rw [hff, hfo]; exact Int32.not_lt.mp h48))]) | (rw [if_pos ⟨thr_t hf ho hw1, h18⟩, if_neg (fun q9 => q9.elim h38 (fun q9 => absurd h48 (Int32.not_lt.mpr (by rw [hff, hfo] at q9; exact q9)))), hff, hfh, hfl, if_pos (by omega)]) | (rw [if_pos ⟨thr_t hf ho hw1, h18⟩, if_neg (fun q9 => q9.elim h38 (fun q9 => absurd h48 (Int32.not_lt.mpr (by rw [hff, hfo] at q9; exact q9)))), hff, hfo, hfh, hfl, if_neg (by omega), hany_p (by omega) hk (by omega) (Classical.byContradiction (fun q9 => h115 ((plR_lt hn e112).mpr q9)))]; rfl) | (rw [if_pos ⟨thr_t hf ho hw1, h18⟩, if_neg (fun q9 => q9.elim h38 (fun q9 => absurd h48 (Int32.not_lt.mpr (by rw [hff, hfo] at q9; exact q9)))), hff, hfo, hfh, hfl, if_neg (by omega), hnone]; rfl)
        exact W.iret (v := nI 0) hx hb hr (fun t ht hW => ⟨⟨_, (), rfl, (by intro h0; first | exact absurd (hcd.symm.trans h0) (by decide) | (rw [hff, hfh, hfl])), ln, wh, by rw [hcd]; exact hM, by rw [ht, hcd]; exact hP, va_K.moved hW.alike hK, by rw [hcd]; exact hD⟩, hS.F ht⟩) hS.2.2 dM_slice_34

set_option maxHeartbeats 4000000 in
set_option maxRecDepth 100000 in
theorem c_M_decode (l : Launch) (dC : Nat → ClassId) (dI : Nat → Nat → Nat) (sz : Nat) (cI cZ cJ : ClassId) (hm ml mw mb ms mn : Nat) (er : Int32) (ln wh bi si : Nat → Int32) (nu : Nat → Int64) (ns : Nat → Nat) (its wss : Nat → Nat → Nat) (sbs : Nat → Nat → Bool) (hM : mR ns its wss sbs ln wh bi si) (x y : Int32) (wo : Int64) : Met l yM_decode wM_decode { frames := 3, cells := 0, slots := 0, locals := 67 } (rw_Pc (dC, dI) cls3 [(hm, .inr (2, [.int er, .ref ml, .ref mw, .ref mb, .ref ms, .ref mn])), (ml, .inl (cI, 8, .inl ln)), (mw, .inl (cI, 512, .inl wh)), (mb, .inl (cI, 48, .inl bi)), (ms, .inl (cZ, 48, .inl si)), (mn, .inl (cJ, 6, .inr (.inl nu)))] [(cI, .int), (cZ, .boolean), (cJ, .long)] sz [.ref hm, .int x, .int y, .long wo]) (va_Ql (fun (r : Int64) (_ : Unit) => cdDec ns its wss x y wo = 0 → dcP (its (fi x)) (ns (fi x)) (wss (fi x) (fi y)) (sbs (fi x) (fi y)) (fi y) wo r) (fun _ t => va_P (dC, dI) cls3 [(hm, .inr (2, [.int (nI (cdDec ns its wss x y wo)), .ref ml, .ref mw, .ref mb, .ref ms, .ref mn])), (ml, .inl (cI, 8, .inl ln)), (mw, .inl (cI, 512, .inl wh)), (mb, .inl (cI, 48, .inl bi)), (ms, .inl (cZ, 48, .inl si)), (mn, .inl (cJ, 6, .inr (.inl nu)))] t.heap ∧ va_K (dC, dI) cls3 [(cI, .int), (cZ, .boolean), (cJ, .long)] t ∧ va_D (va_A [(hm, .inr (2, [.int er, .ref ml, .ref mw, .ref mb, .ref ms, .ref mn])), (ml, .inl (cI, 8, .inl ln)), (mw, .inl (cI, 512, .inl wh)), (mb, .inl (cI, 48, .inl bi)), (ms, .inl (cZ, 48, .inl si)), (mn, .inl (cJ, 6, .inr (.inl nu)))] sz) [(hm, .inr (2, [.int (nI (cdDec ns its wss x y wo)), .ref ml, .ref mw, .ref mb, .ref ms, .ref mn])), (ml, .inl (cI, 8, .inl ln)), (mw, .inl (cI, 512, .inl wh)), (mb, .inl (cI, 48, .inl bi)), (ms, .inl (cZ, 48, .inl si)), (mn, .inl (cJ, 6, .inr (.inl nu)))]) (va_A [(hm, .inr (2, [.int er, .ref ml, .ref mw, .ref mb, .ref ms, .ref mn])), (ml, .inl (cI, 8, .inl ln)), (mw, .inl (cI, 512, .inl wh)), (mb, .inl (cI, 48, .inl bi)), (ms, .inl (cZ, 48, .inl si)), (mn, .inl (cJ, 6, .inr (.inl nu)))] sz)) 0 0 (va_A [(hm, .inr (2, [.int er, .ref ml, .ref mw, .ref mb, .ref ms, .ref mn])), (ml, .inl (cI, 8, .inl ln)), (mw, .inl (cI, 512, .inl wh)), (mb, .inl (cI, 48, .inl bi)), (ms, .inl (cZ, 48, .inl si)), (mn, .inl (cJ, 6, .inr (.inl nu)))] sz) := by
  refine Met.ofW (cc := cM_decode) (maxL := 11) (ret := (some .long)) (by decide) rfl ?_
  intro p e s m args below meth c s₁ B hml hv
  obtain ⟨rfl, hsz, hP, hK, hD0⟩ := hv
  have hx := B.exec
  have hb := B.bytes
  have hr := B.returns
  have hts := atoms_spec (ws := wM_decode) B.pre
  have hw : ∀ w ∈ wA, w.before _ s = true := fun w h => hts w (List.mem_cons_of_mem _ h)
  have hown : s.vm.findClass RM = some m.cls := findClass_of_methodNamed B.named
  have hlocks := B.notSynchronized
  subst hsz
  have hD := hD0.self (sz := s.heap.size)
  generalize hAe : va_A [(hm, .inr (2, [.int er, .ref ml, .ref mw, .ref mb, .ref ms, .ref mn])), (ml, .inl (cI, 8, .inl ln)), (mw, .inl (cI, 512, .inl wh)), (mb, .inl (cI, 48, .inl bi)), (ms, .inl (cZ, 48, .inl si)), (mn, .inl (cJ, 6, .inr (.inl nu)))] s.heap.size = A at hD ⊢
  have hA : ∀ q : Nat, s.heap.size ≤ q → A q := fun q h => by rw [← hAe]; exact Or.inr h
  have hS : va_S A s.heap s.heap [] := va_S.rf
  have hl := lv_entry ([.ref hm, .int x, .int y, .long wo]) (n := 11) (Nat.le_of_ble_eq_true rfl)
  rw [lg_entry_eq]
  generalize (lg_sl ([.ref hm, .int x, .int y, .long wo]) ++ List.replicate (11 - (lg_sl ([.ref hm, .int x, .int y, .long wo])).length) Slot.unset).toArray = ls at hl ⊢
  have hl : lv_has ls 11 [(0, .ref hm), (1, .int x), (2, .int y), (3, .long wo)] := hl
  refine lv_aload_n hx hb dM_decode_0 rfl (lv_at hl 0 rfl) ?_
  refine lv_iconst (v := nI 0) hx hb dM_decode_1 (by decide +kernel) ?_
  refine va_put (D := (dC, dI)) (ci := 2) (v := .int (nI 0)) (ty := .int) (C := RM) (T := TM) (N := 6) hx hb hw inM tM tM_ok nM hown hK hP hD hS 0 rfl rfl 0 (by decide) (hw _ kw_386) (fun _ h9 => h9) rfl (by decide +kernel) rfl rfl (Nat.le_of_ble_eq_true rfl) dM_decode_2 (fun H locs hP hD hS => ?_)
  have hP : va_P (dC, dI) cls3 [(hm, .inr (2, [.int (nI 0), .ref ml, .ref mw, .ref mb, .ref ms, .ref mn])), (ml, .inl (cI, 8, .inl ln)), (mw, .inl (cI, 512, .inl wh)), (mb, .inl (cI, 48, .inl bi)), (ms, .inl (cZ, 48, .inl si)), (mn, .inl (cJ, 6, .inr (.inl nu)))] H := hP
  have hD : va_D A [(hm, .inr (2, [.int (nI 0), .ref ml, .ref mw, .ref mb, .ref ms, .ref mn])), (ml, .inl (cI, 8, .inl ln)), (mw, .inl (cI, 512, .inl wh)), (mb, .inl (cI, 48, .inl bi)), (ms, .inl (cZ, 48, .inl si)), (mn, .inl (cJ, 6, .inr (.inl nu)))] := hD
  refine lv_aload_n hx hb dM_decode_5 rfl (lv_at hl 0 rfl) ?_
  refine lv_aload_n hx hb dM_decode_6 rfl (lv_at hl 0 rfl) ?_
  refine lv_iload_n hx hb dM_decode_7 rfl (lv_at hl 1 rfl) ?_
  refine lv_iload_n hx hb dM_decode_8 rfl (lv_at hl 2 rfl) ?_
  refine vp_callSi (W.runV (As := [.int x, .int y]) (rest := [.ref hm]) ⟨hx, hb, hml, hown, hw⟩ (c_M_isThere l dC dI cI cZ cJ hm ml mw mb ms mn (nI 0) ln wh bi si nu ns its wss sbs hM x y) (cwV 2 hw (gV kw_448 kw_450 kw_7 kw_16 kw_451) rfl rfl rfl (by decide +kernel) ⟨Nat.le_of_ble_eq_true rfl, Nat.le_of_ble_eq_true rfl⟩) (ro_preV (q0 := 0) hK hP rfl rfl) rfl rfl hl.1 rfl (lv_room (Nat.le_of_ble_eq_true rfl)) dM_decode_9 ⟨Nat.zero_le _, Nat.zero_le _⟩) (fun v9 e9 => ?_)
  obtain rfl : v9 = nI (thr wss x y).toNat := e9
  refine lv_if_ne (tgt := 19) hx hb dM_decode_12 (by decide) (fun h12 => ?_) (fun h12 => ?_)
  · obtain ⟨f, o, hf, ho, hw1, rfl, rfl⟩ := thr_of (b_nf h12)
    have hff : fi (nI f) = f := fi_nI (by omega)
    have hfo : fi (nI o) = o := fi_nI (by omega)
    have hok := (hM f hf).1
    have hn := hok.1
    have hw64 := hok.2.1
    have hit := cw_it hok
    have hwo := hw64 o ho
    have hlf : cw_lft (its f) (ns f) (wss f) 6 ≤ 384 := by have := cw_missing (its f) (wss f) (ns f) hok; have := cw_sum_le (wss f) 6 hw64; omega
    refine lv_iconst (v := nI 0) hx hb dM_decode_19 (by decide +kernel) ?_
    refine lv_iconst (v := nI 1) hx hb dM_decode_20 (by decide +kernel) ?_
    have hPc := hP.sub (ws' := [(hm, .inr (2, [.int (nI 0), .ref ml, .ref mw, .ref mb, .ref ms, .ref mn])), (ml, .inl (cI, 8, .inl ln)), (mw, .inl (cI, 512, .inl wh)), (mb, .inl (cI, 48, .inl bi)), (ms, .inl (cZ, 48, .inl si)), (mn, .inl (cJ, 6, .inr (.inl nu)))]) [0, 1, 2, 3, 4, 5] rfl
    have hDc := hD.sub (ws' := [(hm, .inr (2, [.int (nI 0), .ref ml, .ref mw, .ref mb, .ref ms, .ref mn])), (ml, .inl (cI, 8, .inl ln)), (mw, .inl (cI, 512, .inl wh)), (mb, .inl (cI, 48, .inl bi)), (ms, .inl (cZ, 48, .inl si)), (mn, .inl (cJ, 6, .inr (.inl nu)))]) [0, 1, 2, 3, 4, 5] (by decide) rfl
    have hKc := hK.sub (tys' := [(cI, .int), (cZ, .boolean), (cJ, .long)]) [0, 1, 2] rfl
    have hFc := va_free (wc := [(hm, .inr (2, [.int (nI 0), .ref ml, .ref mw, .ref mb, .ref ms, .ref mn])), (ml, .inl (cI, 8, .inl ln)), (mw, .inl (cI, 512, .inl wh)), (mb, .inl (cI, 48, .inl bi)), (ms, .inl (cZ, 48, .inl si)), (mn, .inl (cJ, 6, .inr (.inl nu)))]) hD hS hA [0, 1, 2, 3, 4, 5] rfl
    refine va_calli (va_runV (As := [.int (nI 0), .int (nI 1)]) (rest := []) ⟨hx, hb, hml, hown, hw⟩ (c_M_fails0 l dC dI _ cI cZ cJ hm ml mw mb ms mn ln wh bi si nu 1 (by decide)) (cwV 2 hw (gV kw_420 kw_422 kw_5 kw_16 kw_423) rfl rfl rfl (by decide +kernel) ⟨Nat.le_of_ble_eq_true rfl, Nat.le_of_ble_eq_true rfl⟩) (rw_preV (q0 := 0) hKc hPc hDc rfl rfl) rfl rfl hl.1 rfl (lv_room (Nat.le_of_ble_eq_true rfl)) dM_decode_21 ⟨Nat.zero_le _, Nat.zero_le _⟩) hS (fun q _ h => hFc q h) hFc (fun v21 u t H1 locs ht hvm e21 hB hz1 hk1 hS => ?_)
    obtain ⟨hP1, hK1, hD1⟩ := hB
    rw [ht] at hP1
    obtain ⟨hP, hD⟩ := va_join (wr := []) (w1 := [(hm, .inr (2, [.int (nI 0), .ref ml, .ref mw, .ref mb, .ref ms, .ref mn])), (ml, .inl (cI, 8, .inl ln)), (mw, .inl (cI, 512, .inl wh)), (mb, .inl (cI, 48, .inl bi)), (ms, .inl (cZ, 48, .inl si)), (mn, .inl (cJ, 6, .inr (.inl nu)))]) hP hD [0, 1, 2, 3, 4, 5] [] rfl rfl (by decide) (by decide) hk1 hFc hP1 hD1
    generalize H1 = H at hP hS ⊢
    have hP : va_P (dC, dI) cls3 [(hm, .inr (2, [.int (nI 0), .ref ml, .ref mw, .ref mb, .ref ms, .ref mn])), (ml, .inl (cI, 8, .inl ln)), (mw, .inl (cI, 512, .inl wh)), (mb, .inl (cI, 48, .inl bi)), (ms, .inl (cZ, 48, .inl si)), (mn, .inl (cJ, 6, .inr (.inl nu)))] H := hP
    have hD : va_D A [(hm, .inr (2, [.int (nI 0), .ref ml, .ref mw, .ref mb, .ref ms, .ref mn])), (ml, .inl (cI, 8, .inl ln)), (mw, .inl (cI, 512, .inl wh)), (mb, .inl (cI, 48, .inl bi)), (ms, .inl (cZ, 48, .inl si)), (mn, .inl (cJ, 6, .inr (.inl nu)))] := hD
    obtain rfl : v21 = nI 0 := e21
    refine lv_if_ne (tgt := 70) hx hb dM_decode_24 (by decide) (fun h24 => ?_) (fun h24 => ?_)
    · exfalso
      first | exact h24 (by decide +kernel) | exact absurd h24 (by decide +kernel)
    · refine lv_aload_n hx hb dM_decode_27 rfl (lv_at hl 0 rfl) ?_
      refine lv_aload_n hx hb dM_decode_28 rfl (lv_at hl 0 rfl) ?_
      refine lv_iload_n hx hb dM_decode_29 rfl (lv_at hl 1 rfl) ?_
      refine vp_callSi (W.runV (As := [.int (nI f)]) (rest := [.ref hm]) ⟨hx, hb, hml, hown, hw⟩ (c_M_left l dC dI cI cZ cJ hm ml mw mb ms mn (nI 0) ln wh bi si nu ns its wss sbs hM f hf) (cwV 1 hw (gV kw_460 kw_462 kw_9 kw_16 kw_463) rfl rfl rfl (by decide +kernel) ⟨Nat.le_of_ble_eq_true rfl, Nat.le_of_ble_eq_true rfl⟩) (ro_preV (q0 := 0) hK hP rfl rfl) rfl rfl hl.1 rfl (lv_room (Nat.le_of_ble_eq_true rfl)) dM_decode_30 ⟨Nat.zero_le _, Nat.zero_le _⟩) (fun v30 e30 => ?_)
      obtain rfl : v30 = nI (cw_lft (its f) (ns f) (wss f) 6) := e30
      refine lv_if_le (tgt := 40) hx hb dM_decode_33 (by decide) (fun h33 => ?_) (fun h33 => ?_)
      · rw [nI_le0 (by omega)] at h33
        refine lv_iconst (v := nI 0) hx hb dM_decode_40 (by decide +kernel) ?_
        refine lv_iconst (v := nI 2) hx hb dM_decode_41 (by decide +kernel) ?_
        have hPc := hP.sub (ws' := [(hm, .inr (2, [.int (nI 0), .ref ml, .ref mw, .ref mb, .ref ms, .ref mn])), (ml, .inl (cI, 8, .inl ln)), (mw, .inl (cI, 512, .inl wh)), (mb, .inl (cI, 48, .inl bi)), (ms, .inl (cZ, 48, .inl si)), (mn, .inl (cJ, 6, .inr (.inl nu)))]) [0, 1, 2, 3, 4, 5] rfl
        have hDc := hD.sub (ws' := [(hm, .inr (2, [.int (nI 0), .ref ml, .ref mw, .ref mb, .ref ms, .ref mn])), (ml, .inl (cI, 8, .inl ln)), (mw, .inl (cI, 512, .inl wh)), (mb, .inl (cI, 48, .inl bi)), (ms, .inl (cZ, 48, .inl si)), (mn, .inl (cJ, 6, .inr (.inl nu)))]) [0, 1, 2, 3, 4, 5] (by decide) rfl
        have hKc := hK.sub (tys' := [(cI, .int), (cZ, .boolean), (cJ, .long)]) [0, 1, 2] rfl
        have hFc := va_free (wc := [(hm, .inr (2, [.int (nI 0), .ref ml, .ref mw, .ref mb, .ref ms, .ref mn])), (ml, .inl (cI, 8, .inl ln)), (mw, .inl (cI, 512, .inl wh)), (mb, .inl (cI, 48, .inl bi)), (ms, .inl (cZ, 48, .inl si)), (mn, .inl (cJ, 6, .inr (.inl nu)))]) hD hS hA [0, 1, 2, 3, 4, 5] rfl
        refine va_calli (va_runV (As := [.int (nI 0), .int (nI 2)]) (rest := []) ⟨hx, hb, hml, hown, hw⟩ (c_M_fails0 l dC dI _ cI cZ cJ hm ml mw mb ms mn ln wh bi si nu 2 (by decide)) (cwV 2 hw (gV kw_420 kw_422 kw_5 kw_16 kw_423) rfl rfl rfl (by decide +kernel) ⟨Nat.le_of_ble_eq_true rfl, Nat.le_of_ble_eq_true rfl⟩) (rw_preV (q0 := 0) hKc hPc hDc rfl rfl) rfl rfl hl.1 rfl (lv_room (Nat.le_of_ble_eq_true rfl)) dM_decode_42 ⟨Nat.zero_le _, Nat.zero_le _⟩) hS (fun q _ h => hFc q h) hFc (fun v42 u t H1 locs ht hvm e42 hB hz1 hk1 hS => ?_)
        obtain ⟨hP1, hK1, hD1⟩ := hB
        rw [ht] at hP1
        obtain ⟨hP, hD⟩ := va_join (wr := []) (w1 := [(hm, .inr (2, [.int (nI 0), .ref ml, .ref mw, .ref mb, .ref ms, .ref mn])), (ml, .inl (cI, 8, .inl ln)), (mw, .inl (cI, 512, .inl wh)), (mb, .inl (cI, 48, .inl bi)), (ms, .inl (cZ, 48, .inl si)), (mn, .inl (cJ, 6, .inr (.inl nu)))]) hP hD [0, 1, 2, 3, 4, 5] [] rfl rfl (by decide) (by decide) hk1 hFc hP1 hD1
        generalize H1 = H at hP hS ⊢
        have hP : va_P (dC, dI) cls3 [(hm, .inr (2, [.int (nI 0), .ref ml, .ref mw, .ref mb, .ref ms, .ref mn])), (ml, .inl (cI, 8, .inl ln)), (mw, .inl (cI, 512, .inl wh)), (mb, .inl (cI, 48, .inl bi)), (ms, .inl (cZ, 48, .inl si)), (mn, .inl (cJ, 6, .inr (.inl nu)))] H := hP
        have hD : va_D A [(hm, .inr (2, [.int (nI 0), .ref ml, .ref mw, .ref mb, .ref ms, .ref mn])), (ml, .inl (cI, 8, .inl ln)), (mw, .inl (cI, 512, .inl wh)), (mb, .inl (cI, 48, .inl bi)), (ms, .inl (cZ, 48, .inl si)), (mn, .inl (cJ, 6, .inr (.inl nu)))] := hD
        obtain rfl : v42 = nI 0 := e42
        refine lv_if_ne (tgt := 70) hx hb dM_decode_45 (by decide) (fun h45 => ?_) (fun h45 => ?_)
        · exfalso
          first | exact h45 (by decide +kernel) | exact absurd h45 (by decide +kernel)
        · refine lv_aload_n hx hb dM_decode_48 rfl (lv_at hl 0 rfl) ?_
          refine lv_aload_n hx hb dM_decode_49 rfl (lv_at hl 0 rfl) ?_
          refine lv_iload_n hx hb dM_decode_50 rfl (lv_at hl 1 rfl) ?_
          refine lv_lload_n hx hb dM_decode_51 rfl (lv_at hl 3 rfl) ?_
          refine vp_callSi (W.runV (As := [.int (nI f), .long wo]) (rest := [.ref hm]) ⟨hx, hb, hml, hown, hw⟩ (c_M_isOf l dC dI cI cZ cJ hm ml mw mb ms mn (nI 0) ln wh bi si nu ns its wss sbs hM f wo hf) (cwV 2 hw (gV kw_488 kw_490 kw_12 kw_16 kw_491) rfl rfl rfl (by decide +kernel) ⟨Nat.le_of_ble_eq_true rfl, Nat.le_of_ble_eq_true rfl⟩) (ro_preV (q0 := 0) hK hP rfl rfl) rfl rfl hl.1 rfl (lv_room (Nat.le_of_ble_eq_true rfl)) dM_decode_52 ⟨Nat.zero_le _, Nat.zero_le _⟩) (fun v52 e52 => ?_)
          obtain rfl : v52 = nI (isof (its f) (ns f) wo).toNat := e52
          refine lv_if_ne (tgt := 62) hx hb dM_decode_55 (by decide) (fun h55 => ?_) (fun h55 => ?_)
          · have h55 := b_nf h55
            refine lv_iconst (v := nI 0) hx hb dM_decode_62 (by decide +kernel) ?_
            refine lv_iconst (v := nI 3) hx hb dM_decode_63 (by decide +kernel) ?_
            have hPc := hP.sub (ws' := [(hm, .inr (2, [.int (nI 0), .ref ml, .ref mw, .ref mb, .ref ms, .ref mn])), (ml, .inl (cI, 8, .inl ln)), (mw, .inl (cI, 512, .inl wh)), (mb, .inl (cI, 48, .inl bi)), (ms, .inl (cZ, 48, .inl si)), (mn, .inl (cJ, 6, .inr (.inl nu)))]) [0, 1, 2, 3, 4, 5] rfl
            have hDc := hD.sub (ws' := [(hm, .inr (2, [.int (nI 0), .ref ml, .ref mw, .ref mb, .ref ms, .ref mn])), (ml, .inl (cI, 8, .inl ln)), (mw, .inl (cI, 512, .inl wh)), (mb, .inl (cI, 48, .inl bi)), (ms, .inl (cZ, 48, .inl si)), (mn, .inl (cJ, 6, .inr (.inl nu)))]) [0, 1, 2, 3, 4, 5] (by decide) rfl
            have hKc := hK.sub (tys' := [(cI, .int), (cZ, .boolean), (cJ, .long)]) [0, 1, 2] rfl
            have hFc := va_free (wc := [(hm, .inr (2, [.int (nI 0), .ref ml, .ref mw, .ref mb, .ref ms, .ref mn])), (ml, .inl (cI, 8, .inl ln)), (mw, .inl (cI, 512, .inl wh)), (mb, .inl (cI, 48, .inl bi)), (ms, .inl (cZ, 48, .inl si)), (mn, .inl (cJ, 6, .inr (.inl nu)))]) hD hS hA [0, 1, 2, 3, 4, 5] rfl
            refine va_calli (va_runV (As := [.int (nI 0), .int (nI 3)]) (rest := []) ⟨hx, hb, hml, hown, hw⟩ (c_M_fails0 l dC dI _ cI cZ cJ hm ml mw mb ms mn ln wh bi si nu 3 (by decide)) (cwV 2 hw (gV kw_420 kw_422 kw_5 kw_16 kw_423) rfl rfl rfl (by decide +kernel) ⟨Nat.le_of_ble_eq_true rfl, Nat.le_of_ble_eq_true rfl⟩) (rw_preV (q0 := 0) hKc hPc hDc rfl rfl) rfl rfl hl.1 rfl (lv_room (Nat.le_of_ble_eq_true rfl)) dM_decode_64 ⟨Nat.zero_le _, Nat.zero_le _⟩) hS (fun q _ h => hFc q h) hFc (fun v64 u t H1 locs ht hvm e64 hB hz1 hk1 hS => ?_)
            obtain ⟨hP1, hK1, hD1⟩ := hB
            rw [ht] at hP1
            obtain ⟨hP, hD⟩ := va_join (wr := []) (w1 := [(hm, .inr (2, [.int (nI 0), .ref ml, .ref mw, .ref mb, .ref ms, .ref mn])), (ml, .inl (cI, 8, .inl ln)), (mw, .inl (cI, 512, .inl wh)), (mb, .inl (cI, 48, .inl bi)), (ms, .inl (cZ, 48, .inl si)), (mn, .inl (cJ, 6, .inr (.inl nu)))]) hP hD [0, 1, 2, 3, 4, 5] [] rfl rfl (by decide) (by decide) hk1 hFc hP1 hD1
            generalize H1 = H at hP hS ⊢
            have hP : va_P (dC, dI) cls3 [(hm, .inr (2, [.int (nI 0), .ref ml, .ref mw, .ref mb, .ref ms, .ref mn])), (ml, .inl (cI, 8, .inl ln)), (mw, .inl (cI, 512, .inl wh)), (mb, .inl (cI, 48, .inl bi)), (ms, .inl (cZ, 48, .inl si)), (mn, .inl (cJ, 6, .inr (.inl nu)))] H := hP
            have hD : va_D A [(hm, .inr (2, [.int (nI 0), .ref ml, .ref mw, .ref mb, .ref ms, .ref mn])), (ml, .inl (cI, 8, .inl ln)), (mw, .inl (cI, 512, .inl wh)), (mb, .inl (cI, 48, .inl bi)), (ms, .inl (cZ, 48, .inl si)), (mn, .inl (cJ, 6, .inr (.inl nu)))] := hD
            obtain rfl : v64 = nI 0 := e64
            refine lv_if_eq (tgt := 72) hx hb dM_decode_67 (by decide) (fun h67 => ?_) (fun h67 => ?_)
            · refine lv_aload_n hx hb dM_decode_72 rfl (lv_at hl 0 rfl) ?_
              refine lv_iload_n hx hb dM_decode_73 rfl (lv_at hl 1 rfl) ?_
              refine lv_iload_n hx hb dM_decode_74 rfl (lv_at hl 2 rfl) ?_
              refine vp_callSi (W.runV (As := [.int (nI f), .int (nI o)]) (rest := []) ⟨hx, hb, hml, hown, hw⟩ (c_M_many l dC dI cI cZ cJ hm ml mw mb ms mn (nI 0) ln wh bi si nu ns its wss sbs hM f o hf ho) (cwV 2 hw (gV kw_433 kw_435 kw_6 kw_16 kw_436) rfl rfl rfl (by decide +kernel) ⟨Nat.le_of_ble_eq_true rfl, Nat.le_of_ble_eq_true rfl⟩) (ro_preV (q0 := 0) hK hP rfl rfl) rfl rfl hl.1 rfl (lv_room (Nat.le_of_ble_eq_true rfl)) dM_decode_75 ⟨Nat.zero_le _, Nat.zero_le _⟩) (fun v75 e75 => ?_)
              obtain rfl : v75 = nI (wss f o) := e75
              refine lv_istore hx hb dM_decode_78 hl (by decide) rfl (fun ls hl => ?_)
              have hl : lv_has ls 11 [(5, .int (nI (wss f o))), (0, .ref hm), (1, .int (nI f)), (2, .int (nI o)), (3, .long wo)] := hl
              refine lv_lconst (v := lN 0) hx hb dM_decode_80 (by decide +kernel) ?_
              refine lv_lstore hx hb dM_decode_81 hl (by decide) rfl (fun ls hl => ?_)
              have hl : lv_has ls 11 [(6, .long (lN 0)), (5, .int (nI (wss f o))), (0, .ref hm), (1, .int (nI f)), (2, .int (nI o)), (3, .long wo)] := hl
              refine lv_iconst (v := nI 0) hx hb dM_decode_83 (by decide +kernel) ?_
              refine lv_istore hx hb dM_decode_84 hl (by decide) rfl (fun ls hl => ?_)
              have hl : lv_has ls 11 [(8, .int (nI 0)), (6, .long (lN 0)), (5, .int (nI (wss f o))), (0, .ref hm), (1, .int (nI f)), (2, .int (nI o)), (3, .long wo)] := hl
              refine (?_ : ∀ (kk : Nat) (k : Nat) (z : Int64) (H : Heap) (locs : List Loc) (ls : Array Slot), kk = 64 - k → lv_has ls 11 [(8, .int (nI k)), (6, .long z), (5, .int (nI (wss f o))), (0, .ref hm), (1, .int (nI f)), (2, .int (nI o)), (3, .long wo)] → (k ≤ 64) → (dcI (its f) (ns f) (wss f o) (sbs f o) o wo k z) → va_P (dC, dI) cls3 [(hm, .inr (2, [.int (nI 0), .ref ml, .ref mw, .ref mb, .ref ms, .ref mn])), (ml, .inl (cI, 8, .inl ln)), (mw, .inl (cI, 512, .inl wh)), (mb, .inl (cI, 48, .inl bi)), (ms, .inl (cZ, 48, .inl si)), (mn, .inl (cJ, 6, .inr (.inl nu)))] H → va_D A [(hm, .inr (2, [.int (nI 0), .ref ml, .ref mw, .ref mb, .ref ms, .ref mn])), (ml, .inl (cI, 8, .inl ln)), (mw, .inl (cI, 512, .inl wh)), (mb, .inl (cI, 48, .inl bi)), (ms, .inl (cZ, 48, .inl si)), (mn, .inl (cJ, 6, .inr (.inl nu)))] → va_S A s.heap H locs → W p l e _ s m _ below meth c H locs _ _ _ (F0 m 86 ls [])) _ 0 (lN 0) _ _ ls rfl (lv_sub hl [0, 1, 2, 3, 4, 5, 6] rfl) (by omega) (dcI_0 _ _ _ _ _ _) hP hD hS
              intro kk
              induction kk using Nat.strongRecOn with
              | ind kk86 ih86 =>
                intro k z H locs ls hkk86 hl hk hI hP hD hS
                refine lv_iload hx hb dM_decode_86 (lv_at hl 0 rfl) ?_
                refine lv_bipush (v := nI 64) hx hb dM_decode_88 (by decide +kernel) ?_
                refine lv_icmp_ge (tgt := 185) hx hb dM_decode_90 (by decide) (fun h90 => ?_) (fun h90 => ?_)
                · rw [nI_leI (by omega) (by omega)] at h90
                  refine lv_lload hx hb dM_decode_185 (lv_at hl 1 rfl) ?_
                  have hcd : cdDec ns its wss (nI f) (nI o) wo = 0 := by unfold cdDec; first | (rw [h12]; rfl) | (rw [thr_t hf ho hw1, if_pos rfl, hff, if_neg (by omega)]) | (rw [thr_t hf ho hw1, if_pos rfl, hff, if_pos (by omega), h55]; rfl)
                  exact W.lret (v := z) hx hb hr (fun t ht hW => ⟨⟨_, (), rfl, (by intro h0; first | exact absurd (hcd.symm.trans h0) (by decide) | (rw [hff, hfo]; first | exact dcI_end (by omega) hI | (rw [h123] at hI ⊢; exact dcI_stop hI (by omega)))), by rw [ht, hcd]; exact hP, va_K.moved hW.alike hK, by rw [hcd]; exact hD⟩, hS.F ht⟩) hS.2.2 dM_decode_187
                · rw [nI_leI (by omega) (by omega)] at h90
                  refine lv_iload hx hb dM_decode_93 (lv_at hl 0 rfl) ?_
                  refine lv_iload hx hb dM_decode_95 (lv_at hl 2 rfl) ?_
                  refine lv_icmp_ge (tgt := 104) hx hb dM_decode_97 (by decide) (fun h97 => ?_) (fun h97 => ?_)
                  · rw [nI_leI (by omega) (by omega)] at h97
                    refine lv_iconst (v := nI 0) hx hb dM_decode_104 (by decide +kernel) ?_
                    refine lv_istore hx hb dM_decode_105 hl (by decide) rfl (fun ls hl => ?_)
                    have hl : lv_has ls 11 [(9, .int (nI 0)), (8, .int (nI k)), (6, .long z), (5, .int (nI (wss f o))), (0, .ref hm), (1, .int (nI f)), (2, .int (nI o)), (3, .long wo)] := hl
                    refine lv_iload hx hb dM_decode_107 (lv_at hl 0 rfl) ?_
                    refine lv_if_ne (tgt := 129) hx hb dM_decode_109 (by decide) (fun h109 => ?_) (fun h109 => ?_)
                    · exfalso
                      first | exact h109 (by decide +kernel) | exact absurd h109 (by decide +kernel)
                    · refine lv_aload_n hx hb dM_decode_112 rfl (lv_at hl 4 rfl) ?_
                      refine va_get (D := (dC, dI)) (ci := 2) (v := .ref ms) (C := RM) (T := TM) (N := 6) hx hb hw inM hown hK hP 0 rfl rfl 4 (by decide) (hw _ kw_390) (fun _ h9 => h9) rfl dM_decode_113 ?_
                      refine lv_bipush (v := nI 6) hx hb dM_decode_116 (by decide +kernel) ?_
                      refine lv_iload_n hx hb dM_decode_118 rfl (lv_at hl 5 rfl) ?_
                      refine lv_imul hx hb dM_decode_119 ?_
                      refine lv_topi (fun v119 e119 => ?_)
                      obtain rfl : v119 = nI (6 * f) := e119.trans (pk_mul _ _)
                      refine lv_iload_n hx hb dM_decode_120 rfl (lv_at hl 6 rfl) ?_
                      refine lv_iadd hx hb dM_decode_121 ?_
                      refine lv_topi (fun v121 e121 => ?_)
                      obtain rfl : v121 = nI (6 * f + o) := e121.trans (nI_add _ _)
                      refine va_zald hx hb hK hP 4 1 rfl rfl (vp_in_nI (by omega) (by decide)) dM_decode_122 ?_
                      refine lv_topi (fun v122 e122 => ?_)
                      rw [nI_clamp (by omega)] at e122
                      obtain rfl : v122 = nI (sbs f o).toNat := e122.trans ((hM f hf).2.2.1 o (by omega)).2
                      refine lv_if_ne (tgt := 129) hx hb dM_decode_123 (by decide) (fun h123 => ?_) (fun h123 => ?_)
                      · have h123 := b_nf h123
                        have hn1 : 0 < ns f := by obtain ⟨j9, h9, -⟩ := (cw_has_iff _ _ _).mp (lft_0 (it := its f) (n := ns f) (w := wss f) 6 (by omega) o 0 ho hw1); omega
                        refine lv_aload_n hx hb dM_decode_129 rfl (lv_at hl 4 rfl) ?_
                        refine va_get (D := (dC, dI)) (ci := 2) (v := .ref ml) (C := RM) (T := TM) (N := 6) hx hb hw inM hown hK hP 0 rfl rfl 1 (by decide) (hw _ kw_387) (fun _ h9 => h9) rfl dM_decode_130 ?_
                        refine lv_iload_n hx hb dM_decode_133 rfl (lv_at hl 5 rfl) ?_
                        refine va_iald hx hb hK hP 1 0 rfl rfl (vp_in_nI (by omega) (by decide)) dM_decode_134 ?_
                        refine lv_topi (fun v134 e134 => ?_)
                        rw [nI_clamp (by omega)] at e134
                        obtain rfl : v134 = nI (ns f) := e134.trans (hM f hf).2.1
                        refine lv_iconst (v := nI 1) hx hb dM_decode_135 (by decide +kernel) ?_
                        refine lv_isub hx hb dM_decode_136 ?_
                        refine lv_topi (fun v136 e136 => ?_)
                        obtain rfl : v136 = nI (ns f - 1) := e136.trans (pk_sub (by omega))
                        refine lv_aload_n hx hb dM_decode_137 rfl (lv_at hl 4 rfl) ?_
                        refine lv_iload_n hx hb dM_decode_138 rfl (lv_at hl 5 rfl) ?_
                        refine lv_iload_n hx hb dM_decode_139 rfl (lv_at hl 6 rfl) ?_
                        refine lv_iload hx hb dM_decode_140 (lv_at hl 0 rfl) ?_
                        refine lv_if_eq (tgt := 150) hx hb dM_decode_142 (by decide) (fun h142 => ?_) (fun h142 => ?_)
                        · refine lv_iload hx hb dM_decode_150 (lv_at hl 3 rfl) ?_
                          refine lv_iconst (v := nI 1) hx hb dM_decode_152 (by decide +kernel) ?_
                          refine lv_isub hx hb dM_decode_153 ?_
                          refine lv_topi (fun v153 e153 => ?_)
                          obtain rfl : v153 = nI (wss f o - 1) := e153.trans (pk_sub (by omega))
                          refine vp_callSi (W.runV (As := [.int (nI f), .int (nI o), .int (nI (wss f o - 1))]) (rest := [.int (nI (ns f - 1))]) ⟨hx, hb, hml, hown, hw⟩ (c_M_place l dC dI cI cZ cJ hm ml mw mb ms mn (nI 0) ln wh bi si nu ns its wss sbs hM f o (wss f o - 1) hf ho (by omega)) (cwV 3 hw (gV kw_452 kw_454 kw_8 kw_16 kw_455) rfl rfl rfl (by decide +kernel) ⟨Nat.le_of_ble_eq_true rfl, Nat.le_of_ble_eq_true rfl⟩) (ro_preV (q0 := 0) hK hP rfl rfl) rfl rfl hl.1 rfl (lv_room (Nat.le_of_ble_eq_true rfl)) dM_decode_154 ⟨Nat.zero_le _, Nat.zero_le _⟩) (fun v154 e154 => ?_)
                          obtain ⟨j, hj, hje, rfl⟩ := plR_has e154 (lft_0 6 (by omega) o _ ho (by omega))
                          have hje2 : its f j = 2 + 64 * o + (if k < wss f o then k else wss f o - 1) := by rw [hje]; first | rw [if_pos (by omega)] | rw [if_neg (by omega)]
                          refine lv_isub hx hb dM_decode_157 ?_
                          refine lv_topi (fun v157 e157 => ?_)
                          obtain rfl : v157 = nI (ns f - 1 - j) := e157.trans (pk_sub (by omega))
                          refine lv_istore hx hb dM_decode_158 hl (by decide) rfl (fun ls hl => ?_)
                          have hl : lv_has ls 11 [(10, .int (nI (ns f - 1 - j))), (9, .int (nI 0)), (8, .int (nI k)), (6, .long z), (5, .int (nI (wss f o))), (0, .ref hm), (1, .int (nI f)), (2, .int (nI o)), (3, .long wo)] := hl
                          refine lv_lload_n hx hb dM_decode_160 rfl (lv_at hl 8 rfl) ?_
                          refine lv_iload hx hb dM_decode_161 (lv_at hl 0 rfl) ?_
                          refine vp_callSi (W.runS (As := [.long wo, .int (nI (ns f - 1 - j))]) (rest := []) ⟨hx, hb, hml, hown, hw⟩ (c_M_bit l wo (ns f - 1 - j) (by omega)) (cwS 2 hw (gS kw_441 kw_442 kw_16 kw_443) rfl rfl rfl (by decide +kernel) ⟨Nat.le_of_ble_eq_true rfl, Nat.le_of_ble_eq_true rfl⟩) preEq rfl rfl hl.1 rfl (lv_room (Nat.le_of_ble_eq_true rfl)) dM_decode_163 ⟨Nat.zero_le _, Nat.zero_le _⟩) (fun v163 e163 => ?_)
                          obtain rfl : v163 = nI (bq wo (ns f - 1 - j)) := e163
                          refine lv_iconst (v := nI 1) hx hb dM_decode_166 (by decide +kernel) ?_
                          refine lv_icmp_ne (tgt := 179) hx hb dM_decode_167 (by decide) (fun h167 => ?_) (fun h167 => ?_)
                          · have hb1 := bq_lt wo (ns f - 1 - j)
                            rw [nI_eq (by omega) (by omega)] at h167
                            refine lv_iinc (k := 2) (v := nI (k + 1)) hx hb dM_decode_179 hl rfl (cw_inc _) (by decide) rfl (fun ls hl => ?_)
                            have hl : lv_has ls 11 [(8, .int (nI (k + 1))), (10, .int (nI (ns f - 1 - j))), (9, .int (nI 0)), (6, .long z), (5, .int (nI (wss f o))), (0, .ref hm), (1, .int (nI f)), (2, .int (nI o)), (3, .long wo)] := hl
                            refine lv_goto (tgt := 86) hx hb dM_decode_182 (by decide) ?_
                            exact ih86 _ (by omega) (k + 1) z _ _ ls rfl (lv_sub (l' := [(8, .int (nI (k + 1))), (6, .long z), (5, .int (nI (wss f o))), (0, .ref hm), (1, .int (nI f)), (2, .int (nI o)), (3, .long wo)]) hl [0, 3, 4, 5, 6, 7, 8] rfl) (by omega) (by first | (rw [e176, e175]; exact dcI_o hok hI (by omega) hj hje2 (by first | exact Or.inr h123 | exact Or.inl (by omega)) h167) | exact dcI_z hok hI (by omega) hj hje2 (by omega)) hP hD hS
                          · have hb1 := bq_lt wo (ns f - 1 - j)
                            rw [nI_eq (by omega) (by omega)] at h167
                            refine lv_lload hx hb dM_decode_170 (lv_at hl 3 rfl) ?_
                            refine lv_lconst (v := lN 1) hx hb dM_decode_172 (by decide +kernel) ?_
                            refine lv_iload hx hb dM_decode_173 (lv_at hl 2 rfl) ?_
                            refine lv_lshl hx hb dM_decode_175 rfl ?_
                            refine lv_topl (fun v175 e175 => ?_)
                            refine lv_lor hx hb dM_decode_176 ?_
                            refine lv_topl (fun v176 e176 => ?_)
                            refine lv_lstore hx hb dM_decode_177 hl (by decide) rfl (fun ls hl => ?_)
                            have hl : lv_has ls 11 [(6, .long v176), (10, .int (nI (ns f - 1 - j))), (9, .int (nI 0)), (8, .int (nI k)), (5, .int (nI (wss f o))), (0, .ref hm), (1, .int (nI f)), (2, .int (nI o)), (3, .long wo)] := hl
                            refine lv_iinc (k := 3) (v := nI (k + 1)) hx hb dM_decode_179 hl rfl (cw_inc _) (by decide) rfl (fun ls hl => ?_)
                            have hl : lv_has ls 11 [(8, .int (nI (k + 1))), (6, .long v176), (10, .int (nI (ns f - 1 - j))), (9, .int (nI 0)), (5, .int (nI (wss f o))), (0, .ref hm), (1, .int (nI f)), (2, .int (nI o)), (3, .long wo)] := hl
                            refine lv_goto (tgt := 86) hx hb dM_decode_182 (by decide) ?_
                            exact ih86 _ (by omega) (k + 1) v176 _ _ ls rfl (lv_sub (l' := [(8, .int (nI (k + 1))), (6, .long v176), (5, .int (nI (wss f o))), (0, .ref hm), (1, .int (nI f)), (2, .int (nI o)), (3, .long wo)]) hl [0, 1, 4, 5, 6, 7, 8] rfl) (by omega) (by first | (rw [e176, e175]; exact dcI_o hok hI (by omega) hj hje2 (by first | exact Or.inr h123 | exact Or.inl (by omega)) h167) | exact dcI_z hok hI (by omega) hj hje2 (by omega)) hP hD hS
                        · exfalso
                          first | exact h142 (by decide +kernel) | exact absurd h142 (by decide +kernel)
                      · rw [b_nat0] at h123
                        refine lv_goto (tgt := 185) hx hb dM_decode_126 (by decide) ?_
                        refine lv_lload hx hb dM_decode_185 (lv_at hl 2 rfl) ?_
                        have hcd : cdDec ns its wss (nI f) (nI o) wo = 0 := by unfold cdDec; first | (rw [h12]; rfl) | (rw [thr_t hf ho hw1, if_pos rfl, hff, if_neg (by omega)]) | (rw [thr_t hf ho hw1, if_pos rfl, hff, if_pos (by omega), h55]; rfl)
                        exact W.lret (v := z) hx hb hr (fun t ht hW => ⟨⟨_, (), rfl, (by intro h0; first | exact absurd (hcd.symm.trans h0) (by decide) | (rw [hff, hfo]; first | exact dcI_end (by omega) hI | (rw [h123] at hI ⊢; exact dcI_stop hI (by omega)))), by rw [ht, hcd]; exact hP, va_K.moved hW.alike hK, by rw [hcd]; exact hD⟩, hS.F ht⟩) hS.2.2 dM_decode_187
                  · rw [nI_leI (by omega) (by omega)] at h97
                    refine lv_iconst (v := nI 1) hx hb dM_decode_100 (by decide +kernel) ?_
                    refine lv_goto (tgt := 105) hx hb dM_decode_101 (by decide) ?_
                    refine lv_istore hx hb dM_decode_105 hl (by decide) rfl (fun ls hl => ?_)
                    have hl : lv_has ls 11 [(9, .int (nI 1)), (8, .int (nI k)), (6, .long z), (5, .int (nI (wss f o))), (0, .ref hm), (1, .int (nI f)), (2, .int (nI o)), (3, .long wo)] := hl
                    refine lv_iload hx hb dM_decode_107 (lv_at hl 0 rfl) ?_
                    refine lv_if_ne (tgt := 129) hx hb dM_decode_109 (by decide) (fun h109 => ?_) (fun h109 => ?_)
                    · have hn1 : 0 < ns f := by obtain ⟨j9, h9, -⟩ := (cw_has_iff _ _ _).mp (lft_0 (it := its f) (n := ns f) (w := wss f) 6 (by omega) o 0 ho hw1); omega
                      refine lv_aload_n hx hb dM_decode_129 rfl (lv_at hl 4 rfl) ?_
                      refine va_get (D := (dC, dI)) (ci := 2) (v := .ref ml) (C := RM) (T := TM) (N := 6) hx hb hw inM hown hK hP 0 rfl rfl 1 (by decide) (hw _ kw_387) (fun _ h9 => h9) rfl dM_decode_130 ?_
                      refine lv_iload_n hx hb dM_decode_133 rfl (lv_at hl 5 rfl) ?_
                      refine va_iald hx hb hK hP 1 0 rfl rfl (vp_in_nI (by omega) (by decide)) dM_decode_134 ?_
                      refine lv_topi (fun v134 e134 => ?_)
                      rw [nI_clamp (by omega)] at e134
                      obtain rfl : v134 = nI (ns f) := e134.trans (hM f hf).2.1
                      refine lv_iconst (v := nI 1) hx hb dM_decode_135 (by decide +kernel) ?_
                      refine lv_isub hx hb dM_decode_136 ?_
                      refine lv_topi (fun v136 e136 => ?_)
                      obtain rfl : v136 = nI (ns f - 1) := e136.trans (pk_sub (by omega))
                      refine lv_aload_n hx hb dM_decode_137 rfl (lv_at hl 4 rfl) ?_
                      refine lv_iload_n hx hb dM_decode_138 rfl (lv_at hl 5 rfl) ?_
                      refine lv_iload_n hx hb dM_decode_139 rfl (lv_at hl 6 rfl) ?_
                      refine lv_iload hx hb dM_decode_140 (lv_at hl 0 rfl) ?_
                      refine lv_if_eq (tgt := 150) hx hb dM_decode_142 (by decide) (fun h142 => ?_) (fun h142 => ?_)
                      · exfalso
                        first | exact h142 (by decide +kernel) | exact absurd h142 (by decide +kernel)
                      · refine lv_iload hx hb dM_decode_145 (lv_at hl 1 rfl) ?_
                        refine lv_goto (tgt := 154) hx hb dM_decode_147 (by decide) ?_
                        refine vp_callSi (W.runV (As := [.int (nI f), .int (nI o), .int (nI k)]) (rest := [.int (nI (ns f - 1))]) ⟨hx, hb, hml, hown, hw⟩ (c_M_place l dC dI cI cZ cJ hm ml mw mb ms mn (nI 0) ln wh bi si nu ns its wss sbs hM f o k hf ho (by omega)) (cwV 3 hw (gV kw_452 kw_454 kw_8 kw_16 kw_455) rfl rfl rfl (by decide +kernel) ⟨Nat.le_of_ble_eq_true rfl, Nat.le_of_ble_eq_true rfl⟩) (ro_preV (q0 := 0) hK hP rfl rfl) rfl rfl hl.1 rfl (lv_room (Nat.le_of_ble_eq_true rfl)) dM_decode_154 ⟨Nat.zero_le _, Nat.zero_le _⟩) (fun v154 e154 => ?_)
                        obtain ⟨j, hj, hje, rfl⟩ := plR_has e154 (lft_0 6 (by omega) o _ ho (by omega))
                        have hje2 : its f j = 2 + 64 * o + (if k < wss f o then k else wss f o - 1) := by rw [hje]; first | rw [if_pos (by omega)] | rw [if_neg (by omega)]
                        refine lv_isub hx hb dM_decode_157 ?_
                        refine lv_topi (fun v157 e157 => ?_)
                        obtain rfl : v157 = nI (ns f - 1 - j) := e157.trans (pk_sub (by omega))
                        refine lv_istore hx hb dM_decode_158 hl (by decide) rfl (fun ls hl => ?_)
                        have hl : lv_has ls 11 [(10, .int (nI (ns f - 1 - j))), (9, .int (nI 1)), (8, .int (nI k)), (6, .long z), (5, .int (nI (wss f o))), (0, .ref hm), (1, .int (nI f)), (2, .int (nI o)), (3, .long wo)] := hl
                        refine lv_lload_n hx hb dM_decode_160 rfl (lv_at hl 8 rfl) ?_
                        refine lv_iload hx hb dM_decode_161 (lv_at hl 0 rfl) ?_
                        refine vp_callSi (W.runS (As := [.long wo, .int (nI (ns f - 1 - j))]) (rest := []) ⟨hx, hb, hml, hown, hw⟩ (c_M_bit l wo (ns f - 1 - j) (by omega)) (cwS 2 hw (gS kw_441 kw_442 kw_16 kw_443) rfl rfl rfl (by decide +kernel) ⟨Nat.le_of_ble_eq_true rfl, Nat.le_of_ble_eq_true rfl⟩) preEq rfl rfl hl.1 rfl (lv_room (Nat.le_of_ble_eq_true rfl)) dM_decode_163 ⟨Nat.zero_le _, Nat.zero_le _⟩) (fun v163 e163 => ?_)
                        obtain rfl : v163 = nI (bq wo (ns f - 1 - j)) := e163
                        refine lv_iconst (v := nI 1) hx hb dM_decode_166 (by decide +kernel) ?_
                        refine lv_icmp_ne (tgt := 179) hx hb dM_decode_167 (by decide) (fun h167 => ?_) (fun h167 => ?_)
                        · have hb1 := bq_lt wo (ns f - 1 - j)
                          rw [nI_eq (by omega) (by omega)] at h167
                          refine lv_iinc (k := 2) (v := nI (k + 1)) hx hb dM_decode_179 hl rfl (cw_inc _) (by decide) rfl (fun ls hl => ?_)
                          have hl : lv_has ls 11 [(8, .int (nI (k + 1))), (10, .int (nI (ns f - 1 - j))), (9, .int (nI 1)), (6, .long z), (5, .int (nI (wss f o))), (0, .ref hm), (1, .int (nI f)), (2, .int (nI o)), (3, .long wo)] := hl
                          refine lv_goto (tgt := 86) hx hb dM_decode_182 (by decide) ?_
                          exact ih86 _ (by omega) (k + 1) z _ _ ls rfl (lv_sub (l' := [(8, .int (nI (k + 1))), (6, .long z), (5, .int (nI (wss f o))), (0, .ref hm), (1, .int (nI f)), (2, .int (nI o)), (3, .long wo)]) hl [0, 3, 4, 5, 6, 7, 8] rfl) (by omega) (by first | (rw [e176, e175]; exact dcI_o hok hI (by omega) hj hje2 (by first | exact Or.inr h123 | exact Or.inl (by omega)) h167) | exact dcI_z hok hI (by omega) hj hje2 (by omega)) hP hD hS
                        · have hb1 := bq_lt wo (ns f - 1 - j)
                          rw [nI_eq (by omega) (by omega)] at h167
                          refine lv_lload hx hb dM_decode_170 (lv_at hl 3 rfl) ?_
                          refine lv_lconst (v := lN 1) hx hb dM_decode_172 (by decide +kernel) ?_
                          refine lv_iload hx hb dM_decode_173 (lv_at hl 2 rfl) ?_
                          refine lv_lshl hx hb dM_decode_175 rfl ?_
                          refine lv_topl (fun v175 e175 => ?_)
                          refine lv_lor hx hb dM_decode_176 ?_
                          refine lv_topl (fun v176 e176 => ?_)
                          refine lv_lstore hx hb dM_decode_177 hl (by decide) rfl (fun ls hl => ?_)
                          have hl : lv_has ls 11 [(6, .long v176), (10, .int (nI (ns f - 1 - j))), (9, .int (nI 1)), (8, .int (nI k)), (5, .int (nI (wss f o))), (0, .ref hm), (1, .int (nI f)), (2, .int (nI o)), (3, .long wo)] := hl
                          refine lv_iinc (k := 3) (v := nI (k + 1)) hx hb dM_decode_179 hl rfl (cw_inc _) (by decide) rfl (fun ls hl => ?_)
                          have hl : lv_has ls 11 [(8, .int (nI (k + 1))), (6, .long v176), (10, .int (nI (ns f - 1 - j))), (9, .int (nI 1)), (5, .int (nI (wss f o))), (0, .ref hm), (1, .int (nI f)), (2, .int (nI o)), (3, .long wo)] := hl
                          refine lv_goto (tgt := 86) hx hb dM_decode_182 (by decide) ?_
                          exact ih86 _ (by omega) (k + 1) v176 _ _ ls rfl (lv_sub (l' := [(8, .int (nI (k + 1))), (6, .long v176), (5, .int (nI (wss f o))), (0, .ref hm), (1, .int (nI f)), (2, .int (nI o)), (3, .long wo)]) hl [0, 1, 4, 5, 6, 7, 8] rfl) (by omega) (by first | (rw [e176, e175]; exact dcI_o hok hI (by omega) hj hje2 (by first | exact Or.inr h123 | exact Or.inl (by omega)) h167) | exact dcI_z hok hI (by omega) hj hje2 (by omega)) hP hD hS
                    · exfalso
                      first | exact h109 (by decide +kernel) | exact absurd h109 (by decide +kernel)
            · exfalso
              first | exact h67 (by decide +kernel) | exact absurd h67 (by decide +kernel)
          · rw [b_nat0] at h55
            refine lv_iconst (v := nI 1) hx hb dM_decode_58 (by decide +kernel) ?_
            refine lv_goto (tgt := 63) hx hb dM_decode_59 (by decide) ?_
            refine lv_iconst (v := nI 3) hx hb dM_decode_63 (by decide +kernel) ?_
            have hPc := hP.sub (ws' := [(hm, .inr (2, [.int (nI 0), .ref ml, .ref mw, .ref mb, .ref ms, .ref mn])), (ml, .inl (cI, 8, .inl ln)), (mw, .inl (cI, 512, .inl wh)), (mb, .inl (cI, 48, .inl bi)), (ms, .inl (cZ, 48, .inl si)), (mn, .inl (cJ, 6, .inr (.inl nu)))]) [0, 1, 2, 3, 4, 5] rfl
            have hDc := hD.sub (ws' := [(hm, .inr (2, [.int (nI 0), .ref ml, .ref mw, .ref mb, .ref ms, .ref mn])), (ml, .inl (cI, 8, .inl ln)), (mw, .inl (cI, 512, .inl wh)), (mb, .inl (cI, 48, .inl bi)), (ms, .inl (cZ, 48, .inl si)), (mn, .inl (cJ, 6, .inr (.inl nu)))]) [0, 1, 2, 3, 4, 5] (by decide) rfl
            have hKc := hK.sub (tys' := [(cI, .int), (cZ, .boolean), (cJ, .long)]) [0, 1, 2] rfl
            have hFc := va_free (wc := [(hm, .inr (2, [.int (nI 0), .ref ml, .ref mw, .ref mb, .ref ms, .ref mn])), (ml, .inl (cI, 8, .inl ln)), (mw, .inl (cI, 512, .inl wh)), (mb, .inl (cI, 48, .inl bi)), (ms, .inl (cZ, 48, .inl si)), (mn, .inl (cJ, 6, .inr (.inl nu)))]) hD hS hA [0, 1, 2, 3, 4, 5] rfl
            refine va_calli (va_runV (As := [.int (nI 1), .int (nI 3)]) (rest := []) ⟨hx, hb, hml, hown, hw⟩ (c_M_fails1 l dC dI _ cI cZ cJ hm ml mw mb ms mn ln wh bi si nu 3 (by decide)) (cwV 2 hw (gV kw_420 kw_422 kw_5 kw_16 kw_423) rfl rfl rfl (by decide +kernel) ⟨Nat.le_of_ble_eq_true rfl, Nat.le_of_ble_eq_true rfl⟩) (rw_preV (q0 := 0) hKc hPc hDc rfl rfl) rfl rfl hl.1 rfl (lv_room (Nat.le_of_ble_eq_true rfl)) dM_decode_64 ⟨Nat.zero_le _, Nat.zero_le _⟩) hS (fun q _ h => hFc q h) hFc (fun v64 u t H1 locs ht hvm e64 hB hz1 hk1 hS => ?_)
            obtain ⟨hP1, hK1, hD1⟩ := hB
            rw [ht] at hP1
            obtain ⟨hP, hD⟩ := va_join (wr := []) (w1 := [(hm, .inr (2, [.int (nI 3), .ref ml, .ref mw, .ref mb, .ref ms, .ref mn])), (ml, .inl (cI, 8, .inl ln)), (mw, .inl (cI, 512, .inl wh)), (mb, .inl (cI, 48, .inl bi)), (ms, .inl (cZ, 48, .inl si)), (mn, .inl (cJ, 6, .inr (.inl nu)))]) hP hD [0, 1, 2, 3, 4, 5] [] rfl rfl (by decide) (by decide) hk1 hFc hP1 hD1
            generalize H1 = H at hP hS ⊢
            have hP : va_P (dC, dI) cls3 [(hm, .inr (2, [.int (nI 3), .ref ml, .ref mw, .ref mb, .ref ms, .ref mn])), (ml, .inl (cI, 8, .inl ln)), (mw, .inl (cI, 512, .inl wh)), (mb, .inl (cI, 48, .inl bi)), (ms, .inl (cZ, 48, .inl si)), (mn, .inl (cJ, 6, .inr (.inl nu)))] H := hP
            have hD : va_D A [(hm, .inr (2, [.int (nI 3), .ref ml, .ref mw, .ref mb, .ref ms, .ref mn])), (ml, .inl (cI, 8, .inl ln)), (mw, .inl (cI, 512, .inl wh)), (mb, .inl (cI, 48, .inl bi)), (ms, .inl (cZ, 48, .inl si)), (mn, .inl (cJ, 6, .inr (.inl nu)))] := hD
            obtain rfl : v64 = nI 1 := e64
            refine lv_if_eq (tgt := 72) hx hb dM_decode_67 (by decide) (fun h67 => ?_) (fun h67 => ?_)
            · exfalso
              first | exact h67 (by decide +kernel) | exact absurd h67 (by decide +kernel)
            · refine lv_lconst (v := lN 0) hx hb dM_decode_70 (by decide +kernel) ?_
              have hcd : cdDec ns its wss (nI f) (nI o) wo = 3 := by unfold cdDec; first | (rw [h12]; rfl) | (rw [thr_t hf ho hw1, if_pos rfl, hff, if_neg (by omega)]) | (rw [thr_t hf ho hw1, if_pos rfl, hff, if_pos (by omega), h55]; rfl)
              exact W.lret (v := lN 0) hx hb hr (fun t ht hW => ⟨⟨_, (), rfl, (by intro h0; first | exact absurd (hcd.symm.trans h0) (by decide) | (rw [hff, hfo]; first | exact dcI_end (by omega) hI | (rw [h123] at hI ⊢; exact dcI_stop hI (by omega)))), by rw [ht, hcd]; exact hP, va_K.moved hW.alike hK, by rw [hcd]; exact hD⟩, hS.F ht⟩) hS.2.2 dM_decode_71
      · rw [nI_le0 (by omega)] at h33
        refine lv_iconst (v := nI 1) hx hb dM_decode_36 (by decide +kernel) ?_
        refine lv_goto (tgt := 41) hx hb dM_decode_37 (by decide) ?_
        refine lv_iconst (v := nI 2) hx hb dM_decode_41 (by decide +kernel) ?_
        have hPc := hP.sub (ws' := [(hm, .inr (2, [.int (nI 0), .ref ml, .ref mw, .ref mb, .ref ms, .ref mn])), (ml, .inl (cI, 8, .inl ln)), (mw, .inl (cI, 512, .inl wh)), (mb, .inl (cI, 48, .inl bi)), (ms, .inl (cZ, 48, .inl si)), (mn, .inl (cJ, 6, .inr (.inl nu)))]) [0, 1, 2, 3, 4, 5] rfl
        have hDc := hD.sub (ws' := [(hm, .inr (2, [.int (nI 0), .ref ml, .ref mw, .ref mb, .ref ms, .ref mn])), (ml, .inl (cI, 8, .inl ln)), (mw, .inl (cI, 512, .inl wh)), (mb, .inl (cI, 48, .inl bi)), (ms, .inl (cZ, 48, .inl si)), (mn, .inl (cJ, 6, .inr (.inl nu)))]) [0, 1, 2, 3, 4, 5] (by decide) rfl
        have hKc := hK.sub (tys' := [(cI, .int), (cZ, .boolean), (cJ, .long)]) [0, 1, 2] rfl
        have hFc := va_free (wc := [(hm, .inr (2, [.int (nI 0), .ref ml, .ref mw, .ref mb, .ref ms, .ref mn])), (ml, .inl (cI, 8, .inl ln)), (mw, .inl (cI, 512, .inl wh)), (mb, .inl (cI, 48, .inl bi)), (ms, .inl (cZ, 48, .inl si)), (mn, .inl (cJ, 6, .inr (.inl nu)))]) hD hS hA [0, 1, 2, 3, 4, 5] rfl
        refine va_calli (va_runV (As := [.int (nI 1), .int (nI 2)]) (rest := []) ⟨hx, hb, hml, hown, hw⟩ (c_M_fails1 l dC dI _ cI cZ cJ hm ml mw mb ms mn ln wh bi si nu 2 (by decide)) (cwV 2 hw (gV kw_420 kw_422 kw_5 kw_16 kw_423) rfl rfl rfl (by decide +kernel) ⟨Nat.le_of_ble_eq_true rfl, Nat.le_of_ble_eq_true rfl⟩) (rw_preV (q0 := 0) hKc hPc hDc rfl rfl) rfl rfl hl.1 rfl (lv_room (Nat.le_of_ble_eq_true rfl)) dM_decode_42 ⟨Nat.zero_le _, Nat.zero_le _⟩) hS (fun q _ h => hFc q h) hFc (fun v42 u t H1 locs ht hvm e42 hB hz1 hk1 hS => ?_)
        obtain ⟨hP1, hK1, hD1⟩ := hB
        rw [ht] at hP1
        obtain ⟨hP, hD⟩ := va_join (wr := []) (w1 := [(hm, .inr (2, [.int (nI 2), .ref ml, .ref mw, .ref mb, .ref ms, .ref mn])), (ml, .inl (cI, 8, .inl ln)), (mw, .inl (cI, 512, .inl wh)), (mb, .inl (cI, 48, .inl bi)), (ms, .inl (cZ, 48, .inl si)), (mn, .inl (cJ, 6, .inr (.inl nu)))]) hP hD [0, 1, 2, 3, 4, 5] [] rfl rfl (by decide) (by decide) hk1 hFc hP1 hD1
        generalize H1 = H at hP hS ⊢
        have hP : va_P (dC, dI) cls3 [(hm, .inr (2, [.int (nI 2), .ref ml, .ref mw, .ref mb, .ref ms, .ref mn])), (ml, .inl (cI, 8, .inl ln)), (mw, .inl (cI, 512, .inl wh)), (mb, .inl (cI, 48, .inl bi)), (ms, .inl (cZ, 48, .inl si)), (mn, .inl (cJ, 6, .inr (.inl nu)))] H := hP
        have hD : va_D A [(hm, .inr (2, [.int (nI 2), .ref ml, .ref mw, .ref mb, .ref ms, .ref mn])), (ml, .inl (cI, 8, .inl ln)), (mw, .inl (cI, 512, .inl wh)), (mb, .inl (cI, 48, .inl bi)), (ms, .inl (cZ, 48, .inl si)), (mn, .inl (cJ, 6, .inr (.inl nu)))] := hD
        obtain rfl : v42 = nI 1 := e42
        refine lv_if_ne (tgt := 70) hx hb dM_decode_45 (by decide) (fun h45 => ?_) (fun h45 => ?_)
        · refine lv_lconst (v := lN 0) hx hb dM_decode_70 (by decide +kernel) ?_
          have hcd : cdDec ns its wss (nI f) (nI o) wo = 2 := by unfold cdDec; first | (rw [h12]; rfl) | (rw [thr_t hf ho hw1, if_pos rfl, hff, if_neg (by omega)]) | (rw [thr_t hf ho hw1, if_pos rfl, hff, if_pos (by omega), h55]; rfl)
          exact W.lret (v := lN 0) hx hb hr (fun t ht hW => ⟨⟨_, (), rfl, (by intro h0; first | exact absurd (hcd.symm.trans h0) (by decide) | (rw [hff, hfo]; first | exact dcI_end (by omega) hI | (rw [h123] at hI ⊢; exact dcI_stop hI (by omega)))), by rw [ht, hcd]; exact hP, va_K.moved hW.alike hK, by rw [hcd]; exact hD⟩, hS.F ht⟩) hS.2.2 dM_decode_71
        · exfalso
          first | exact h45 (by decide +kernel) | exact absurd h45 (by decide +kernel)
  · rw [b_nat0] at h12
    refine lv_iconst (v := nI 1) hx hb dM_decode_15 (by decide +kernel) ?_
    refine lv_goto (tgt := 20) hx hb dM_decode_16 (by decide) ?_
    refine lv_iconst (v := nI 1) hx hb dM_decode_20 (by decide +kernel) ?_
    have hPc := hP.sub (ws' := [(hm, .inr (2, [.int (nI 0), .ref ml, .ref mw, .ref mb, .ref ms, .ref mn])), (ml, .inl (cI, 8, .inl ln)), (mw, .inl (cI, 512, .inl wh)), (mb, .inl (cI, 48, .inl bi)), (ms, .inl (cZ, 48, .inl si)), (mn, .inl (cJ, 6, .inr (.inl nu)))]) [0, 1, 2, 3, 4, 5] rfl
    have hDc := hD.sub (ws' := [(hm, .inr (2, [.int (nI 0), .ref ml, .ref mw, .ref mb, .ref ms, .ref mn])), (ml, .inl (cI, 8, .inl ln)), (mw, .inl (cI, 512, .inl wh)), (mb, .inl (cI, 48, .inl bi)), (ms, .inl (cZ, 48, .inl si)), (mn, .inl (cJ, 6, .inr (.inl nu)))]) [0, 1, 2, 3, 4, 5] (by decide) rfl
    have hKc := hK.sub (tys' := [(cI, .int), (cZ, .boolean), (cJ, .long)]) [0, 1, 2] rfl
    have hFc := va_free (wc := [(hm, .inr (2, [.int (nI 0), .ref ml, .ref mw, .ref mb, .ref ms, .ref mn])), (ml, .inl (cI, 8, .inl ln)), (mw, .inl (cI, 512, .inl wh)), (mb, .inl (cI, 48, .inl bi)), (ms, .inl (cZ, 48, .inl si)), (mn, .inl (cJ, 6, .inr (.inl nu)))]) hD hS hA [0, 1, 2, 3, 4, 5] rfl
    refine va_calli (va_runV (As := [.int (nI 1), .int (nI 1)]) (rest := []) ⟨hx, hb, hml, hown, hw⟩ (c_M_fails1 l dC dI _ cI cZ cJ hm ml mw mb ms mn ln wh bi si nu 1 (by decide)) (cwV 2 hw (gV kw_420 kw_422 kw_5 kw_16 kw_423) rfl rfl rfl (by decide +kernel) ⟨Nat.le_of_ble_eq_true rfl, Nat.le_of_ble_eq_true rfl⟩) (rw_preV (q0 := 0) hKc hPc hDc rfl rfl) rfl rfl hl.1 rfl (lv_room (Nat.le_of_ble_eq_true rfl)) dM_decode_21 ⟨Nat.zero_le _, Nat.zero_le _⟩) hS (fun q _ h => hFc q h) hFc (fun v21 u t H1 locs ht hvm e21 hB hz1 hk1 hS => ?_)
    obtain ⟨hP1, hK1, hD1⟩ := hB
    rw [ht] at hP1
    obtain ⟨hP, hD⟩ := va_join (wr := []) (w1 := [(hm, .inr (2, [.int (nI 1), .ref ml, .ref mw, .ref mb, .ref ms, .ref mn])), (ml, .inl (cI, 8, .inl ln)), (mw, .inl (cI, 512, .inl wh)), (mb, .inl (cI, 48, .inl bi)), (ms, .inl (cZ, 48, .inl si)), (mn, .inl (cJ, 6, .inr (.inl nu)))]) hP hD [0, 1, 2, 3, 4, 5] [] rfl rfl (by decide) (by decide) hk1 hFc hP1 hD1
    generalize H1 = H at hP hS ⊢
    have hP : va_P (dC, dI) cls3 [(hm, .inr (2, [.int (nI 1), .ref ml, .ref mw, .ref mb, .ref ms, .ref mn])), (ml, .inl (cI, 8, .inl ln)), (mw, .inl (cI, 512, .inl wh)), (mb, .inl (cI, 48, .inl bi)), (ms, .inl (cZ, 48, .inl si)), (mn, .inl (cJ, 6, .inr (.inl nu)))] H := hP
    have hD : va_D A [(hm, .inr (2, [.int (nI 1), .ref ml, .ref mw, .ref mb, .ref ms, .ref mn])), (ml, .inl (cI, 8, .inl ln)), (mw, .inl (cI, 512, .inl wh)), (mb, .inl (cI, 48, .inl bi)), (ms, .inl (cZ, 48, .inl si)), (mn, .inl (cJ, 6, .inr (.inl nu)))] := hD
    obtain rfl : v21 = nI 1 := e21
    refine lv_if_ne (tgt := 70) hx hb dM_decode_24 (by decide) (fun h24 => ?_) (fun h24 => ?_)
    · refine lv_lconst (v := lN 0) hx hb dM_decode_70 (by decide +kernel) ?_
      have hcd : cdDec ns its wss x y wo = 1 := by unfold cdDec; first | (rw [h12]; rfl) | (rw [thr_t hf ho hw1, if_pos rfl, hff, if_neg (by omega)]) | (rw [thr_t hf ho hw1, if_pos rfl, hff, if_pos (by omega), h55]; rfl)
      exact W.lret (v := lN 0) hx hb hr (fun t ht hW => ⟨⟨_, (), rfl, (by intro h0; first | exact absurd (hcd.symm.trans h0) (by decide) | (rw [hff, hfo]; first | exact dcI_end (by omega) hI | (rw [h123] at hI ⊢; exact dcI_stop hI (by omega)))), by rw [ht, hcd]; exact hP, va_K.moved hW.alike hK, by rw [hcd]; exact hD⟩, hS.F ht⟩) hS.2.2 dM_decode_71
    · exfalso
      first | exact h24 (by decide +kernel) | exact absurd h24 (by decide +kernel)
end
section
abbrev eIA : String := "java/lang/IllegalArgumentException"
abbrev eIS : String := "java/lang/IllegalStateException"
abbrev eIX : String := "java/lang/IndexOutOfBoundsException"
abbrev eAR : String := "java/lang/ArithmeticException"
abbrev eUp : List String := ["java/lang/RuntimeException", "java/lang/Exception"]
abbrev sU : String := "UNASSIGNED_STACK"
abbrev sN : String := "SUPPRESSED_SENTINEL"
def hWs : List Cond := [.isRef (.static Bundle.tN sU Bundle.steD), .isRef (.static Bundle.tN sN Bundle.listD), .laysStatic Bundle.tN sU Bundle.steD, .laysStatic Bundle.tN sN Bundle.listD]
abbrev xWs : List Cond := [.castable eIA eIA, .castable eIS eIS, .castable eIX eIX, .castable eAR eAR, .declares (Bundle.initS "java/lang/RuntimeException"), .declares (Bundle.initS "java/lang/Exception"), .declares (Bundle.initS Bundle.tN), .fieldLinkNest "SliceCoder" 70 "SliceCoder$Form" "widths" "[I" "SliceCoder", .fieldLinkNest "SliceCoder" 57 "SliceCoder$Form" "length" "I" "SliceCoder"]
abbrev xStr : List (Nat × String) := [(140, "form is not 0..7"), (144, "operand is not 0..5"), (146, "n is not 1..64"), (40, "the form has this operand"), (148, "there would be more than 64 bits"), (142, "the form has no such operand"), (67, "high is below low"), (76, "the operand has no such bits"), (83, "one of the bits is in the word"), (150, "the form is not whole"), (107, "a number does not fit"), (118, "the word is not of the form"), (138, "what is not 0..3")]
theorem og_IA : ∀ w ∈ (Bundle.ownAtoms RX 69 eIA eUp).filter goodWord, w ∈ lw_tbl := by decide +kernel
theorem on_IA : ∀ w ∈ (Bundle.ownAtoms RX 69 eIA eUp).filter (fun w => !goodWord w), w ∈ xWs ∨ w ∈ hWs := by decide +kernel
theorem og_IS : ∀ w ∈ (Bundle.ownAtoms RX 42 eIS eUp).filter goodWord, w ∈ lw_tbl := by decide +kernel
theorem on_IS : ∀ w ∈ (Bundle.ownAtoms RX 42 eIS eUp).filter (fun w => !goodWord w), w ∈ xWs ∨ w ∈ hWs := by decide +kernel
theorem og_IX : ∀ w ∈ (Bundle.ownAtoms RX 78 eIX eUp).filter goodWord, w ∈ lw_tbl := by decide +kernel
theorem on_IX : ∀ w ∈ (Bundle.ownAtoms RX 78 eIX eUp).filter (fun w => !goodWord w), w ∈ xWs ∨ w ∈ hWs := by decide +kernel
theorem og_AR : ∀ w ∈ (Bundle.ownAtoms RX 109 eAR eUp).filter goodWord, w ∈ lw_tbl := by decide +kernel
theorem on_AR : ∀ w ∈ (Bundle.ownAtoms RX 109 eAR eUp).filter (fun w => !goodWord w), w ∈ xWs ∨ w ∈ hWs := by decide +kernel
/-- a static reference of Throwable lies in its cell -/
def tzS (n d : String) (U : State) (H : Heap) : Prop := ∃ (c : ClassId) (k : Class) (i : Nat) (f : Field) (a : Nat) (cell : Cell) (v : Value), U.vm.findClass Bundle.tN = some c ∧ U.fieldFound? Bundle.tN n d = some (c, k, i, f) ∧ f.isStatic = true ∧ k.statics = some a ∧ H[a]? = some cell ∧ cell.vm.isStatics = true ∧ cell.cls = c ∧ f.slot < cell.slots.size ∧ k.staticTypes[f.slot]? = some f.type ∧ cell.slots[f.slot]? = some v ∧ v.isRef = true
theorem tzS.moved {n d : String} {u U : State} {H : Heap} (hvm : u.vm.Alike U.vm) (h : tzS n d u H) : tzS n d U H := by
  obtain ⟨c, k, i, f, a, cell, v, h1, h2, h3, h4, h5, h6, h7, h8, h9, h10, h11⟩ := h
  obtain ⟨k', hi', he⟩ := State.fieldFound?_setVm hvm h2
  exact ⟨c, k', i, f, a, cell, v, by rw [hvm.findClass]; exact h1, hi', h3, by rw [he]; exact h4, h5, h6, h7, h8, by rw [he]; exact h9, h10, h11⟩
theorem tzS.kept {n d : String} {U : State} {H H1 : Heap} (h : tzS n d U H) (hq : ∀ z : Nat, z < H.size → H1[z]? = H[z]?) : tzS n d U H1 := by
  obtain ⟨c, k, i, f, a, cell, v, h1, h2, h3, h4, h5, h6, h7, h8, h9, h10, h11⟩ := h
  exact ⟨c, k, i, f, a, cell, v, h1, h2, h3, h4, by rw [hq a (Array.getElem?_eq_some_iff.mp h5).1]; exact h5, h6, h7, h8, h9, h10, h11⟩
theorem tzS.lays {n d : String} {s : State} {args : Array Value} (h : tzS n d s s.heap) : (Cond.laysStatic Bundle.tN n d).before args s = true := by
  obtain ⟨c, k, i, f, a, cell, v, h1, h2, h3, h4, h5, h6, h7, h8, h9, h10, h11⟩ := h
  show (Cond.laysStatic Bundle.tN n d).holds args s none s [] = true
  exact Cond.laysStatic_of h1 h2 h3 h4 h5 h6 h7 h8 h9
theorem tzS.ref {n d : String} {s : State} {args : Array Value} (h : tzS n d s s.heap) : (Cond.isRef (.static Bundle.tN n d)).before args s = true := by
  obtain ⟨c, k, i, f, a, cell, v, h1, h2, h3, h4, h5, h6, h7, h8, h9, h10, h11⟩ := h
  have he : (Term.static Bundle.tN n d).eval args s none [] s = some v := by
    simp [Term.eval, State.fieldNamed?, h2, h3, h4, h5, h6, h10]
  simp only [Cond.before, Cond.holds, Cond.value, he]
  cases v <;> simp_all [Value.isRef]
theorem tzS.of {n d : String} {s : State} {args : Array Value} (hl : (Cond.laysStatic Bundle.tN n d).before args s = true) (hini : (Cond.initialized Bundle.tN).before args s = true) (hr : (Cond.isRef (.static Bundle.tN n d)).before args s = true) : tzS n d s s.heap := by
  obtain ⟨c, k, i, f, a, cell, h1, h2, h3, h4, h5, h6, h7, h8, h9⟩ := Cond.laysStatic_spec hl
  rcases va_Zqof (A := fun _ => False) hl hini hr (fun _ _ h => h) with ⟨cf, kf, fi, f', a', cell', g1, g2, g3, g4, g5, g6, g7, -⟩ | ⟨t, cf, kf, fi, f', a', cell', g1, g2, g3, g4, g5, g6, g7, -⟩
  · cases Option.some.inj (h2.symm.trans g1)
    cases Option.some.inj (h4.symm.trans g4)
    cases Option.some.inj (h5.symm.trans g5)
    exact ⟨c, k, i, f, a, cell, _, h1, h2, h3, h4, h5, h6, h7, h8, h9, g7, rfl⟩
  · cases Option.some.inj (h2.symm.trans g1)
    cases Option.some.inj (h4.symm.trans g4)
    cases Option.some.inj (h5.symm.trans g5)
    exact ⟨c, k, i, f, a, cell, _, h1, h2, h3, h4, h5, h6, h7, h8, h9, g7, rfl⟩
/-- what the tables and the heap say for the class's throws -/
def xV (sa : Nat → Nat) (U : State) : Prop := (∀ w ∈ xWs, va_Nw w U) ∧ ∀ (i : Nat) (q : Nat × String), xStr[i]? = some q → vk_R RX q.1 q.2 (sa i) U
def xZ (U : State) (H : Heap) : Prop := tzS sU Bundle.steD U H ∧ tzS sN Bundle.listD U H
theorem xZ.moved {u U : State} {H : Heap} (hvm : u.vm.Alike U.vm) (h : xZ u H) : xZ U H := ⟨h.1.moved hvm, h.2.moved hvm⟩
theorem xZ.kept {U : State} {H H1 : Heap} (h : xZ U H) (hq : ∀ z : Nat, z < H.size → H1[z]? = H[z]?) : xZ U H1 := ⟨h.1.kept hq, h.2.kept hq⟩
theorem xWs_on : ∀ w ∈ xWs, w.onTables = true := by decide +kernel
theorem xV.same {sa : Nat → Nat} {u U : State} (hv : U.vm = u.vm) (h : xV sa u) : xV sa U := ⟨fun w hw => va_Nw.same (xWs_on w hw) hv.symm (h.1 w hw), fun i q hq => vk_R.same hv (h.2 i q hq)⟩
theorem xV.warm {sa : Nat → Nat} {s U : State} (hW : s.WarmedH U.vm) (h : xV sa s) : xV sa U := by
  refine ⟨fun w hw => ?_, fun i q hq => vk_R.warm hW (h.2 i q hq)⟩
  have h1 := h.1 w hw
  simp only [List.mem_cons, List.not_mem_nil, or_false] at hw
  rcases hw with rfl | rfl | rfl | rfl | rfl | rfl | rfl | rfl | rfl
  · exact va_Nw.warmC hW h1
  · exact va_Nw.warmC hW h1
  · exact va_Nw.warmC hW h1
  · exact va_Nw.warmC hW h1
  · exact va_Nw.warmD hW h1
  · exact va_Nw.warmD hW h1
  · exact va_Nw.warmD hW h1
  · exact va_Nw.warmF hW h1
  · exact va_Nw.warmF hW h1
theorem xE_at {s : State} {args : Array Value} {sa : Nat → Nat} {L : List Cond} (hw : ∀ w ∈ wA, w.before args s = true) (hV : xV sa s) (hZ : xZ s s.heap) (g1 : ∀ w ∈ L.filter goodWord, w ∈ lw_tbl) (g2 : ∀ w ∈ L.filter (fun w => !goodWord w), w ∈ xWs ∨ w ∈ hWs) : ∀ w ∈ L, w.before args s = true := by
  intro w hL
  by_cases g : goodWord w = true
  · exact hw w (List.mem_filter.mpr ⟨g1 w (List.mem_filter.mpr ⟨hL, g⟩), g⟩)
  · rcases g2 w (List.mem_filter.mpr ⟨hL, by simp [g]⟩) with h | h
    · exact va_Nw.use (xWs_on w h) (hV.1 w h)
    · simp only [hWs, List.mem_cons, List.not_mem_nil, or_false] at h
      rcases h with rfl | rfl | rfl | rfl
      · exact hZ.1.ref
      · exact hZ.2.ref
      · exact hZ.1.lays
      · exact hZ.2.lays
section XPC
variable {s : State} {H : Heap} {D : va_G} {cl : List vw_C} {ws : va_W} {tys : List (ClassId × FieldType)} {C : String} {T : u_T} {N ci q0 sz : Nat} {b : Nat} {As av : List Value} {fs : List Value} {A : Nat → Prop} {sa : Nat → Nat}
def xo_Pc (sa : Nat → Nat) (D : va_G) (cl : List vw_C) (ws : va_W) (tys : List (ClassId × FieldType)) (av : List Value) : Array Value → State → Prop := va_Pc av (fun U => va_P D cl ws U.heap ∧ va_K D cl tys U ∧ xV sa U ∧ xZ U U.heap)
theorem xo_blind : FrameBlind (xo_Pc sa D cl ws tys av) := fun a U g mk q => ⟨q.1, q.2.1, va_K.moved (u := U) (U := U.calling g mk a) (Vm.Alike.refl U.vm) q.2.2.1, xV.same (u := U) (U := U.calling g mk a) rfl q.2.2.2.1, xZ.moved (u := U) (U := U.calling g mk a) (Vm.Alike.refl U.vm) q.2.2.2.2⟩
theorem xo_preV (hK : va_K D cl tys s) (hP : va_P D cl ws H) (hV : xV sa s) (hZ : xZ s H) (he : ws[q0]? = some (b, .inr (ci, fs))) (hc : cl[ci]? = some (C, T, N)) : PreV s H C b (xo_Pc sa D cl ws tys (.ref b :: As)) As :=
  ⟨xo_blind, va_recv hK hP hc he, fun U hU hW => ⟨rfl, by rw [hU]; exact hP, va_K.moved hW.alike hK, hV.warm hW, by rw [hU]; exact hZ.moved hW.alike⟩⟩
theorem xo_preS (hK : va_K D cl tys s) (hP : va_P D cl ws H) (hV : xV sa s) (hZ : xZ s H) : PreS s H (xo_Pc sa D cl ws tys As) As :=
  ⟨xo_blind, fun U hU hW => ⟨rfl, by rw [hU]; exact hP, va_K.moved hW.alike hK, hV.warm hW, by rw [hU]; exact hZ.moved hW.alike⟩⟩
def xw_Pc (sa : Nat → Nat) (D : va_G) (cl : List vw_C) (ws : va_W) (tys : List (ClassId × FieldType)) (sz : Nat) (av : List Value) : Array Value → State → Prop := va_Pc av (fun U => U.heap.size = sz ∧ va_P D cl ws U.heap ∧ va_K D cl tys U ∧ va_D (fun _ => True) ws ∧ xV sa U ∧ xZ U U.heap)
theorem xw_blind : FrameBlind (xw_Pc sa D cl ws tys sz av) := fun a U g mk q => ⟨q.1, q.2.1, q.2.2.1, va_K.moved (u := U) (U := U.calling g mk a) (Vm.Alike.refl U.vm) q.2.2.2.1, q.2.2.2.2.1, xV.same (u := U) (U := U.calling g mk a) rfl q.2.2.2.2.2.1, xZ.moved (u := U) (U := U.calling g mk a) (Vm.Alike.refl U.vm) q.2.2.2.2.2.2⟩
theorem xw_preV (hK : va_K D cl tys s) (hP : va_P D cl ws H) (hD : va_D A ws) (hV : xV sa s) (hZ : xZ s H) (he : ws[q0]? = some (b, .inr (ci, fs))) (hc : cl[ci]? = some (C, T, N)) : PreV s H C b (xw_Pc sa D cl ws tys H.size (.ref b :: As)) As :=
  ⟨xw_blind, va_recv hK hP hc he, fun U hU hW => ⟨rfl, by rw [hU], by rw [hU]; exact hP, va_K.moved hW.alike hK, hD.weaken (fun _ _ _ _ => trivial), hV.warm hW, by rw [hU]; exact hZ.moved hW.alike⟩⟩
theorem xw_preS (hK : va_K D cl tys s) (hP : va_P D cl ws H) (hD : va_D A ws) (hV : xV sa s) (hZ : xZ s H) : PreS s H (xw_Pc sa D cl ws tys H.size As) As :=
  ⟨xw_blind, fun U hU hW => ⟨rfl, by rw [hU], by rw [hU]; exact hP, va_K.moved hW.alike hK, hD.weaken (fun _ _ _ _ => trivial), hV.warm hW, by rw [hU]; exact hZ.moved hW.alike⟩⟩
end XPC
end
section
theorem isF_nlt {x : Int32} (h1 : ¬ x < 0) (h2 : x < nI 8) : isF x = true := by
  have a1 : 0 ≤ x.toInt := by simpa using Int32.le_iff_toInt_le.mp (Int32.not_lt.mp h1)
  have a2 := Int32.lt_iff_toInt_lt.mp h2
  rw [nI_toInt (by decide)] at a2
  exact decide_eq_true (by omega)
theorem isO_nlt {x : Int32} (h1 : ¬ x < 0) (h2 : x < nI 6) : isO x = true := by
  have a1 : 0 ≤ x.toInt := by simpa using Int32.le_iff_toInt_le.mp (Int32.not_lt.mp h1)
  have a2 := Int32.lt_iff_toInt_lt.mp h2
  rw [nI_toInt (by decide)] at a2
  exact decide_eq_true (by omega)
theorem isB_nlt {x : Int32} (h1 : ¬ x < nI 1) (h2 : x ≤ nI 64) : isB x = true := by
  have a1 := Int32.le_iff_toInt_le.mp (Int32.not_lt.mp h1)
  have a2 := Int32.le_iff_toInt_le.mp h2
  rw [nI_toInt (by decide)] at a1 a2
  exact decide_eq_true (by omega)
set_option maxHeartbeats 4000000 in
set_option maxRecDepth 100000 in
theorem c_X_formAt (l : Launch) (dC : Nat → ClassId) (dI : Nat → Nat → Nat) (sa : Nat → Nat) (cR : ClassId) (ax hfm hq : Nat) (fa : Nat → Option Nat) (f h : Nat) (hf : f < 8) (hfa : fa f = some h) : Met l yX_formAt wX_formAt { frames := 0, cells := 0, slots := 0, locals := 0 } (xo_Pc sa (dC, dI) cls3 [(ax, .inr (1, [.ref hfm, .ref hq])), (hfm, .inl (cR, 8, .inr (.inr (.inr (.inr fa)))))] [(cR, .object "SliceCoder$Form")] [.ref ax, .int (nI f)]) (va_Sr (fun r => r = h) Value.ref) 0 0 (fun _ => False) := by
  refine Met.ofW (cc := cX_formAt) (maxL := 2) (ret := (some (.object "SliceCoder$Form"))) (by decide) rfl ?_
  intro p e s m args below meth c s₁ B hml hv
  obtain ⟨rfl, hP, hK, hV, hZ⟩ := hv
  have hx := B.exec
  have hb := B.bytes
  have hr := B.returns
  have hts := atoms_spec (ws := wX_formAt) B.pre
  have hw : ∀ w ∈ wA, w.before _ s = true := fun w h => hts w (List.mem_cons_of_mem _ h)
  have hown : s.vm.findClass RX = some m.cls := findClass_of_methodNamed B.named
  have hlocks := B.notSynchronized
  have hl := lv_entry ([.ref ax, .int (nI f)]) (n := 2) (Nat.le_of_ble_eq_true rfl)
  rw [lg_entry_eq]
  generalize (lg_sl ([.ref ax, .int (nI f)]) ++ List.replicate (2 - (lg_sl ([.ref ax, .int (nI f)])).length) Slot.unset).toArray = ls at hl ⊢
  have hl : lv_has ls 2 [(0, .ref ax), (1, .int (nI f))] := hl
  refine lv_iload_n hx hb dX_formAt_0 rfl (lv_at hl 1 rfl) ?_
  refine lv_if_lt (tgt := 10) hx hb dX_formAt_1 (by decide) (fun h1 => ?_) (fun h1 => ?_)
  · exfalso
    exact nI_lt0 (by omega) h1
  · refine lv_iload_n hx hb dX_formAt_4 rfl (lv_at hl 1 rfl) ?_
    refine lv_bipush (v := nI 8) hx hb dX_formAt_5 (by decide +kernel) ?_
    refine lv_icmp_lt (tgt := 20) hx hb dX_formAt_7 (by decide) (fun h7 => ?_) (fun h7 => ?_)
    · refine lv_aload_n hx hb dX_formAt_20 rfl (lv_at hl 0 rfl) ?_
      refine va_get (D := (dC, dI)) (ci := 1) (v := .ref hfm) (C := RX) (T := TX) (N := 2) hx hb hw inX hown hK hP 0 rfl rfl 0 (by decide) (hw _ kw_59) (fun _ h9 => h9) rfl dX_formAt_21 ?_
      refine lv_iload_n hx hb dX_formAt_24 rfl (lv_at hl 1 rfl) ?_
      refine va_aldq hx hb hK hP 1 0 rfl rfl (vp_in_nI (by omega) (by decide)) dX_formAt_25 ?_
      refine cw_topr (by rw [nI_clamp (by omega), hfa, va_rf]) ?_
      exact W.aret hx hb hr (Or.inl ⟨_, rfl⟩) (Or.inr ⟨_, rfl⟩) (fun t ht hW => ⟨_, rfl, (rfl), ht⟩) (fun q h => nomatch h) dX_formAt_26
    · exfalso
      exact h7 (nI_lt (by omega) (by omega))

set_option maxHeartbeats 4000000 in
set_option maxRecDepth 100000 in
theorem c_X_checkOperandIndex (l : Launch) (o : Nat) (ho : o < 6) : Met l yX_checkOperandIndex wX_checkOperandIndex { frames := 0, cells := 0, slots := 0, locals := 0 } (fun av9 _ => av9 = ([.int (nI o)] : List Value).toArray) (va_Sv (fun _ => True)) 0 0 (fun _ => False) := by
  refine Met.ofW (cc := cX_checkOperandIndex) (maxL := 1) (ret := none) (by decide) rfl ?_
  intro p e s m args below meth c s₁ B hml hv
  obtain rfl := hv
  have hx := B.exec
  have hb := B.bytes
  have hr := B.returns
  have hts := atoms_spec (ws := wX_checkOperandIndex) B.pre
  have hw : ∀ w ∈ wA, w.before _ s = true := fun w h => hts w (List.mem_cons_of_mem _ h)
  have hown : s.vm.findClass RX = some m.cls := findClass_of_methodNamed B.named
  have hlocks := B.notSynchronized
  have hl := lv_entry ([.int (nI o)]) (n := 1) (Nat.le_of_ble_eq_true rfl)
  rw [lg_entry_eq]
  generalize (lg_sl ([.int (nI o)]) ++ List.replicate (1 - (lg_sl ([.int (nI o)])).length) Slot.unset).toArray = ls at hl ⊢
  have hl : lv_has ls 1 [(0, .int (nI o))] := hl
  refine lv_iload_n hx hb dX_checkOperandIndex_0 rfl (lv_at hl 0 rfl) ?_
  refine lv_if_lt (tgt := 10) hx hb dX_checkOperandIndex_1 (by decide) (fun h1 => ?_) (fun h1 => ?_)
  · exfalso
    exact nI_lt0 (by omega) h1
  · refine lv_iload_n hx hb dX_checkOperandIndex_4 rfl (lv_at hl 0 rfl) ?_
    refine lv_bipush (v := nI 6) hx hb dX_checkOperandIndex_5 (by decide +kernel) ?_
    refine lv_icmp_lt (tgt := 20) hx hb dX_checkOperandIndex_7 (by decide) (fun h7 => ?_) (fun h7 => ?_)
    · exact W.vret hx hb hr (fun t ht hW => ⟨rfl, trivial, ht⟩) (fun q h => nomatch h) dX_checkOperandIndex_20
    · exfalso
      exact h7 (nI_lt (by omega) (by omega))

set_option maxHeartbeats 4000000 in
set_option maxRecDepth 100000 in
theorem c_X_checkBitCount (l : Launch) (k : Nat) (hk : 1 ≤ k ∧ k ≤ 64) : Met l yX_checkBitCount wX_checkBitCount { frames := 0, cells := 0, slots := 0, locals := 0 } (fun av9 _ => av9 = ([.int (nI k)] : List Value).toArray) (va_Sv (fun _ => True)) 0 0 (fun _ => False) := by
  refine Met.ofW (cc := cX_checkBitCount) (maxL := 1) (ret := none) (by decide) rfl ?_
  intro p e s m args below meth c s₁ B hml hv
  obtain rfl := hv
  have hx := B.exec
  have hb := B.bytes
  have hr := B.returns
  have hts := atoms_spec (ws := wX_checkBitCount) B.pre
  have hw : ∀ w ∈ wA, w.before _ s = true := fun w h => hts w (List.mem_cons_of_mem _ h)
  have hown : s.vm.findClass RX = some m.cls := findClass_of_methodNamed B.named
  have hlocks := B.notSynchronized
  have hl := lv_entry ([.int (nI k)]) (n := 1) (Nat.le_of_ble_eq_true rfl)
  rw [lg_entry_eq]
  generalize (lg_sl ([.int (nI k)]) ++ List.replicate (1 - (lg_sl ([.int (nI k)])).length) Slot.unset).toArray = ls at hl ⊢
  have hl : lv_has ls 1 [(0, .int (nI k))] := hl
  refine lv_iload_n hx hb dX_checkBitCount_0 rfl (lv_at hl 0 rfl) ?_
  refine lv_iconst (v := nI 1) hx hb dX_checkBitCount_1 (by decide +kernel) ?_
  refine lv_icmp_lt (tgt := 11) hx hb dX_checkBitCount_2 (by decide) (fun h2 => ?_) (fun h2 => ?_)
  · exfalso
    rw [nI_ltI (by omega) (by omega)] at h2; omega
  · refine lv_iload_n hx hb dX_checkBitCount_5 rfl (lv_at hl 0 rfl) ?_
    refine lv_bipush (v := nI 64) hx hb dX_checkBitCount_6 (by decide +kernel) ?_
    refine lv_icmp_le (tgt := 21) hx hb dX_checkBitCount_8 (by decide) (fun h8 => ?_) (fun h8 => ?_)
    · exact W.vret hx hb hr (fun t ht hW => ⟨rfl, trivial, ht⟩) (fun q h => nomatch h) dX_checkBitCount_21
    · exfalso
      exact h8 (nI_le (by omega) (by omega))

set_option maxHeartbeats 4000000 in
set_option maxRecDepth 100000 in
theorem c_X_checkRoom (l : Launch) (dC : Nat → ClassId) (dI : Nat → Nat → Nat) (sa : Nat → Nat) (cI cZ : ClassId) (h pw ps po pk n : Nat) (wd sg ow co : Nat → Int32) (it w : Nat → Nat) (sb : Nat → Bool) (hF : fR n it w sb wd sg ow co) (k : Nat) (hk : n + k ≤ 64) : Met l yX_checkRoom wX_checkRoom { frames := 0, cells := 0, slots := 0, locals := 0 } (xo_Pc sa (dC, dI) cls3 [(h, .inr (0, [.ref pw, .ref ps, .ref po, .ref pk, .int (nI n)])), (pw, .inl (cI, 6, .inl wd)), (ps, .inl (cZ, 6, .inl sg)), (po, .inl (cI, 64, .inl ow)), (pk, .inl (cI, 64, .inl co))] [(cI, .int), (cZ, .boolean)] [.ref h, .int (nI k)]) (va_Sv (fun _ => True)) 0 0 (fun _ => False) := by
  refine Met.ofW (cc := cX_checkRoom) (maxL := 2) (ret := none) (by decide) rfl ?_
  intro p e s m args below meth c s₁ B hml hv
  obtain ⟨rfl, hP, hK, hV, hZ⟩ := hv
  have hx := B.exec
  have hb := B.bytes
  have hr := B.returns
  have hts := atoms_spec (ws := wX_checkRoom) B.pre
  have hw : ∀ w ∈ wA, w.before _ s = true := fun w h => hts w (List.mem_cons_of_mem _ h)
  have hown : s.vm.findClass RX = some m.cls := findClass_of_methodNamed B.named
  have hlocks := B.notSynchronized
  have hl := lv_entry ([.ref h, .int (nI k)]) (n := 2) (Nat.le_of_ble_eq_true rfl)
  rw [lg_entry_eq]
  generalize (lg_sl ([.ref h, .int (nI k)]) ++ List.replicate (2 - (lg_sl ([.ref h, .int (nI k)])).length) Slot.unset).toArray = ls at hl ⊢
  have hl : lv_has ls 2 [(0, .ref h), (1, .int (nI k))] := hl
  have hN_widths : ∀ A9, (Cond.fieldLinkNest "SliceCoder" 70 "SliceCoder$Form" "widths" "[I" "SliceCoder").before A9 s = true := fun A9 => va_Nw.use (by rfl) (hV.1 _ (by decide +kernel))
  have hN_length : ∀ A9, (Cond.fieldLinkNest "SliceCoder" 57 "SliceCoder$Form" "length" "I" "SliceCoder").before A9 s = true := fun A9 => va_Nw.use (by rfl) (hV.1 _ (by decide +kernel))
  have hn : n ≤ 64 := hF.1.1
  have hwd := hF.2.1
  have hsg := hF.2.2.1
  have hoc := hF.2.2.2
  have hit := cw_it hF.1
  have hw64 := hF.1.2.1
  refine lv_iload_n hx hb dX_checkRoom_0 rfl (lv_at hl 1 rfl) ?_
  refine lv_bipush (v := nI 64) hx hb dX_checkRoom_1 (by decide +kernel) ?_
  refine lv_aload_n hx hb dX_checkRoom_3 rfl (lv_at hl 0 rfl) ?_
  refine va_getN (D := (dC, dI)) (ci := 0) (v := .int (nI n)) (C := RF) (T := TF) (N := 5) hx hb hw inF hown hK hP 0 rfl rfl 4 (by decide) (hN_length _) (fun _ h9 => h9) rfl dX_checkRoom_4 ?_
  refine lv_isub hx hb dX_checkRoom_7 ?_
  refine lv_topi (fun v7 e7 => ?_)
  obtain rfl : v7 = nI (64 - n) := e7.trans (pk_sub (by omega))
  refine lv_icmp_le (tgt := 21) hx hb dX_checkRoom_8 (by decide) (fun h8 => ?_) (fun h8 => ?_)
  · exact W.vret hx hb hr (fun t ht hW => ⟨rfl, trivial, ht⟩) (fun q h => nomatch h) dX_checkRoom_21
  · exfalso
    exact h8 (nI_le (by omega) (by omega))

set_option maxHeartbeats 4000000 in
set_option maxRecDepth 100000 in
theorem c_X_checkWhole (l : Launch) (dC : Nat → ClassId) (dI : Nat → Nat → Nat) (sa : Nat → Nat) (cI cZ : ClassId) (h pw ps po pk n : Nat) (wd sg ow co : Nat → Int32) (it w : Nat → Nat) (sb : Nat → Bool) (hF : fR n it w sb wd sg ow co) (hwh : cw_lft it n w 6 = 0) : Met l yX_checkWhole wX_checkWhole { frames := 3, cells := 0, slots := 0, locals := 64 } (xo_Pc sa (dC, dI) cls3 [(h, .inr (0, [.ref pw, .ref ps, .ref po, .ref pk, .int (nI n)])), (pw, .inl (cI, 6, .inl wd)), (ps, .inl (cZ, 6, .inl sg)), (po, .inl (cI, 64, .inl ow)), (pk, .inl (cI, 64, .inl co))] [(cI, .int), (cZ, .boolean)] [.ref h]) (va_Sv (fun _ => True)) 0 0 (fun _ => False) := by
  refine Met.ofW (cc := cX_checkWhole) (maxL := 1) (ret := none) (by decide) rfl ?_
  intro p e s m args below meth c s₁ B hml hv
  obtain ⟨rfl, hP, hK, hV, hZ⟩ := hv
  have hx := B.exec
  have hb := B.bytes
  have hr := B.returns
  have hts := atoms_spec (ws := wX_checkWhole) B.pre
  have hw : ∀ w ∈ wA, w.before _ s = true := fun w h => hts w (List.mem_cons_of_mem _ h)
  have hown : s.vm.findClass RX = some m.cls := findClass_of_methodNamed B.named
  have hlocks := B.notSynchronized
  have hl := lv_entry ([.ref h]) (n := 1) (Nat.le_of_ble_eq_true rfl)
  rw [lg_entry_eq]
  generalize (lg_sl ([.ref h]) ++ List.replicate (1 - (lg_sl ([.ref h])).length) Slot.unset).toArray = ls at hl ⊢
  have hl : lv_has ls 1 [(0, .ref h)] := hl
  refine lv_aload_n hx hb dX_checkWhole_0 rfl (lv_at hl 0 rfl) ?_
  refine vp_callSi (W.runV (As := []) (rest := []) ⟨hx, hb, hml, hown, hw⟩ (c_F_isWhole l dC dI cI cZ h pw ps po pk n wd sg ow co it w sb hF) (cwV 0 hw (gV kw_260 kw_261 kw_262 kw_15 kw_263) rfl rfl rfl (by decide +kernel) ⟨Nat.le_of_ble_eq_true rfl, Nat.le_of_ble_eq_true rfl⟩) (ro_preV (q0 := 0) hK hP rfl rfl) rfl rfl hl.1 rfl (lv_room (Nat.le_of_ble_eq_true rfl)) dX_checkWhole_1 ⟨Nat.zero_le _, Nat.zero_le _⟩) (fun v1 e1 => ?_)
  obtain rfl : v1 = nI 1 := e1.trans (by rw [hwh]; rfl)
  refine lv_if_ne (tgt := 17) hx hb dX_checkWhole_4 (by decide) (fun h4 => ?_) (fun h4 => ?_)
  · exact W.vret hx hb hr (fun t ht hW => ⟨rfl, trivial, ht⟩) (fun q h => nomatch h) dX_checkWhole_17
  · exfalso
    first | exact h4 (by decide +kernel) | exact absurd h4 (by decide +kernel)

set_option maxHeartbeats 4000000 in
set_option maxRecDepth 100000 in
theorem c_X_formWith (l : Launch) (dC : Nat → ClassId) (dI : Nat → Nat → Nat) (sa : Nat → Nat) (cR : ClassId) (ax hfm hq : Nat) (fa : Nat → Option Nat) (cI cZ : ClassId) (h pw ps po pk n : Nat) (wd sg ow co : Nat → Int32) (it w : Nat → Nat) (sb : Nat → Bool) (hF : fR n it w sb wd sg ow co) (f : Nat) (hf : f < 8) (hfa : fa f = some h) (o : Nat) (ho : o < 6) (hw1 : 0 < w o) : Met l yX_formWith wX_formWith { frames := 1, cells := 0, slots := 0, locals := 21 } (xo_Pc sa (dC, dI) cls3 [(ax, .inr (1, [.ref hfm, .ref hq])), (hfm, .inl (cR, 8, .inr (.inr (.inr (.inr fa))))), (h, .inr (0, [.ref pw, .ref ps, .ref po, .ref pk, .int (nI n)])), (pw, .inl (cI, 6, .inl wd)), (ps, .inl (cZ, 6, .inl sg)), (po, .inl (cI, 64, .inl ow)), (pk, .inl (cI, 64, .inl co))] [(cR, .object "SliceCoder$Form"), (cI, .int), (cZ, .boolean)] [.ref ax, .int (nI f), .int (nI o)]) (va_Sr (fun r => r = h) Value.ref) 0 0 (fun _ => False) := by
  refine Met.ofW (cc := cX_formWith) (maxL := 4) (ret := (some (.object "SliceCoder$Form"))) (by decide) rfl ?_
  intro p e s m args below meth c s₁ B hml hv
  obtain ⟨rfl, hP, hK, hV, hZ⟩ := hv
  have hx := B.exec
  have hb := B.bytes
  have hr := B.returns
  have hts := atoms_spec (ws := wX_formWith) B.pre
  have hw : ∀ w ∈ wA, w.before _ s = true := fun w h => hts w (List.mem_cons_of_mem _ h)
  have hown : s.vm.findClass RX = some m.cls := findClass_of_methodNamed B.named
  have hlocks := B.notSynchronized
  have hl := lv_entry ([.ref ax, .int (nI f), .int (nI o)]) (n := 4) (Nat.le_of_ble_eq_true rfl)
  rw [lg_entry_eq]
  generalize (lg_sl ([.ref ax, .int (nI f), .int (nI o)]) ++ List.replicate (4 - (lg_sl ([.ref ax, .int (nI f), .int (nI o)])).length) Slot.unset).toArray = ls at hl ⊢
  have hl : lv_has ls 4 [(0, .ref ax), (1, .int (nI f)), (2, .int (nI o))] := hl
  refine lv_aload_n hx hb dX_formWith_0 rfl (lv_at hl 0 rfl) ?_
  refine lv_iload_n hx hb dX_formWith_1 rfl (lv_at hl 1 rfl) ?_
  refine va_csr (W.runV (As := [.int (nI f)]) (rest := []) ⟨hx, hb, hml, hown, hw⟩ (c_X_formAt l dC dI sa cR ax hfm hq fa f h hf hfa) (cwV 1 hw (gV kw_75 kw_77 kw_0 kw_14 kw_78) rfl rfl rfl (by decide +kernel) ⟨Nat.le_of_ble_eq_true rfl, Nat.le_of_ble_eq_true rfl⟩) (xo_preV (q0 := 0) (hK.sub (tys' := [(cR, .object "SliceCoder$Form")]) [0] rfl) (hP.sub (ws' := [(ax, .inr (1, [.ref hfm, .ref hq])), (hfm, .inl (cR, 8, .inr (.inr (.inr (.inr fa)))))]) [0, 1] rfl) hV hZ rfl rfl) rfl rfl hl.1 rfl (lv_room (Nat.le_of_ble_eq_true rfl)) dX_formWith_2 ⟨Nat.zero_le _, Nat.zero_le _⟩) (fun v2 e2 => ?_)
  obtain rfl : h = v2 := (e2).symm
  refine lv_astore_n hx hb dX_formWith_5 rfl hl (by decide) rfl (fun ls hl => ?_)
  have hl : lv_has ls 4 [(3, .ref h), (0, .ref ax), (1, .int (nI f)), (2, .int (nI o))] := hl
  refine lv_aload_n hx hb dX_formWith_6 rfl (lv_at hl 0 rfl) ?_
  refine lv_iload_n hx hb dX_formWith_7 rfl (lv_at hl 3 rfl) ?_
  refine vp_callSi (W.runV (As := [.int (nI o)]) (rest := []) ⟨hx, hb, hml, hown, hw⟩ (c_F_hasOperand l dC dI cI cZ h pw ps po pk n wd sg ow co it w sb hF (nI o)) (cwV 1 hw (gV kw_168 kw_169 kw_170 kw_15 kw_171) rfl rfl rfl (by decide +kernel) ⟨Nat.le_of_ble_eq_true rfl, Nat.le_of_ble_eq_true rfl⟩) (ro_preV (q0 := 0) (hK.sub (tys' := [(cI, .int), (cZ, .boolean)]) [1, 2] rfl) (hP.sub (ws' := [(h, .inr (0, [.ref pw, .ref ps, .ref po, .ref pk, .int (nI n)])), (pw, .inl (cI, 6, .inl wd)), (ps, .inl (cZ, 6, .inl sg)), (po, .inl (cI, 64, .inl ow)), (pk, .inl (cI, 64, .inl co))]) [2, 3, 4, 5, 6] rfl) rfl rfl) rfl rfl hl.1 rfl (lv_room (Nat.le_of_ble_eq_true rfl)) dX_formWith_8 ⟨Nat.zero_le _, Nat.zero_le _⟩) (fun v8 e8 => ?_)
  obtain rfl : v8 = nI 1 := e8.trans (by rw [hop_nI w ho, decide_eq_true hw1]; rfl)
  refine lv_if_ne (tgt := 24) hx hb dX_formWith_11 (by decide) (fun h11 => ?_) (fun h11 => ?_)
  · refine lv_aload_n hx hb dX_formWith_24 rfl (lv_at hl 0 rfl) ?_
    exact W.aret hx hb hr (Or.inl ⟨_, rfl⟩) (Or.inr ⟨_, rfl⟩) (fun t ht hW => ⟨_, rfl, (rfl), ht⟩) (fun q h => nomatch h) dX_formWith_25
  · exfalso
    first | exact h11 (by decide +kernel) | exact absurd h11 (by decide +kernel)

set_option maxHeartbeats 4000000 in
set_option maxRecDepth 100000 in
theorem t_X_formAt (l : Launch) (hl0 : l.stackTraces = false) (dC : Nat → ClassId) (dI : Nat → Nat → Nat) (sa : Nat → Nat) (ax hfm hq : Nat) (x : Int32) (hb9 : isF x = false) : tx_Met l yX_formAt wX_formAt { frames := 6, cells := 1, slots := 6, locals := 82 } (xo_Pc sa (dC, dI) cls3 [(ax, .inr (1, [.ref hfm, .ref hq]))] [] [.ref ax, .int x]) eIA 1 6 := by
  refine tx_ofW (cc := cX_formAt) (maxL := 2) (ret := (some (.object "SliceCoder$Form"))) (by decide) rfl ?_
  intro p e s m args below meth c s₁ B hml hv
  obtain ⟨rfl, hP, hK, hV, hZ⟩ := hv
  have hx := B.exec
  have hb := B.bytes
  have hr := B.returns
  have hts := atoms_spec (ws := wX_formAt) B.pre
  have hw : ∀ w ∈ wA, w.before _ s = true := fun w h => hts w (List.mem_cons_of_mem _ h)
  have hown : s.vm.findClass RX = some m.cls := findClass_of_methodNamed B.named
  have hlocks := B.notSynchronized
  have hl := lv_entry ([.ref ax, .int x]) (n := 2) (Nat.le_of_ble_eq_true rfl)
  rw [lg_entry_eq]
  generalize (lg_sl ([.ref ax, .int x]) ++ List.replicate (2 - (lg_sl ([.ref ax, .int x])).length) Slot.unset).toArray = ls at hl ⊢
  have hl : lv_has ls 2 [(0, .ref ax), (1, .int x)] := hl
  refine lv_iload_n hx hb dX_formAt_0 rfl (lv_at hl 1 rfl) ?_
  refine lv_if_lt (tgt := 10) hx hb dX_formAt_1 (by decide) (fun h1 => ?_) (fun h1 => ?_)
  · exact tx_throwS (own := RX) (names := eUp) (ik := 65) hx hb hl0 B.named (hts _ List.mem_cons_self) hlocks hown (by decide +kernel) (by decide +kernel) (hw _ kw_79) (hw _ kw_20) (hV.2 0 _ rfl) (xE_at hw hV hZ og_IA on_IA) (Nat.le_refl _) (hl.1.trans hml.symm) dX_formAt_10 dX_formAt_13 dX_formAt_14 dX_formAt_16 dX_formAt_19 (Nat.le_of_ble_eq_true rfl) (Nat.le_of_ble_eq_true rfl) (Nat.le_of_ble_eq_true rfl) (Nat.le_of_ble_eq_true rfl) (Nat.le_of_ble_eq_true rfl) (Nat.le_of_ble_eq_true rfl)
  · refine lv_iload_n hx hb dX_formAt_4 rfl (lv_at hl 1 rfl) ?_
    refine lv_bipush (v := nI 8) hx hb dX_formAt_5 (by decide +kernel) ?_
    refine lv_icmp_lt (tgt := 20) hx hb dX_formAt_7 (by decide) (fun h7 => ?_) (fun h7 => ?_)
    · exact absurd (isF_nlt h1 h7) (by rw [hb9]; decide)
    · exact tx_throwS (own := RX) (names := eUp) (ik := 65) hx hb hl0 B.named (hts _ List.mem_cons_self) hlocks hown (by decide +kernel) (by decide +kernel) (hw _ kw_79) (hw _ kw_20) (hV.2 0 _ rfl) (xE_at hw hV hZ og_IA on_IA) (Nat.le_refl _) (hl.1.trans hml.symm) dX_formAt_10 dX_formAt_13 dX_formAt_14 dX_formAt_16 dX_formAt_19 (Nat.le_of_ble_eq_true rfl) (Nat.le_of_ble_eq_true rfl) (Nat.le_of_ble_eq_true rfl) (Nat.le_of_ble_eq_true rfl) (Nat.le_of_ble_eq_true rfl) (Nat.le_of_ble_eq_true rfl)

set_option maxHeartbeats 4000000 in
set_option maxRecDepth 100000 in
theorem t_X_checkOperandIndex (l : Launch) (hl0 : l.stackTraces = false) (dC : Nat → ClassId) (dI : Nat → Nat → Nat) (sa : Nat → Nat) (x : Int32) (hb9 : isO x = false) : tx_Met l yX_checkOperandIndex wX_checkOperandIndex { frames := 6, cells := 1, slots := 6, locals := 82 } (xo_Pc sa (dC, dI) cls3 [] [] [.int x]) eIA 1 6 := by
  refine tx_ofW (cc := cX_checkOperandIndex) (maxL := 1) (ret := none) (by decide) rfl ?_
  intro p e s m args below meth c s₁ B hml hv
  obtain ⟨rfl, hP, hK, hV, hZ⟩ := hv
  have hx := B.exec
  have hb := B.bytes
  have hr := B.returns
  have hts := atoms_spec (ws := wX_checkOperandIndex) B.pre
  have hw : ∀ w ∈ wA, w.before _ s = true := fun w h => hts w (List.mem_cons_of_mem _ h)
  have hown : s.vm.findClass RX = some m.cls := findClass_of_methodNamed B.named
  have hlocks := B.notSynchronized
  have hl := lv_entry ([.int x]) (n := 1) (Nat.le_of_ble_eq_true rfl)
  rw [lg_entry_eq]
  generalize (lg_sl ([.int x]) ++ List.replicate (1 - (lg_sl ([.int x])).length) Slot.unset).toArray = ls at hl ⊢
  have hl : lv_has ls 1 [(0, .int x)] := hl
  refine lv_iload_n hx hb dX_checkOperandIndex_0 rfl (lv_at hl 0 rfl) ?_
  refine lv_if_lt (tgt := 10) hx hb dX_checkOperandIndex_1 (by decide) (fun h1 => ?_) (fun h1 => ?_)
  · exact tx_throwS (own := RX) (names := eUp) (ik := 65) hx hb hl0 B.named (hts _ List.mem_cons_self) hlocks hown (by decide +kernel) (by decide +kernel) (hw _ kw_79) (hw _ kw_20) (hV.2 1 _ rfl) (xE_at hw hV hZ og_IA on_IA) (Nat.le_refl _) (hl.1.trans hml.symm) dX_checkOperandIndex_10 dX_checkOperandIndex_13 dX_checkOperandIndex_14 dX_checkOperandIndex_16 dX_checkOperandIndex_19 (Nat.le_of_ble_eq_true rfl) (Nat.le_of_ble_eq_true rfl) (Nat.le_of_ble_eq_true rfl) (Nat.le_of_ble_eq_true rfl) (Nat.le_of_ble_eq_true rfl) (Nat.le_of_ble_eq_true rfl)
  · refine lv_iload_n hx hb dX_checkOperandIndex_4 rfl (lv_at hl 0 rfl) ?_
    refine lv_bipush (v := nI 6) hx hb dX_checkOperandIndex_5 (by decide +kernel) ?_
    refine lv_icmp_lt (tgt := 20) hx hb dX_checkOperandIndex_7 (by decide) (fun h7 => ?_) (fun h7 => ?_)
    · exact absurd (isO_nlt h1 h7) (by rw [hb9]; decide)
    · exact tx_throwS (own := RX) (names := eUp) (ik := 65) hx hb hl0 B.named (hts _ List.mem_cons_self) hlocks hown (by decide +kernel) (by decide +kernel) (hw _ kw_79) (hw _ kw_20) (hV.2 1 _ rfl) (xE_at hw hV hZ og_IA on_IA) (Nat.le_refl _) (hl.1.trans hml.symm) dX_checkOperandIndex_10 dX_checkOperandIndex_13 dX_checkOperandIndex_14 dX_checkOperandIndex_16 dX_checkOperandIndex_19 (Nat.le_of_ble_eq_true rfl) (Nat.le_of_ble_eq_true rfl) (Nat.le_of_ble_eq_true rfl) (Nat.le_of_ble_eq_true rfl) (Nat.le_of_ble_eq_true rfl) (Nat.le_of_ble_eq_true rfl)

set_option maxHeartbeats 4000000 in
set_option maxRecDepth 100000 in
theorem t_X_checkBitCount (l : Launch) (hl0 : l.stackTraces = false) (dC : Nat → ClassId) (dI : Nat → Nat → Nat) (sa : Nat → Nat) (x : Int32) (hb9 : isB x = false) : tx_Met l yX_checkBitCount wX_checkBitCount { frames := 6, cells := 1, slots := 6, locals := 82 } (xo_Pc sa (dC, dI) cls3 [] [] [.int x]) eIA 1 6 := by
  refine tx_ofW (cc := cX_checkBitCount) (maxL := 1) (ret := none) (by decide) rfl ?_
  intro p e s m args below meth c s₁ B hml hv
  obtain ⟨rfl, hP, hK, hV, hZ⟩ := hv
  have hx := B.exec
  have hb := B.bytes
  have hr := B.returns
  have hts := atoms_spec (ws := wX_checkBitCount) B.pre
  have hw : ∀ w ∈ wA, w.before _ s = true := fun w h => hts w (List.mem_cons_of_mem _ h)
  have hown : s.vm.findClass RX = some m.cls := findClass_of_methodNamed B.named
  have hlocks := B.notSynchronized
  have hl := lv_entry ([.int x]) (n := 1) (Nat.le_of_ble_eq_true rfl)
  rw [lg_entry_eq]
  generalize (lg_sl ([.int x]) ++ List.replicate (1 - (lg_sl ([.int x])).length) Slot.unset).toArray = ls at hl ⊢
  have hl : lv_has ls 1 [(0, .int x)] := hl
  refine lv_iload_n hx hb dX_checkBitCount_0 rfl (lv_at hl 0 rfl) ?_
  refine lv_iconst (v := nI 1) hx hb dX_checkBitCount_1 (by decide +kernel) ?_
  refine lv_icmp_lt (tgt := 11) hx hb dX_checkBitCount_2 (by decide) (fun h2 => ?_) (fun h2 => ?_)
  · exact tx_throwS (own := RX) (names := eUp) (ik := 65) hx hb hl0 B.named (hts _ List.mem_cons_self) hlocks hown (by decide +kernel) (by decide +kernel) (hw _ kw_79) (hw _ kw_20) (hV.2 2 _ rfl) (xE_at hw hV hZ og_IA on_IA) (Nat.le_refl _) (hl.1.trans hml.symm) dX_checkBitCount_11 dX_checkBitCount_14 dX_checkBitCount_15 dX_checkBitCount_17 dX_checkBitCount_20 (Nat.le_of_ble_eq_true rfl) (Nat.le_of_ble_eq_true rfl) (Nat.le_of_ble_eq_true rfl) (Nat.le_of_ble_eq_true rfl) (Nat.le_of_ble_eq_true rfl) (Nat.le_of_ble_eq_true rfl)
  · refine lv_iload_n hx hb dX_checkBitCount_5 rfl (lv_at hl 0 rfl) ?_
    refine lv_bipush (v := nI 64) hx hb dX_checkBitCount_6 (by decide +kernel) ?_
    refine lv_icmp_le (tgt := 21) hx hb dX_checkBitCount_8 (by decide) (fun h8 => ?_) (fun h8 => ?_)
    · exact absurd (isB_nlt h2 h8) (by rw [hb9]; decide)
    · exact tx_throwS (own := RX) (names := eUp) (ik := 65) hx hb hl0 B.named (hts _ List.mem_cons_self) hlocks hown (by decide +kernel) (by decide +kernel) (hw _ kw_79) (hw _ kw_20) (hV.2 2 _ rfl) (xE_at hw hV hZ og_IA on_IA) (Nat.le_refl _) (hl.1.trans hml.symm) dX_checkBitCount_11 dX_checkBitCount_14 dX_checkBitCount_15 dX_checkBitCount_17 dX_checkBitCount_20 (Nat.le_of_ble_eq_true rfl) (Nat.le_of_ble_eq_true rfl) (Nat.le_of_ble_eq_true rfl) (Nat.le_of_ble_eq_true rfl) (Nat.le_of_ble_eq_true rfl) (Nat.le_of_ble_eq_true rfl)

set_option maxHeartbeats 4000000 in
set_option maxRecDepth 100000 in
theorem t_X_checkRoom (l : Launch) (hl0 : l.stackTraces = false) (dC : Nat → ClassId) (dI : Nat → Nat → Nat) (sa : Nat → Nat) (cI cZ : ClassId) (h pw ps po pk n : Nat) (wd sg ow co : Nat → Int32) (it w : Nat → Nat) (sb : Nat → Bool) (hF : fR n it w sb wd sg ow co) (k : Nat) (hk : 64 < n + k) (hk2 : k ≤ 64) : tx_Met l yX_checkRoom wX_checkRoom { frames := 6, cells := 1, slots := 6, locals := 82 } (xo_Pc sa (dC, dI) cls3 [(h, .inr (0, [.ref pw, .ref ps, .ref po, .ref pk, .int (nI n)])), (pw, .inl (cI, 6, .inl wd)), (ps, .inl (cZ, 6, .inl sg)), (po, .inl (cI, 64, .inl ow)), (pk, .inl (cI, 64, .inl co))] [(cI, .int), (cZ, .boolean)] [.ref h, .int (nI k)]) eIX 1 6 := by
  refine tx_ofW (cc := cX_checkRoom) (maxL := 2) (ret := none) (by decide) rfl ?_
  intro p e s m args below meth c s₁ B hml hv
  obtain ⟨rfl, hP, hK, hV, hZ⟩ := hv
  have hx := B.exec
  have hb := B.bytes
  have hr := B.returns
  have hts := atoms_spec (ws := wX_checkRoom) B.pre
  have hw : ∀ w ∈ wA, w.before _ s = true := fun w h => hts w (List.mem_cons_of_mem _ h)
  have hown : s.vm.findClass RX = some m.cls := findClass_of_methodNamed B.named
  have hlocks := B.notSynchronized
  have hl := lv_entry ([.ref h, .int (nI k)]) (n := 2) (Nat.le_of_ble_eq_true rfl)
  rw [lg_entry_eq]
  generalize (lg_sl ([.ref h, .int (nI k)]) ++ List.replicate (2 - (lg_sl ([.ref h, .int (nI k)])).length) Slot.unset).toArray = ls at hl ⊢
  have hl : lv_has ls 2 [(0, .ref h), (1, .int (nI k))] := hl
  have hN_widths : ∀ A9, (Cond.fieldLinkNest "SliceCoder" 70 "SliceCoder$Form" "widths" "[I" "SliceCoder").before A9 s = true := fun A9 => va_Nw.use (by rfl) (hV.1 _ (by decide +kernel))
  have hN_length : ∀ A9, (Cond.fieldLinkNest "SliceCoder" 57 "SliceCoder$Form" "length" "I" "SliceCoder").before A9 s = true := fun A9 => va_Nw.use (by rfl) (hV.1 _ (by decide +kernel))
  have hn : n ≤ 64 := hF.1.1
  have hwd := hF.2.1
  have hsg := hF.2.2.1
  have hoc := hF.2.2.2
  have hit := cw_it hF.1
  have hw64 := hF.1.2.1
  refine lv_iload_n hx hb dX_checkRoom_0 rfl (lv_at hl 1 rfl) ?_
  refine lv_bipush (v := nI 64) hx hb dX_checkRoom_1 (by decide +kernel) ?_
  refine lv_aload_n hx hb dX_checkRoom_3 rfl (lv_at hl 0 rfl) ?_
  refine va_getN (D := (dC, dI)) (ci := 0) (v := .int (nI n)) (C := RF) (T := TF) (N := 5) hx hb hw inF hown hK hP 0 rfl rfl 4 (by decide) (hN_length _) (fun _ h9 => h9) rfl dX_checkRoom_4 ?_
  refine lv_isub hx hb dX_checkRoom_7 ?_
  refine lv_topi (fun v7 e7 => ?_)
  obtain rfl : v7 = nI (64 - n) := e7.trans (pk_sub (by omega))
  refine lv_icmp_le (tgt := 21) hx hb dX_checkRoom_8 (by decide) (fun h8 => ?_) (fun h8 => ?_)
  · exfalso
    rw [nI_leI (by omega) (by omega)] at h8; omega
  · exact tx_throwS (own := RX) (names := eUp) (ik := 74) hx hb hl0 B.named (hts _ List.mem_cons_self) hlocks hown (by decide +kernel) (by decide +kernel) (hw _ kw_203) (hw _ kw_22) (hV.2 4 _ rfl) (xE_at hw hV hZ og_IX on_IX) (Nat.le_refl _) (hl.1.trans hml.symm) dX_checkRoom_11 dX_checkRoom_14 dX_checkRoom_15 dX_checkRoom_17 dX_checkRoom_20 (Nat.le_of_ble_eq_true rfl) (Nat.le_of_ble_eq_true rfl) (Nat.le_of_ble_eq_true rfl) (Nat.le_of_ble_eq_true rfl) (Nat.le_of_ble_eq_true rfl) (Nat.le_of_ble_eq_true rfl)

set_option maxHeartbeats 4000000 in
set_option maxRecDepth 100000 in
theorem t_X_checkWhole (l : Launch) (hl0 : l.stackTraces = false) (dC : Nat → ClassId) (dI : Nat → Nat → Nat) (sa : Nat → Nat) (cI cZ : ClassId) (h pw ps po pk n : Nat) (wd sg ow co : Nat → Int32) (it w : Nat → Nat) (sb : Nat → Bool) (hF : fR n it w sb wd sg ow co) (hwh : ¬ cw_lft it n w 6 = 0) : tx_Met l yX_checkWhole wX_checkWhole { frames := 6, cells := 1, slots := 6, locals := 82 } (xo_Pc sa (dC, dI) cls3 [(h, .inr (0, [.ref pw, .ref ps, .ref po, .ref pk, .int (nI n)])), (pw, .inl (cI, 6, .inl wd)), (ps, .inl (cZ, 6, .inl sg)), (po, .inl (cI, 64, .inl ow)), (pk, .inl (cI, 64, .inl co))] [(cI, .int), (cZ, .boolean)] [.ref h]) eIS 1 6 := by
  refine tx_ofW (cc := cX_checkWhole) (maxL := 1) (ret := none) (by decide) rfl ?_
  intro p e s m args below meth c s₁ B hml hv
  obtain ⟨rfl, hP, hK, hV, hZ⟩ := hv
  have hx := B.exec
  have hb := B.bytes
  have hr := B.returns
  have hts := atoms_spec (ws := wX_checkWhole) B.pre
  have hw : ∀ w ∈ wA, w.before _ s = true := fun w h => hts w (List.mem_cons_of_mem _ h)
  have hown : s.vm.findClass RX = some m.cls := findClass_of_methodNamed B.named
  have hlocks := B.notSynchronized
  have hl := lv_entry ([.ref h]) (n := 1) (Nat.le_of_ble_eq_true rfl)
  rw [lg_entry_eq]
  generalize (lg_sl ([.ref h]) ++ List.replicate (1 - (lg_sl ([.ref h])).length) Slot.unset).toArray = ls at hl ⊢
  have hl : lv_has ls 1 [(0, .ref h)] := hl
  refine lv_aload_n hx hb dX_checkWhole_0 rfl (lv_at hl 0 rfl) ?_
  refine vp_callSi (W.runV (As := []) (rest := []) ⟨hx, hb, hml, hown, hw⟩ (c_F_isWhole l dC dI cI cZ h pw ps po pk n wd sg ow co it w sb hF) (cwV 0 hw (gV kw_260 kw_261 kw_262 kw_15 kw_263) rfl rfl rfl (by decide +kernel) ⟨Nat.le_of_ble_eq_true rfl, Nat.le_of_ble_eq_true rfl⟩) (ro_preV (q0 := 0) hK hP rfl rfl) rfl rfl hl.1 rfl (lv_room (Nat.le_of_ble_eq_true rfl)) dX_checkWhole_1 ⟨Nat.zero_le _, Nat.zero_le _⟩) (fun v1 e1 => ?_)
  obtain rfl : v1 = nI 0 := e1.trans (by rw [decide_eq_false hwh]; rfl)
  refine lv_if_ne (tgt := 17) hx hb dX_checkWhole_4 (by decide) (fun h4 => ?_) (fun h4 => ?_)
  · exfalso
    first | exact h4 (by decide +kernel) | exact absurd h4 (by decide +kernel)
  · exact tx_throwS (own := RX) (names := eUp) (ik := 38) hx hb hl0 B.named (hts _ List.mem_cons_self) hlocks hown (by decide +kernel) (by decide +kernel) (hw _ kw_172) (hw _ kw_21) (hV.2 9 _ rfl) (xE_at hw hV hZ og_IS on_IS) (Nat.le_refl _) (hl.1.trans hml.symm) dX_checkWhole_7 dX_checkWhole_10 dX_checkWhole_11 dX_checkWhole_13 dX_checkWhole_16 (Nat.le_of_ble_eq_true rfl) (Nat.le_of_ble_eq_true rfl) (Nat.le_of_ble_eq_true rfl) (Nat.le_of_ble_eq_true rfl) (Nat.le_of_ble_eq_true rfl) (Nat.le_of_ble_eq_true rfl)

set_option maxHeartbeats 4000000 in
set_option maxRecDepth 100000 in
theorem t_X_formWith_f (l : Launch) (hl0 : l.stackTraces = false) (dC : Nat → ClassId) (dI : Nat → Nat → Nat) (sa : Nat → Nat) (ax hfm hq : Nat) (x y : Int32) (hb9 : isF x = false) : tx_Met l yX_formWith wX_formWith { frames := 7, cells := 1, slots := 6, locals := 103 } (xo_Pc sa (dC, dI) cls3 [(ax, .inr (1, [.ref hfm, .ref hq]))] [] [.ref ax, .int x, .int y]) eIA 1 6 := by
  refine tx_ofW (cc := cX_formWith) (maxL := 4) (ret := (some (.object "SliceCoder$Form"))) (by decide) rfl ?_
  intro p e s m args below meth c s₁ B hml hv
  obtain ⟨rfl, hP, hK, hV, hZ⟩ := hv
  have hx := B.exec
  have hb := B.bytes
  have hr := B.returns
  have hts := atoms_spec (ws := wX_formWith) B.pre
  have hw : ∀ w ∈ wA, w.before _ s = true := fun w h => hts w (List.mem_cons_of_mem _ h)
  have hown : s.vm.findClass RX = some m.cls := findClass_of_methodNamed B.named
  have hlocks := B.notSynchronized
  have hl := lv_entry ([.ref ax, .int x, .int y]) (n := 4) (Nat.le_of_ble_eq_true rfl)
  rw [lg_entry_eq]
  generalize (lg_sl ([.ref ax, .int x, .int y]) ++ List.replicate (4 - (lg_sl ([.ref ax, .int x, .int y])).length) Slot.unset).toArray = ls at hl ⊢
  have hl : lv_has ls 4 [(0, .ref ax), (1, .int x), (2, .int y)] := hl
  refine lv_aload_n hx hb dX_formWith_0 rfl (lv_at hl 0 rfl) ?_
  refine lv_iload_n hx hb dX_formWith_1 rfl (lv_at hl 1 rfl) ?_
  refine tx_callV (As := [.int x]) (rest := []) (st0 := [.int x, .ref ax]) ⟨hx, hb, hml, hown, hw⟩ (t_X_formAt l hl0 dC dI sa ax hfm hq x hb9) (cwV 1 hw (gV kw_75 kw_77 kw_0 kw_14 kw_78) rfl rfl rfl (by decide +kernel) ⟨Nat.le_of_ble_eq_true rfl, Nat.le_of_ble_eq_true rfl⟩) (xo_preV (q0 := 0) hK hP hV hZ rfl rfl) rfl hl.1 rfl (lv_room (Nat.le_of_ble_eq_true rfl)) dX_formWith_2 ⟨Nat.le_of_ble_eq_true rfl, Nat.le_of_ble_eq_true rfl⟩ (fun q9 ce H1 k1 k2 k3 k4 k5 => ?_)
  exact tx_out B.named (hts _ List.mem_cons_self) hlocks k1 k2 k3 (Nat.le_of_ble_eq_true rfl) (Nat.le_of_ble_eq_true rfl)

set_option maxHeartbeats 4000000 in
set_option maxRecDepth 100000 in
theorem t_X_formWith_o (l : Launch) (hl0 : l.stackTraces = false) (dC : Nat → ClassId) (dI : Nat → Nat → Nat) (sa : Nat → Nat) (cR : ClassId) (ax hfm hq : Nat) (fa : Nat → Option Nat) (cI cZ : ClassId) (h pw ps po pk n : Nat) (wd sg ow co : Nat → Int32) (it w : Nat → Nat) (sb : Nat → Bool) (hF : fR n it w sb wd sg ow co) (f : Nat) (hf : f < 8) (hfa : fa f = some h) (y : Int32) (hb9 : hop w y = false) : tx_Met l yX_formWith wX_formWith { frames := 6, cells := 1, slots := 6, locals := 82 } (xo_Pc sa (dC, dI) cls3 [(ax, .inr (1, [.ref hfm, .ref hq])), (hfm, .inl (cR, 8, .inr (.inr (.inr (.inr fa))))), (h, .inr (0, [.ref pw, .ref ps, .ref po, .ref pk, .int (nI n)])), (pw, .inl (cI, 6, .inl wd)), (ps, .inl (cZ, 6, .inl sg)), (po, .inl (cI, 64, .inl ow)), (pk, .inl (cI, 64, .inl co))] [(cR, .object "SliceCoder$Form"), (cI, .int), (cZ, .boolean)] [.ref ax, .int (nI f), .int y]) eIA 1 6 := by
  refine tx_ofW (cc := cX_formWith) (maxL := 4) (ret := (some (.object "SliceCoder$Form"))) (by decide) rfl ?_
  intro p e s m args below meth c s₁ B hml hv
  obtain ⟨rfl, hP, hK, hV, hZ⟩ := hv
  have hx := B.exec
  have hb := B.bytes
  have hr := B.returns
  have hts := atoms_spec (ws := wX_formWith) B.pre
  have hw : ∀ w ∈ wA, w.before _ s = true := fun w h => hts w (List.mem_cons_of_mem _ h)
  have hown : s.vm.findClass RX = some m.cls := findClass_of_methodNamed B.named
  have hlocks := B.notSynchronized
  have hl := lv_entry ([.ref ax, .int (nI f), .int y]) (n := 4) (Nat.le_of_ble_eq_true rfl)
  rw [lg_entry_eq]
  generalize (lg_sl ([.ref ax, .int (nI f), .int y]) ++ List.replicate (4 - (lg_sl ([.ref ax, .int (nI f), .int y])).length) Slot.unset).toArray = ls at hl ⊢
  have hl : lv_has ls 4 [(0, .ref ax), (1, .int (nI f)), (2, .int y)] := hl
  refine lv_aload_n hx hb dX_formWith_0 rfl (lv_at hl 0 rfl) ?_
  refine lv_iload_n hx hb dX_formWith_1 rfl (lv_at hl 1 rfl) ?_
  refine va_csr (W.runV (As := [.int (nI f)]) (rest := []) ⟨hx, hb, hml, hown, hw⟩ (c_X_formAt l dC dI sa cR ax hfm hq fa f h hf hfa) (cwV 1 hw (gV kw_75 kw_77 kw_0 kw_14 kw_78) rfl rfl rfl (by decide +kernel) ⟨Nat.le_of_ble_eq_true rfl, Nat.le_of_ble_eq_true rfl⟩) (xo_preV (q0 := 0) (hK.sub (tys' := [(cR, .object "SliceCoder$Form")]) [0] rfl) (hP.sub (ws' := [(ax, .inr (1, [.ref hfm, .ref hq])), (hfm, .inl (cR, 8, .inr (.inr (.inr (.inr fa)))))]) [0, 1] rfl) hV hZ rfl rfl) rfl rfl hl.1 rfl (lv_room (Nat.le_of_ble_eq_true rfl)) dX_formWith_2 ⟨Nat.zero_le _, Nat.zero_le _⟩) (fun v2 e2 => ?_)
  obtain rfl : h = v2 := (e2).symm
  refine lv_astore_n hx hb dX_formWith_5 rfl hl (by decide) rfl (fun ls hl => ?_)
  have hl : lv_has ls 4 [(3, .ref h), (0, .ref ax), (1, .int (nI f)), (2, .int y)] := hl
  refine lv_aload_n hx hb dX_formWith_6 rfl (lv_at hl 0 rfl) ?_
  refine lv_iload_n hx hb dX_formWith_7 rfl (lv_at hl 3 rfl) ?_
  refine vp_callSi (W.runV (As := [.int y]) (rest := []) ⟨hx, hb, hml, hown, hw⟩ (c_F_hasOperand l dC dI cI cZ h pw ps po pk n wd sg ow co it w sb hF y) (cwV 1 hw (gV kw_168 kw_169 kw_170 kw_15 kw_171) rfl rfl rfl (by decide +kernel) ⟨Nat.le_of_ble_eq_true rfl, Nat.le_of_ble_eq_true rfl⟩) (ro_preV (q0 := 0) (hK.sub (tys' := [(cI, .int), (cZ, .boolean)]) [1, 2] rfl) (hP.sub (ws' := [(h, .inr (0, [.ref pw, .ref ps, .ref po, .ref pk, .int (nI n)])), (pw, .inl (cI, 6, .inl wd)), (ps, .inl (cZ, 6, .inl sg)), (po, .inl (cI, 64, .inl ow)), (pk, .inl (cI, 64, .inl co))]) [2, 3, 4, 5, 6] rfl) rfl rfl) rfl rfl hl.1 rfl (lv_room (Nat.le_of_ble_eq_true rfl)) dX_formWith_8 ⟨Nat.zero_le _, Nat.zero_le _⟩) (fun v8 e8 => ?_)
  obtain rfl : v8 = nI 0 := e8.trans (by rw [hb9]; rfl)
  refine lv_if_ne (tgt := 24) hx hb dX_formWith_11 (by decide) (fun h11 => ?_) (fun h11 => ?_)
  · exfalso
    first | exact h11 (by decide +kernel) | exact absurd h11 (by decide +kernel)
  · exact tx_throwS (own := RX) (names := eUp) (ik := 65) hx hb hl0 B.named (hts _ List.mem_cons_self) hlocks hown (by decide +kernel) (by decide +kernel) (hw _ kw_79) (hw _ kw_20) (hV.2 5 _ rfl) (xE_at hw hV hZ og_IA on_IA) (Nat.le_refl _) (hl.1.trans hml.symm) dX_formWith_14 dX_formWith_17 dX_formWith_18 dX_formWith_20 dX_formWith_23 (Nat.le_of_ble_eq_true rfl) (Nat.le_of_ble_eq_true rfl) (Nat.le_of_ble_eq_true rfl) (Nat.le_of_ble_eq_true rfl) (Nat.le_of_ble_eq_true rfl) (Nat.le_of_ble_eq_true rfl)
end
