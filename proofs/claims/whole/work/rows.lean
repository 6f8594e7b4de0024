section
-- ===== PART A: goes FIRST, ahead of the names: the tables' words, and 'selects' of the private methods out of them =====
/-- a private method of a class that the tables say can be made, by its rows of tables_1 -/
def lw_okq (q : MethodName × Nat) : Prop := (q.1.cls ≠ "java/lang/invoke/MethodHandle" ∧ q.1.cls ≠ "java/lang/invoke/VarHandle") ∧ Cond.instantiable q.1.cls q.2 ∈ tables_1 ∧ Cond.privateMethod q.1 ∈ tables_1 ∧ Cond.instanceMethod q.1 ∈ tables_1
theorem lw_p0 : lw_okq (⟨"FixedPlane", "ofWholes", "(III)I"⟩, 10) := ⟨⟨by decide +kernel, by decide +kernel⟩, List.mem_of_getElem? (i := 6) (by decide +kernel), List.mem_of_getElem? (i := 61) (by decide +kernel), List.mem_of_getElem? (i := 62) (by decide +kernel)⟩
theorem lw_p1 : lw_okq (⟨"FixedPlane", "keep", "(IJ)I"⟩, 10) := ⟨⟨by decide +kernel, by decide +kernel⟩, List.mem_of_getElem? (i := 6) (by decide +kernel), List.mem_of_getElem? (i := 65) (by decide +kernel), List.mem_of_getElem? (i := 66) (by decide +kernel)⟩
theorem lw_p2 : lw_okq (⟨"FixedPlane", "ofReals", "(IJJ)I"⟩, 10) := ⟨⟨by decide +kernel, by decide +kernel⟩, List.mem_of_getElem? (i := 6) (by decide +kernel), List.mem_of_getElem? (i := 76) (by decide +kernel), List.mem_of_getElem? (i := 77) (by decide +kernel)⟩
theorem lw_p3 : lw_okq (⟨"FixedPlane", "ofOne", "(III)I"⟩, 10) := ⟨⟨by decide +kernel, by decide +kernel⟩, List.mem_of_getElem? (i := 6) (by decide +kernel), List.mem_of_getElem? (i := 124) (by decide +kernel), List.mem_of_getElem? (i := 125) (by decide +kernel)⟩
theorem lw_p4 : lw_okq (⟨"FixedPlane", "ofReal", "(IJ)I"⟩, 10) := ⟨⟨by decide +kernel, by decide +kernel⟩, List.mem_of_getElem? (i := 6) (by decide +kernel), List.mem_of_getElem? (i := 135) (by decide +kernel), List.mem_of_getElem? (i := 136) (by decide +kernel)⟩
theorem lw_p5 : lw_okq (⟨"FixedPlane", "keepMatrix", "(JJJJJJ)Z"⟩, 10) := ⟨⟨by decide +kernel, by decide +kernel⟩, List.mem_of_getElem? (i := 6) (by decide +kernel), List.mem_of_getElem? (i := 167) (by decide +kernel), List.mem_of_getElem? (i := 168) (by decide +kernel)⟩
theorem lw_p6 : lw_okq (⟨"FixedPlane", "turnedX", "(II)J"⟩, 10) := ⟨⟨by decide +kernel, by decide +kernel⟩, List.mem_of_getElem? (i := 6) (by decide +kernel), List.mem_of_getElem? (i := 182) (by decide +kernel), List.mem_of_getElem? (i := 183) (by decide +kernel)⟩
theorem lw_p7 : lw_okq (⟨"FixedPlane", "turnedY", "(II)J"⟩, 10) := ⟨⟨by decide +kernel, by decide +kernel⟩, List.mem_of_getElem? (i := 6) (by decide +kernel), List.mem_of_getElem? (i := 186) (by decide +kernel), List.mem_of_getElem? (i := 187) (by decide +kernel)⟩
theorem lw_p8 : lw_okq (⟨"FixedPlaneModel", "onWholes", "(III)I"⟩, 7) := ⟨⟨by decide +kernel, by decide +kernel⟩, List.mem_of_getElem? (i := 205) (by decide +kernel), List.mem_of_getElem? (i := 244) (by decide +kernel), List.mem_of_getElem? (i := 245) (by decide +kernel)⟩
theorem lw_p9 : lw_okq (⟨"FixedPlaneModel", "whole", "(J)I"⟩, 7) := ⟨⟨by decide +kernel, by decide +kernel⟩, List.mem_of_getElem? (i := 205) (by decide +kernel), List.mem_of_getElem? (i := 248) (by decide +kernel), List.mem_of_getElem? (i := 249) (by decide +kernel)⟩
theorem lw_p10 : lw_okq (⟨"FixedPlaneModel", "real", "(J)I"⟩, 7) := ⟨⟨by decide +kernel, by decide +kernel⟩, List.mem_of_getElem? (i := 205) (by decide +kernel), List.mem_of_getElem? (i := 264) (by decide +kernel), List.mem_of_getElem? (i := 265) (by decide +kernel)⟩
theorem lw_p11 : lw_okq (⟨"FixedPlaneModel", "quotient", "(JJI)J"⟩, 7) := ⟨⟨by decide +kernel, by decide +kernel⟩, List.mem_of_getElem? (i := 205) (by decide +kernel), List.mem_of_getElem? (i := 276) (by decide +kernel), List.mem_of_getElem? (i := 277) (by decide +kernel)⟩
theorem lw_p12 : lw_okq (⟨"FixedPlaneModel", "onWhole", "(IJ)I"⟩, 7) := ⟨⟨by decide +kernel, by decide +kernel⟩, List.mem_of_getElem? (i := 205) (by decide +kernel), List.mem_of_getElem? (i := 307) (by decide +kernel), List.mem_of_getElem? (i := 308) (by decide +kernel)⟩
theorem lw_p13 : lw_okq (⟨"FixedPlaneModel", "onReal", "(IJ)I"⟩, 7) := ⟨⟨by decide +kernel, by decide +kernel⟩, List.mem_of_getElem? (i := 205) (by decide +kernel), List.mem_of_getElem? (i := 311) (by decide +kernel), List.mem_of_getElem? (i := 312) (by decide +kernel)⟩
theorem lw_p14 : lw_okq (⟨"FixedPlaneModel", "moving", "(JJIZ)J"⟩, 7) := ⟨⟨by decide +kernel, by decide +kernel⟩, List.mem_of_getElem? (i := 205) (by decide +kernel), List.mem_of_getElem? (i := 348) (by decide +kernel), List.mem_of_getElem? (i := 349) (by decide +kernel)⟩
theorem lw_p15 : lw_okq (⟨"FixedPlaneModel", "take", "()I"⟩, 7) := ⟨⟨by decide +kernel, by decide +kernel⟩, List.mem_of_getElem? (i := 205) (by decide +kernel), List.mem_of_getElem? (i := 352) (by decide +kernel), List.mem_of_getElem? (i := 353) (by decide +kernel)⟩
def lw_privs_1 : List (MethodName × Nat) := [(⟨"FixedPlane", "ofWholes", "(III)I"⟩, 10), (⟨"FixedPlane", "keep", "(IJ)I"⟩, 10), (⟨"FixedPlane", "ofReals", "(IJJ)I"⟩, 10), (⟨"FixedPlane", "ofOne", "(III)I"⟩, 10), (⟨"FixedPlane", "ofReal", "(IJ)I"⟩, 10), (⟨"FixedPlane", "keepMatrix", "(JJJJJJ)Z"⟩, 10), (⟨"FixedPlane", "turnedX", "(II)J"⟩, 10), (⟨"FixedPlane", "turnedY", "(II)J"⟩, 10), (⟨"FixedPlaneModel", "onWholes", "(III)I"⟩, 7), (⟨"FixedPlaneModel", "whole", "(J)I"⟩, 7), (⟨"FixedPlaneModel", "real", "(J)I"⟩, 7), (⟨"FixedPlaneModel", "quotient", "(JJI)J"⟩, 7), (⟨"FixedPlaneModel", "onWhole", "(IJ)I"⟩, 7), (⟨"FixedPlaneModel", "onReal", "(IJ)I"⟩, 7), (⟨"FixedPlaneModel", "moving", "(JJIZ)J"⟩, 7), (⟨"FixedPlaneModel", "take", "()I"⟩, 7)]
theorem lw_r1 : ∀ q ∈ lw_privs_1, lw_okq q := List.forall_mem_cons.mpr ⟨lw_p0, List.forall_mem_cons.mpr ⟨lw_p1, List.forall_mem_cons.mpr ⟨lw_p2, List.forall_mem_cons.mpr ⟨lw_p3, List.forall_mem_cons.mpr ⟨lw_p4, List.forall_mem_cons.mpr ⟨lw_p5, List.forall_mem_cons.mpr ⟨lw_p6, List.forall_mem_cons.mpr ⟨lw_p7, List.forall_mem_cons.mpr ⟨lw_p8, List.forall_mem_cons.mpr ⟨lw_p9, List.forall_mem_cons.mpr ⟨lw_p10, List.forall_mem_cons.mpr ⟨lw_p11, List.forall_mem_cons.mpr ⟨lw_p12, List.forall_mem_cons.mpr ⟨lw_p13, List.forall_mem_cons.mpr ⟨lw_p14, List.forall_mem_cons.mpr ⟨lw_p15, fun _ h => absurd h List.not_mem_nil⟩⟩⟩⟩⟩⟩⟩⟩⟩⟩⟩⟩⟩⟩⟩⟩
def lw_privs : List (MethodName × Nat) := lw_privs_1
def lw_tbl : List Cond := k2_sels lw_privs ++ tables_1
theorem lw_privs_ok : ∀ q ∈ lw_privs, lw_okq q := lw_r1
/-! ===== BEGIN words of one list among another's, by their places ===== -/
theorem goodIn_r {big : List Cond} (ws : List Cond) (ps : List Nat) (hp : ws = ps.filterMap (fun i => big[i]?)) (h : ws.all goodWord = true) : GoodIn big ws := by
  intro w hw
  have h1 := List.all_eq_true.mp h w hw
  rw [hp] at hw
  obtain ⟨i, -, hi⟩ := List.mem_filterMap.mp hw
  have hm : w ∈ big := by first | exact List.mem_of_getElem? hi | exact List.getElem?_mem hi
  exact ⟨hm, good_of_word h1⟩
theorem goodIn_app {big a b : List Cond} (ha : GoodIn big a) (hb : GoodIn big b) : GoodIn big (a ++ b) := fun w h => (List.mem_append.mp h).elim (ha w) (hb w)
theorem goodIn_ca {big a b : List Cond} {c : Cond} (ha : GoodIn big (c :: a)) (hb : GoodIn big b) : GoodIn big (c :: (a ++ b)) := fun w h => (List.mem_cons.mp h).elim (fun e => ha w (List.mem_cons.mpr (Or.inl e))) (fun h => (List.mem_append.mp h).elim (fun h => ha w (List.mem_cons.mpr (Or.inr h))) (hb w))
theorem goodIn_sub {big ws : List Cond} (hm : ∀ w ∈ ws, w ∈ big) (h : ws.all goodWord = true) : GoodIn big ws := fun w hw => ⟨hm w hw, good_of_word (List.all_eq_true.mp h w hw)⟩
/-! ===== END ===== -/

/-! ===== BEGIN printed: names, fields, word lists, decode rows ===== -/
def RX0 : String := "FixedPlane"
def TX0 : u_T := fun k => match k with
  | 0 => ("FixedPlane", "resultKind", "I", false)
  | 1 => ("FixedPlane", "resultNumber", "I", false)
  | 2 => ("FixedPlane", "matrixA", "I", false)
  | 3 => ("FixedPlane", "matrixB", "I", false)
  | 4 => ("FixedPlane", "matrixC", "I", false)
  | 5 => ("FixedPlane", "matrixD", "I", false)
  | 6 => ("FixedPlane", "matrixE", "I", false)
  | 7 => ("FixedPlane", "matrixF", "I", false)
  | 8 => ("FixedPlane", "movedX", "I", false)
  | _ => ("FixedPlane", "movedY", "I", false)
def tyX0 : Nat → FieldType := fun k => match k with
  | 0 => .int
  | 1 => .int
  | 2 => .int
  | 3 => .int
  | 4 => .int
  | 5 => .int
  | 6 => .int
  | 7 => .int
  | 8 => .int
  | _ => .int
abbrev wsX00 : List Cond := u_ws RX0 TX0 10
theorem nmX0 : ∀ a, a < 10 → ∀ b, b < 10 → a ≠ b → (TX0 a).2.1 ≠ (TX0 b).2.1 := by decide +kernel
theorem tyX0_ok : ∀ k, k < 10 → parseFieldDescriptor (TX0 k).2.2.1 = some (tyX0 k) := by decide +kernel
abbrev cX0_init : ByteArray := prog_1_method_1_code
def yX0_init : MethodName := ⟨RX0, "<init>", "()V"⟩
abbrev cX0_two : ByteArray := prog_1_method_2_code
def yX0_two : MethodName := ⟨RX0, "two", "(IIIII)I"⟩
abbrev cX0_one : ByteArray := prog_1_method_3_code
def yX0_one : MethodName := ⟨RX0, "one", "(III)I"⟩
abbrev cX0_kind : ByteArray := prog_1_method_4_code
def yX0_kind : MethodName := ⟨RX0, "kind", "()I"⟩
abbrev cX0_number : ByteArray := prog_1_method_5_code
def yX0_number : MethodName := ⟨RX0, "number", "()I"⟩
abbrev cX0_compare : ByteArray := prog_1_method_6_code
def yX0_compare : MethodName := ⟨RX0, "compare", "(IIII)I"⟩
abbrev cX0_matrix : ByteArray := prog_1_method_7_code
def yX0_matrix : MethodName := ⟨RX0, "matrix", "(IIIIII)Z"⟩
abbrev cX0_entry : ByteArray := prog_1_method_8_code
def yX0_entry : MethodName := ⟨RX0, "entry", "(I)I"⟩
abbrev cX0_before : ByteArray := prog_1_method_9_code
def yX0_before : MethodName := ⟨RX0, "before", "(IIIIII)I"⟩
abbrev cX0_invert : ByteArray := prog_1_method_10_code
def yX0_invert : MethodName := ⟨RX0, "invert", "()I"⟩
abbrev cX0_move : ByteArray := prog_1_method_11_code
def yX0_move : MethodName := ⟨RX0, "move", "(IIZ)I"⟩
abbrev cX0_moved : ByteArray := prog_1_method_12_code
def yX0_moved : MethodName := ⟨RX0, "moved", "(I)I"⟩
abbrev cX0_isValue : ByteArray := prog_1_method_13_code
def yX0_isValue : MethodName := ⟨RX0, "isValue", "(II)Z"⟩
abbrev cX0_isReal : ByteArray := prog_1_method_14_code
def yX0_isReal : MethodName := ⟨RX0, "isReal", "(J)Z"⟩
abbrev cX0_areReals : ByteArray := prog_1_method_15_code
def yX0_areReals : MethodName := ⟨RX0, "areReals", "(JJJJJJ)Z"⟩
abbrev cX0_units : ByteArray := prog_1_method_16_code
def yX0_units : MethodName := ⟨RX0, "units", "(II)J"⟩
abbrev cX0_isForWholesAlone : ByteArray := prog_1_method_17_code
def yX0_isForWholesAlone : MethodName := ⟨RX0, "isForWholesAlone", "(I)Z"⟩
abbrev cX0_isAsAReal : ByteArray := prog_1_method_18_code
def yX0_isAsAReal : MethodName := ⟨RX0, "isAsAReal", "(I)Z"⟩
abbrev cX0_ofWholes : ByteArray := prog_1_method_19_code
def yX0_ofWholes : MethodName := ⟨RX0, "ofWholes", "(III)I"⟩
abbrev cX0_ofReals : ByteArray := prog_1_method_20_code
def yX0_ofReals : MethodName := ⟨RX0, "ofReals", "(IJJ)I"⟩
abbrev cX0_ofOne : ByteArray := prog_1_method_21_code
def yX0_ofOne : MethodName := ⟨RX0, "ofOne", "(III)I"⟩
abbrev cX0_ofReal : ByteArray := prog_1_method_22_code
def yX0_ofReal : MethodName := ⟨RX0, "ofReal", "(IJ)I"⟩
abbrev cX0_keep : ByteArray := prog_1_method_23_code
def yX0_keep : MethodName := ⟨RX0, "keep", "(IJ)I"⟩
abbrev cX0_keepMatrix : ByteArray := prog_1_method_24_code
def yX0_keepMatrix : MethodName := ⟨RX0, "keepMatrix", "(JJJJJJ)Z"⟩
abbrev cX0_shifted : ByteArray := prog_1_method_25_code
def yX0_shifted : MethodName := ⟨RX0, "shifted", "(II)I"⟩
abbrev cX0_cut : ByteArray := prog_1_method_26_code
def yX0_cut : MethodName := ⟨RX0, "cut", "(IJ)J"⟩
abbrev cX0_floor : ByteArray := prog_1_method_27_code
def yX0_floor : MethodName := ⟨RX0, "floor", "(J)J"⟩
abbrev cX0_withoutPlaces : ByteArray := prog_1_method_28_code
def yX0_withoutPlaces : MethodName := ⟨RX0, "withoutPlaces", "(J)J"⟩
abbrev cX0_quotient : ByteArray := prog_1_method_29_code
def yX0_quotient : MethodName := ⟨RX0, "quotient", "(JJ)J"⟩
abbrev cX0_root : ByteArray := prog_1_method_30_code
def yX0_root : MethodName := ⟨RX0, "root", "(J)J"⟩
abbrev cX0_sine : ByteArray := prog_1_method_31_code
def yX0_sine : MethodName := ⟨RX0, "sine", "(J)J"⟩
abbrev cX0_sineOfFirstQuarter : ByteArray := prog_1_method_32_code
def yX0_sineOfFirstQuarter : MethodName := ⟨RX0, "sineOfFirstQuarter", "(J)J"⟩
abbrev cX0_angle : ByteArray := prog_1_method_33_code
def yX0_angle : MethodName := ⟨RX0, "angle", "(JJ)J"⟩
abbrev cX0_angleOfFirstQuarter : ByteArray := prog_1_method_34_code
def yX0_angleOfFirstQuarter : MethodName := ⟨RX0, "angleOfFirstQuarter", "(JJ)J"⟩
abbrev cX0_greatestAngle : ByteArray := prog_1_method_35_code
def yX0_greatestAngle : MethodName := ⟨RX0, "greatestAngle", "(JJJ)J"⟩
abbrev cX0_cross : ByteArray := prog_1_method_36_code
def yX0_cross : MethodName := ⟨RX0, "cross", "(IIII)J"⟩
abbrev cX0_turnedX : ByteArray := prog_1_method_37_code
def yX0_turnedX : MethodName := ⟨RX0, "turnedX", "(II)J"⟩
abbrev cX0_turnedY : ByteArray := prog_1_method_38_code
def yX0_turnedY : MethodName := ⟨RX0, "turnedY", "(II)J"⟩
def RX1 : String := "FixedPlaneModel"
def TX1 : u_T := fun k => match k with
  | 0 => ("FixedPlaneModel", "kind", "I", false)
  | 1 => ("FixedPlaneModel", "number", "I", false)
  | 2 => ("FixedPlaneModel", "entries", "[I", true)
  | 3 => ("FixedPlaneModel", "next", "[J", true)
  | 4 => ("FixedPlaneModel", "movedX", "I", false)
  | 5 => ("FixedPlaneModel", "movedY", "I", false)
  | _ => ("FixedPlaneModel", "beyond", "Z", false)
def tyX1 : Nat → FieldType := fun k => match k with
  | 0 => .int
  | 1 => .int
  | 2 => .array .int
  | 3 => .array .long
  | 4 => .int
  | 5 => .int
  | _ => .boolean
abbrev wsX10 : List Cond := u_ws RX1 TX1 7
theorem nmX1 : ∀ a, a < 7 → ∀ b, b < 7 → a ≠ b → (TX1 a).2.1 ≠ (TX1 b).2.1 := by decide +kernel
theorem tyX1_ok : ∀ k, k < 7 → parseFieldDescriptor (TX1 k).2.2.1 = some (tyX1 k) := by decide +kernel
abbrev cX1_init : ByteArray := prog_3_method_1_code
def yX1_init : MethodName := ⟨RX1, "<init>", "()V"⟩
abbrev cX1_isValue : ByteArray := prog_3_method_2_code
def yX1_isValue : MethodName := ⟨RX1, "isValue", "(II)Z"⟩
abbrev cX1_hasUnits : ByteArray := prog_3_method_3_code
def yX1_hasUnits : MethodName := ⟨RX1, "hasUnits", "(II)Z"⟩
abbrev cX1_units : ByteArray := prog_3_method_4_code
def yX1_units : MethodName := ⟨RX1, "units", "(II)J"⟩
abbrev cX1_whole : ByteArray := prog_3_method_5_code
def yX1_whole : MethodName := ⟨RX1, "whole", "(J)I"⟩
abbrev cX1_real : ByteArray := prog_3_method_6_code
def yX1_real : MethodName := ⟨RX1, "real", "(J)I"⟩
abbrev cX1_down : ByteArray := prog_3_method_7_code
def yX1_down : MethodName := ⟨RX1, "down", "(JJ)J"⟩
abbrev cX1_rounded : ByteArray := prog_3_method_8_code
def yX1_rounded : MethodName := ⟨RX1, "rounded", "(J)J"⟩
abbrev cX1_quotient : ByteArray := prog_3_method_9_code
def yX1_quotient : MethodName := ⟨RX1, "quotient", "(JJI)J"⟩
abbrev cX1_two : ByteArray := prog_3_method_10_code
def yX1_two : MethodName := ⟨RX1, "two", "(IIIII)I"⟩
abbrev cX1_onWholes : ByteArray := prog_3_method_11_code
def yX1_onWholes : MethodName := ⟨RX1, "onWholes", "(III)I"⟩
abbrev cX1_shifted : ByteArray := prog_3_method_12_code
def yX1_shifted : MethodName := ⟨RX1, "shifted", "(II)I"⟩
abbrev cX1_one : ByteArray := prog_3_method_13_code
def yX1_one : MethodName := ⟨RX1, "one", "(III)I"⟩
abbrev cX1_onWhole : ByteArray := prog_3_method_14_code
def yX1_onWhole : MethodName := ⟨RX1, "onWhole", "(IJ)I"⟩
abbrev cX1_onReal : ByteArray := prog_3_method_15_code
def yX1_onReal : MethodName := ⟨RX1, "onReal", "(IJ)I"⟩
abbrev cX1_root : ByteArray := prog_3_method_16_code
def yX1_root : MethodName := ⟨RX1, "root", "(J)J"⟩
abbrev cX1_quarter : ByteArray := prog_3_method_17_code
def yX1_quarter : MethodName := ⟨RX1, "quarter", "(J)J"⟩
abbrev cX1_sine : ByteArray := prog_3_method_18_code
def yX1_sine : MethodName := ⟨RX1, "sine", "(J)J"⟩
abbrev cX1_against : ByteArray := prog_3_method_19_code
def yX1_against : MethodName := ⟨RX1, "against", "(JJJ)I"⟩
abbrev cX1_first : ByteArray := prog_3_method_20_code
def yX1_first : MethodName := ⟨RX1, "first", "(JJI)J"⟩
abbrev cX1_angle : ByteArray := prog_3_method_21_code
def yX1_angle : MethodName := ⟨RX1, "angle", "(JJ)J"⟩
abbrev cX1_kind : ByteArray := prog_3_method_22_code
def yX1_kind : MethodName := ⟨RX1, "kind", "()I"⟩
abbrev cX1_number : ByteArray := prog_3_method_23_code
def yX1_number : MethodName := ⟨RX1, "number", "()I"⟩
abbrev cX1_compare : ByteArray := prog_3_method_24_code
def yX1_compare : MethodName := ⟨RX1, "compare", "(IIII)I"⟩
abbrev cX1_isBad : ByteArray := prog_3_method_25_code
def yX1_isBad : MethodName := ⟨RX1, "isBad", "(I)Z"⟩
abbrev cX1_areBad : ByteArray := prog_3_method_26_code
def yX1_areBad : MethodName := ⟨RX1, "areBad", "(IIIIII)Z"⟩
abbrev cX1_matrix : ByteArray := prog_3_method_27_code
def yX1_matrix : MethodName := ⟨RX1, "matrix", "(IIIIII)Z"⟩
abbrev cX1_entry : ByteArray := prog_3_method_28_code
def yX1_entry : MethodName := ⟨RX1, "entry", "(I)I"⟩
abbrev cX1_moving : ByteArray := prog_3_method_29_code
def yX1_moving : MethodName := ⟨RX1, "moving", "(JJIZ)J"⟩
abbrev cX1_take : ByteArray := prog_3_method_30_code
def yX1_take : MethodName := ⟨RX1, "take", "()I"⟩
abbrev cX1_before : ByteArray := prog_3_method_31_code
def yX1_before : MethodName := ⟨RX1, "before", "(IIIIII)I"⟩
abbrev cX1_invert : ByteArray := prog_3_method_32_code
def yX1_invert : MethodName := ⟨RX1, "invert", "()I"⟩
abbrev cX1_move : ByteArray := prog_3_method_33_code
def yX1_move : MethodName := ⟨RX1, "move", "(IIZ)I"⟩
abbrev cX1_moved : ByteArray := prog_3_method_34_code
def yX1_moved : MethodName := ⟨RX1, "moved", "(I)I"⟩
def RJ13 : String := "java/lang/Long"
def TJ13 : u_T := fun k => match k with
  | _ => ("", "", "", false)
def tyJ13 : Nat → FieldType := fun k => match k with
  | _ => .int
abbrev wsJ130 : List Cond := u_ws RJ13 TJ13 0
theorem nmJ13 : ∀ a, a < 0 → ∀ b, b < 0 → a ≠ b → (TJ13 a).2.1 ≠ (TJ13 b).2.1 := by decide +kernel
theorem tyJ13_ok : ∀ k, k < 0 → parseFieldDescriptor (TJ13 k).2.2.1 = some (tyJ13 k) := by decide +kernel
abbrev cJ13_compare_74951 : ByteArray := prog_4_method_42_code
def yJ13_compare_74951 : MethodName := ⟨RJ13, "compare", "(JJ)I"⟩
def RJ9 : String := "java/lang/Math"
def TJ9 : u_T := fun k => match k with
  | _ => ("", "", "", false)
def tyJ9 : Nat → FieldType := fun k => match k with
  | _ => .int
abbrev wsJ90 : List Cond := u_ws RJ9 TJ9 0
theorem nmJ9 : ∀ a, a < 0 → ∀ b, b < 0 → a ≠ b → (TJ9 a).2.1 ≠ (TJ9 b).2.1 := by decide +kernel
theorem tyJ9_ok : ∀ k, k < 0 → parseFieldDescriptor (TJ9 k).2.2.1 = some (tyJ9 k) := by decide +kernel
abbrev cJ9_floorDiv_f86c9 : ByteArray := prog_5_method_49_code
def yJ9_floorDiv_f86c9 : MethodName := ⟨RJ9, "floorDiv", "(JJ)J"⟩
abbrev cJ9_floorMod_f86c9 : ByteArray := prog_5_method_52_code
def yJ9_floorMod_f86c9 : MethodName := ⟨RJ9, "floorMod", "(JJ)J"⟩
abbrev cJ9_abs_067f4 : ByteArray := prog_5_method_61_code
def yJ9_abs_067f4 : MethodName := ⟨RJ9, "abs", "(J)J"⟩
abbrev cJ9_min_f86c9 : ByteArray := prog_5_method_70_code
def yJ9_min_f86c9 : MethodName := ⟨RJ9, "min", "(JJ)J"⟩
def RL : String := "FixedPlaneLaw"
abbrev cL_law : ByteArray := code
def yL_law : MethodName := ⟨RL, "law", "([I)Z"⟩
def wsX0_init : List Cond := .code yX0_init cX0_init 1 none :: ([.methodLink RX0 5 objectInit, .instanceMethod objectInit, .code objectInit ⟨#[0xb1]⟩ 1 none, .fieldLink RX0 11 "FixedPlane" "resultKind" "I", .constant RX0 15 (65536), .fieldLink RX0 16 "FixedPlane" "matrixA" "I", .fieldLink RX0 19 "FixedPlane" "matrixD" "I"] ++ wsX00)
def wsX0_isReal : List Cond := .code yX0_isReal cX0_isReal 2 (some .boolean) :: ([.constantLong RX0 109 (-2147483647), .constantLong RX0 111 (2147483647)])
def wsX0_isValue : List Cond := .code yX0_isValue cX0_isValue 2 (some .boolean) :: ([.methodLink RX0 38 yX0_isReal, .static yX0_isReal, .initialized RX0, .code yX0_isReal cX0_isReal 2 (some .boolean), .constantLong RX0 109 (-2147483647), .constantLong RX0 111 (2147483647)])
def wsX0_isForWholesAlone : List Cond := .code yX0_isForWholesAlone cX0_isForWholesAlone 1 (some .boolean) :: ([])
def wsX0_keep : List Cond := .code yX0_keep cX0_keep 5 (some .int) :: ([.fieldLink RX0 11 "FixedPlane" "resultKind" "I", .fieldLink RX0 59 "FixedPlane" "resultNumber" "I", .methodLink RX0 38 yX0_isReal, .static yX0_isReal, .initialized RX0, .code yX0_isReal cX0_isReal 2 (some .boolean), .constantLong RX0 109 (-2147483647), .constantLong RX0 111 (2147483647)] ++ wsX00)
def wsX0_shifted : List Cond := .code yX0_shifted cX0_shifted 2 (some .int) :: ([])
def wsX0_ofWholes : List Cond := .code yX0_ofWholes cX0_ofWholes 4 (some .int) :: ([.methodLink RX0 46 yX0_keep, .instanceMethod yX0_keep, .selects RX0 yX0_keep yX0_keep, .initialized RX0, .code yX0_keep cX0_keep 5 (some .int), .fieldLink RX0 11 "FixedPlane" "resultKind" "I", .fieldLink RX0 59 "FixedPlane" "resultNumber" "I", .methodLink RX0 38 yX0_isReal, .static yX0_isReal, .code yX0_isReal cX0_isReal 2 (some .boolean), .constantLong RX0 109 (-2147483647), .constantLong RX0 111 (2147483647), .methodLink RX0 113 yX0_shifted, .static yX0_shifted, .code yX0_shifted cX0_shifted 2 (some .int)] ++ wsX00)
def wsX0_units : List Cond := .code yX0_units cX0_units 2 (some .long) :: ([.constantLong RX0 97 (65536)])
def wsX0_withoutPlaces : List Cond := .code yX0_withoutPlaces cX0_withoutPlaces 2 (some .long) :: ([.constantLong RX0 146 (32768)])
def wsJ9_floorDiv_f86c9 : List Cond := .code yJ9_floorDiv_f86c9 cJ9_floorDiv_f86c9 6 (some .long) :: ([])
def wsX0_quotient : List Cond := .code yX0_quotient cX0_quotient 16 (some .long) :: ([.methodLink RX0 124 Lib.MathLoose.abs_long.x, .static Lib.MathLoose.abs_long.x, .initialized "java/lang/Math", .code Lib.MathLoose.abs_long.x Lib.MathLoose.abs_long.code 2 (some .long), .constantLong RX0 151 (-32768), .constantLong RX0 146 (32768), .constantLong RX0 153 (2147483648), .constantLong RX0 155 (2), .methodLink RX0 148 yJ9_floorDiv_f86c9, .static yJ9_floorDiv_f86c9, .initialized RJ9, .code yJ9_floorDiv_f86c9 cJ9_floorDiv_f86c9 6 (some .long)])
def wsX0_sineOfFirstQuarter : List Cond := .code yX0_sineOfFirstQuarter cX0_sineOfFirstQuarter 5 (some .long) :: ([.constantLong RX0 139 (5898240), .constantLong RX0 97 (65536), .fieldLink RX0 170 "FixedPlane" "SINES" "[I", .methodLink RX0 117 yX0_withoutPlaces, .static yX0_withoutPlaces, .initialized RX0, .code yX0_withoutPlaces cX0_withoutPlaces 2 (some .long), .constantLong RX0 146 (32768)])
def wsX0_greatestAngle : List Cond := .code yX0_greatestAngle cX0_greatestAngle 15 (some .long) :: ([.constantLong RX0 139 (5898240), .methodLink RX0 164 Lib.MathLoose.min_long.x, .static Lib.MathLoose.min_long.x, .initialized "java/lang/Math", .code Lib.MathLoose.min_long.x Lib.MathLoose.min_long.code 4 (some .long), .methodLink RX0 167 yX0_sineOfFirstQuarter, .static yX0_sineOfFirstQuarter, .initialized RX0, .code yX0_sineOfFirstQuarter cX0_sineOfFirstQuarter 5 (some .long), .constantLong RX0 97 (65536), .fieldLink RX0 170 "FixedPlane" "SINES" "[I", .methodLink RX0 117 yX0_withoutPlaces, .static yX0_withoutPlaces, .code yX0_withoutPlaces cX0_withoutPlaces 2 (some .long), .constantLong RX0 146 (32768)])
def wsX0_angleOfFirstQuarter : List Cond := .code yX0_angleOfFirstQuarter cX0_angleOfFirstQuarter 8 (some .long) :: ([.constantLong RX0 139 (5898240), .constantLong RX0 177 (-1), .constantLong RX0 155 (2), .methodLink RX0 179 yX0_greatestAngle, .static yX0_greatestAngle, .initialized RX0, .code yX0_greatestAngle cX0_greatestAngle 15 (some .long), .methodLink RX0 164 Lib.MathLoose.min_long.x, .static Lib.MathLoose.min_long.x, .initialized "java/lang/Math", .code Lib.MathLoose.min_long.x Lib.MathLoose.min_long.code 4 (some .long), .methodLink RX0 167 yX0_sineOfFirstQuarter, .static yX0_sineOfFirstQuarter, .code yX0_sineOfFirstQuarter cX0_sineOfFirstQuarter 5 (some .long), .constantLong RX0 97 (65536), .fieldLink RX0 170 "FixedPlane" "SINES" "[I", .methodLink RX0 117 yX0_withoutPlaces, .static yX0_withoutPlaces, .code yX0_withoutPlaces cX0_withoutPlaces 2 (some .long), .constantLong RX0 146 (32768)])
def wsX0_angle_r1 : List Cond := [Cond.methodLink RX0 124 Lib.MathLoose.abs_long.x, Cond.static Lib.MathLoose.abs_long.x, Cond.initialized "java/lang/Math", Cond.code Lib.MathLoose.abs_long.x Lib.MathLoose.abs_long.code 2 (some .long), Cond.constantLong RX0 162 (11796480), Cond.constantLong RX0 157 (23592960), Cond.methodLink RX0 174 yX0_angleOfFirstQuarter, Cond.static yX0_angleOfFirstQuarter, Cond.initialized RX0, Cond.code yX0_angleOfFirstQuarter cX0_angleOfFirstQuarter 8 (some .long), Cond.constantLong RX0 139 (5898240), Cond.constantLong RX0 177 (-1), Cond.constantLong RX0 155 (2), Cond.methodLink RX0 179 yX0_greatestAngle, Cond.static yX0_greatestAngle, Cond.code yX0_greatestAngle cX0_greatestAngle 15 (some .long), Cond.methodLink RX0 164 Lib.MathLoose.min_long.x, Cond.static Lib.MathLoose.min_long.x, Cond.code Lib.MathLoose.min_long.x Lib.MathLoose.min_long.code 4 (some .long), Cond.methodLink RX0 167 yX0_sineOfFirstQuarter, Cond.static yX0_sineOfFirstQuarter, Cond.code yX0_sineOfFirstQuarter cX0_sineOfFirstQuarter 5 (some .long), Cond.constantLong RX0 97 (65536), Cond.fieldLink RX0 170 "FixedPlane" "SINES" "[I"]
def wsX0_angle_r2 : List Cond := [Cond.methodLink RX0 117 yX0_withoutPlaces, Cond.static yX0_withoutPlaces, Cond.code yX0_withoutPlaces cX0_withoutPlaces 2 (some .long), Cond.constantLong RX0 146 (32768)]
def wsX0_angle : List Cond := .code yX0_angle cX0_angle 8 (some .long) :: ((wsX0_angle_r1 ++ wsX0_angle_r2))
def wsX0_ofReals_r1 : List Cond := [Cond.methodLink RX0 46 yX0_keep, Cond.instanceMethod yX0_keep, Cond.selects RX0 yX0_keep yX0_keep, Cond.initialized RX0, Cond.code yX0_keep cX0_keep 5 (some .int), Cond.fieldLink RX0 11 "FixedPlane" "resultKind" "I", Cond.fieldLink RX0 59 "FixedPlane" "resultNumber" "I", Cond.methodLink RX0 38 yX0_isReal, Cond.static yX0_isReal, Cond.code yX0_isReal cX0_isReal 2 (some .boolean), Cond.constantLong RX0 109 (-2147483647), Cond.constantLong RX0 111 (2147483647), Cond.methodLink RX0 117 yX0_withoutPlaces, Cond.static yX0_withoutPlaces, Cond.code yX0_withoutPlaces cX0_withoutPlaces 2 (some .long), Cond.constantLong RX0 146 (32768), Cond.methodLink RX0 99 yX0_quotient, Cond.static yX0_quotient, Cond.code yX0_quotient cX0_quotient 16 (some .long), Cond.methodLink RX0 124 Lib.MathLoose.abs_long.x, Cond.static Lib.MathLoose.abs_long.x, Cond.initialized "java/lang/Math", Cond.code Lib.MathLoose.abs_long.x Lib.MathLoose.abs_long.code 2 (some .long), Cond.constantLong RX0 151 (-32768)]
def wsX0_ofReals_r2 : List Cond := [Cond.constantLong RX0 153 (2147483648), Cond.constantLong RX0 155 (2), Cond.methodLink RX0 148 yJ9_floorDiv_f86c9, Cond.static yJ9_floorDiv_f86c9, Cond.initialized RJ9, Cond.code yJ9_floorDiv_f86c9 cJ9_floorDiv_f86c9 6 (some .long), Cond.methodLink RX0 121 yX0_angle, Cond.static yX0_angle, Cond.code yX0_angle cX0_angle 8 (some .long), Cond.constantLong RX0 162 (11796480), Cond.constantLong RX0 157 (23592960), Cond.methodLink RX0 174 yX0_angleOfFirstQuarter, Cond.static yX0_angleOfFirstQuarter, Cond.code yX0_angleOfFirstQuarter cX0_angleOfFirstQuarter 8 (some .long), Cond.constantLong RX0 139 (5898240), Cond.constantLong RX0 177 (-1), Cond.methodLink RX0 179 yX0_greatestAngle, Cond.static yX0_greatestAngle, Cond.code yX0_greatestAngle cX0_greatestAngle 15 (some .long), Cond.methodLink RX0 164 Lib.MathLoose.min_long.x, Cond.static Lib.MathLoose.min_long.x, Cond.code Lib.MathLoose.min_long.x Lib.MathLoose.min_long.code 4 (some .long), Cond.methodLink RX0 167 yX0_sineOfFirstQuarter, Cond.static yX0_sineOfFirstQuarter]
def wsX0_ofReals_r3 : List Cond := [Cond.code yX0_sineOfFirstQuarter cX0_sineOfFirstQuarter 5 (some .long), Cond.constantLong RX0 97 (65536), Cond.fieldLink RX0 170 "FixedPlane" "SINES" "[I"]
def wsX0_ofReals : List Cond := .code yX0_ofReals cX0_ofReals 6 (some .int) :: ((wsX0_ofReals_r1 ++ (wsX0_ofReals_r2 ++ wsX0_ofReals_r3)) ++ wsX00)
def wsX0_two_r1 : List Cond := [Cond.methodLink RX0 22 yX0_isValue, Cond.static yX0_isValue, Cond.initialized RX0, Cond.code yX0_isValue cX0_isValue 2 (some .boolean), Cond.methodLink RX0 38 yX0_isReal, Cond.static yX0_isReal, Cond.code yX0_isReal cX0_isReal 2 (some .boolean), Cond.constantLong RX0 109 (-2147483647), Cond.constantLong RX0 111 (2147483647), Cond.methodLink RX0 26 yX0_isForWholesAlone, Cond.static yX0_isForWholesAlone, Cond.code yX0_isForWholesAlone cX0_isForWholesAlone 1 (some .boolean), Cond.methodLink RX0 30 yX0_ofWholes, Cond.instanceMethod yX0_ofWholes, Cond.selects RX0 yX0_ofWholes yX0_ofWholes, Cond.code yX0_ofWholes cX0_ofWholes 4 (some .int), Cond.methodLink RX0 46 yX0_keep, Cond.instanceMethod yX0_keep, Cond.selects RX0 yX0_keep yX0_keep, Cond.code yX0_keep cX0_keep 5 (some .int), Cond.fieldLink RX0 11 "FixedPlane" "resultKind" "I", Cond.fieldLink RX0 59 "FixedPlane" "resultNumber" "I", Cond.methodLink RX0 113 yX0_shifted, Cond.static yX0_shifted]
def wsX0_two_r2 : List Cond := [Cond.code yX0_shifted cX0_shifted 2 (some .int), Cond.methodLink RX0 34 yX0_units, Cond.static yX0_units, Cond.code yX0_units cX0_units 2 (some .long), Cond.constantLong RX0 97 (65536), Cond.methodLink RX0 42 yX0_ofReals, Cond.instanceMethod yX0_ofReals, Cond.selects RX0 yX0_ofReals yX0_ofReals, Cond.code yX0_ofReals cX0_ofReals 6 (some .int), Cond.methodLink RX0 117 yX0_withoutPlaces, Cond.static yX0_withoutPlaces, Cond.code yX0_withoutPlaces cX0_withoutPlaces 2 (some .long), Cond.constantLong RX0 146 (32768), Cond.methodLink RX0 99 yX0_quotient, Cond.static yX0_quotient, Cond.code yX0_quotient cX0_quotient 16 (some .long), Cond.methodLink RX0 124 Lib.MathLoose.abs_long.x, Cond.static Lib.MathLoose.abs_long.x, Cond.initialized "java/lang/Math", Cond.code Lib.MathLoose.abs_long.x Lib.MathLoose.abs_long.code 2 (some .long), Cond.constantLong RX0 151 (-32768), Cond.constantLong RX0 153 (2147483648), Cond.constantLong RX0 155 (2), Cond.methodLink RX0 148 yJ9_floorDiv_f86c9]
def wsX0_two_r3 : List Cond := [Cond.static yJ9_floorDiv_f86c9, Cond.initialized RJ9, Cond.code yJ9_floorDiv_f86c9 cJ9_floorDiv_f86c9 6 (some .long), Cond.methodLink RX0 121 yX0_angle, Cond.static yX0_angle, Cond.code yX0_angle cX0_angle 8 (some .long), Cond.constantLong RX0 162 (11796480), Cond.constantLong RX0 157 (23592960), Cond.methodLink RX0 174 yX0_angleOfFirstQuarter, Cond.static yX0_angleOfFirstQuarter, Cond.code yX0_angleOfFirstQuarter cX0_angleOfFirstQuarter 8 (some .long), Cond.constantLong RX0 139 (5898240), Cond.constantLong RX0 177 (-1), Cond.methodLink RX0 179 yX0_greatestAngle, Cond.static yX0_greatestAngle, Cond.code yX0_greatestAngle cX0_greatestAngle 15 (some .long), Cond.methodLink RX0 164 Lib.MathLoose.min_long.x, Cond.static Lib.MathLoose.min_long.x, Cond.code Lib.MathLoose.min_long.x Lib.MathLoose.min_long.code 4 (some .long), Cond.methodLink RX0 167 yX0_sineOfFirstQuarter, Cond.static yX0_sineOfFirstQuarter, Cond.code yX0_sineOfFirstQuarter cX0_sineOfFirstQuarter 5 (some .long), Cond.fieldLink RX0 170 "FixedPlane" "SINES" "[I"]
def wsX0_two : List Cond := .code yX0_two cX0_two 11 (some .int) :: ((wsX0_two_r1 ++ (wsX0_two_r2 ++ wsX0_two_r3)) ++ wsX00)
def wsX0_isAsAReal : List Cond := .code yX0_isAsAReal cX0_isAsAReal 1 (some .boolean) :: ([])
def wsX0_floor : List Cond := .code yX0_floor cX0_floor 2 (some .long) :: ([])
def wsX0_cut : List Cond := .code yX0_cut cX0_cut 3 (some .long) :: ([.constantLong RX0 141 (65535), .constantLong RX0 146 (32768), .constantLong RX0 97 (65536), .methodLink RX0 143 yX0_floor, .static yX0_floor, .initialized RX0, .code yX0_floor cX0_floor 2 (some .long)])
def wsX0_ofOne_r1 : List Cond := [Cond.methodLink RX0 124 Lib.MathLoose.abs_long.x, Cond.static Lib.MathLoose.abs_long.x, Cond.initialized "java/lang/Math", Cond.code Lib.MathLoose.abs_long.x Lib.MathLoose.abs_long.code 2 (some .long), Cond.constant RX0 15 (65536), Cond.methodLink RX0 46 yX0_keep, Cond.instanceMethod yX0_keep, Cond.selects RX0 yX0_keep yX0_keep, Cond.initialized RX0, Cond.code yX0_keep cX0_keep 5 (some .int), Cond.fieldLink RX0 11 "FixedPlane" "resultKind" "I", Cond.fieldLink RX0 59 "FixedPlane" "resultNumber" "I", Cond.methodLink RX0 38 yX0_isReal, Cond.static yX0_isReal, Cond.code yX0_isReal cX0_isReal 2 (some .boolean), Cond.constantLong RX0 109 (-2147483647), Cond.constantLong RX0 111 (2147483647), Cond.methodLink RX0 129 yX0_cut, Cond.static yX0_cut, Cond.code yX0_cut cX0_cut 3 (some .long), Cond.constantLong RX0 141 (65535), Cond.constantLong RX0 146 (32768), Cond.constantLong RX0 97 (65536), Cond.methodLink RX0 143 yX0_floor]
def wsX0_ofOne_r2 : List Cond := [Cond.static yX0_floor, Cond.code yX0_floor cX0_floor 2 (some .long)]
def wsX0_ofOne : List Cond := .code yX0_ofOne cX0_ofOne 4 (some .int) :: ((wsX0_ofOne_r1 ++ wsX0_ofOne_r2) ++ wsX00)
def wsX0_root : List Cond := .code yX0_root cX0_root 9 (some .long) :: ([.constantLong RX0 97 (65536)])
def wsJ9_floorMod_f86c9 : List Cond := .code yJ9_floorMod_f86c9 cJ9_floorMod_f86c9 6 (some .long) :: ([])
def wsX0_sine : List Cond := .code yX0_sine cX0_sine 8 (some .long) :: ([.constantLong RX0 157 (23592960), .constantLong RX0 162 (11796480), .methodLink RX0 164 Lib.MathLoose.min_long.x, .static Lib.MathLoose.min_long.x, .initialized "java/lang/Math", .code Lib.MathLoose.min_long.x Lib.MathLoose.min_long.code 4 (some .long), .methodLink RX0 159 yJ9_floorMod_f86c9, .static yJ9_floorMod_f86c9, .initialized RJ9, .code yJ9_floorMod_f86c9 cJ9_floorMod_f86c9 6 (some .long), .methodLink RX0 167 yX0_sineOfFirstQuarter, .static yX0_sineOfFirstQuarter, .initialized RX0, .code yX0_sineOfFirstQuarter cX0_sineOfFirstQuarter 5 (some .long), .constantLong RX0 139 (5898240), .constantLong RX0 97 (65536), .fieldLink RX0 170 "FixedPlane" "SINES" "[I", .methodLink RX0 117 yX0_withoutPlaces, .static yX0_withoutPlaces, .code yX0_withoutPlaces cX0_withoutPlaces 2 (some .long), .constantLong RX0 146 (32768)])
def wsX0_ofReal_r1 : List Cond := [Cond.constantLong RX0 139 (5898240), Cond.methodLink RX0 133 yX0_root, Cond.static yX0_root, Cond.initialized RX0, Cond.code yX0_root cX0_root 9 (some .long), Cond.constantLong RX0 97 (65536), Cond.methodLink RX0 46 yX0_keep, Cond.instanceMethod yX0_keep, Cond.selects RX0 yX0_keep yX0_keep, Cond.code yX0_keep cX0_keep 5 (some .int), Cond.fieldLink RX0 11 "FixedPlane" "resultKind" "I", Cond.fieldLink RX0 59 "FixedPlane" "resultNumber" "I", Cond.methodLink RX0 38 yX0_isReal, Cond.static yX0_isReal, Cond.code yX0_isReal cX0_isReal 2 (some .boolean), Cond.constantLong RX0 109 (-2147483647), Cond.constantLong RX0 111 (2147483647), Cond.methodLink RX0 136 yX0_sine, Cond.static yX0_sine, Cond.code yX0_sine cX0_sine 8 (some .long), Cond.constantLong RX0 157 (23592960), Cond.constantLong RX0 162 (11796480), Cond.methodLink RX0 164 Lib.MathLoose.min_long.x, Cond.static Lib.MathLoose.min_long.x]
def wsX0_ofReal_r2 : List Cond := [Cond.initialized "java/lang/Math", Cond.code Lib.MathLoose.min_long.x Lib.MathLoose.min_long.code 4 (some .long), Cond.methodLink RX0 159 yJ9_floorMod_f86c9, Cond.static yJ9_floorMod_f86c9, Cond.initialized RJ9, Cond.code yJ9_floorMod_f86c9 cJ9_floorMod_f86c9 6 (some .long), Cond.methodLink RX0 167 yX0_sineOfFirstQuarter, Cond.static yX0_sineOfFirstQuarter, Cond.code yX0_sineOfFirstQuarter cX0_sineOfFirstQuarter 5 (some .long), Cond.fieldLink RX0 170 "FixedPlane" "SINES" "[I", Cond.methodLink RX0 117 yX0_withoutPlaces, Cond.static yX0_withoutPlaces, Cond.code yX0_withoutPlaces cX0_withoutPlaces 2 (some .long), Cond.constantLong RX0 146 (32768)]
def wsX0_ofReal : List Cond := .code yX0_ofReal cX0_ofReal 4 (some .int) :: ((wsX0_ofReal_r1 ++ wsX0_ofReal_r2) ++ wsX00)
def wsX0_one_r1 : List Cond := [Cond.methodLink RX0 22 yX0_isValue, Cond.static yX0_isValue, Cond.initialized RX0, Cond.code yX0_isValue cX0_isValue 2 (some .boolean), Cond.methodLink RX0 38 yX0_isReal, Cond.static yX0_isReal, Cond.code yX0_isReal cX0_isReal 2 (some .boolean), Cond.constantLong RX0 109 (-2147483647), Cond.constantLong RX0 111 (2147483647), Cond.methodLink RX0 46 yX0_keep, Cond.instanceMethod yX0_keep, Cond.selects RX0 yX0_keep yX0_keep, Cond.code yX0_keep cX0_keep 5 (some .int), Cond.fieldLink RX0 11 "FixedPlane" "resultKind" "I", Cond.fieldLink RX0 59 "FixedPlane" "resultNumber" "I", Cond.methodLink RX0 50 yX0_isAsAReal, Cond.static yX0_isAsAReal, Cond.code yX0_isAsAReal cX0_isAsAReal 1 (some .boolean), Cond.methodLink RX0 53 yX0_ofOne, Cond.instanceMethod yX0_ofOne, Cond.selects RX0 yX0_ofOne yX0_ofOne, Cond.code yX0_ofOne cX0_ofOne 4 (some .int), Cond.methodLink RX0 124 Lib.MathLoose.abs_long.x, Cond.static Lib.MathLoose.abs_long.x]
def wsX0_one_r2 : List Cond := [Cond.initialized "java/lang/Math", Cond.code Lib.MathLoose.abs_long.x Lib.MathLoose.abs_long.code 2 (some .long), Cond.constant RX0 15 (65536), Cond.methodLink RX0 129 yX0_cut, Cond.static yX0_cut, Cond.code yX0_cut cX0_cut 3 (some .long), Cond.constantLong RX0 141 (65535), Cond.constantLong RX0 146 (32768), Cond.constantLong RX0 97 (65536), Cond.methodLink RX0 143 yX0_floor, Cond.static yX0_floor, Cond.code yX0_floor cX0_floor 2 (some .long), Cond.methodLink RX0 34 yX0_units, Cond.static yX0_units, Cond.code yX0_units cX0_units 2 (some .long), Cond.methodLink RX0 56 yX0_ofReal, Cond.instanceMethod yX0_ofReal, Cond.selects RX0 yX0_ofReal yX0_ofReal, Cond.code yX0_ofReal cX0_ofReal 4 (some .int), Cond.constantLong RX0 139 (5898240), Cond.methodLink RX0 133 yX0_root, Cond.static yX0_root, Cond.code yX0_root cX0_root 9 (some .long), Cond.methodLink RX0 136 yX0_sine]
def wsX0_one_r3 : List Cond := [Cond.static yX0_sine, Cond.code yX0_sine cX0_sine 8 (some .long), Cond.constantLong RX0 157 (23592960), Cond.constantLong RX0 162 (11796480), Cond.methodLink RX0 164 Lib.MathLoose.min_long.x, Cond.static Lib.MathLoose.min_long.x, Cond.code Lib.MathLoose.min_long.x Lib.MathLoose.min_long.code 4 (some .long), Cond.methodLink RX0 159 yJ9_floorMod_f86c9, Cond.static yJ9_floorMod_f86c9, Cond.initialized RJ9, Cond.code yJ9_floorMod_f86c9 cJ9_floorMod_f86c9 6 (some .long), Cond.methodLink RX0 167 yX0_sineOfFirstQuarter, Cond.static yX0_sineOfFirstQuarter, Cond.code yX0_sineOfFirstQuarter cX0_sineOfFirstQuarter 5 (some .long), Cond.fieldLink RX0 170 "FixedPlane" "SINES" "[I", Cond.methodLink RX0 117 yX0_withoutPlaces, Cond.static yX0_withoutPlaces, Cond.code yX0_withoutPlaces cX0_withoutPlaces 2 (some .long)]
def wsX0_one : List Cond := .code yX0_one cX0_one 6 (some .int) :: ((wsX0_one_r1 ++ (wsX0_one_r2 ++ wsX0_one_r3)) ++ wsX00)
def wsX0_kind : List Cond := .code yX0_kind cX0_kind 1 (some .int) :: ([.fieldLink RX0 11 "FixedPlane" "resultKind" "I"] ++ wsX00)
def wsX0_number : List Cond := .code yX0_number cX0_number 1 (some .int) :: ([.fieldLink RX0 59 "FixedPlane" "resultNumber" "I"] ++ wsX00)
def wsJ13_compare_74951 : List Cond := .code yJ13_compare_74951 cJ13_compare_74951 4 (some .int) :: ([])
def wsX0_compare : List Cond := .code yX0_compare cX0_compare 5 (some .int) :: ([.methodLink RX0 22 yX0_isValue, .static yX0_isValue, .initialized RX0, .code yX0_isValue cX0_isValue 2 (some .boolean), .methodLink RX0 38 yX0_isReal, .static yX0_isReal, .code yX0_isReal cX0_isReal 2 (some .boolean), .constantLong RX0 109 (-2147483647), .constantLong RX0 111 (2147483647), .methodLink RX0 34 yX0_units, .static yX0_units, .code yX0_units cX0_units 2 (some .long), .constantLong RX0 97 (65536), .methodLink RX0 62 yJ13_compare_74951, .static yJ13_compare_74951, .initialized RJ13, .code yJ13_compare_74951 cJ13_compare_74951 4 (some .int)])
def wsX0_areReals : List Cond := .code yX0_areReals cX0_areReals 12 (some .boolean) :: ([.methodLink RX0 38 yX0_isReal, .static yX0_isReal, .initialized RX0, .code yX0_isReal cX0_isReal 2 (some .boolean), .constantLong RX0 109 (-2147483647), .constantLong RX0 111 (2147483647)])
def wsX0_keepMatrix : List Cond := .code yX0_keepMatrix cX0_keepMatrix 13 (some .boolean) :: ([.fieldLink RX0 16 "FixedPlane" "matrixA" "I", .fieldLink RX0 72 "FixedPlane" "matrixB" "I", .fieldLink RX0 75 "FixedPlane" "matrixC" "I", .fieldLink RX0 19 "FixedPlane" "matrixD" "I", .fieldLink RX0 78 "FixedPlane" "matrixE" "I", .fieldLink RX0 81 "FixedPlane" "matrixF" "I", .methodLink RX0 84 yX0_areReals, .static yX0_areReals, .initialized RX0, .code yX0_areReals cX0_areReals 12 (some .boolean), .methodLink RX0 38 yX0_isReal, .static yX0_isReal, .code yX0_isReal cX0_isReal 2 (some .boolean), .constantLong RX0 109 (-2147483647), .constantLong RX0 111 (2147483647)] ++ wsX00)
def wsX0_matrix : List Cond := .code yX0_matrix cX0_matrix 7 (some .boolean) :: ([.methodLink RX0 68 yX0_keepMatrix, .instanceMethod yX0_keepMatrix, .selects RX0 yX0_keepMatrix yX0_keepMatrix, .initialized RX0, .code yX0_keepMatrix cX0_keepMatrix 13 (some .boolean), .fieldLink RX0 16 "FixedPlane" "matrixA" "I", .fieldLink RX0 72 "FixedPlane" "matrixB" "I", .fieldLink RX0 75 "FixedPlane" "matrixC" "I", .fieldLink RX0 19 "FixedPlane" "matrixD" "I", .fieldLink RX0 78 "FixedPlane" "matrixE" "I", .fieldLink RX0 81 "FixedPlane" "matrixF" "I", .methodLink RX0 84 yX0_areReals, .static yX0_areReals, .code yX0_areReals cX0_areReals 12 (some .boolean), .methodLink RX0 38 yX0_isReal, .static yX0_isReal, .code yX0_isReal cX0_isReal 2 (some .boolean), .constantLong RX0 109 (-2147483647), .constantLong RX0 111 (2147483647)] ++ wsX00)
def wsX0_entry : List Cond := .code yX0_entry cX0_entry 2 (some .int) :: ([.fieldLink RX0 16 "FixedPlane" "matrixA" "I", .fieldLink RX0 72 "FixedPlane" "matrixB" "I", .fieldLink RX0 75 "FixedPlane" "matrixC" "I", .fieldLink RX0 19 "FixedPlane" "matrixD" "I", .fieldLink RX0 78 "FixedPlane" "matrixE" "I", .fieldLink RX0 81 "FixedPlane" "matrixF" "I"] ++ wsX00)
def wsX0_turnedX : List Cond := .code yX0_turnedX cX0_turnedX 3 (some .long) :: ([.fieldLink RX0 16 "FixedPlane" "matrixA" "I", .fieldLink RX0 75 "FixedPlane" "matrixC" "I", .methodLink RX0 117 yX0_withoutPlaces, .static yX0_withoutPlaces, .initialized RX0, .code yX0_withoutPlaces cX0_withoutPlaces 2 (some .long), .constantLong RX0 146 (32768)] ++ wsX00)
def wsX0_turnedY : List Cond := .code yX0_turnedY cX0_turnedY 3 (some .long) :: ([.fieldLink RX0 72 "FixedPlane" "matrixB" "I", .fieldLink RX0 19 "FixedPlane" "matrixD" "I", .methodLink RX0 117 yX0_withoutPlaces, .static yX0_withoutPlaces, .initialized RX0, .code yX0_withoutPlaces cX0_withoutPlaces 2 (some .long), .constantLong RX0 146 (32768)] ++ wsX00)
def wsX0_before_r1 : List Cond := [Cond.fieldLink RX0 78 "FixedPlane" "matrixE" "I", Cond.fieldLink RX0 81 "FixedPlane" "matrixF" "I", Cond.methodLink RX0 84 yX0_areReals, Cond.static yX0_areReals, Cond.initialized RX0, Cond.code yX0_areReals cX0_areReals 12 (some .boolean), Cond.methodLink RX0 38 yX0_isReal, Cond.static yX0_isReal, Cond.code yX0_isReal cX0_isReal 2 (some .boolean), Cond.constantLong RX0 109 (-2147483647), Cond.constantLong RX0 111 (2147483647), Cond.methodLink RX0 87 yX0_turnedX, Cond.instanceMethod yX0_turnedX, Cond.selects RX0 yX0_turnedX yX0_turnedX, Cond.code yX0_turnedX cX0_turnedX 3 (some .long), Cond.fieldLink RX0 16 "FixedPlane" "matrixA" "I", Cond.fieldLink RX0 75 "FixedPlane" "matrixC" "I", Cond.methodLink RX0 117 yX0_withoutPlaces, Cond.static yX0_withoutPlaces, Cond.code yX0_withoutPlaces cX0_withoutPlaces 2 (some .long), Cond.constantLong RX0 146 (32768), Cond.methodLink RX0 90 yX0_turnedY, Cond.instanceMethod yX0_turnedY, Cond.selects RX0 yX0_turnedY yX0_turnedY]
def wsX0_before_r2 : List Cond := [Cond.code yX0_turnedY cX0_turnedY 3 (some .long), Cond.fieldLink RX0 72 "FixedPlane" "matrixB" "I", Cond.fieldLink RX0 19 "FixedPlane" "matrixD" "I", Cond.methodLink RX0 68 yX0_keepMatrix, Cond.instanceMethod yX0_keepMatrix, Cond.selects RX0 yX0_keepMatrix yX0_keepMatrix, Cond.code yX0_keepMatrix cX0_keepMatrix 13 (some .boolean)]
def wsX0_before : List Cond := .code yX0_before cX0_before 8 (some .int) :: ((wsX0_before_r1 ++ wsX0_before_r2) ++ wsX00)
def wsX0_cross : List Cond := .code yX0_cross cX0_cross 4 (some .long) :: ([])
def wsX0_invert_r1 : List Cond := [Cond.fieldLink RX0 16 "FixedPlane" "matrixA" "I", Cond.fieldLink RX0 19 "FixedPlane" "matrixD" "I", Cond.fieldLink RX0 72 "FixedPlane" "matrixB" "I", Cond.fieldLink RX0 75 "FixedPlane" "matrixC" "I", Cond.constantLong RX0 97 (65536), Cond.fieldLink RX0 81 "FixedPlane" "matrixF" "I", Cond.fieldLink RX0 78 "FixedPlane" "matrixE" "I", Cond.methodLink RX0 93 yX0_cross, Cond.static yX0_cross, Cond.initialized RX0, Cond.code yX0_cross cX0_cross 4 (some .long), Cond.methodLink RX0 99 yX0_quotient, Cond.static yX0_quotient, Cond.code yX0_quotient cX0_quotient 16 (some .long), Cond.methodLink RX0 124 Lib.MathLoose.abs_long.x, Cond.static Lib.MathLoose.abs_long.x, Cond.initialized "java/lang/Math", Cond.code Lib.MathLoose.abs_long.x Lib.MathLoose.abs_long.code 2 (some .long), Cond.constantLong RX0 151 (-32768), Cond.constantLong RX0 146 (32768), Cond.constantLong RX0 153 (2147483648), Cond.constantLong RX0 155 (2), Cond.methodLink RX0 148 yJ9_floorDiv_f86c9, Cond.static yJ9_floorDiv_f86c9]
def wsX0_invert_r2 : List Cond := [Cond.initialized RJ9, Cond.code yJ9_floorDiv_f86c9 cJ9_floorDiv_f86c9 6 (some .long), Cond.methodLink RX0 68 yX0_keepMatrix, Cond.instanceMethod yX0_keepMatrix, Cond.selects RX0 yX0_keepMatrix yX0_keepMatrix, Cond.code yX0_keepMatrix cX0_keepMatrix 13 (some .boolean), Cond.methodLink RX0 84 yX0_areReals, Cond.static yX0_areReals, Cond.code yX0_areReals cX0_areReals 12 (some .boolean), Cond.methodLink RX0 38 yX0_isReal, Cond.static yX0_isReal, Cond.code yX0_isReal cX0_isReal 2 (some .boolean), Cond.constantLong RX0 109 (-2147483647), Cond.constantLong RX0 111 (2147483647)]
def wsX0_invert : List Cond := .code yX0_invert cX0_invert 4 (some .int) :: ((wsX0_invert_r1 ++ wsX0_invert_r2) ++ wsX00)
def wsX0_move_r1 : List Cond := [Cond.fieldLink RX0 78 "FixedPlane" "matrixE" "I", Cond.fieldLink RX0 81 "FixedPlane" "matrixF" "I", Cond.fieldLink RX0 103 "FixedPlane" "movedX" "I", Cond.fieldLink RX0 106 "FixedPlane" "movedY" "I", Cond.methodLink RX0 38 yX0_isReal, Cond.static yX0_isReal, Cond.initialized RX0, Cond.code yX0_isReal cX0_isReal 2 (some .boolean), Cond.constantLong RX0 109 (-2147483647), Cond.constantLong RX0 111 (2147483647), Cond.methodLink RX0 87 yX0_turnedX, Cond.instanceMethod yX0_turnedX, Cond.selects RX0 yX0_turnedX yX0_turnedX, Cond.code yX0_turnedX cX0_turnedX 3 (some .long), Cond.fieldLink RX0 16 "FixedPlane" "matrixA" "I", Cond.fieldLink RX0 75 "FixedPlane" "matrixC" "I", Cond.methodLink RX0 117 yX0_withoutPlaces, Cond.static yX0_withoutPlaces, Cond.code yX0_withoutPlaces cX0_withoutPlaces 2 (some .long), Cond.constantLong RX0 146 (32768), Cond.methodLink RX0 90 yX0_turnedY, Cond.instanceMethod yX0_turnedY, Cond.selects RX0 yX0_turnedY yX0_turnedY, Cond.code yX0_turnedY cX0_turnedY 3 (some .long)]
def wsX0_move_r2 : List Cond := [Cond.fieldLink RX0 72 "FixedPlane" "matrixB" "I", Cond.fieldLink RX0 19 "FixedPlane" "matrixD" "I"]
def wsX0_move : List Cond := .code yX0_move cX0_move 8 (some .int) :: ((wsX0_move_r1 ++ wsX0_move_r2) ++ wsX00)
def wsX0_moved : List Cond := .code yX0_moved cX0_moved 2 (some .int) :: ([.fieldLink RX0 103 "FixedPlane" "movedX" "I", .fieldLink RX0 106 "FixedPlane" "movedY" "I"] ++ wsX00)
def wsX1_init : List Cond := .code yX1_init cX1_init 1 none :: ([.methodLink RX1 1 objectInit, .instanceMethod objectInit, .code objectInit ⟨#[0xb1]⟩ 1 none, .fieldLink RX1 9 "FixedPlaneModel" "kind" "I", .arrayClass .int, .fieldLink RX1 13 "FixedPlaneModel" "entries" "[I", .arrayClass .long, .fieldLink RX1 17 "FixedPlaneModel" "next" "[J", .constant RX1 21 (65536)] ++ wsX10)
def wsX1_isValue : List Cond := .code yX1_isValue cX1_isValue 2 (some .boolean) :: ([.constant RX1 22 (-2147483648)])
def wsX1_hasUnits : List Cond := .code yX1_hasUnits cX1_hasUnits 2 (some .boolean) :: ([])
def wsX1_units : List Cond := .code yX1_units cX1_units 2 (some .long) :: ([.constantLong RX1 23 (65536)])
def wsX1_whole : List Cond := .code yX1_whole cX1_whole 3 (some .int) :: ([.constantLong RX1 25 (2147483647), .constantLong RX1 27 (-2147483648), .fieldLink RX1 9 "FixedPlaneModel" "kind" "I", .fieldLink RX1 29 "FixedPlaneModel" "number" "I"] ++ wsX10)
def wsX1_real : List Cond := .code yX1_real cX1_real 3 (some .int) :: ([.constantLong RX1 25 (2147483647), .constantLong RX1 32 (-2147483647), .fieldLink RX1 9 "FixedPlaneModel" "kind" "I", .fieldLink RX1 29 "FixedPlaneModel" "number" "I"] ++ wsX10)
def wsX1_down : List Cond := .code yX1_down cX1_down 6 (some .long) :: ([])
def wsX1_rounded : List Cond := .code yX1_rounded cX1_rounded 2 (some .long) :: ([.constantLong RX1 34 (32768), .constantLong RX1 23 (65536), .methodLink RX1 36 yX1_down, .static yX1_down, .initialized RX1, .code yX1_down cX1_down 6 (some .long)])
def wsX1_quotient : List Cond := .code yX1_quotient cX1_quotient 16 (some .long) :: ([.constantLong RX1 40 (4294967296), .constantLong RX1 42 (-4294967296), .fieldLink RX1 44 "FixedPlaneModel" "beyond" "Z", .constantLong RX1 48 (2), .methodLink RX1 36 yX1_down, .static yX1_down, .initialized RX1, .code yX1_down cX1_down 6 (some .long)] ++ wsX10)
def wsX1_shifted : List Cond := .code yX1_shifted cX1_shifted 4 (some .int) :: ([])
def wsX1_onWholes : List Cond := .code yX1_onWholes cX1_onWholes 4 (some .int) :: ([.methodLink RX1 58 yX1_whole, .instanceMethod yX1_whole, .selects RX1 yX1_whole yX1_whole, .initialized RX1, .code yX1_whole cX1_whole 3 (some .int), .constantLong RX1 25 (2147483647), .constantLong RX1 27 (-2147483648), .fieldLink RX1 9 "FixedPlaneModel" "kind" "I", .fieldLink RX1 29 "FixedPlaneModel" "number" "I", .methodLink RX1 83 yX1_shifted, .static yX1_shifted, .code yX1_shifted cX1_shifted 4 (some .int)] ++ wsX10)
def wsX1_quarter : List Cond := .code yX1_quarter cX1_quarter 5 (some .long) :: ([.constantLong RX1 23 (65536), .fieldLink RX1 102 "FixedPlaneModel" "SINES" "[I", .methodLink RX1 72 yX1_rounded, .static yX1_rounded, .initialized RX1, .code yX1_rounded cX1_rounded 2 (some .long), .constantLong RX1 34 (32768), .methodLink RX1 36 yX1_down, .static yX1_down, .code yX1_down cX1_down 6 (some .long)])
def wsX1_sine : List Cond := .code yX1_sine cX1_sine 9 (some .long) :: ([.constantLong RX1 105 (23592960), .constantLong RX1 107 (11796480), .constantLong RX1 100 (5898240), .methodLink RX1 36 yX1_down, .static yX1_down, .initialized RX1, .code yX1_down cX1_down 6 (some .long), .methodLink RX1 109 yX1_quarter, .static yX1_quarter, .code yX1_quarter cX1_quarter 5 (some .long), .constantLong RX1 23 (65536), .fieldLink RX1 102 "FixedPlaneModel" "SINES" "[I", .methodLink RX1 72 yX1_rounded, .static yX1_rounded, .code yX1_rounded cX1_rounded 2 (some .long), .constantLong RX1 34 (32768)])
def wsX1_against : List Cond := .code yX1_against cX1_against 10 (some .int) :: ([.constantLong RX1 100 (5898240), .methodLink RX1 97 yX1_sine, .static yX1_sine, .initialized RX1, .code yX1_sine cX1_sine 9 (some .long), .constantLong RX1 105 (23592960), .constantLong RX1 107 (11796480), .methodLink RX1 36 yX1_down, .static yX1_down, .code yX1_down cX1_down 6 (some .long), .methodLink RX1 109 yX1_quarter, .static yX1_quarter, .code yX1_quarter cX1_quarter 5 (some .long), .constantLong RX1 23 (65536), .fieldLink RX1 102 "FixedPlaneModel" "SINES" "[I", .methodLink RX1 72 yX1_rounded, .static yX1_rounded, .code yX1_rounded cX1_rounded 2 (some .long), .constantLong RX1 34 (32768)])
def wsX1_first : List Cond := .code yX1_first cX1_first 12 (some .long) :: ([.constantLong RX1 23 (65536), .constantLong RX1 48 (2), .methodLink RX1 112 yX1_against, .static yX1_against, .initialized RX1, .code yX1_against cX1_against 10 (some .int), .constantLong RX1 100 (5898240), .methodLink RX1 97 yX1_sine, .static yX1_sine, .code yX1_sine cX1_sine 9 (some .long), .constantLong RX1 105 (23592960), .constantLong RX1 107 (11796480), .methodLink RX1 36 yX1_down, .static yX1_down, .code yX1_down cX1_down 6 (some .long), .methodLink RX1 109 yX1_quarter, .static yX1_quarter, .code yX1_quarter cX1_quarter 5 (some .long), .fieldLink RX1 102 "FixedPlaneModel" "SINES" "[I", .methodLink RX1 72 yX1_rounded, .static yX1_rounded, .code yX1_rounded cX1_rounded 2 (some .long), .constantLong RX1 34 (32768)])
def wsX1_angle_r1 : List Cond := [Cond.constantLong RX1 100 (5898240), Cond.constantLong RX1 48 (2), Cond.constantLong RX1 107 (11796480), Cond.constantLong RX1 105 (23592960), Cond.methodLink RX1 116 yX1_first, Cond.static yX1_first, Cond.initialized RX1, Cond.code yX1_first cX1_first 12 (some .long), Cond.constantLong RX1 23 (65536), Cond.methodLink RX1 112 yX1_against, Cond.static yX1_against, Cond.code yX1_against cX1_against 10 (some .int), Cond.methodLink RX1 97 yX1_sine, Cond.static yX1_sine, Cond.code yX1_sine cX1_sine 9 (some .long), Cond.methodLink RX1 36 yX1_down, Cond.static yX1_down, Cond.code yX1_down cX1_down 6 (some .long), Cond.methodLink RX1 109 yX1_quarter, Cond.static yX1_quarter, Cond.code yX1_quarter cX1_quarter 5 (some .long), Cond.fieldLink RX1 102 "FixedPlaneModel" "SINES" "[I", Cond.methodLink RX1 72 yX1_rounded, Cond.static yX1_rounded]
def wsX1_angle_r2 : List Cond := [Cond.code yX1_rounded cX1_rounded 2 (some .long), Cond.constantLong RX1 34 (32768)]
def wsX1_angle : List Cond := .code yX1_angle cX1_angle 14 (some .long) :: ((wsX1_angle_r1 ++ wsX1_angle_r2))
def wsX1_two_r1 : List Cond := [Cond.fieldLink RX1 44 "FixedPlaneModel" "beyond" "Z", Cond.methodLink RX1 50 yX1_isValue, Cond.static yX1_isValue, Cond.initialized RX1, Cond.code yX1_isValue cX1_isValue 2 (some .boolean), Cond.constant RX1 22 (-2147483648), Cond.methodLink RX1 54 yX1_onWholes, Cond.instanceMethod yX1_onWholes, Cond.selects RX1 yX1_onWholes yX1_onWholes, Cond.code yX1_onWholes cX1_onWholes 4 (some .int), Cond.methodLink RX1 58 yX1_whole, Cond.instanceMethod yX1_whole, Cond.selects RX1 yX1_whole yX1_whole, Cond.code yX1_whole cX1_whole 3 (some .int), Cond.constantLong RX1 25 (2147483647), Cond.constantLong RX1 27 (-2147483648), Cond.fieldLink RX1 9 "FixedPlaneModel" "kind" "I", Cond.fieldLink RX1 29 "FixedPlaneModel" "number" "I", Cond.methodLink RX1 83 yX1_shifted, Cond.static yX1_shifted, Cond.code yX1_shifted cX1_shifted 4 (some .int), Cond.methodLink RX1 62 yX1_hasUnits, Cond.static yX1_hasUnits, Cond.code yX1_hasUnits cX1_hasUnits 2 (some .boolean)]
def wsX1_two_r2 : List Cond := [Cond.methodLink RX1 65 yX1_units, Cond.static yX1_units, Cond.code yX1_units cX1_units 2 (some .long), Cond.constantLong RX1 23 (65536), Cond.methodLink RX1 69 yX1_real, Cond.instanceMethod yX1_real, Cond.selects RX1 yX1_real yX1_real, Cond.code yX1_real cX1_real 3 (some .int), Cond.constantLong RX1 32 (-2147483647), Cond.methodLink RX1 72 yX1_rounded, Cond.static yX1_rounded, Cond.code yX1_rounded cX1_rounded 2 (some .long), Cond.constantLong RX1 34 (32768), Cond.methodLink RX1 36 yX1_down, Cond.static yX1_down, Cond.code yX1_down cX1_down 6 (some .long), Cond.methodLink RX1 76 yX1_quotient, Cond.instanceMethod yX1_quotient, Cond.selects RX1 yX1_quotient yX1_quotient, Cond.code yX1_quotient cX1_quotient 16 (some .long), Cond.constantLong RX1 40 (4294967296), Cond.constantLong RX1 42 (-4294967296), Cond.constantLong RX1 48 (2), Cond.methodLink RX1 80 yX1_angle]
def wsX1_two_r3 : List Cond := [Cond.static yX1_angle, Cond.code yX1_angle cX1_angle 14 (some .long), Cond.constantLong RX1 100 (5898240), Cond.constantLong RX1 107 (11796480), Cond.constantLong RX1 105 (23592960), Cond.methodLink RX1 116 yX1_first, Cond.static yX1_first, Cond.code yX1_first cX1_first 12 (some .long), Cond.methodLink RX1 112 yX1_against, Cond.static yX1_against, Cond.code yX1_against cX1_against 10 (some .int), Cond.methodLink RX1 97 yX1_sine, Cond.static yX1_sine, Cond.code yX1_sine cX1_sine 9 (some .long), Cond.methodLink RX1 109 yX1_quarter, Cond.static yX1_quarter, Cond.code yX1_quarter cX1_quarter 5 (some .long), Cond.fieldLink RX1 102 "FixedPlaneModel" "SINES" "[I"]
def wsX1_two : List Cond := .code yX1_two cX1_two 13 (some .int) :: ((wsX1_two_r1 ++ (wsX1_two_r2 ++ wsX1_two_r3)) ++ wsX10)
def wsX1_onWhole : List Cond := .code yX1_onWhole cX1_onWhole 4 (some .int) :: ([.methodLink RX1 58 yX1_whole, .instanceMethod yX1_whole, .selects RX1 yX1_whole yX1_whole, .initialized RX1, .code yX1_whole cX1_whole 3 (some .int), .constantLong RX1 25 (2147483647), .constantLong RX1 27 (-2147483648), .fieldLink RX1 9 "FixedPlaneModel" "kind" "I", .fieldLink RX1 29 "FixedPlaneModel" "number" "I"] ++ wsX10)
def wsX1_onReal : List Cond := .code yX1_onReal cX1_onReal 7 (some .int) :: ([.constantLong RX1 23 (65536), .methodLink RX1 36 yX1_down, .static yX1_down, .initialized RX1, .code yX1_down cX1_down 6 (some .long), .methodLink RX1 69 yX1_real, .instanceMethod yX1_real, .selects RX1 yX1_real yX1_real, .code yX1_real cX1_real 3 (some .int), .constantLong RX1 25 (2147483647), .constantLong RX1 32 (-2147483647), .fieldLink RX1 9 "FixedPlaneModel" "kind" "I", .fieldLink RX1 29 "FixedPlaneModel" "number" "I", .methodLink RX1 72 yX1_rounded, .static yX1_rounded, .code yX1_rounded cX1_rounded 2 (some .long), .constantLong RX1 34 (32768), .methodLink RX1 58 yX1_whole, .instanceMethod yX1_whole, .selects RX1 yX1_whole yX1_whole, .code yX1_whole cX1_whole 3 (some .int), .constantLong RX1 27 (-2147483648)] ++ wsX10)
def wsX1_root : List Cond := .code yX1_root cX1_root 9 (some .long) :: ([.constantLong RX1 23 (65536)])
def wsX1_one_r1 : List Cond := [Cond.constantLong RX1 100 (5898240), Cond.methodLink RX1 50 yX1_isValue, Cond.static yX1_isValue, Cond.initialized RX1, Cond.code yX1_isValue cX1_isValue 2 (some .boolean), Cond.constant RX1 22 (-2147483648), Cond.methodLink RX1 58 yX1_whole, Cond.instanceMethod yX1_whole, Cond.selects RX1 yX1_whole yX1_whole, Cond.code yX1_whole cX1_whole 3 (some .int), Cond.constantLong RX1 25 (2147483647), Cond.constantLong RX1 27 (-2147483648), Cond.fieldLink RX1 9 "FixedPlaneModel" "kind" "I", Cond.fieldLink RX1 29 "FixedPlaneModel" "number" "I", Cond.methodLink RX1 87 yX1_onWhole, Cond.instanceMethod yX1_onWhole, Cond.selects RX1 yX1_onWhole yX1_onWhole, Cond.code yX1_onWhole cX1_onWhole 4 (some .int), Cond.methodLink RX1 91 yX1_onReal, Cond.instanceMethod yX1_onReal, Cond.selects RX1 yX1_onReal yX1_onReal, Cond.code yX1_onReal cX1_onReal 7 (some .int), Cond.constantLong RX1 23 (65536), Cond.methodLink RX1 36 yX1_down]
def wsX1_one_r2 : List Cond := [Cond.static yX1_down, Cond.code yX1_down cX1_down 6 (some .long), Cond.methodLink RX1 69 yX1_real, Cond.instanceMethod yX1_real, Cond.selects RX1 yX1_real yX1_real, Cond.code yX1_real cX1_real 3 (some .int), Cond.constantLong RX1 32 (-2147483647), Cond.methodLink RX1 72 yX1_rounded, Cond.static yX1_rounded, Cond.code yX1_rounded cX1_rounded 2 (some .long), Cond.constantLong RX1 34 (32768), Cond.methodLink RX1 62 yX1_hasUnits, Cond.static yX1_hasUnits, Cond.code yX1_hasUnits cX1_hasUnits 2 (some .boolean), Cond.methodLink RX1 65 yX1_units, Cond.static yX1_units, Cond.code yX1_units cX1_units 2 (some .long), Cond.methodLink RX1 94 yX1_root, Cond.static yX1_root, Cond.code yX1_root cX1_root 9 (some .long), Cond.methodLink RX1 97 yX1_sine, Cond.static yX1_sine, Cond.code yX1_sine cX1_sine 9 (some .long), Cond.constantLong RX1 105 (23592960)]
def wsX1_one_r3 : List Cond := [Cond.constantLong RX1 107 (11796480), Cond.methodLink RX1 109 yX1_quarter, Cond.static yX1_quarter, Cond.code yX1_quarter cX1_quarter 5 (some .long), Cond.fieldLink RX1 102 "FixedPlaneModel" "SINES" "[I"]
def wsX1_one : List Cond := .code yX1_one cX1_one 6 (some .int) :: ((wsX1_one_r1 ++ (wsX1_one_r2 ++ wsX1_one_r3)) ++ wsX10)
def wsX1_kind : List Cond := .code yX1_kind cX1_kind 1 (some .int) :: ([.fieldLink RX1 9 "FixedPlaneModel" "kind" "I"] ++ wsX10)
def wsX1_number : List Cond := .code yX1_number cX1_number 1 (some .int) :: ([.fieldLink RX1 29 "FixedPlaneModel" "number" "I"] ++ wsX10)
def wsX1_compare : List Cond := .code yX1_compare cX1_compare 9 (some .int) :: ([.methodLink RX1 50 yX1_isValue, .static yX1_isValue, .initialized RX1, .code yX1_isValue cX1_isValue 2 (some .boolean), .constant RX1 22 (-2147483648), .methodLink RX1 65 yX1_units, .static yX1_units, .code yX1_units cX1_units 2 (some .long), .constantLong RX1 23 (65536)])
def wsX1_isBad : List Cond := .code yX1_isBad cX1_isBad 1 (some .boolean) :: ([.constant RX1 22 (-2147483648)])
def wsX1_areBad : List Cond := .code yX1_areBad cX1_areBad 6 (some .boolean) :: ([.methodLink RX1 119 yX1_isBad, .static yX1_isBad, .initialized RX1, .code yX1_isBad cX1_isBad 1 (some .boolean), .constant RX1 22 (-2147483648)])
def wsX1_matrix : List Cond := .code yX1_matrix cX1_matrix 7 (some .boolean) :: ([.fieldLink RX1 13 "FixedPlaneModel" "entries" "[I", .methodLink RX1 123 yX1_areBad, .static yX1_areBad, .initialized RX1, .code yX1_areBad cX1_areBad 6 (some .boolean), .methodLink RX1 119 yX1_isBad, .static yX1_isBad, .code yX1_isBad cX1_isBad 1 (some .boolean), .constant RX1 22 (-2147483648)] ++ wsX10)
def wsX1_entry : List Cond := .code yX1_entry cX1_entry 2 (some .int) :: ([.fieldLink RX1 13 "FixedPlaneModel" "entries" "[I"] ++ wsX10)
def wsX1_moving : List Cond := .code yX1_moving cX1_moving 9 (some .long) :: ([.fieldLink RX1 13 "FixedPlaneModel" "entries" "[I", .methodLink RX1 72 yX1_rounded, .static yX1_rounded, .initialized RX1, .code yX1_rounded cX1_rounded 2 (some .long), .constantLong RX1 34 (32768), .constantLong RX1 23 (65536), .methodLink RX1 36 yX1_down, .static yX1_down, .code yX1_down cX1_down 6 (some .long)] ++ wsX10)
def wsX1_take : List Cond := .code yX1_take cX1_take 2 (some .int) :: ([.fieldLink RX1 17 "FixedPlaneModel" "next" "[J", .constantLong RX1 25 (2147483647), .constantLong RX1 32 (-2147483647), .fieldLink RX1 13 "FixedPlaneModel" "entries" "[I"] ++ wsX10)
def wsX1_before_r1 : List Cond := [Cond.fieldLink RX1 17 "FixedPlaneModel" "next" "[J", Cond.methodLink RX1 123 yX1_areBad, Cond.static yX1_areBad, Cond.initialized RX1, Cond.code yX1_areBad cX1_areBad 6 (some .boolean), Cond.methodLink RX1 119 yX1_isBad, Cond.static yX1_isBad, Cond.code yX1_isBad cX1_isBad 1 (some .boolean), Cond.constant RX1 22 (-2147483648), Cond.methodLink RX1 127 yX1_moving, Cond.instanceMethod yX1_moving, Cond.selects RX1 yX1_moving yX1_moving, Cond.code yX1_moving cX1_moving 9 (some .long), Cond.fieldLink RX1 13 "FixedPlaneModel" "entries" "[I", Cond.methodLink RX1 72 yX1_rounded, Cond.static yX1_rounded, Cond.code yX1_rounded cX1_rounded 2 (some .long), Cond.constantLong RX1 34 (32768), Cond.constantLong RX1 23 (65536), Cond.methodLink RX1 36 yX1_down, Cond.static yX1_down, Cond.code yX1_down cX1_down 6 (some .long), Cond.methodLink RX1 131 yX1_take, Cond.instanceMethod yX1_take]
def wsX1_before_r2 : List Cond := [Cond.selects RX1 yX1_take yX1_take, Cond.code yX1_take cX1_take 2 (some .int), Cond.constantLong RX1 25 (2147483647), Cond.constantLong RX1 32 (-2147483647)]
def wsX1_before : List Cond := .code yX1_before cX1_before 8 (some .int) :: ((wsX1_before_r1 ++ wsX1_before_r2) ++ wsX10)
def wsX1_invert : List Cond := .code yX1_invert cX1_invert 19 (some .int) :: ([.fieldLink RX1 13 "FixedPlaneModel" "entries" "[I", .fieldLink RX1 17 "FixedPlaneModel" "next" "[J", .constantLong RX1 23 (65536), .fieldLink RX1 44 "FixedPlaneModel" "beyond" "Z", .methodLink RX1 76 yX1_quotient, .instanceMethod yX1_quotient, .selects RX1 yX1_quotient yX1_quotient, .initialized RX1, .code yX1_quotient cX1_quotient 16 (some .long), .constantLong RX1 40 (4294967296), .constantLong RX1 42 (-4294967296), .constantLong RX1 48 (2), .methodLink RX1 36 yX1_down, .static yX1_down, .code yX1_down cX1_down 6 (some .long), .methodLink RX1 131 yX1_take, .instanceMethod yX1_take, .selects RX1 yX1_take yX1_take, .code yX1_take cX1_take 2 (some .int), .constantLong RX1 25 (2147483647), .constantLong RX1 32 (-2147483647)] ++ wsX10)
def wsX1_move : List Cond := .code yX1_move cX1_move 8 (some .int) :: ([.constantLong RX1 25 (2147483647), .constantLong RX1 32 (-2147483647), .fieldLink RX1 135 "FixedPlaneModel" "movedX" "I", .fieldLink RX1 138 "FixedPlaneModel" "movedY" "I", .methodLink RX1 119 yX1_isBad, .static yX1_isBad, .initialized RX1, .code yX1_isBad cX1_isBad 1 (some .boolean), .constant RX1 22 (-2147483648), .methodLink RX1 127 yX1_moving, .instanceMethod yX1_moving, .selects RX1 yX1_moving yX1_moving, .code yX1_moving cX1_moving 9 (some .long), .fieldLink RX1 13 "FixedPlaneModel" "entries" "[I", .methodLink RX1 72 yX1_rounded, .static yX1_rounded, .code yX1_rounded cX1_rounded 2 (some .long), .constantLong RX1 34 (32768), .constantLong RX1 23 (65536), .methodLink RX1 36 yX1_down, .static yX1_down, .code yX1_down cX1_down 6 (some .long)] ++ wsX10)
def wsX1_moved : List Cond := .code yX1_moved cX1_moved 2 (some .int) :: ([.fieldLink RX1 135 "FixedPlaneModel" "movedX" "I", .fieldLink RX1 138 "FixedPlaneModel" "movedY" "I"] ++ wsX10)
def wsJ9_abs_067f4 : List Cond := .code yJ9_abs_067f4 cJ9_abs_067f4 2 (some .long) :: ([])
def wsJ9_min_f86c9 : List Cond := .code yJ9_min_f86c9 cJ9_min_f86c9 4 (some .long) :: ([])
def wsL_law_r1 : List Cond := [Cond.classLink RL 7 RX0, Cond.instantiable RX0 10, Cond.initialized RX0, Cond.classLink RL 10 RX1, Cond.instantiable RX1 7, Cond.initialized RX1, Cond.methodLink RL 9 yX0_init, Cond.instanceMethod yX0_init, Cond.code yX0_init cX0_init 1 none, Cond.methodLink RX0 5 objectInit, Cond.instanceMethod objectInit, Cond.code objectInit ⟨#[0xb1]⟩ 1 none, Cond.fieldLink RX0 11 "FixedPlane" "resultKind" "I", Cond.constant RX0 15 (65536), Cond.fieldLink RX0 16 "FixedPlane" "matrixA" "I", Cond.fieldLink RX0 19 "FixedPlane" "matrixD" "I", Cond.methodLink RL 12 yX1_init, Cond.instanceMethod yX1_init, Cond.code yX1_init cX1_init 1 none, Cond.methodLink RX1 1 objectInit, Cond.fieldLink RX1 9 "FixedPlaneModel" "kind" "I", Cond.arrayClass .int, Cond.fieldLink RX1 13 "FixedPlaneModel" "entries" "[I", Cond.arrayClass .long]
def wsL_law_r2 : List Cond := [Cond.fieldLink RX1 17 "FixedPlaneModel" "next" "[J", Cond.constant RX1 21 (65536), Cond.methodLink RL 13 yX0_two, Cond.instanceMethod yX0_two, Cond.selects RX0 yX0_two yX0_two, Cond.code yX0_two cX0_two 11 (some .int), Cond.methodLink RX0 22 yX0_isValue, Cond.static yX0_isValue, Cond.code yX0_isValue cX0_isValue 2 (some .boolean), Cond.methodLink RX0 38 yX0_isReal, Cond.static yX0_isReal, Cond.code yX0_isReal cX0_isReal 2 (some .boolean), Cond.constantLong RX0 109 (-2147483647), Cond.constantLong RX0 111 (2147483647), Cond.methodLink RX0 26 yX0_isForWholesAlone, Cond.static yX0_isForWholesAlone, Cond.code yX0_isForWholesAlone cX0_isForWholesAlone 1 (some .boolean), Cond.methodLink RX0 30 yX0_ofWholes, Cond.instanceMethod yX0_ofWholes, Cond.selects RX0 yX0_ofWholes yX0_ofWholes, Cond.code yX0_ofWholes cX0_ofWholes 4 (some .int), Cond.methodLink RX0 46 yX0_keep, Cond.instanceMethod yX0_keep, Cond.selects RX0 yX0_keep yX0_keep]
def wsL_law_r3 : List Cond := [Cond.code yX0_keep cX0_keep 5 (some .int), Cond.fieldLink RX0 59 "FixedPlane" "resultNumber" "I", Cond.methodLink RX0 113 yX0_shifted, Cond.static yX0_shifted, Cond.code yX0_shifted cX0_shifted 2 (some .int), Cond.methodLink RX0 34 yX0_units, Cond.static yX0_units, Cond.code yX0_units cX0_units 2 (some .long), Cond.constantLong RX0 97 (65536), Cond.methodLink RX0 42 yX0_ofReals, Cond.instanceMethod yX0_ofReals, Cond.selects RX0 yX0_ofReals yX0_ofReals, Cond.code yX0_ofReals cX0_ofReals 6 (some .int), Cond.methodLink RX0 117 yX0_withoutPlaces, Cond.static yX0_withoutPlaces, Cond.code yX0_withoutPlaces cX0_withoutPlaces 2 (some .long), Cond.constantLong RX0 146 (32768), Cond.methodLink RX0 99 yX0_quotient, Cond.static yX0_quotient, Cond.code yX0_quotient cX0_quotient 16 (some .long), Cond.methodLink RX0 124 Lib.MathLoose.abs_long.x, Cond.static Lib.MathLoose.abs_long.x, Cond.initialized "java/lang/Math", Cond.code Lib.MathLoose.abs_long.x Lib.MathLoose.abs_long.code 2 (some .long)]
def wsL_law_r4 : List Cond := [Cond.constantLong RX0 151 (-32768), Cond.constantLong RX0 153 (2147483648), Cond.constantLong RX0 155 (2), Cond.methodLink RX0 148 yJ9_floorDiv_f86c9, Cond.static yJ9_floorDiv_f86c9, Cond.initialized RJ9, Cond.code yJ9_floorDiv_f86c9 cJ9_floorDiv_f86c9 6 (some .long), Cond.methodLink RX0 121 yX0_angle, Cond.static yX0_angle, Cond.code yX0_angle cX0_angle 8 (some .long), Cond.constantLong RX0 162 (11796480), Cond.constantLong RX0 157 (23592960), Cond.methodLink RX0 174 yX0_angleOfFirstQuarter, Cond.static yX0_angleOfFirstQuarter, Cond.code yX0_angleOfFirstQuarter cX0_angleOfFirstQuarter 8 (some .long), Cond.constantLong RX0 139 (5898240), Cond.constantLong RX0 177 (-1), Cond.methodLink RX0 179 yX0_greatestAngle, Cond.static yX0_greatestAngle, Cond.code yX0_greatestAngle cX0_greatestAngle 15 (some .long), Cond.methodLink RX0 164 Lib.MathLoose.min_long.x, Cond.static Lib.MathLoose.min_long.x, Cond.code Lib.MathLoose.min_long.x Lib.MathLoose.min_long.code 4 (some .long), Cond.methodLink RX0 167 yX0_sineOfFirstQuarter]
def wsL_law_r5 : List Cond := [Cond.static yX0_sineOfFirstQuarter, Cond.code yX0_sineOfFirstQuarter cX0_sineOfFirstQuarter 5 (some .long), Cond.fieldLink RX0 170 "FixedPlane" "SINES" "[I", Cond.methodLink RL 17 yX1_two, Cond.instanceMethod yX1_two, Cond.selects RX1 yX1_two yX1_two, Cond.code yX1_two cX1_two 13 (some .int), Cond.fieldLink RX1 44 "FixedPlaneModel" "beyond" "Z", Cond.methodLink RX1 50 yX1_isValue, Cond.static yX1_isValue, Cond.code yX1_isValue cX1_isValue 2 (some .boolean), Cond.constant RX1 22 (-2147483648), Cond.methodLink RX1 54 yX1_onWholes, Cond.instanceMethod yX1_onWholes, Cond.selects RX1 yX1_onWholes yX1_onWholes, Cond.code yX1_onWholes cX1_onWholes 4 (some .int), Cond.methodLink RX1 58 yX1_whole, Cond.instanceMethod yX1_whole, Cond.selects RX1 yX1_whole yX1_whole, Cond.code yX1_whole cX1_whole 3 (some .int), Cond.constantLong RX1 25 (2147483647), Cond.constantLong RX1 27 (-2147483648), Cond.fieldLink RX1 29 "FixedPlaneModel" "number" "I", Cond.methodLink RX1 83 yX1_shifted]
def wsL_law_r6 : List Cond := [Cond.static yX1_shifted, Cond.code yX1_shifted cX1_shifted 4 (some .int), Cond.methodLink RX1 62 yX1_hasUnits, Cond.static yX1_hasUnits, Cond.code yX1_hasUnits cX1_hasUnits 2 (some .boolean), Cond.methodLink RX1 65 yX1_units, Cond.static yX1_units, Cond.code yX1_units cX1_units 2 (some .long), Cond.constantLong RX1 23 (65536), Cond.methodLink RX1 69 yX1_real, Cond.instanceMethod yX1_real, Cond.selects RX1 yX1_real yX1_real, Cond.code yX1_real cX1_real 3 (some .int), Cond.constantLong RX1 32 (-2147483647), Cond.methodLink RX1 72 yX1_rounded, Cond.static yX1_rounded, Cond.code yX1_rounded cX1_rounded 2 (some .long), Cond.constantLong RX1 34 (32768), Cond.methodLink RX1 36 yX1_down, Cond.static yX1_down, Cond.code yX1_down cX1_down 6 (some .long), Cond.methodLink RX1 76 yX1_quotient, Cond.instanceMethod yX1_quotient, Cond.selects RX1 yX1_quotient yX1_quotient]
def wsL_law_r7 : List Cond := [Cond.code yX1_quotient cX1_quotient 16 (some .long), Cond.constantLong RX1 40 (4294967296), Cond.constantLong RX1 42 (-4294967296), Cond.constantLong RX1 48 (2), Cond.methodLink RX1 80 yX1_angle, Cond.static yX1_angle, Cond.code yX1_angle cX1_angle 14 (some .long), Cond.constantLong RX1 100 (5898240), Cond.constantLong RX1 107 (11796480), Cond.constantLong RX1 105 (23592960), Cond.methodLink RX1 116 yX1_first, Cond.static yX1_first, Cond.code yX1_first cX1_first 12 (some .long), Cond.methodLink RX1 112 yX1_against, Cond.static yX1_against, Cond.code yX1_against cX1_against 10 (some .int), Cond.methodLink RX1 97 yX1_sine, Cond.static yX1_sine, Cond.code yX1_sine cX1_sine 9 (some .long), Cond.methodLink RX1 109 yX1_quarter, Cond.static yX1_quarter, Cond.code yX1_quarter cX1_quarter 5 (some .long), Cond.fieldLink RX1 102 "FixedPlaneModel" "SINES" "[I", Cond.methodLink RL 18 yX0_one]
def wsL_law_r8 : List Cond := [Cond.instanceMethod yX0_one, Cond.selects RX0 yX0_one yX0_one, Cond.code yX0_one cX0_one 6 (some .int), Cond.methodLink RX0 50 yX0_isAsAReal, Cond.static yX0_isAsAReal, Cond.code yX0_isAsAReal cX0_isAsAReal 1 (some .boolean), Cond.methodLink RX0 53 yX0_ofOne, Cond.instanceMethod yX0_ofOne, Cond.selects RX0 yX0_ofOne yX0_ofOne, Cond.code yX0_ofOne cX0_ofOne 4 (some .int), Cond.methodLink RX0 129 yX0_cut, Cond.static yX0_cut, Cond.code yX0_cut cX0_cut 3 (some .long), Cond.constantLong RX0 141 (65535), Cond.methodLink RX0 143 yX0_floor, Cond.static yX0_floor, Cond.code yX0_floor cX0_floor 2 (some .long), Cond.methodLink RX0 56 yX0_ofReal, Cond.instanceMethod yX0_ofReal, Cond.selects RX0 yX0_ofReal yX0_ofReal, Cond.code yX0_ofReal cX0_ofReal 4 (some .int), Cond.methodLink RX0 133 yX0_root, Cond.static yX0_root, Cond.code yX0_root cX0_root 9 (some .long)]
def wsL_law_r9 : List Cond := [Cond.methodLink RX0 136 yX0_sine, Cond.static yX0_sine, Cond.code yX0_sine cX0_sine 8 (some .long), Cond.methodLink RX0 159 yJ9_floorMod_f86c9, Cond.static yJ9_floorMod_f86c9, Cond.code yJ9_floorMod_f86c9 cJ9_floorMod_f86c9 6 (some .long), Cond.methodLink RL 22 yX1_one, Cond.instanceMethod yX1_one, Cond.selects RX1 yX1_one yX1_one, Cond.code yX1_one cX1_one 6 (some .int), Cond.methodLink RX1 87 yX1_onWhole, Cond.instanceMethod yX1_onWhole, Cond.selects RX1 yX1_onWhole yX1_onWhole, Cond.code yX1_onWhole cX1_onWhole 4 (some .int), Cond.methodLink RX1 91 yX1_onReal, Cond.instanceMethod yX1_onReal, Cond.selects RX1 yX1_onReal yX1_onReal, Cond.code yX1_onReal cX1_onReal 7 (some .int), Cond.methodLink RX1 94 yX1_root, Cond.static yX1_root, Cond.code yX1_root cX1_root 9 (some .long), Cond.methodLink RL 23 yX0_kind, Cond.instanceMethod yX0_kind, Cond.selects RX0 yX0_kind yX0_kind]
def wsL_law_r10 : List Cond := [Cond.code yX0_kind cX0_kind 1 (some .int), Cond.methodLink RL 27 yX1_kind, Cond.instanceMethod yX1_kind, Cond.selects RX1 yX1_kind yX1_kind, Cond.code yX1_kind cX1_kind 1 (some .int), Cond.methodLink RL 28 yX0_number, Cond.instanceMethod yX0_number, Cond.selects RX0 yX0_number yX0_number, Cond.code yX0_number cX0_number 1 (some .int), Cond.methodLink RL 31 yX1_number, Cond.instanceMethod yX1_number, Cond.selects RX1 yX1_number yX1_number, Cond.code yX1_number cX1_number 1 (some .int), Cond.methodLink RL 32 yX0_compare, Cond.instanceMethod yX0_compare, Cond.selects RX0 yX0_compare yX0_compare, Cond.code yX0_compare cX0_compare 5 (some .int), Cond.methodLink RX0 62 yJ13_compare_74951, Cond.static yJ13_compare_74951, Cond.initialized RJ13, Cond.code yJ13_compare_74951 cJ13_compare_74951 4 (some .int), Cond.methodLink RL 36 yX1_compare, Cond.instanceMethod yX1_compare, Cond.selects RX1 yX1_compare yX1_compare]
def wsL_law_r11 : List Cond := [Cond.code yX1_compare cX1_compare 9 (some .int), Cond.methodLink RL 37 yX0_matrix, Cond.instanceMethod yX0_matrix, Cond.selects RX0 yX0_matrix yX0_matrix, Cond.code yX0_matrix cX0_matrix 7 (some .boolean), Cond.methodLink RX0 68 yX0_keepMatrix, Cond.instanceMethod yX0_keepMatrix, Cond.selects RX0 yX0_keepMatrix yX0_keepMatrix, Cond.code yX0_keepMatrix cX0_keepMatrix 13 (some .boolean), Cond.fieldLink RX0 72 "FixedPlane" "matrixB" "I", Cond.fieldLink RX0 75 "FixedPlane" "matrixC" "I", Cond.fieldLink RX0 78 "FixedPlane" "matrixE" "I", Cond.fieldLink RX0 81 "FixedPlane" "matrixF" "I", Cond.methodLink RX0 84 yX0_areReals, Cond.static yX0_areReals, Cond.code yX0_areReals cX0_areReals 12 (some .boolean), Cond.methodLink RL 41 yX1_matrix, Cond.instanceMethod yX1_matrix, Cond.selects RX1 yX1_matrix yX1_matrix, Cond.code yX1_matrix cX1_matrix 7 (some .boolean), Cond.methodLink RX1 123 yX1_areBad, Cond.static yX1_areBad, Cond.code yX1_areBad cX1_areBad 6 (some .boolean), Cond.methodLink RX1 119 yX1_isBad]
def wsL_law_r12 : List Cond := [Cond.static yX1_isBad, Cond.code yX1_isBad cX1_isBad 1 (some .boolean), Cond.methodLink RL 42 yX0_entry, Cond.instanceMethod yX0_entry, Cond.selects RX0 yX0_entry yX0_entry, Cond.code yX0_entry cX0_entry 2 (some .int), Cond.methodLink RL 46 yX1_entry, Cond.instanceMethod yX1_entry, Cond.selects RX1 yX1_entry yX1_entry, Cond.code yX1_entry cX1_entry 2 (some .int), Cond.methodLink RL 47 yX0_before, Cond.instanceMethod yX0_before, Cond.selects RX0 yX0_before yX0_before, Cond.code yX0_before cX0_before 8 (some .int), Cond.methodLink RX0 87 yX0_turnedX, Cond.instanceMethod yX0_turnedX, Cond.selects RX0 yX0_turnedX yX0_turnedX, Cond.code yX0_turnedX cX0_turnedX 3 (some .long), Cond.methodLink RX0 90 yX0_turnedY, Cond.instanceMethod yX0_turnedY, Cond.selects RX0 yX0_turnedY yX0_turnedY, Cond.code yX0_turnedY cX0_turnedY 3 (some .long), Cond.methodLink RL 51 yX1_before, Cond.instanceMethod yX1_before]
def wsL_law_r13 : List Cond := [Cond.selects RX1 yX1_before yX1_before, Cond.code yX1_before cX1_before 8 (some .int), Cond.methodLink RX1 127 yX1_moving, Cond.instanceMethod yX1_moving, Cond.selects RX1 yX1_moving yX1_moving, Cond.code yX1_moving cX1_moving 9 (some .long), Cond.methodLink RX1 131 yX1_take, Cond.instanceMethod yX1_take, Cond.selects RX1 yX1_take yX1_take, Cond.code yX1_take cX1_take 2 (some .int), Cond.methodLink RL 52 yX0_invert, Cond.instanceMethod yX0_invert, Cond.selects RX0 yX0_invert yX0_invert, Cond.code yX0_invert cX0_invert 4 (some .int), Cond.methodLink RX0 93 yX0_cross, Cond.static yX0_cross, Cond.code yX0_cross cX0_cross 4 (some .long), Cond.methodLink RL 55 yX1_invert, Cond.instanceMethod yX1_invert, Cond.selects RX1 yX1_invert yX1_invert, Cond.code yX1_invert cX1_invert 19 (some .int), Cond.methodLink RL 56 yX0_move, Cond.instanceMethod yX0_move, Cond.selects RX0 yX0_move yX0_move]
def wsL_law_r14 : List Cond := [Cond.code yX0_move cX0_move 8 (some .int), Cond.fieldLink RX0 103 "FixedPlane" "movedX" "I", Cond.fieldLink RX0 106 "FixedPlane" "movedY" "I", Cond.methodLink RL 60 yX1_move, Cond.instanceMethod yX1_move, Cond.selects RX1 yX1_move yX1_move, Cond.code yX1_move cX1_move 8 (some .int), Cond.fieldLink RX1 135 "FixedPlaneModel" "movedX" "I", Cond.fieldLink RX1 138 "FixedPlaneModel" "movedY" "I", Cond.methodLink RL 61 yX0_moved, Cond.instanceMethod yX0_moved, Cond.selects RX0 yX0_moved yX0_moved, Cond.code yX0_moved cX0_moved 2 (some .int), Cond.methodLink RL 64 yX1_moved, Cond.instanceMethod yX1_moved, Cond.selects RX1 yX1_moved yX1_moved, Cond.code yX1_moved cX1_moved 2 (some .int)]
def wsL_law : List Cond := (wsL_law_r1 ++ (wsL_law_r2 ++ (wsL_law_r3 ++ (wsL_law_r4 ++ (wsL_law_r5 ++ (wsL_law_r6 ++ (wsL_law_r7 ++ (wsL_law_r8 ++ (wsL_law_r9 ++ (wsL_law_r10 ++ (wsL_law_r11 ++ (wsL_law_r12 ++ (wsL_law_r13 ++ wsL_law_r14))))))))))))) ++ wsX00 ++ wsX10 ++ ([] : List Cond)
theorem mem_ap {α : Type} {P : α → Prop} {a b : List α} (ha : ∀ w ∈ a, P w) (hb : ∀ w ∈ b, P w) : ∀ w ∈ a ++ b, P w := fun w h => (List.mem_append.mp h).elim (ha w) (hb w)
set_option maxRecDepth 20000 in
theorem wsL_in_1 : ∀ w ∈ wsL_law_r1, w ∈ lw_tbl := fun w h => (goodIn_r (big := lw_tbl) wsL_law_r1 [21, 22, 17, 220, 221, 18, 23, 24, 25, 26, 27, 28, 30, 29, 32, 35, 222, 223, 224, 225, 227, 249, 229, 250] (by decide +kernel) (by decide +kernel) w h).1
set_option maxRecDepth 20000 in
theorem wsL_in_2 : ∀ w ∈ wsL_law_r2, w ∈ lw_tbl := fun w h => (goodIn_r (big := lw_tbl) wsL_law_r2 [230, 226, 61, 62, 63, 64, 65, 66, 67, 68, 69, 70, 71, 72, 73, 74, 75, 76, 78, 0, 79, 80, 82, 1] (by decide +kernel) (by decide +kernel) w h).1
set_option maxRecDepth 20000 in
theorem wsL_in_3 : ∀ w ∈ wsL_law_r3, w ∈ lw_tbl := fun w h => (goodIn_r (big := lw_tbl) wsL_law_r3 [83, 31, 84, 85, 86, 87, 88, 89, 90, 91, 93, 2, 94, 95, 96, 97, 98, 99, 100, 101, 102, 103, 19, 104] (by decide +kernel) (by decide +kernel) w h).1
set_option maxRecDepth 20000 in
theorem wsL_in_4 : ∀ w ∈ wsL_law_r4, w ∈ lw_tbl := fun w h => (goodIn_r (big := lw_tbl) wsL_law_r4 [108, 109, 110, 105, 106, 19, 107, 111, 112, 113, 130, 131, 114, 115, 116, 117, 118, 119, 120, 121, 122, 123, 124, 125] (by decide +kernel) (by decide +kernel) w h).1
set_option maxRecDepth 20000 in
theorem wsL_in_5 : ∀ w ∈ wsL_law_r5, w ∈ lw_tbl := fun w h => (goodIn_r (big := lw_tbl) wsL_law_r5 [126, 127, 128, 251, 252, 253, 254, 233, 255, 256, 257, 258, 259, 261, 8, 262, 263, 265, 9, 266, 267, 268, 228, 269] (by decide +kernel) (by decide +kernel) w h).1
set_option maxRecDepth 20000 in
theorem wsL_in_6 : ∀ w ∈ wsL_law_r6, w ∈ lw_tbl := fun w h => (goodIn_r (big := lw_tbl) wsL_law_r6 [270, 271, 272, 273, 274, 275, 276, 277, 278, 279, 281, 10, 282, 283, 284, 285, 286, 287, 288, 289, 290, 291, 293, 11] (by decide +kernel) (by decide +kernel) w h).1
set_option maxRecDepth 20000 in
theorem wsL_in_7 : ∀ w ∈ wsL_law_r7, w ∈ lw_tbl := fun w h => (goodIn_r (big := lw_tbl) wsL_law_r7 [294, 295, 296, 297, 298, 299, 300, 301, 312, 311, 302, 303, 304, 305, 306, 307, 308, 309, 310, 313, 314, 315, 316, 132] (by decide +kernel) (by decide +kernel) w h).1
set_option maxRecDepth 20000 in
theorem wsL_in_8 : ∀ w ∈ wsL_law_r8, w ∈ lw_tbl := fun w h => (goodIn_r (big := lw_tbl) wsL_law_r8 [133, 134, 135, 136, 137, 138, 139, 141, 3, 142, 143, 144, 145, 146, 147, 148, 149, 150, 152, 4, 153, 154, 155, 156] (by decide +kernel) (by decide +kernel) w h).1
set_option maxRecDepth 20000 in
theorem wsL_in_9 : ∀ w ∈ wsL_law_r9, w ∈ lw_tbl := fun w h => (goodIn_r (big := lw_tbl) wsL_law_r9 [157, 158, 159, 160, 161, 162, 318, 319, 320, 321, 322, 324, 12, 325, 326, 328, 13, 329, 330, 331, 332, 163, 164, 165] (by decide +kernel) (by decide +kernel) w h).1
set_option maxRecDepth 20000 in
theorem wsL_in_10 : ∀ w ∈ wsL_law_r10, w ∈ lw_tbl := fun w h => (goodIn_r (big := lw_tbl) wsL_law_r10 [166, 333, 334, 335, 336, 167, 168, 169, 170, 337, 338, 339, 340, 171, 172, 173, 174, 175, 176, 20, 177, 341, 342, 343] (by decide +kernel) (by decide +kernel) w h).1
set_option maxRecDepth 20000 in
theorem wsL_in_11 : ∀ w ∈ wsL_law_r11, w ∈ lw_tbl := fun w h => (goodIn_r (big := lw_tbl) wsL_law_r11 [344, 178, 179, 180, 181, 182, 184, 5, 185, 33, 34, 36, 37, 186, 187, 188, 345, 346, 347, 348, 349, 350, 351, 352] (by decide +kernel) (by decide +kernel) w h).1
set_option maxRecDepth 20000 in
theorem wsL_in_12 : ∀ w ∈ wsL_law_r12, w ∈ lw_tbl := fun w h => (goodIn_r (big := lw_tbl) wsL_law_r12 [353, 354, 189, 190, 191, 192, 355, 356, 357, 358, 193, 194, 195, 196, 197, 199, 6, 200, 201, 203, 7, 204, 359, 360] (by decide +kernel) (by decide +kernel) w h).1
set_option maxRecDepth 20000 in
theorem wsL_in_13 : ∀ w ∈ wsL_law_r13, w ∈ lw_tbl := fun w h => (goodIn_r (big := lw_tbl) wsL_law_r13 [361, 362, 363, 365, 14, 366, 367, 369, 15, 370, 205, 206, 207, 208, 209, 210, 211, 371, 372, 373, 374, 212, 213, 214] (by decide +kernel) (by decide +kernel) w h).1
set_option maxRecDepth 20000 in
theorem wsL_in_14 : ∀ w ∈ wsL_law_r14, w ∈ lw_tbl := fun w h => (goodIn_r (big := lw_tbl) wsL_law_r14 [215, 38, 39, 375, 376, 377, 378, 231, 232, 216, 217, 218, 219, 379, 380, 381, 382] (by decide +kernel) (by decide +kernel) w h).1
set_option maxRecDepth 20000 in
theorem wsL_in_wsX00 : ∀ w ∈ wsX00, w ∈ lw_tbl := fun w h => (goodIn_r (big := lw_tbl) wsX00 [40, 42, 44, 46, 48, 50, 52, 54, 56, 58] (by decide +kernel) (by decide +kernel) w h).1
set_option maxRecDepth 20000 in
theorem wsL_in_wsX10 : ∀ w ∈ wsX10, w ∈ lw_tbl := fun w h => (goodIn_r (big := lw_tbl) wsX10 [234, 236, 238, 240, 242, 244, 246] (by decide +kernel) (by decide +kernel) w h).1
theorem wsL_law_in : ∀ w ∈ wsL_law, w ∈ lw_tbl := mem_ap (P := fun w => w ∈ lw_tbl) (mem_ap (P := fun w => w ∈ lw_tbl) (mem_ap (P := fun w => w ∈ lw_tbl) (mem_ap (P := fun w => w ∈ lw_tbl) wsL_in_1 (mem_ap (P := fun w => w ∈ lw_tbl) wsL_in_2 (mem_ap (P := fun w => w ∈ lw_tbl) wsL_in_3 (mem_ap (P := fun w => w ∈ lw_tbl) wsL_in_4 (mem_ap (P := fun w => w ∈ lw_tbl) wsL_in_5 (mem_ap (P := fun w => w ∈ lw_tbl) wsL_in_6 (mem_ap (P := fun w => w ∈ lw_tbl) wsL_in_7 (mem_ap (P := fun w => w ∈ lw_tbl) wsL_in_8 (mem_ap (P := fun w => w ∈ lw_tbl) wsL_in_9 (mem_ap (P := fun w => w ∈ lw_tbl) wsL_in_10 (mem_ap (P := fun w => w ∈ lw_tbl) wsL_in_11 (mem_ap (P := fun w => w ∈ lw_tbl) wsL_in_12 (mem_ap (P := fun w => w ∈ lw_tbl) wsL_in_13 (wsL_in_14)))))))))))))) wsL_in_wsX00) wsL_in_wsX10) (fun w h => absurd h List.not_mem_nil)
theorem inlX0 : ∀ w ∈ wsX00, w ∈ wsL_law := fun _ h => List.mem_append_left _ (List.mem_append_left _ (List.mem_append_right _ h))
theorem inX0 : ∀ w ∈ wsX00, w ∈ lw_tbl := fun w h => wsL_law_in w (inlX0 w h)
theorem inlX1 : ∀ w ∈ wsX10, w ∈ wsL_law := fun _ h => List.mem_append_left _ (List.mem_append_right _ h)
theorem inX1 : ∀ w ∈ wsX10, w ∈ lw_tbl := fun w h => wsL_law_in w (inlX1 w h)
theorem inJ13 : ∀ w ∈ wsJ130, w ∈ lw_tbl := by decide +kernel
theorem inJ9 : ∀ w ∈ wsJ90, w ∈ lw_tbl := by decide +kernel
end
section
theorem dX0_init_0 : decode cX0_init 0 = .ok (.aload_n 0, 1) := by decide +kernel
theorem dX0_init_1 : decode cX0_init 1 = .ok (.invokespecial 5, 3) := by decide +kernel
theorem dX0_init_4 : decode cX0_init 4 = .ok (.aload_n 0, 1) := by decide +kernel
theorem dX0_init_5 : decode cX0_init 5 = .ok (.iconst 1, 1) := by decide +kernel
theorem dX0_init_6 : decode cX0_init 6 = .ok (.putfield 11, 3) := by decide +kernel
theorem dX0_init_9 : decode cX0_init 9 = .ok (.aload_n 0, 1) := by decide +kernel
theorem dX0_init_10 : decode cX0_init 10 = .ok (.ldc 15, 2) := by decide +kernel
theorem dX0_init_12 : decode cX0_init 12 = .ok (.putfield 16, 3) := by decide +kernel
theorem dX0_init_15 : decode cX0_init 15 = .ok (.aload_n 0, 1) := by decide +kernel
theorem dX0_init_16 : decode cX0_init 16 = .ok (.ldc 15, 2) := by decide +kernel
theorem dX0_init_18 : decode cX0_init 18 = .ok (.putfield 19, 3) := by decide +kernel
theorem dX0_init_21 : decode cX0_init 21 = .ok (.return_, 1) := by decide +kernel
set_option maxRecDepth 20000 in
theorem ggX0_two_X0_isValue : GoodIn wsX0_two wsX0_isValue := goodIn_r _ [4, 5, 6, 3, 7, 8, 9] (by decide +kernel) (by decide +kernel)
set_option maxRecDepth 20000 in
theorem gX0_two_X0_isValue : GoodIn wsX0_two (va_wsS RX0 22 yX0_isValue wsX0_isValue) := goodIn_app (goodIn_of _ (by decide +kernel)) ggX0_two_X0_isValue
set_option maxRecDepth 20000 in
theorem ggX0_two_X0_isForWholesAlone : GoodIn wsX0_two wsX0_isForWholesAlone := goodIn_r _ [12] (by decide +kernel) (by decide +kernel)
set_option maxRecDepth 20000 in
theorem gX0_two_X0_isForWholesAlone : GoodIn wsX0_two (va_wsS RX0 26 yX0_isForWholesAlone wsX0_isForWholesAlone) := goodIn_app (goodIn_of _ (by decide +kernel)) ggX0_two_X0_isForWholesAlone
set_option maxRecDepth 20000 in
theorem ggX0_two_X0_ofWholes : GoodIn wsX0_two wsX0_ofWholes := goodIn_r _ [16, 17, 18, 19, 3, 20, 21, 22, 5, 6, 7, 8, 9, 23, 24, 25, 72, 73, 74, 75, 76, 77, 78, 79, 80, 81] (by decide +kernel) (by decide +kernel)
set_option maxRecDepth 20000 in
theorem gX0_two_X0_ofWholes : GoodIn wsX0_two (wsV RX0 30 RX0 yX0_ofWholes wsX0_ofWholes) := goodIn_app (goodIn_of _ (by decide +kernel)) ggX0_two_X0_ofWholes
set_option maxRecDepth 20000 in
theorem ggX0_two_X0_units : GoodIn wsX0_two wsX0_units := goodIn_r _ [28, 29] (by decide +kernel) (by decide +kernel)
set_option maxRecDepth 20000 in
theorem gX0_two_X0_units : GoodIn wsX0_two (va_wsS RX0 34 yX0_units wsX0_units) := goodIn_app (goodIn_of _ (by decide +kernel)) ggX0_two_X0_units
set_option maxRecDepth 20000 in
theorem ggX0_two_X0_isReal : GoodIn wsX0_two wsX0_isReal := goodIn_r _ [7, 8, 9] (by decide +kernel) (by decide +kernel)
set_option maxRecDepth 20000 in
theorem gX0_two_X0_isReal : GoodIn wsX0_two (va_wsS RX0 38 yX0_isReal wsX0_isReal) := goodIn_app (goodIn_of _ (by decide +kernel)) ggX0_two_X0_isReal
set_option maxRecDepth 20000 in
theorem ggX0_two_X0_ofReals : GoodIn wsX0_two wsX0_ofReals := goodIn_r _ [33, 17, 18, 19, 3, 20, 21, 22, 5, 6, 7, 8, 9, 34, 35, 36, 37, 38, 39, 40, 41, 42, 43, 44, 45, 46, 47, 48, 49, 50, 51, 52, 53, 54, 55, 56, 57, 58, 59, 60, 61, 62, 63, 64, 65, 66, 67, 68, 69, 70, 29, 71, 72, 73, 74, 75, 76, 77, 78, 79, 80, 81] (by decide +kernel) (by decide +kernel)
set_option maxRecDepth 20000 in
theorem gX0_two_X0_ofReals : GoodIn wsX0_two (wsV RX0 42 RX0 yX0_ofReals wsX0_ofReals) := goodIn_app (goodIn_of _ (by decide +kernel)) ggX0_two_X0_ofReals
theorem dX0_two_0 : decode cX0_two 0 = .ok (.iload_n 1, 1) := by decide +kernel
theorem dX0_two_1 : decode cX0_two 1 = .ok (.ifCond .lt 27, 3) := by decide +kernel
theorem dX0_two_4 : decode cX0_two 4 = .ok (.iload_n 1, 1) := by decide +kernel
theorem dX0_two_5 : decode cX0_two 5 = .ok (.bipush 10, 2) := by decide +kernel
theorem dX0_two_7 : decode cX0_two 7 = .ok (.if_icmp .gt 21, 3) := by decide +kernel
theorem dX0_two_10 : decode cX0_two 10 = .ok (.iload_n 2, 1) := by decide +kernel
theorem dX0_two_11 : decode cX0_two 11 = .ok (.iload_n 3, 1) := by decide +kernel
theorem dX0_two_12 : decode cX0_two 12 = .ok (.invokestatic 22, 3) := by decide +kernel
theorem dX0_two_15 : decode cX0_two 15 = .ok (.ifCond .eq 13, 3) := by decide +kernel
theorem dX0_two_18 : decode cX0_two 18 = .ok (.iload 4, 2) := by decide +kernel
theorem dX0_two_20 : decode cX0_two 20 = .ok (.iload 5, 2) := by decide +kernel
theorem dX0_two_22 : decode cX0_two 22 = .ok (.invokestatic 22, 3) := by decide +kernel
theorem dX0_two_25 : decode cX0_two 25 = .ok (.ifCond .ne 5, 3) := by decide +kernel
theorem dX0_two_28 : decode cX0_two 28 = .ok (.iconst (-1), 1) := by decide +kernel
theorem dX0_two_29 : decode cX0_two 29 = .ok (.ireturn, 1) := by decide +kernel
theorem dX0_two_30 : decode cX0_two 30 = .ok (.iload_n 2, 1) := by decide +kernel
theorem dX0_two_31 : decode cX0_two 31 = .ok (.iconst 1, 1) := by decide +kernel
theorem dX0_two_32 : decode cX0_two 32 = .ok (.if_icmp .ne 13, 3) := by decide +kernel
theorem dX0_two_35 : decode cX0_two 35 = .ok (.iload 4, 2) := by decide +kernel
theorem dX0_two_37 : decode cX0_two 37 = .ok (.iconst 1, 1) := by decide +kernel
theorem dX0_two_38 : decode cX0_two 38 = .ok (.if_icmp .ne 7, 3) := by decide +kernel
theorem dX0_two_41 : decode cX0_two 41 = .ok (.iconst 1, 1) := by decide +kernel
theorem dX0_two_42 : decode cX0_two 42 = .ok (.goto 4, 3) := by decide +kernel
theorem dX0_two_45 : decode cX0_two 45 = .ok (.iconst 0, 1) := by decide +kernel
theorem dX0_two_46 : decode cX0_two 46 = .ok (.istore 6, 2) := by decide +kernel
theorem dX0_two_48 : decode cX0_two 48 = .ok (.iload 6, 2) := by decide +kernel
theorem dX0_two_50 : decode cX0_two 50 = .ok (.ifCond .ne 13, 3) := by decide +kernel
theorem dX0_two_53 : decode cX0_two 53 = .ok (.iload_n 1, 1) := by decide +kernel
theorem dX0_two_54 : decode cX0_two 54 = .ok (.invokestatic 26, 3) := by decide +kernel
theorem dX0_two_57 : decode cX0_two 57 = .ok (.ifCond .eq 6, 3) := by decide +kernel
theorem dX0_two_60 : decode cX0_two 60 = .ok (.bipush (-4), 2) := by decide +kernel
theorem dX0_two_62 : decode cX0_two 62 = .ok (.ireturn, 1) := by decide +kernel
theorem dX0_two_63 : decode cX0_two 63 = .ok (.iload 6, 2) := by decide +kernel
theorem dX0_two_65 : decode cX0_two 65 = .ok (.ifCond .eq 23, 3) := by decide +kernel
theorem dX0_two_68 : decode cX0_two 68 = .ok (.iload_n 1, 1) := by decide +kernel
theorem dX0_two_69 : decode cX0_two 69 = .ok (.iconst 3, 1) := by decide +kernel
theorem dX0_two_70 : decode cX0_two 70 = .ok (.if_icmp .eq 18, 3) := by decide +kernel
theorem dX0_two_73 : decode cX0_two 73 = .ok (.iload_n 1, 1) := by decide +kernel
theorem dX0_two_74 : decode cX0_two 74 = .ok (.bipush 6, 2) := by decide +kernel
theorem dX0_two_76 : decode cX0_two 76 = .ok (.if_icmp .eq 12, 3) := by decide +kernel
theorem dX0_two_79 : decode cX0_two 79 = .ok (.aload_n 0, 1) := by decide +kernel
theorem dX0_two_80 : decode cX0_two 80 = .ok (.iload_n 1, 1) := by decide +kernel
theorem dX0_two_81 : decode cX0_two 81 = .ok (.iload_n 3, 1) := by decide +kernel
theorem dX0_two_82 : decode cX0_two 82 = .ok (.iload 5, 2) := by decide +kernel
theorem dX0_two_84 : decode cX0_two 84 = .ok (.invokevirtual 30, 3) := by decide +kernel
theorem dX0_two_87 : decode cX0_two 87 = .ok (.ireturn, 1) := by decide +kernel
theorem dX0_two_88 : decode cX0_two 88 = .ok (.iload_n 2, 1) := by decide +kernel
theorem dX0_two_89 : decode cX0_two 89 = .ok (.iload_n 3, 1) := by decide +kernel
theorem dX0_two_90 : decode cX0_two 90 = .ok (.invokestatic 34, 3) := by decide +kernel
theorem dX0_two_93 : decode cX0_two 93 = .ok (.lstore 7, 2) := by decide +kernel
theorem dX0_two_95 : decode cX0_two 95 = .ok (.iload 4, 2) := by decide +kernel
theorem dX0_two_97 : decode cX0_two 97 = .ok (.iload 5, 2) := by decide +kernel
theorem dX0_two_99 : decode cX0_two 99 = .ok (.invokestatic 34, 3) := by decide +kernel
theorem dX0_two_102 : decode cX0_two 102 = .ok (.lstore 9, 2) := by decide +kernel
theorem dX0_two_104 : decode cX0_two 104 = .ok (.lload 7, 2) := by decide +kernel
theorem dX0_two_106 : decode cX0_two 106 = .ok (.invokestatic 38, 3) := by decide +kernel
theorem dX0_two_109 : decode cX0_two 109 = .ok (.ifCond .eq 11, 3) := by decide +kernel
theorem dX0_two_112 : decode cX0_two 112 = .ok (.lload 9, 2) := by decide +kernel
theorem dX0_two_114 : decode cX0_two 114 = .ok (.invokestatic 38, 3) := by decide +kernel
theorem dX0_two_117 : decode cX0_two 117 = .ok (.ifCond .ne 6, 3) := by decide +kernel
theorem dX0_two_120 : decode cX0_two 120 = .ok (.bipush (-2), 2) := by decide +kernel
theorem dX0_two_122 : decode cX0_two 122 = .ok (.ireturn, 1) := by decide +kernel
theorem dX0_two_123 : decode cX0_two 123 = .ok (.aload_n 0, 1) := by decide +kernel
theorem dX0_two_124 : decode cX0_two 124 = .ok (.iload_n 1, 1) := by decide +kernel
theorem dX0_two_125 : decode cX0_two 125 = .ok (.lload 7, 2) := by decide +kernel
theorem dX0_two_127 : decode cX0_two 127 = .ok (.lload 9, 2) := by decide +kernel
theorem dX0_two_129 : decode cX0_two 129 = .ok (.invokevirtual 42, 3) := by decide +kernel
theorem dX0_two_132 : decode cX0_two 132 = .ok (.ireturn, 1) := by decide +kernel
set_option maxRecDepth 20000 in
theorem ggX0_one_X0_isValue : GoodIn wsX0_one wsX0_isValue := goodIn_r _ [4, 5, 6, 3, 7, 8, 9] (by decide +kernel) (by decide +kernel)
set_option maxRecDepth 20000 in
theorem gX0_one_X0_isValue : GoodIn wsX0_one (va_wsS RX0 22 yX0_isValue wsX0_isValue) := goodIn_app (goodIn_of _ (by decide +kernel)) ggX0_one_X0_isValue
set_option maxRecDepth 20000 in
theorem ggX0_one_X0_keep : GoodIn wsX0_one wsX0_keep := goodIn_r _ [13, 14, 15, 5, 6, 3, 7, 8, 9, 67, 68, 69, 70, 71, 72, 73, 74, 75, 76] (by decide +kernel) (by decide +kernel)
set_option maxRecDepth 20000 in
theorem gX0_one_X0_keep : GoodIn wsX0_one (wsV RX0 46 RX0 yX0_keep wsX0_keep) := goodIn_app (goodIn_of _ (by decide +kernel)) ggX0_one_X0_keep
set_option maxRecDepth 20000 in
theorem ggX0_one_X0_isAsAReal : GoodIn wsX0_one wsX0_isAsAReal := goodIn_r _ [18] (by decide +kernel) (by decide +kernel)
set_option maxRecDepth 20000 in
theorem gX0_one_X0_isAsAReal : GoodIn wsX0_one (va_wsS RX0 50 yX0_isAsAReal wsX0_isAsAReal) := goodIn_app (goodIn_of _ (by decide +kernel)) ggX0_one_X0_isAsAReal
set_option maxRecDepth 20000 in
theorem ggX0_one_X0_ofOne : GoodIn wsX0_one wsX0_ofOne := goodIn_r _ [22, 23, 24, 25, 26, 27, 10, 11, 12, 3, 13, 14, 15, 5, 6, 7, 8, 9, 28, 29, 30, 31, 32, 33, 34, 35, 36, 67, 68, 69, 70, 71, 72, 73, 74, 75, 76] (by decide +kernel) (by decide +kernel)
set_option maxRecDepth 20000 in
theorem gX0_one_X0_ofOne : GoodIn wsX0_one (wsV RX0 53 RX0 yX0_ofOne wsX0_ofOne) := goodIn_app (goodIn_of _ (by decide +kernel)) ggX0_one_X0_ofOne
set_option maxRecDepth 20000 in
theorem ggX0_one_X0_units : GoodIn wsX0_one wsX0_units := goodIn_r _ [39, 33] (by decide +kernel) (by decide +kernel)
set_option maxRecDepth 20000 in
theorem gX0_one_X0_units : GoodIn wsX0_one (va_wsS RX0 34 yX0_units wsX0_units) := goodIn_app (goodIn_of _ (by decide +kernel)) ggX0_one_X0_units
set_option maxRecDepth 20000 in
theorem ggX0_one_X0_isReal : GoodIn wsX0_one wsX0_isReal := goodIn_r _ [7, 8, 9] (by decide +kernel) (by decide +kernel)
set_option maxRecDepth 20000 in
theorem gX0_one_X0_isReal : GoodIn wsX0_one (va_wsS RX0 38 yX0_isReal wsX0_isReal) := goodIn_app (goodIn_of _ (by decide +kernel)) ggX0_one_X0_isReal
set_option maxRecDepth 20000 in
theorem ggX0_one_X0_ofReal : GoodIn wsX0_one wsX0_ofReal := goodIn_r _ [43, 44, 45, 46, 3, 47, 33, 10, 11, 12, 13, 14, 15, 5, 6, 7, 8, 9, 48, 49, 50, 51, 52, 53, 54, 25, 55, 56, 57, 58, 59, 60, 61, 62, 63, 64, 65, 66, 32, 67, 68, 69, 70, 71, 72, 73, 74, 75, 76] (by decide +kernel) (by decide +kernel)
set_option maxRecDepth 20000 in
theorem gX0_one_X0_ofReal : GoodIn wsX0_one (wsV RX0 56 RX0 yX0_ofReal wsX0_ofReal) := goodIn_app (goodIn_of _ (by decide +kernel)) ggX0_one_X0_ofReal
theorem dX0_one_0 : decode cX0_one 0 = .ok (.iload_n 1, 1) := by decide +kernel
theorem dX0_one_1 : decode cX0_one 1 = .ok (.ifCond .lt 17, 3) := by decide +kernel
theorem dX0_one_4 : decode cX0_one 4 = .ok (.iload_n 1, 1) := by decide +kernel
theorem dX0_one_5 : decode cX0_one 5 = .ok (.bipush 11, 2) := by decide +kernel
theorem dX0_one_7 : decode cX0_one 7 = .ok (.if_icmp .gt 11, 3) := by decide +kernel
theorem dX0_one_10 : decode cX0_one 10 = .ok (.iload_n 2, 1) := by decide +kernel
theorem dX0_one_11 : decode cX0_one 11 = .ok (.iload_n 3, 1) := by decide +kernel
theorem dX0_one_12 : decode cX0_one 12 = .ok (.invokestatic 22, 3) := by decide +kernel
theorem dX0_one_15 : decode cX0_one 15 = .ok (.ifCond .ne 5, 3) := by decide +kernel
theorem dX0_one_18 : decode cX0_one 18 = .ok (.iconst (-1), 1) := by decide +kernel
theorem dX0_one_19 : decode cX0_one 19 = .ok (.ireturn, 1) := by decide +kernel
theorem dX0_one_20 : decode cX0_one 20 = .ok (.iload_n 1, 1) := by decide +kernel
theorem dX0_one_21 : decode cX0_one 21 = .ok (.bipush 11, 2) := by decide +kernel
theorem dX0_one_23 : decode cX0_one 23 = .ok (.if_icmp .ne 23, 3) := by decide +kernel
theorem dX0_one_26 : decode cX0_one 26 = .ok (.iload_n 2, 1) := by decide +kernel
theorem dX0_one_27 : decode cX0_one 27 = .ok (.iconst 1, 1) := by decide +kernel
theorem dX0_one_28 : decode cX0_one 28 = .ok (.if_icmp .ne 15, 3) := by decide +kernel
theorem dX0_one_31 : decode cX0_one 31 = .ok (.aload_n 0, 1) := by decide +kernel
theorem dX0_one_32 : decode cX0_one 32 = .ok (.iconst 1, 1) := by decide +kernel
theorem dX0_one_33 : decode cX0_one 33 = .ok (.iload_n 3, 1) := by decide +kernel
theorem dX0_one_34 : decode cX0_one 34 = .ok (.iconst (-1), 1) := by decide +kernel
theorem dX0_one_35 : decode cX0_one 35 = .ok (.ixor, 1) := by decide +kernel
theorem dX0_one_36 : decode cX0_one 36 = .ok (.i2l, 1) := by decide +kernel
theorem dX0_one_37 : decode cX0_one 37 = .ok (.invokevirtual 46, 3) := by decide +kernel
theorem dX0_one_40 : decode cX0_one 40 = .ok (.goto 5, 3) := by decide +kernel
theorem dX0_one_43 : decode cX0_one 43 = .ok (.bipush (-4), 2) := by decide +kernel
theorem dX0_one_45 : decode cX0_one 45 = .ok (.ireturn, 1) := by decide +kernel
theorem dX0_one_46 : decode cX0_one 46 = .ok (.iload_n 1, 1) := by decide +kernel
theorem dX0_one_47 : decode cX0_one 47 = .ok (.invokestatic 50, 3) := by decide +kernel
theorem dX0_one_50 : decode cX0_one 50 = .ok (.ifCond .ne 11, 3) := by decide +kernel
theorem dX0_one_53 : decode cX0_one 53 = .ok (.aload_n 0, 1) := by decide +kernel
theorem dX0_one_54 : decode cX0_one 54 = .ok (.iload_n 1, 1) := by decide +kernel
theorem dX0_one_55 : decode cX0_one 55 = .ok (.iload_n 2, 1) := by decide +kernel
theorem dX0_one_56 : decode cX0_one 56 = .ok (.iload_n 3, 1) := by decide +kernel
theorem dX0_one_57 : decode cX0_one 57 = .ok (.invokevirtual 53, 3) := by decide +kernel
theorem dX0_one_60 : decode cX0_one 60 = .ok (.ireturn, 1) := by decide +kernel
theorem dX0_one_61 : decode cX0_one 61 = .ok (.iload_n 2, 1) := by decide +kernel
theorem dX0_one_62 : decode cX0_one 62 = .ok (.iload_n 3, 1) := by decide +kernel
theorem dX0_one_63 : decode cX0_one 63 = .ok (.invokestatic 34, 3) := by decide +kernel
theorem dX0_one_66 : decode cX0_one 66 = .ok (.lstore 4, 2) := by decide +kernel
theorem dX0_one_68 : decode cX0_one 68 = .ok (.lload 4, 2) := by decide +kernel
theorem dX0_one_70 : decode cX0_one 70 = .ok (.invokestatic 38, 3) := by decide +kernel
theorem dX0_one_73 : decode cX0_one 73 = .ok (.ifCond .eq 13, 3) := by decide +kernel
theorem dX0_one_76 : decode cX0_one 76 = .ok (.aload_n 0, 1) := by decide +kernel
theorem dX0_one_77 : decode cX0_one 77 = .ok (.iload_n 1, 1) := by decide +kernel
theorem dX0_one_78 : decode cX0_one 78 = .ok (.lload 4, 2) := by decide +kernel
theorem dX0_one_80 : decode cX0_one 80 = .ok (.invokevirtual 56, 3) := by decide +kernel
theorem dX0_one_83 : decode cX0_one 83 = .ok (.goto 5, 3) := by decide +kernel
theorem dX0_one_86 : decode cX0_one 86 = .ok (.bipush (-2), 2) := by decide +kernel
theorem dX0_one_88 : decode cX0_one 88 = .ok (.ireturn, 1) := by decide +kernel
theorem dX0_kind_0 : decode cX0_kind 0 = .ok (.aload_n 0, 1) := by decide +kernel
theorem dX0_kind_1 : decode cX0_kind 1 = .ok (.getfield 11, 3) := by decide +kernel
theorem dX0_kind_4 : decode cX0_kind 4 = .ok (.ireturn, 1) := by decide +kernel
theorem dX0_number_0 : decode cX0_number 0 = .ok (.aload_n 0, 1) := by decide +kernel
theorem dX0_number_1 : decode cX0_number 1 = .ok (.getfield 59, 3) := by decide +kernel
theorem dX0_number_4 : decode cX0_number 4 = .ok (.ireturn, 1) := by decide +kernel
set_option maxRecDepth 20000 in
theorem ggX0_compare_X0_isValue : GoodIn wsX0_compare wsX0_isValue := goodIn_r _ [4, 5, 6, 3, 7, 8, 9] (by decide +kernel) (by decide +kernel)
set_option maxRecDepth 20000 in
theorem gX0_compare_X0_isValue : GoodIn wsX0_compare (va_wsS RX0 22 yX0_isValue wsX0_isValue) := goodIn_app (goodIn_of _ (by decide +kernel)) ggX0_compare_X0_isValue
set_option maxRecDepth 20000 in
theorem ggX0_compare_X0_units : GoodIn wsX0_compare wsX0_units := goodIn_r _ [12, 13] (by decide +kernel) (by decide +kernel)
set_option maxRecDepth 20000 in
theorem gX0_compare_X0_units : GoodIn wsX0_compare (va_wsS RX0 34 yX0_units wsX0_units) := goodIn_app (goodIn_of _ (by decide +kernel)) ggX0_compare_X0_units
set_option maxRecDepth 20000 in
theorem ggX0_compare_J13_compare_74951 : GoodIn wsX0_compare wsJ13_compare_74951 := goodIn_r _ [17] (by decide +kernel) (by decide +kernel)
set_option maxRecDepth 20000 in
theorem gX0_compare_J13_compare_74951 : GoodIn wsX0_compare (va_wsS RX0 62 yJ13_compare_74951 wsJ13_compare_74951) := goodIn_app (goodIn_of _ (by decide +kernel)) ggX0_compare_J13_compare_74951
theorem dX0_compare_0 : decode cX0_compare 0 = .ok (.iload_n 1, 1) := by decide +kernel
theorem dX0_compare_1 : decode cX0_compare 1 = .ok (.iload_n 2, 1) := by decide +kernel
theorem dX0_compare_2 : decode cX0_compare 2 = .ok (.invokestatic 22, 3) := by decide +kernel
theorem dX0_compare_5 : decode cX0_compare 5 = .ok (.ifCond .eq 12, 3) := by decide +kernel
theorem dX0_compare_8 : decode cX0_compare 8 = .ok (.iload_n 3, 1) := by decide +kernel
theorem dX0_compare_9 : decode cX0_compare 9 = .ok (.iload 4, 2) := by decide +kernel
theorem dX0_compare_11 : decode cX0_compare 11 = .ok (.invokestatic 22, 3) := by decide +kernel
theorem dX0_compare_14 : decode cX0_compare 14 = .ok (.ifCond .ne 5, 3) := by decide +kernel
theorem dX0_compare_17 : decode cX0_compare 17 = .ok (.iconst (-1), 1) := by decide +kernel
theorem dX0_compare_18 : decode cX0_compare 18 = .ok (.ireturn, 1) := by decide +kernel
theorem dX0_compare_19 : decode cX0_compare 19 = .ok (.iload_n 1, 1) := by decide +kernel
theorem dX0_compare_20 : decode cX0_compare 20 = .ok (.iload_n 2, 1) := by decide +kernel
theorem dX0_compare_21 : decode cX0_compare 21 = .ok (.invokestatic 34, 3) := by decide +kernel
theorem dX0_compare_24 : decode cX0_compare 24 = .ok (.iload_n 3, 1) := by decide +kernel
theorem dX0_compare_25 : decode cX0_compare 25 = .ok (.iload 4, 2) := by decide +kernel
theorem dX0_compare_27 : decode cX0_compare 27 = .ok (.invokestatic 34, 3) := by decide +kernel
theorem dX0_compare_30 : decode cX0_compare 30 = .ok (.invokestatic 62, 3) := by decide +kernel
theorem dX0_compare_33 : decode cX0_compare 33 = .ok (.iconst 1, 1) := by decide +kernel
theorem dX0_compare_34 : decode cX0_compare 34 = .ok (.iadd, 1) := by decide +kernel
theorem dX0_compare_35 : decode cX0_compare 35 = .ok (.ireturn, 1) := by decide +kernel
set_option maxRecDepth 20000 in
theorem ggX0_matrix_X0_keepMatrix : GoodIn wsX0_matrix wsX0_keepMatrix := goodIn_r _ [5, 6, 7, 8, 9, 10, 11, 12, 13, 4, 14, 15, 16, 17, 18, 19, 20, 21, 22, 23, 24, 25, 26, 27, 28, 29] (by decide +kernel) (by decide +kernel)
set_option maxRecDepth 20000 in
theorem gX0_matrix_X0_keepMatrix : GoodIn wsX0_matrix (wsV RX0 68 RX0 yX0_keepMatrix wsX0_keepMatrix) := goodIn_app (goodIn_of _ (by decide +kernel)) ggX0_matrix_X0_keepMatrix
theorem dX0_matrix_0 : decode cX0_matrix 0 = .ok (.aload_n 0, 1) := by decide +kernel
theorem dX0_matrix_1 : decode cX0_matrix 1 = .ok (.iload_n 1, 1) := by decide +kernel
theorem dX0_matrix_2 : decode cX0_matrix 2 = .ok (.i2l, 1) := by decide +kernel
theorem dX0_matrix_3 : decode cX0_matrix 3 = .ok (.iload_n 2, 1) := by decide +kernel
theorem dX0_matrix_4 : decode cX0_matrix 4 = .ok (.i2l, 1) := by decide +kernel
theorem dX0_matrix_5 : decode cX0_matrix 5 = .ok (.iload_n 3, 1) := by decide +kernel
theorem dX0_matrix_6 : decode cX0_matrix 6 = .ok (.i2l, 1) := by decide +kernel
theorem dX0_matrix_7 : decode cX0_matrix 7 = .ok (.iload 4, 2) := by decide +kernel
theorem dX0_matrix_9 : decode cX0_matrix 9 = .ok (.i2l, 1) := by decide +kernel
theorem dX0_matrix_10 : decode cX0_matrix 10 = .ok (.iload 5, 2) := by decide +kernel
theorem dX0_matrix_12 : decode cX0_matrix 12 = .ok (.i2l, 1) := by decide +kernel
theorem dX0_matrix_13 : decode cX0_matrix 13 = .ok (.iload 6, 2) := by decide +kernel
theorem dX0_matrix_15 : decode cX0_matrix 15 = .ok (.i2l, 1) := by decide +kernel
theorem dX0_matrix_16 : decode cX0_matrix 16 = .ok (.invokevirtual 68, 3) := by decide +kernel
theorem dX0_matrix_19 : decode cX0_matrix 19 = .ok (.ireturn, 1) := by decide +kernel
theorem dX0_entry_0 : decode cX0_entry 0 = .ok (.iload_n 1, 1) := by decide +kernel
theorem dX0_entry_1 : decode cX0_entry 1 = .ok (.tableswitch 69 0 5 #[39, 44, 49, 54, 59, 64], 39) := by decide +kernel
theorem dX0_entry_40 : decode cX0_entry 40 = .ok (.aload_n 0, 1) := by decide +kernel
theorem dX0_entry_41 : decode cX0_entry 41 = .ok (.getfield 16, 3) := by decide +kernel
theorem dX0_entry_44 : decode cX0_entry 44 = .ok (.ireturn, 1) := by decide +kernel
theorem dX0_entry_45 : decode cX0_entry 45 = .ok (.aload_n 0, 1) := by decide +kernel
theorem dX0_entry_46 : decode cX0_entry 46 = .ok (.getfield 72, 3) := by decide +kernel
theorem dX0_entry_49 : decode cX0_entry 49 = .ok (.ireturn, 1) := by decide +kernel
theorem dX0_entry_50 : decode cX0_entry 50 = .ok (.aload_n 0, 1) := by decide +kernel
theorem dX0_entry_51 : decode cX0_entry 51 = .ok (.getfield 75, 3) := by decide +kernel
theorem dX0_entry_54 : decode cX0_entry 54 = .ok (.ireturn, 1) := by decide +kernel
theorem dX0_entry_55 : decode cX0_entry 55 = .ok (.aload_n 0, 1) := by decide +kernel
theorem dX0_entry_56 : decode cX0_entry 56 = .ok (.getfield 19, 3) := by decide +kernel
theorem dX0_entry_59 : decode cX0_entry 59 = .ok (.ireturn, 1) := by decide +kernel
theorem dX0_entry_60 : decode cX0_entry 60 = .ok (.aload_n 0, 1) := by decide +kernel
theorem dX0_entry_61 : decode cX0_entry 61 = .ok (.getfield 78, 3) := by decide +kernel
theorem dX0_entry_64 : decode cX0_entry 64 = .ok (.ireturn, 1) := by decide +kernel
theorem dX0_entry_65 : decode cX0_entry 65 = .ok (.aload_n 0, 1) := by decide +kernel
theorem dX0_entry_66 : decode cX0_entry 66 = .ok (.getfield 81, 3) := by decide +kernel
theorem dX0_entry_69 : decode cX0_entry 69 = .ok (.ireturn, 1) := by decide +kernel
theorem dX0_entry_70 : decode cX0_entry 70 = .ok (.iconst 0, 1) := by decide +kernel
theorem dX0_entry_71 : decode cX0_entry 71 = .ok (.ireturn, 1) := by decide +kernel
set_option maxRecDepth 20000 in
theorem ggX0_before_X0_areReals : GoodIn wsX0_before wsX0_areReals := goodIn_r _ [6, 7, 8, 5, 9, 10, 11] (by decide +kernel) (by decide +kernel)
set_option maxRecDepth 20000 in
theorem gX0_before_X0_areReals : GoodIn wsX0_before (va_wsS RX0 84 yX0_areReals wsX0_areReals) := goodIn_app (goodIn_of _ (by decide +kernel)) ggX0_before_X0_areReals
set_option maxRecDepth 20000 in
theorem ggX0_before_X0_turnedX : GoodIn wsX0_before wsX0_turnedX := goodIn_r _ [15, 16, 17, 18, 19, 5, 20, 21, 32, 33, 34, 35, 36, 37, 38, 39, 40, 41] (by decide +kernel) (by decide +kernel)
set_option maxRecDepth 20000 in
theorem gX0_before_X0_turnedX : GoodIn wsX0_before (wsV RX0 87 RX0 yX0_turnedX wsX0_turnedX) := goodIn_app (goodIn_of _ (by decide +kernel)) ggX0_before_X0_turnedX
set_option maxRecDepth 20000 in
theorem ggX0_before_X0_turnedY : GoodIn wsX0_before wsX0_turnedY := goodIn_r _ [25, 26, 27, 18, 19, 5, 20, 21, 32, 33, 34, 35, 36, 37, 38, 39, 40, 41] (by decide +kernel) (by decide +kernel)
set_option maxRecDepth 20000 in
theorem gX0_before_X0_turnedY : GoodIn wsX0_before (wsV RX0 90 RX0 yX0_turnedY wsX0_turnedY) := goodIn_app (goodIn_of _ (by decide +kernel)) ggX0_before_X0_turnedY
set_option maxRecDepth 20000 in
theorem ggX0_before_X0_keepMatrix : GoodIn wsX0_before wsX0_keepMatrix := goodIn_r _ [31, 16, 26, 17, 27, 1, 2, 3, 4, 5, 6, 7, 8, 9, 10, 11, 32, 33, 34, 35, 36, 37, 38, 39, 40, 41] (by decide +kernel) (by decide +kernel)
set_option maxRecDepth 20000 in
theorem gX0_before_X0_keepMatrix : GoodIn wsX0_before (wsV RX0 68 RX0 yX0_keepMatrix wsX0_keepMatrix) := goodIn_app (goodIn_of _ (by decide +kernel)) ggX0_before_X0_keepMatrix
theorem dX0_before_0 : decode cX0_before 0 = .ok (.iload_n 1, 1) := by decide +kernel
theorem dX0_before_1 : decode cX0_before 1 = .ok (.i2l, 1) := by decide +kernel
theorem dX0_before_2 : decode cX0_before 2 = .ok (.iload_n 2, 1) := by decide +kernel
theorem dX0_before_3 : decode cX0_before 3 = .ok (.i2l, 1) := by decide +kernel
theorem dX0_before_4 : decode cX0_before 4 = .ok (.iload_n 3, 1) := by decide +kernel
theorem dX0_before_5 : decode cX0_before 5 = .ok (.i2l, 1) := by decide +kernel
theorem dX0_before_6 : decode cX0_before 6 = .ok (.iload 4, 2) := by decide +kernel
theorem dX0_before_8 : decode cX0_before 8 = .ok (.i2l, 1) := by decide +kernel
theorem dX0_before_9 : decode cX0_before 9 = .ok (.iload 5, 2) := by decide +kernel
theorem dX0_before_11 : decode cX0_before 11 = .ok (.i2l, 1) := by decide +kernel
theorem dX0_before_12 : decode cX0_before 12 = .ok (.iload 6, 2) := by decide +kernel
theorem dX0_before_14 : decode cX0_before 14 = .ok (.i2l, 1) := by decide +kernel
theorem dX0_before_15 : decode cX0_before 15 = .ok (.invokestatic 84, 3) := by decide +kernel
theorem dX0_before_18 : decode cX0_before 18 = .ok (.ifCond .ne 5, 3) := by decide +kernel
theorem dX0_before_21 : decode cX0_before 21 = .ok (.iconst (-1), 1) := by decide +kernel
theorem dX0_before_22 : decode cX0_before 22 = .ok (.ireturn, 1) := by decide +kernel
theorem dX0_before_23 : decode cX0_before 23 = .ok (.aload_n 0, 1) := by decide +kernel
theorem dX0_before_24 : decode cX0_before 24 = .ok (.aload_n 0, 1) := by decide +kernel
theorem dX0_before_25 : decode cX0_before 25 = .ok (.iload_n 1, 1) := by decide +kernel
theorem dX0_before_26 : decode cX0_before 26 = .ok (.iload_n 2, 1) := by decide +kernel
theorem dX0_before_27 : decode cX0_before 27 = .ok (.invokevirtual 87, 3) := by decide +kernel
theorem dX0_before_30 : decode cX0_before 30 = .ok (.aload_n 0, 1) := by decide +kernel
theorem dX0_before_31 : decode cX0_before 31 = .ok (.iload_n 1, 1) := by decide +kernel
theorem dX0_before_32 : decode cX0_before 32 = .ok (.iload_n 2, 1) := by decide +kernel
theorem dX0_before_33 : decode cX0_before 33 = .ok (.invokevirtual 90, 3) := by decide +kernel
theorem dX0_before_36 : decode cX0_before 36 = .ok (.aload_n 0, 1) := by decide +kernel
theorem dX0_before_37 : decode cX0_before 37 = .ok (.iload_n 3, 1) := by decide +kernel
theorem dX0_before_38 : decode cX0_before 38 = .ok (.iload 4, 2) := by decide +kernel
theorem dX0_before_40 : decode cX0_before 40 = .ok (.invokevirtual 87, 3) := by decide +kernel
theorem dX0_before_43 : decode cX0_before 43 = .ok (.aload_n 0, 1) := by decide +kernel
theorem dX0_before_44 : decode cX0_before 44 = .ok (.iload_n 3, 1) := by decide +kernel
theorem dX0_before_45 : decode cX0_before 45 = .ok (.iload 4, 2) := by decide +kernel
theorem dX0_before_47 : decode cX0_before 47 = .ok (.invokevirtual 90, 3) := by decide +kernel
theorem dX0_before_50 : decode cX0_before 50 = .ok (.aload_n 0, 1) := by decide +kernel
theorem dX0_before_51 : decode cX0_before 51 = .ok (.iload 5, 2) := by decide +kernel
theorem dX0_before_53 : decode cX0_before 53 = .ok (.iload 6, 2) := by decide +kernel
theorem dX0_before_55 : decode cX0_before 55 = .ok (.invokevirtual 87, 3) := by decide +kernel
theorem dX0_before_58 : decode cX0_before 58 = .ok (.aload_n 0, 1) := by decide +kernel
theorem dX0_before_59 : decode cX0_before 59 = .ok (.getfield 78, 3) := by decide +kernel
theorem dX0_before_62 : decode cX0_before 62 = .ok (.i2l, 1) := by decide +kernel
theorem dX0_before_63 : decode cX0_before 63 = .ok (.ladd, 1) := by decide +kernel
theorem dX0_before_64 : decode cX0_before 64 = .ok (.aload_n 0, 1) := by decide +kernel
theorem dX0_before_65 : decode cX0_before 65 = .ok (.iload 5, 2) := by decide +kernel
theorem dX0_before_67 : decode cX0_before 67 = .ok (.iload 6, 2) := by decide +kernel
theorem dX0_before_69 : decode cX0_before 69 = .ok (.invokevirtual 90, 3) := by decide +kernel
theorem dX0_before_72 : decode cX0_before 72 = .ok (.aload_n 0, 1) := by decide +kernel
theorem dX0_before_73 : decode cX0_before 73 = .ok (.getfield 81, 3) := by decide +kernel
theorem dX0_before_76 : decode cX0_before 76 = .ok (.i2l, 1) := by decide +kernel
theorem dX0_before_77 : decode cX0_before 77 = .ok (.ladd, 1) := by decide +kernel
theorem dX0_before_78 : decode cX0_before 78 = .ok (.invokevirtual 68, 3) := by decide +kernel
theorem dX0_before_81 : decode cX0_before 81 = .ok (.istore 7, 2) := by decide +kernel
theorem dX0_before_83 : decode cX0_before 83 = .ok (.iload 7, 2) := by decide +kernel
theorem dX0_before_85 : decode cX0_before 85 = .ok (.ifCond .eq 7, 3) := by decide +kernel
theorem dX0_before_88 : decode cX0_before 88 = .ok (.iconst 1, 1) := by decide +kernel
theorem dX0_before_89 : decode cX0_before 89 = .ok (.goto 5, 3) := by decide +kernel
theorem dX0_before_92 : decode cX0_before 92 = .ok (.bipush (-2), 2) := by decide +kernel
theorem dX0_before_94 : decode cX0_before 94 = .ok (.ireturn, 1) := by decide +kernel
set_option maxRecDepth 20000 in
theorem ggX0_invert_X0_cross : GoodIn wsX0_invert wsX0_cross := goodIn_r _ [11] (by decide +kernel) (by decide +kernel)
set_option maxRecDepth 20000 in
theorem gX0_invert_X0_cross : GoodIn wsX0_invert (va_wsS RX0 93 yX0_cross wsX0_cross) := goodIn_app (goodIn_of _ (by decide +kernel)) ggX0_invert_X0_cross
set_option maxRecDepth 20000 in
theorem ggX0_invert_X0_quotient : GoodIn wsX0_invert wsX0_quotient := goodIn_r _ [14, 15, 16, 17, 18, 19, 20, 21, 22, 23, 24, 25, 26] (by decide +kernel) (by decide +kernel)
set_option maxRecDepth 20000 in
theorem gX0_invert_X0_quotient : GoodIn wsX0_invert (va_wsS RX0 99 yX0_quotient wsX0_quotient) := goodIn_app (goodIn_of _ (by decide +kernel)) ggX0_invert_X0_quotient
set_option maxRecDepth 20000 in
theorem ggX0_invert_X0_keepMatrix : GoodIn wsX0_invert wsX0_keepMatrix := goodIn_r _ [30, 1, 3, 4, 2, 7, 6, 31, 32, 10, 33, 34, 35, 36, 37, 38, 39, 40, 41, 42, 43, 44, 45, 46, 47, 48] (by decide +kernel) (by decide +kernel)
set_option maxRecDepth 20000 in
theorem gX0_invert_X0_keepMatrix : GoodIn wsX0_invert (wsV RX0 68 RX0 yX0_keepMatrix wsX0_keepMatrix) := goodIn_app (goodIn_of _ (by decide +kernel)) ggX0_invert_X0_keepMatrix
theorem dX0_invert_0 : decode cX0_invert 0 = .ok (.aload_n 0, 1) := by decide +kernel
theorem dX0_invert_1 : decode cX0_invert 1 = .ok (.getfield 16, 3) := by decide +kernel
theorem dX0_invert_4 : decode cX0_invert 4 = .ok (.aload_n 0, 1) := by decide +kernel
theorem dX0_invert_5 : decode cX0_invert 5 = .ok (.getfield 19, 3) := by decide +kernel
theorem dX0_invert_8 : decode cX0_invert 8 = .ok (.aload_n 0, 1) := by decide +kernel
theorem dX0_invert_9 : decode cX0_invert 9 = .ok (.getfield 72, 3) := by decide +kernel
theorem dX0_invert_12 : decode cX0_invert 12 = .ok (.aload_n 0, 1) := by decide +kernel
theorem dX0_invert_13 : decode cX0_invert 13 = .ok (.getfield 75, 3) := by decide +kernel
theorem dX0_invert_16 : decode cX0_invert 16 = .ok (.invokestatic 93, 3) := by decide +kernel
theorem dX0_invert_19 : decode cX0_invert 19 = .ok (.lstore_n 1, 1) := by decide +kernel
theorem dX0_invert_20 : decode cX0_invert 20 = .ok (.lload_n 1, 1) := by decide +kernel
theorem dX0_invert_21 : decode cX0_invert 21 = .ok (.lconst 0, 1) := by decide +kernel
theorem dX0_invert_22 : decode cX0_invert 22 = .ok (.lcmp, 1) := by decide +kernel
theorem dX0_invert_23 : decode cX0_invert 23 = .ok (.ifCond .ne 6, 3) := by decide +kernel
theorem dX0_invert_26 : decode cX0_invert 26 = .ok (.bipush (-3), 2) := by decide +kernel
theorem dX0_invert_28 : decode cX0_invert 28 = .ok (.ireturn, 1) := by decide +kernel
theorem dX0_invert_29 : decode cX0_invert 29 = .ok (.aload_n 0, 1) := by decide +kernel
theorem dX0_invert_30 : decode cX0_invert 30 = .ok (.aload_n 0, 1) := by decide +kernel
theorem dX0_invert_31 : decode cX0_invert 31 = .ok (.getfield 19, 3) := by decide +kernel
theorem dX0_invert_34 : decode cX0_invert 34 = .ok (.i2l, 1) := by decide +kernel
theorem dX0_invert_35 : decode cX0_invert 35 = .ok (.ldc2_w 97, 3) := by decide +kernel
theorem dX0_invert_38 : decode cX0_invert 38 = .ok (.lmul, 1) := by decide +kernel
theorem dX0_invert_39 : decode cX0_invert 39 = .ok (.lload_n 1, 1) := by decide +kernel
theorem dX0_invert_40 : decode cX0_invert 40 = .ok (.invokestatic 99, 3) := by decide +kernel
theorem dX0_invert_43 : decode cX0_invert 43 = .ok (.aload_n 0, 1) := by decide +kernel
theorem dX0_invert_44 : decode cX0_invert 44 = .ok (.getfield 72, 3) := by decide +kernel
theorem dX0_invert_47 : decode cX0_invert 47 = .ok (.i2l, 1) := by decide +kernel
theorem dX0_invert_48 : decode cX0_invert 48 = .ok (.lneg, 1) := by decide +kernel
theorem dX0_invert_49 : decode cX0_invert 49 = .ok (.ldc2_w 97, 3) := by decide +kernel
theorem dX0_invert_52 : decode cX0_invert 52 = .ok (.lmul, 1) := by decide +kernel
theorem dX0_invert_53 : decode cX0_invert 53 = .ok (.lload_n 1, 1) := by decide +kernel
theorem dX0_invert_54 : decode cX0_invert 54 = .ok (.invokestatic 99, 3) := by decide +kernel
theorem dX0_invert_57 : decode cX0_invert 57 = .ok (.aload_n 0, 1) := by decide +kernel
theorem dX0_invert_58 : decode cX0_invert 58 = .ok (.getfield 75, 3) := by decide +kernel
theorem dX0_invert_61 : decode cX0_invert 61 = .ok (.i2l, 1) := by decide +kernel
theorem dX0_invert_62 : decode cX0_invert 62 = .ok (.lneg, 1) := by decide +kernel
theorem dX0_invert_63 : decode cX0_invert 63 = .ok (.ldc2_w 97, 3) := by decide +kernel
theorem dX0_invert_66 : decode cX0_invert 66 = .ok (.lmul, 1) := by decide +kernel
theorem dX0_invert_67 : decode cX0_invert 67 = .ok (.lload_n 1, 1) := by decide +kernel
theorem dX0_invert_68 : decode cX0_invert 68 = .ok (.invokestatic 99, 3) := by decide +kernel
theorem dX0_invert_71 : decode cX0_invert 71 = .ok (.aload_n 0, 1) := by decide +kernel
theorem dX0_invert_72 : decode cX0_invert 72 = .ok (.getfield 16, 3) := by decide +kernel
theorem dX0_invert_75 : decode cX0_invert 75 = .ok (.i2l, 1) := by decide +kernel
theorem dX0_invert_76 : decode cX0_invert 76 = .ok (.ldc2_w 97, 3) := by decide +kernel
theorem dX0_invert_79 : decode cX0_invert 79 = .ok (.lmul, 1) := by decide +kernel
theorem dX0_invert_80 : decode cX0_invert 80 = .ok (.lload_n 1, 1) := by decide +kernel
theorem dX0_invert_81 : decode cX0_invert 81 = .ok (.invokestatic 99, 3) := by decide +kernel
theorem dX0_invert_84 : decode cX0_invert 84 = .ok (.aload_n 0, 1) := by decide +kernel
theorem dX0_invert_85 : decode cX0_invert 85 = .ok (.getfield 75, 3) := by decide +kernel
theorem dX0_invert_88 : decode cX0_invert 88 = .ok (.aload_n 0, 1) := by decide +kernel
theorem dX0_invert_89 : decode cX0_invert 89 = .ok (.getfield 81, 3) := by decide +kernel
theorem dX0_invert_92 : decode cX0_invert 92 = .ok (.aload_n 0, 1) := by decide +kernel
theorem dX0_invert_93 : decode cX0_invert 93 = .ok (.getfield 19, 3) := by decide +kernel
theorem dX0_invert_96 : decode cX0_invert 96 = .ok (.aload_n 0, 1) := by decide +kernel
theorem dX0_invert_97 : decode cX0_invert 97 = .ok (.getfield 78, 3) := by decide +kernel
theorem dX0_invert_100 : decode cX0_invert 100 = .ok (.invokestatic 93, 3) := by decide +kernel
theorem dX0_invert_103 : decode cX0_invert 103 = .ok (.lload_n 1, 1) := by decide +kernel
theorem dX0_invert_104 : decode cX0_invert 104 = .ok (.invokestatic 99, 3) := by decide +kernel
theorem dX0_invert_107 : decode cX0_invert 107 = .ok (.aload_n 0, 1) := by decide +kernel
theorem dX0_invert_108 : decode cX0_invert 108 = .ok (.getfield 72, 3) := by decide +kernel
theorem dX0_invert_111 : decode cX0_invert 111 = .ok (.aload_n 0, 1) := by decide +kernel
theorem dX0_invert_112 : decode cX0_invert 112 = .ok (.getfield 78, 3) := by decide +kernel
theorem dX0_invert_115 : decode cX0_invert 115 = .ok (.aload_n 0, 1) := by decide +kernel
theorem dX0_invert_116 : decode cX0_invert 116 = .ok (.getfield 16, 3) := by decide +kernel
theorem dX0_invert_119 : decode cX0_invert 119 = .ok (.aload_n 0, 1) := by decide +kernel
theorem dX0_invert_120 : decode cX0_invert 120 = .ok (.getfield 81, 3) := by decide +kernel
theorem dX0_invert_123 : decode cX0_invert 123 = .ok (.invokestatic 93, 3) := by decide +kernel
theorem dX0_invert_126 : decode cX0_invert 126 = .ok (.lload_n 1, 1) := by decide +kernel
theorem dX0_invert_127 : decode cX0_invert 127 = .ok (.invokestatic 99, 3) := by decide +kernel
theorem dX0_invert_130 : decode cX0_invert 130 = .ok (.invokevirtual 68, 3) := by decide +kernel
theorem dX0_invert_133 : decode cX0_invert 133 = .ok (.istore_n 3, 1) := by decide +kernel
theorem dX0_invert_134 : decode cX0_invert 134 = .ok (.iload_n 3, 1) := by decide +kernel
theorem dX0_invert_135 : decode cX0_invert 135 = .ok (.ifCond .eq 7, 3) := by decide +kernel
theorem dX0_invert_138 : decode cX0_invert 138 = .ok (.iconst 1, 1) := by decide +kernel
theorem dX0_invert_139 : decode cX0_invert 139 = .ok (.goto 5, 3) := by decide +kernel
theorem dX0_invert_142 : decode cX0_invert 142 = .ok (.bipush (-2), 2) := by decide +kernel
theorem dX0_invert_144 : decode cX0_invert 144 = .ok (.ireturn, 1) := by decide +kernel
set_option maxRecDepth 20000 in
theorem ggX0_move_X0_isReal : GoodIn wsX0_move wsX0_isReal := goodIn_r _ [8, 9, 10] (by decide +kernel) (by decide +kernel)
set_option maxRecDepth 20000 in
theorem gX0_move_X0_isReal : GoodIn wsX0_move (va_wsS RX0 38 yX0_isReal wsX0_isReal) := goodIn_app (goodIn_of _ (by decide +kernel)) ggX0_move_X0_isReal
set_option maxRecDepth 20000 in
theorem ggX0_move_X0_turnedX : GoodIn wsX0_move wsX0_turnedX := goodIn_r _ [14, 15, 16, 17, 18, 7, 19, 20, 27, 28, 29, 30, 31, 32, 33, 34, 35, 36] (by decide +kernel) (by decide +kernel)
set_option maxRecDepth 20000 in
theorem gX0_move_X0_turnedX : GoodIn wsX0_move (wsV RX0 87 RX0 yX0_turnedX wsX0_turnedX) := goodIn_app (goodIn_of _ (by decide +kernel)) ggX0_move_X0_turnedX
set_option maxRecDepth 20000 in
theorem ggX0_move_X0_turnedY : GoodIn wsX0_move wsX0_turnedY := goodIn_r _ [24, 25, 26, 17, 18, 7, 19, 20, 27, 28, 29, 30, 31, 32, 33, 34, 35, 36] (by decide +kernel) (by decide +kernel)
set_option maxRecDepth 20000 in
theorem gX0_move_X0_turnedY : GoodIn wsX0_move (wsV RX0 90 RX0 yX0_turnedY wsX0_turnedY) := goodIn_app (goodIn_of _ (by decide +kernel)) ggX0_move_X0_turnedY
theorem dX0_move_0 : decode cX0_move 0 = .ok (.iload_n 1, 1) := by decide +kernel
theorem dX0_move_1 : decode cX0_move 1 = .ok (.i2l, 1) := by decide +kernel
theorem dX0_move_2 : decode cX0_move 2 = .ok (.invokestatic 38, 3) := by decide +kernel
theorem dX0_move_5 : decode cX0_move 5 = .ok (.ifCond .eq 11, 3) := by decide +kernel
theorem dX0_move_8 : decode cX0_move 8 = .ok (.iload_n 2, 1) := by decide +kernel
theorem dX0_move_9 : decode cX0_move 9 = .ok (.i2l, 1) := by decide +kernel
theorem dX0_move_10 : decode cX0_move 10 = .ok (.invokestatic 38, 3) := by decide +kernel
theorem dX0_move_13 : decode cX0_move 13 = .ok (.ifCond .ne 5, 3) := by decide +kernel
theorem dX0_move_16 : decode cX0_move 16 = .ok (.iconst (-1), 1) := by decide +kernel
theorem dX0_move_17 : decode cX0_move 17 = .ok (.ireturn, 1) := by decide +kernel
theorem dX0_move_18 : decode cX0_move 18 = .ok (.aload_n 0, 1) := by decide +kernel
theorem dX0_move_19 : decode cX0_move 19 = .ok (.iload_n 1, 1) := by decide +kernel
theorem dX0_move_20 : decode cX0_move 20 = .ok (.iload_n 2, 1) := by decide +kernel
theorem dX0_move_21 : decode cX0_move 21 = .ok (.invokevirtual 87, 3) := by decide +kernel
theorem dX0_move_24 : decode cX0_move 24 = .ok (.iload_n 3, 1) := by decide +kernel
theorem dX0_move_25 : decode cX0_move 25 = .ok (.ifCond .eq 10, 3) := by decide +kernel
theorem dX0_move_28 : decode cX0_move 28 = .ok (.aload_n 0, 1) := by decide +kernel
theorem dX0_move_29 : decode cX0_move 29 = .ok (.getfield 78, 3) := by decide +kernel
theorem dX0_move_32 : decode cX0_move 32 = .ok (.goto 4, 3) := by decide +kernel
theorem dX0_move_35 : decode cX0_move 35 = .ok (.iconst 0, 1) := by decide +kernel
theorem dX0_move_36 : decode cX0_move 36 = .ok (.i2l, 1) := by decide +kernel
theorem dX0_move_37 : decode cX0_move 37 = .ok (.ladd, 1) := by decide +kernel
theorem dX0_move_38 : decode cX0_move 38 = .ok (.lstore 4, 2) := by decide +kernel
theorem dX0_move_40 : decode cX0_move 40 = .ok (.aload_n 0, 1) := by decide +kernel
theorem dX0_move_41 : decode cX0_move 41 = .ok (.iload_n 1, 1) := by decide +kernel
theorem dX0_move_42 : decode cX0_move 42 = .ok (.iload_n 2, 1) := by decide +kernel
theorem dX0_move_43 : decode cX0_move 43 = .ok (.invokevirtual 90, 3) := by decide +kernel
theorem dX0_move_46 : decode cX0_move 46 = .ok (.iload_n 3, 1) := by decide +kernel
theorem dX0_move_47 : decode cX0_move 47 = .ok (.ifCond .eq 10, 3) := by decide +kernel
theorem dX0_move_50 : decode cX0_move 50 = .ok (.aload_n 0, 1) := by decide +kernel
theorem dX0_move_51 : decode cX0_move 51 = .ok (.getfield 81, 3) := by decide +kernel
theorem dX0_move_54 : decode cX0_move 54 = .ok (.goto 4, 3) := by decide +kernel
theorem dX0_move_57 : decode cX0_move 57 = .ok (.iconst 0, 1) := by decide +kernel
theorem dX0_move_58 : decode cX0_move 58 = .ok (.i2l, 1) := by decide +kernel
theorem dX0_move_59 : decode cX0_move 59 = .ok (.ladd, 1) := by decide +kernel
theorem dX0_move_60 : decode cX0_move 60 = .ok (.lstore 6, 2) := by decide +kernel
theorem dX0_move_62 : decode cX0_move 62 = .ok (.lload 4, 2) := by decide +kernel
theorem dX0_move_64 : decode cX0_move 64 = .ok (.invokestatic 38, 3) := by decide +kernel
theorem dX0_move_67 : decode cX0_move 67 = .ok (.ifCond .eq 11, 3) := by decide +kernel
theorem dX0_move_70 : decode cX0_move 70 = .ok (.lload 6, 2) := by decide +kernel
theorem dX0_move_72 : decode cX0_move 72 = .ok (.invokestatic 38, 3) := by decide +kernel
theorem dX0_move_75 : decode cX0_move 75 = .ok (.ifCond .ne 6, 3) := by decide +kernel
theorem dX0_move_78 : decode cX0_move 78 = .ok (.bipush (-2), 2) := by decide +kernel
theorem dX0_move_80 : decode cX0_move 80 = .ok (.ireturn, 1) := by decide +kernel
theorem dX0_move_81 : decode cX0_move 81 = .ok (.aload_n 0, 1) := by decide +kernel
theorem dX0_move_82 : decode cX0_move 82 = .ok (.lload 4, 2) := by decide +kernel
theorem dX0_move_84 : decode cX0_move 84 = .ok (.l2i, 1) := by decide +kernel
theorem dX0_move_85 : decode cX0_move 85 = .ok (.putfield 103, 3) := by decide +kernel
theorem dX0_move_88 : decode cX0_move 88 = .ok (.aload_n 0, 1) := by decide +kernel
theorem dX0_move_89 : decode cX0_move 89 = .ok (.lload 6, 2) := by decide +kernel
theorem dX0_move_91 : decode cX0_move 91 = .ok (.l2i, 1) := by decide +kernel
theorem dX0_move_92 : decode cX0_move 92 = .ok (.putfield 106, 3) := by decide +kernel
theorem dX0_move_95 : decode cX0_move 95 = .ok (.iconst 1, 1) := by decide +kernel
theorem dX0_move_96 : decode cX0_move 96 = .ok (.ireturn, 1) := by decide +kernel
theorem dX0_moved_0 : decode cX0_moved 0 = .ok (.iload_n 1, 1) := by decide +kernel
theorem dX0_moved_1 : decode cX0_moved 1 = .ok (.ifCond .ne 8, 3) := by decide +kernel
theorem dX0_moved_4 : decode cX0_moved 4 = .ok (.aload_n 0, 1) := by decide +kernel
theorem dX0_moved_5 : decode cX0_moved 5 = .ok (.getfield 103, 3) := by decide +kernel
theorem dX0_moved_8 : decode cX0_moved 8 = .ok (.ireturn, 1) := by decide +kernel
theorem dX0_moved_9 : decode cX0_moved 9 = .ok (.iload_n 1, 1) := by decide +kernel
theorem dX0_moved_10 : decode cX0_moved 10 = .ok (.iconst 1, 1) := by decide +kernel
theorem dX0_moved_11 : decode cX0_moved 11 = .ok (.if_icmp .ne 10, 3) := by decide +kernel
theorem dX0_moved_14 : decode cX0_moved 14 = .ok (.aload_n 0, 1) := by decide +kernel
theorem dX0_moved_15 : decode cX0_moved 15 = .ok (.getfield 106, 3) := by decide +kernel
theorem dX0_moved_18 : decode cX0_moved 18 = .ok (.goto 4, 3) := by decide +kernel
theorem dX0_moved_21 : decode cX0_moved 21 = .ok (.iconst 0, 1) := by decide +kernel
theorem dX0_moved_22 : decode cX0_moved 22 = .ok (.ireturn, 1) := by decide +kernel
set_option maxRecDepth 20000 in
theorem ggX0_isValue_X0_isReal : GoodIn wsX0_isValue wsX0_isReal := goodIn_r _ [4, 5, 6] (by decide +kernel) (by decide +kernel)
set_option maxRecDepth 20000 in
theorem gX0_isValue_X0_isReal : GoodIn wsX0_isValue (va_wsS RX0 38 yX0_isReal wsX0_isReal) := goodIn_app (goodIn_of _ (by decide +kernel)) ggX0_isValue_X0_isReal
theorem dX0_isValue_0 : decode cX0_isValue 0 = .ok (.iload_n 0, 1) := by decide +kernel
theorem dX0_isValue_1 : decode cX0_isValue 1 = .ok (.iconst 1, 1) := by decide +kernel
theorem dX0_isValue_2 : decode cX0_isValue 2 = .ok (.if_icmp .eq 16, 3) := by decide +kernel
theorem dX0_isValue_5 : decode cX0_isValue 5 = .ok (.iload_n 0, 1) := by decide +kernel
theorem dX0_isValue_6 : decode cX0_isValue 6 = .ok (.iconst 2, 1) := by decide +kernel
theorem dX0_isValue_7 : decode cX0_isValue 7 = .ok (.if_icmp .ne 15, 3) := by decide +kernel
theorem dX0_isValue_10 : decode cX0_isValue 10 = .ok (.iload_n 1, 1) := by decide +kernel
theorem dX0_isValue_11 : decode cX0_isValue 11 = .ok (.i2l, 1) := by decide +kernel
theorem dX0_isValue_12 : decode cX0_isValue 12 = .ok (.invokestatic 38, 3) := by decide +kernel
theorem dX0_isValue_15 : decode cX0_isValue 15 = .ok (.ifCond .eq 7, 3) := by decide +kernel
theorem dX0_isValue_18 : decode cX0_isValue 18 = .ok (.iconst 1, 1) := by decide +kernel
theorem dX0_isValue_19 : decode cX0_isValue 19 = .ok (.goto 4, 3) := by decide +kernel
theorem dX0_isValue_22 : decode cX0_isValue 22 = .ok (.iconst 0, 1) := by decide +kernel
theorem dX0_isValue_23 : decode cX0_isValue 23 = .ok (.ireturn, 1) := by decide +kernel
theorem dX0_isReal_0 : decode cX0_isReal 0 = .ok (.lload_n 0, 1) := by decide +kernel
theorem dX0_isReal_1 : decode cX0_isReal 1 = .ok (.ldc2_w 109, 3) := by decide +kernel
theorem dX0_isReal_4 : decode cX0_isReal 4 = .ok (.lcmp, 1) := by decide +kernel
theorem dX0_isReal_5 : decode cX0_isReal 5 = .ok (.ifCond .lt 15, 3) := by decide +kernel
theorem dX0_isReal_8 : decode cX0_isReal 8 = .ok (.lload_n 0, 1) := by decide +kernel
theorem dX0_isReal_9 : decode cX0_isReal 9 = .ok (.ldc2_w 111, 3) := by decide +kernel
theorem dX0_isReal_12 : decode cX0_isReal 12 = .ok (.lcmp, 1) := by decide +kernel
theorem dX0_isReal_13 : decode cX0_isReal 13 = .ok (.ifCond .gt 7, 3) := by decide +kernel
theorem dX0_isReal_16 : decode cX0_isReal 16 = .ok (.iconst 1, 1) := by decide +kernel
theorem dX0_isReal_17 : decode cX0_isReal 17 = .ok (.goto 4, 3) := by decide +kernel
theorem dX0_isReal_20 : decode cX0_isReal 20 = .ok (.iconst 0, 1) := by decide +kernel
theorem dX0_isReal_21 : decode cX0_isReal 21 = .ok (.ireturn, 1) := by decide +kernel
set_option maxRecDepth 20000 in
theorem ggX0_areReals_X0_isReal : GoodIn wsX0_areReals wsX0_isReal := goodIn_r _ [4, 5, 6] (by decide +kernel) (by decide +kernel)
set_option maxRecDepth 20000 in
theorem gX0_areReals_X0_isReal : GoodIn wsX0_areReals (va_wsS RX0 38 yX0_isReal wsX0_isReal) := goodIn_app (goodIn_of _ (by decide +kernel)) ggX0_areReals_X0_isReal
theorem dX0_areReals_0 : decode cX0_areReals 0 = .ok (.lload_n 0, 1) := by decide +kernel
theorem dX0_areReals_1 : decode cX0_areReals 1 = .ok (.invokestatic 38, 3) := by decide +kernel
theorem dX0_areReals_4 : decode cX0_areReals 4 = .ok (.ifCond .eq 46, 3) := by decide +kernel
theorem dX0_areReals_7 : decode cX0_areReals 7 = .ok (.lload_n 2, 1) := by decide +kernel
theorem dX0_areReals_8 : decode cX0_areReals 8 = .ok (.invokestatic 38, 3) := by decide +kernel
theorem dX0_areReals_11 : decode cX0_areReals 11 = .ok (.ifCond .eq 39, 3) := by decide +kernel
theorem dX0_areReals_14 : decode cX0_areReals 14 = .ok (.lload 4, 2) := by decide +kernel
theorem dX0_areReals_16 : decode cX0_areReals 16 = .ok (.invokestatic 38, 3) := by decide +kernel
theorem dX0_areReals_19 : decode cX0_areReals 19 = .ok (.ifCond .eq 31, 3) := by decide +kernel
theorem dX0_areReals_22 : decode cX0_areReals 22 = .ok (.lload 6, 2) := by decide +kernel
theorem dX0_areReals_24 : decode cX0_areReals 24 = .ok (.invokestatic 38, 3) := by decide +kernel
theorem dX0_areReals_27 : decode cX0_areReals 27 = .ok (.ifCond .eq 23, 3) := by decide +kernel
theorem dX0_areReals_30 : decode cX0_areReals 30 = .ok (.lload 8, 2) := by decide +kernel
theorem dX0_areReals_32 : decode cX0_areReals 32 = .ok (.invokestatic 38, 3) := by decide +kernel
theorem dX0_areReals_35 : decode cX0_areReals 35 = .ok (.ifCond .eq 15, 3) := by decide +kernel
theorem dX0_areReals_38 : decode cX0_areReals 38 = .ok (.lload 10, 2) := by decide +kernel
theorem dX0_areReals_40 : decode cX0_areReals 40 = .ok (.invokestatic 38, 3) := by decide +kernel
theorem dX0_areReals_43 : decode cX0_areReals 43 = .ok (.ifCond .eq 7, 3) := by decide +kernel
theorem dX0_areReals_46 : decode cX0_areReals 46 = .ok (.iconst 1, 1) := by decide +kernel
theorem dX0_areReals_47 : decode cX0_areReals 47 = .ok (.goto 4, 3) := by decide +kernel
theorem dX0_areReals_50 : decode cX0_areReals 50 = .ok (.iconst 0, 1) := by decide +kernel
theorem dX0_areReals_51 : decode cX0_areReals 51 = .ok (.ireturn, 1) := by decide +kernel
theorem dX0_units_0 : decode cX0_units 0 = .ok (.iload_n 0, 1) := by decide +kernel
theorem dX0_units_1 : decode cX0_units 1 = .ok (.iconst 1, 1) := by decide +kernel
theorem dX0_units_2 : decode cX0_units 2 = .ok (.if_icmp .ne 12, 3) := by decide +kernel
theorem dX0_units_5 : decode cX0_units 5 = .ok (.iload_n 1, 1) := by decide +kernel
theorem dX0_units_6 : decode cX0_units 6 = .ok (.i2l, 1) := by decide +kernel
theorem dX0_units_7 : decode cX0_units 7 = .ok (.ldc2_w 97, 3) := by decide +kernel
theorem dX0_units_10 : decode cX0_units 10 = .ok (.lmul, 1) := by decide +kernel
theorem dX0_units_11 : decode cX0_units 11 = .ok (.goto 5, 3) := by decide +kernel
theorem dX0_units_14 : decode cX0_units 14 = .ok (.iload_n 1, 1) := by decide +kernel
theorem dX0_units_15 : decode cX0_units 15 = .ok (.i2l, 1) := by decide +kernel
theorem dX0_units_16 : decode cX0_units 16 = .ok (.lreturn, 1) := by decide +kernel
theorem dX0_isForWholesAlone_0 : decode cX0_isForWholesAlone 0 = .ok (.iload_n 0, 1) := by decide +kernel
theorem dX0_isForWholesAlone_1 : decode cX0_isForWholesAlone 1 = .ok (.iconst 4, 1) := by decide +kernel
theorem dX0_isForWholesAlone_2 : decode cX0_isForWholesAlone 2 = .ok (.if_icmp .eq 14, 3) := by decide +kernel
theorem dX0_isForWholesAlone_5 : decode cX0_isForWholesAlone 5 = .ok (.iload_n 0, 1) := by decide +kernel
theorem dX0_isForWholesAlone_6 : decode cX0_isForWholesAlone 6 = .ok (.iconst 5, 1) := by decide +kernel
theorem dX0_isForWholesAlone_7 : decode cX0_isForWholesAlone 7 = .ok (.if_icmp .eq 9, 3) := by decide +kernel
theorem dX0_isForWholesAlone_10 : decode cX0_isForWholesAlone 10 = .ok (.iload_n 0, 1) := by decide +kernel
theorem dX0_isForWholesAlone_11 : decode cX0_isForWholesAlone 11 = .ok (.bipush 7, 2) := by decide +kernel
theorem dX0_isForWholesAlone_13 : decode cX0_isForWholesAlone 13 = .ok (.if_icmp .lt 7, 3) := by decide +kernel
theorem dX0_isForWholesAlone_16 : decode cX0_isForWholesAlone 16 = .ok (.iconst 1, 1) := by decide +kernel
theorem dX0_isForWholesAlone_17 : decode cX0_isForWholesAlone 17 = .ok (.goto 4, 3) := by decide +kernel
theorem dX0_isForWholesAlone_20 : decode cX0_isForWholesAlone 20 = .ok (.iconst 0, 1) := by decide +kernel
theorem dX0_isForWholesAlone_21 : decode cX0_isForWholesAlone 21 = .ok (.ireturn, 1) := by decide +kernel
theorem dX0_isAsAReal_0 : decode cX0_isAsAReal 0 = .ok (.iload_n 0, 1) := by decide +kernel
theorem dX0_isAsAReal_1 : decode cX0_isAsAReal 1 = .ok (.bipush 6, 2) := by decide +kernel
theorem dX0_isAsAReal_3 : decode cX0_isAsAReal 3 = .ok (.if_icmp .eq 21, 3) := by decide +kernel
theorem dX0_isAsAReal_6 : decode cX0_isAsAReal 6 = .ok (.iload_n 0, 1) := by decide +kernel
theorem dX0_isAsAReal_7 : decode cX0_isAsAReal 7 = .ok (.bipush 7, 2) := by decide +kernel
theorem dX0_isAsAReal_9 : decode cX0_isAsAReal 9 = .ok (.if_icmp .eq 15, 3) := by decide +kernel
theorem dX0_isAsAReal_12 : decode cX0_isAsAReal 12 = .ok (.iload_n 0, 1) := by decide +kernel
theorem dX0_isAsAReal_13 : decode cX0_isAsAReal 13 = .ok (.bipush 8, 2) := by decide +kernel
theorem dX0_isAsAReal_15 : decode cX0_isAsAReal 15 = .ok (.if_icmp .eq 9, 3) := by decide +kernel
theorem dX0_isAsAReal_18 : decode cX0_isAsAReal 18 = .ok (.iload_n 0, 1) := by decide +kernel
theorem dX0_isAsAReal_19 : decode cX0_isAsAReal 19 = .ok (.bipush 10, 2) := by decide +kernel
theorem dX0_isAsAReal_21 : decode cX0_isAsAReal 21 = .ok (.if_icmp .ne 7, 3) := by decide +kernel
theorem dX0_isAsAReal_24 : decode cX0_isAsAReal 24 = .ok (.iconst 1, 1) := by decide +kernel
theorem dX0_isAsAReal_25 : decode cX0_isAsAReal 25 = .ok (.goto 4, 3) := by decide +kernel
theorem dX0_isAsAReal_28 : decode cX0_isAsAReal 28 = .ok (.iconst 0, 1) := by decide +kernel
theorem dX0_isAsAReal_29 : decode cX0_isAsAReal 29 = .ok (.ireturn, 1) := by decide +kernel
set_option maxRecDepth 20000 in
theorem ggX0_ofWholes_X0_keep : GoodIn wsX0_ofWholes wsX0_keep := goodIn_r _ [5, 6, 7, 8, 9, 4, 10, 11, 12, 16, 17, 18, 19, 20, 21, 22, 23, 24, 25] (by decide +kernel) (by decide +kernel)
set_option maxRecDepth 20000 in
theorem gX0_ofWholes_X0_keep : GoodIn wsX0_ofWholes (wsV RX0 46 RX0 yX0_keep wsX0_keep) := goodIn_app (goodIn_of _ (by decide +kernel)) ggX0_ofWholes_X0_keep
set_option maxRecDepth 20000 in
theorem ggX0_ofWholes_X0_shifted : GoodIn wsX0_ofWholes wsX0_shifted := goodIn_r _ [15] (by decide +kernel) (by decide +kernel)
set_option maxRecDepth 20000 in
theorem gX0_ofWholes_X0_shifted : GoodIn wsX0_ofWholes (va_wsS RX0 113 yX0_shifted wsX0_shifted) := goodIn_app (goodIn_of _ (by decide +kernel)) ggX0_ofWholes_X0_shifted
theorem dX0_ofWholes_0 : decode cX0_ofWholes 0 = .ok (.iload_n 1, 1) := by decide +kernel
theorem dX0_ofWholes_1 : decode cX0_ofWholes 1 = .ok (.tableswitch 158 0 9 #[55, 66, 77, 158, 88, 108, 158, 128, 138, 148], 55) := by decide +kernel
theorem dX0_ofWholes_56 : decode cX0_ofWholes 56 = .ok (.aload_n 0, 1) := by decide +kernel
theorem dX0_ofWholes_57 : decode cX0_ofWholes 57 = .ok (.iconst 1, 1) := by decide +kernel
theorem dX0_ofWholes_58 : decode cX0_ofWholes 58 = .ok (.iload_n 2, 1) := by decide +kernel
theorem dX0_ofWholes_59 : decode cX0_ofWholes 59 = .ok (.i2l, 1) := by decide +kernel
theorem dX0_ofWholes_60 : decode cX0_ofWholes 60 = .ok (.iload_n 3, 1) := by decide +kernel
theorem dX0_ofWholes_61 : decode cX0_ofWholes 61 = .ok (.i2l, 1) := by decide +kernel
theorem dX0_ofWholes_62 : decode cX0_ofWholes 62 = .ok (.ladd, 1) := by decide +kernel
theorem dX0_ofWholes_63 : decode cX0_ofWholes 63 = .ok (.invokevirtual 46, 3) := by decide +kernel
theorem dX0_ofWholes_66 : decode cX0_ofWholes 66 = .ok (.ireturn, 1) := by decide +kernel
theorem dX0_ofWholes_67 : decode cX0_ofWholes 67 = .ok (.aload_n 0, 1) := by decide +kernel
theorem dX0_ofWholes_68 : decode cX0_ofWholes 68 = .ok (.iconst 1, 1) := by decide +kernel
theorem dX0_ofWholes_69 : decode cX0_ofWholes 69 = .ok (.iload_n 2, 1) := by decide +kernel
theorem dX0_ofWholes_70 : decode cX0_ofWholes 70 = .ok (.i2l, 1) := by decide +kernel
theorem dX0_ofWholes_71 : decode cX0_ofWholes 71 = .ok (.iload_n 3, 1) := by decide +kernel
theorem dX0_ofWholes_72 : decode cX0_ofWholes 72 = .ok (.i2l, 1) := by decide +kernel
theorem dX0_ofWholes_73 : decode cX0_ofWholes 73 = .ok (.lsub, 1) := by decide +kernel
theorem dX0_ofWholes_74 : decode cX0_ofWholes 74 = .ok (.invokevirtual 46, 3) := by decide +kernel
theorem dX0_ofWholes_77 : decode cX0_ofWholes 77 = .ok (.ireturn, 1) := by decide +kernel
theorem dX0_ofWholes_78 : decode cX0_ofWholes 78 = .ok (.aload_n 0, 1) := by decide +kernel
theorem dX0_ofWholes_79 : decode cX0_ofWholes 79 = .ok (.iconst 1, 1) := by decide +kernel
theorem dX0_ofWholes_80 : decode cX0_ofWholes 80 = .ok (.iload_n 2, 1) := by decide +kernel
theorem dX0_ofWholes_81 : decode cX0_ofWholes 81 = .ok (.i2l, 1) := by decide +kernel
theorem dX0_ofWholes_82 : decode cX0_ofWholes 82 = .ok (.iload_n 3, 1) := by decide +kernel
theorem dX0_ofWholes_83 : decode cX0_ofWholes 83 = .ok (.i2l, 1) := by decide +kernel
theorem dX0_ofWholes_84 : decode cX0_ofWholes 84 = .ok (.lmul, 1) := by decide +kernel
theorem dX0_ofWholes_85 : decode cX0_ofWholes 85 = .ok (.invokevirtual 46, 3) := by decide +kernel
theorem dX0_ofWholes_88 : decode cX0_ofWholes 88 = .ok (.ireturn, 1) := by decide +kernel
theorem dX0_ofWholes_89 : decode cX0_ofWholes 89 = .ok (.iload_n 3, 1) := by decide +kernel
theorem dX0_ofWholes_90 : decode cX0_ofWholes 90 = .ok (.ifCond .ne 8, 3) := by decide +kernel
theorem dX0_ofWholes_93 : decode cX0_ofWholes 93 = .ok (.bipush (-3), 2) := by decide +kernel
theorem dX0_ofWholes_95 : decode cX0_ofWholes 95 = .ok (.goto 13, 3) := by decide +kernel
theorem dX0_ofWholes_98 : decode cX0_ofWholes 98 = .ok (.aload_n 0, 1) := by decide +kernel
theorem dX0_ofWholes_99 : decode cX0_ofWholes 99 = .ok (.iconst 1, 1) := by decide +kernel
theorem dX0_ofWholes_100 : decode cX0_ofWholes 100 = .ok (.iload_n 2, 1) := by decide +kernel
theorem dX0_ofWholes_101 : decode cX0_ofWholes 101 = .ok (.i2l, 1) := by decide +kernel
theorem dX0_ofWholes_102 : decode cX0_ofWholes 102 = .ok (.iload_n 3, 1) := by decide +kernel
theorem dX0_ofWholes_103 : decode cX0_ofWholes 103 = .ok (.i2l, 1) := by decide +kernel
theorem dX0_ofWholes_104 : decode cX0_ofWholes 104 = .ok (.ldiv, 1) := by decide +kernel
theorem dX0_ofWholes_105 : decode cX0_ofWholes 105 = .ok (.invokevirtual 46, 3) := by decide +kernel
theorem dX0_ofWholes_108 : decode cX0_ofWholes 108 = .ok (.ireturn, 1) := by decide +kernel
theorem dX0_ofWholes_109 : decode cX0_ofWholes 109 = .ok (.iload_n 3, 1) := by decide +kernel
theorem dX0_ofWholes_110 : decode cX0_ofWholes 110 = .ok (.ifCond .ne 8, 3) := by decide +kernel
theorem dX0_ofWholes_113 : decode cX0_ofWholes 113 = .ok (.bipush (-3), 2) := by decide +kernel
theorem dX0_ofWholes_115 : decode cX0_ofWholes 115 = .ok (.goto 13, 3) := by decide +kernel
theorem dX0_ofWholes_118 : decode cX0_ofWholes 118 = .ok (.aload_n 0, 1) := by decide +kernel
theorem dX0_ofWholes_119 : decode cX0_ofWholes 119 = .ok (.iconst 1, 1) := by decide +kernel
theorem dX0_ofWholes_120 : decode cX0_ofWholes 120 = .ok (.iload_n 2, 1) := by decide +kernel
theorem dX0_ofWholes_121 : decode cX0_ofWholes 121 = .ok (.i2l, 1) := by decide +kernel
theorem dX0_ofWholes_122 : decode cX0_ofWholes 122 = .ok (.iload_n 3, 1) := by decide +kernel
theorem dX0_ofWholes_123 : decode cX0_ofWholes 123 = .ok (.i2l, 1) := by decide +kernel
theorem dX0_ofWholes_124 : decode cX0_ofWholes 124 = .ok (.lrem, 1) := by decide +kernel
theorem dX0_ofWholes_125 : decode cX0_ofWholes 125 = .ok (.invokevirtual 46, 3) := by decide +kernel
theorem dX0_ofWholes_128 : decode cX0_ofWholes 128 = .ok (.ireturn, 1) := by decide +kernel
theorem dX0_ofWholes_129 : decode cX0_ofWholes 129 = .ok (.aload_n 0, 1) := by decide +kernel
theorem dX0_ofWholes_130 : decode cX0_ofWholes 130 = .ok (.iconst 1, 1) := by decide +kernel
theorem dX0_ofWholes_131 : decode cX0_ofWholes 131 = .ok (.iload_n 2, 1) := by decide +kernel
theorem dX0_ofWholes_132 : decode cX0_ofWholes 132 = .ok (.iload_n 3, 1) := by decide +kernel
theorem dX0_ofWholes_133 : decode cX0_ofWholes 133 = .ok (.iand, 1) := by decide +kernel
theorem dX0_ofWholes_134 : decode cX0_ofWholes 134 = .ok (.i2l, 1) := by decide +kernel
theorem dX0_ofWholes_135 : decode cX0_ofWholes 135 = .ok (.invokevirtual 46, 3) := by decide +kernel
theorem dX0_ofWholes_138 : decode cX0_ofWholes 138 = .ok (.ireturn, 1) := by decide +kernel
theorem dX0_ofWholes_139 : decode cX0_ofWholes 139 = .ok (.aload_n 0, 1) := by decide +kernel
theorem dX0_ofWholes_140 : decode cX0_ofWholes 140 = .ok (.iconst 1, 1) := by decide +kernel
theorem dX0_ofWholes_141 : decode cX0_ofWholes 141 = .ok (.iload_n 2, 1) := by decide +kernel
theorem dX0_ofWholes_142 : decode cX0_ofWholes 142 = .ok (.iload_n 3, 1) := by decide +kernel
theorem dX0_ofWholes_143 : decode cX0_ofWholes 143 = .ok (.ior, 1) := by decide +kernel
theorem dX0_ofWholes_144 : decode cX0_ofWholes 144 = .ok (.i2l, 1) := by decide +kernel
theorem dX0_ofWholes_145 : decode cX0_ofWholes 145 = .ok (.invokevirtual 46, 3) := by decide +kernel
theorem dX0_ofWholes_148 : decode cX0_ofWholes 148 = .ok (.ireturn, 1) := by decide +kernel
theorem dX0_ofWholes_149 : decode cX0_ofWholes 149 = .ok (.aload_n 0, 1) := by decide +kernel
theorem dX0_ofWholes_150 : decode cX0_ofWholes 150 = .ok (.iconst 1, 1) := by decide +kernel
theorem dX0_ofWholes_151 : decode cX0_ofWholes 151 = .ok (.iload_n 2, 1) := by decide +kernel
theorem dX0_ofWholes_152 : decode cX0_ofWholes 152 = .ok (.iload_n 3, 1) := by decide +kernel
theorem dX0_ofWholes_153 : decode cX0_ofWholes 153 = .ok (.ixor, 1) := by decide +kernel
theorem dX0_ofWholes_154 : decode cX0_ofWholes 154 = .ok (.i2l, 1) := by decide +kernel
theorem dX0_ofWholes_155 : decode cX0_ofWholes 155 = .ok (.invokevirtual 46, 3) := by decide +kernel
theorem dX0_ofWholes_158 : decode cX0_ofWholes 158 = .ok (.ireturn, 1) := by decide +kernel
theorem dX0_ofWholes_159 : decode cX0_ofWholes 159 = .ok (.aload_n 0, 1) := by decide +kernel
theorem dX0_ofWholes_160 : decode cX0_ofWholes 160 = .ok (.iconst 1, 1) := by decide +kernel
theorem dX0_ofWholes_161 : decode cX0_ofWholes 161 = .ok (.iload_n 2, 1) := by decide +kernel
theorem dX0_ofWholes_162 : decode cX0_ofWholes 162 = .ok (.iload_n 3, 1) := by decide +kernel
theorem dX0_ofWholes_163 : decode cX0_ofWholes 163 = .ok (.invokestatic 113, 3) := by decide +kernel
theorem dX0_ofWholes_166 : decode cX0_ofWholes 166 = .ok (.i2l, 1) := by decide +kernel
theorem dX0_ofWholes_167 : decode cX0_ofWholes 167 = .ok (.invokevirtual 46, 3) := by decide +kernel
theorem dX0_ofWholes_170 : decode cX0_ofWholes 170 = .ok (.ireturn, 1) := by decide +kernel
set_option maxRecDepth 20000 in
theorem ggX0_ofReals_X0_keep : GoodIn wsX0_ofReals wsX0_keep := goodIn_r _ [5, 6, 7, 8, 9, 4, 10, 11, 12, 52, 53, 54, 55, 56, 57, 58, 59, 60, 61] (by decide +kernel) (by decide +kernel)
set_option maxRecDepth 20000 in
theorem gX0_ofReals_X0_keep : GoodIn wsX0_ofReals (wsV RX0 46 RX0 yX0_keep wsX0_keep) := goodIn_app (goodIn_of _ (by decide +kernel)) ggX0_ofReals_X0_keep
set_option maxRecDepth 20000 in
theorem ggX0_ofReals_X0_withoutPlaces : GoodIn wsX0_ofReals wsX0_withoutPlaces := goodIn_r _ [15, 16] (by decide +kernel) (by decide +kernel)
set_option maxRecDepth 20000 in
theorem gX0_ofReals_X0_withoutPlaces : GoodIn wsX0_ofReals (va_wsS RX0 117 yX0_withoutPlaces wsX0_withoutPlaces) := goodIn_app (goodIn_of _ (by decide +kernel)) ggX0_ofReals_X0_withoutPlaces
set_option maxRecDepth 20000 in
theorem ggX0_ofReals_X0_quotient : GoodIn wsX0_ofReals wsX0_quotient := goodIn_r _ [19, 20, 21, 22, 23, 24, 16, 25, 26, 27, 28, 29, 30] (by decide +kernel) (by decide +kernel)
set_option maxRecDepth 20000 in
theorem gX0_ofReals_X0_quotient : GoodIn wsX0_ofReals (va_wsS RX0 99 yX0_quotient wsX0_quotient) := goodIn_app (goodIn_of _ (by decide +kernel)) ggX0_ofReals_X0_quotient
set_option maxRecDepth 20000 in
theorem ggX0_ofReals_X0_angle : GoodIn wsX0_ofReals wsX0_angle := goodIn_r _ [33, 20, 21, 22, 23, 34, 35, 36, 37, 4, 38, 39, 40, 26, 41, 42, 43, 44, 45, 46, 47, 48, 49, 50, 51, 13, 14, 15, 16] (by decide +kernel) (by decide +kernel)
set_option maxRecDepth 20000 in
theorem gX0_ofReals_X0_angle : GoodIn wsX0_ofReals (va_wsS RX0 121 yX0_angle wsX0_angle) := goodIn_app (goodIn_of _ (by decide +kernel)) ggX0_ofReals_X0_angle
theorem dX0_ofReals_0 : decode cX0_ofReals 0 = .ok (.iload_n 1, 1) := by decide +kernel
theorem dX0_ofReals_1 : decode cX0_ofReals 1 = .ok (.tableswitch 88 0 3 #[31, 41, 51, 64], 31) := by decide +kernel
theorem dX0_ofReals_32 : decode cX0_ofReals 32 = .ok (.aload_n 0, 1) := by decide +kernel
theorem dX0_ofReals_33 : decode cX0_ofReals 33 = .ok (.iconst 2, 1) := by decide +kernel
theorem dX0_ofReals_34 : decode cX0_ofReals 34 = .ok (.lload_n 2, 1) := by decide +kernel
theorem dX0_ofReals_35 : decode cX0_ofReals 35 = .ok (.lload 4, 2) := by decide +kernel
theorem dX0_ofReals_37 : decode cX0_ofReals 37 = .ok (.ladd, 1) := by decide +kernel
theorem dX0_ofReals_38 : decode cX0_ofReals 38 = .ok (.invokevirtual 46, 3) := by decide +kernel
theorem dX0_ofReals_41 : decode cX0_ofReals 41 = .ok (.ireturn, 1) := by decide +kernel
theorem dX0_ofReals_42 : decode cX0_ofReals 42 = .ok (.aload_n 0, 1) := by decide +kernel
theorem dX0_ofReals_43 : decode cX0_ofReals 43 = .ok (.iconst 2, 1) := by decide +kernel
theorem dX0_ofReals_44 : decode cX0_ofReals 44 = .ok (.lload_n 2, 1) := by decide +kernel
theorem dX0_ofReals_45 : decode cX0_ofReals 45 = .ok (.lload 4, 2) := by decide +kernel
theorem dX0_ofReals_47 : decode cX0_ofReals 47 = .ok (.lsub, 1) := by decide +kernel
theorem dX0_ofReals_48 : decode cX0_ofReals 48 = .ok (.invokevirtual 46, 3) := by decide +kernel
theorem dX0_ofReals_51 : decode cX0_ofReals 51 = .ok (.ireturn, 1) := by decide +kernel
theorem dX0_ofReals_52 : decode cX0_ofReals 52 = .ok (.aload_n 0, 1) := by decide +kernel
theorem dX0_ofReals_53 : decode cX0_ofReals 53 = .ok (.iconst 2, 1) := by decide +kernel
theorem dX0_ofReals_54 : decode cX0_ofReals 54 = .ok (.lload_n 2, 1) := by decide +kernel
theorem dX0_ofReals_55 : decode cX0_ofReals 55 = .ok (.lload 4, 2) := by decide +kernel
theorem dX0_ofReals_57 : decode cX0_ofReals 57 = .ok (.lmul, 1) := by decide +kernel
theorem dX0_ofReals_58 : decode cX0_ofReals 58 = .ok (.invokestatic 117, 3) := by decide +kernel
theorem dX0_ofReals_61 : decode cX0_ofReals 61 = .ok (.invokevirtual 46, 3) := by decide +kernel
theorem dX0_ofReals_64 : decode cX0_ofReals 64 = .ok (.ireturn, 1) := by decide +kernel
theorem dX0_ofReals_65 : decode cX0_ofReals 65 = .ok (.lload 4, 2) := by decide +kernel
theorem dX0_ofReals_67 : decode cX0_ofReals 67 = .ok (.lconst 0, 1) := by decide +kernel
theorem dX0_ofReals_68 : decode cX0_ofReals 68 = .ok (.lcmp, 1) := by decide +kernel
theorem dX0_ofReals_69 : decode cX0_ofReals 69 = .ok (.ifCond .ne 8, 3) := by decide +kernel
theorem dX0_ofReals_72 : decode cX0_ofReals 72 = .ok (.bipush (-3), 2) := by decide +kernel
theorem dX0_ofReals_74 : decode cX0_ofReals 74 = .ok (.goto 14, 3) := by decide +kernel
theorem dX0_ofReals_77 : decode cX0_ofReals 77 = .ok (.aload_n 0, 1) := by decide +kernel
theorem dX0_ofReals_78 : decode cX0_ofReals 78 = .ok (.iconst 2, 1) := by decide +kernel
theorem dX0_ofReals_79 : decode cX0_ofReals 79 = .ok (.lload_n 2, 1) := by decide +kernel
theorem dX0_ofReals_80 : decode cX0_ofReals 80 = .ok (.lload 4, 2) := by decide +kernel
theorem dX0_ofReals_82 : decode cX0_ofReals 82 = .ok (.invokestatic 99, 3) := by decide +kernel
theorem dX0_ofReals_85 : decode cX0_ofReals 85 = .ok (.invokevirtual 46, 3) := by decide +kernel
theorem dX0_ofReals_88 : decode cX0_ofReals 88 = .ok (.ireturn, 1) := by decide +kernel
theorem dX0_ofReals_89 : decode cX0_ofReals 89 = .ok (.lload_n 2, 1) := by decide +kernel
theorem dX0_ofReals_90 : decode cX0_ofReals 90 = .ok (.lconst 0, 1) := by decide +kernel
theorem dX0_ofReals_91 : decode cX0_ofReals 91 = .ok (.lcmp, 1) := by decide +kernel
theorem dX0_ofReals_92 : decode cX0_ofReals 92 = .ok (.ifCond .ne 15, 3) := by decide +kernel
theorem dX0_ofReals_95 : decode cX0_ofReals 95 = .ok (.lload 4, 2) := by decide +kernel
theorem dX0_ofReals_97 : decode cX0_ofReals 97 = .ok (.lconst 0, 1) := by decide +kernel
theorem dX0_ofReals_98 : decode cX0_ofReals 98 = .ok (.lcmp, 1) := by decide +kernel
theorem dX0_ofReals_99 : decode cX0_ofReals 99 = .ok (.ifCond .ne 8, 3) := by decide +kernel
theorem dX0_ofReals_102 : decode cX0_ofReals 102 = .ok (.bipush (-3), 2) := by decide +kernel
theorem dX0_ofReals_104 : decode cX0_ofReals 104 = .ok (.goto 14, 3) := by decide +kernel
theorem dX0_ofReals_107 : decode cX0_ofReals 107 = .ok (.aload_n 0, 1) := by decide +kernel
theorem dX0_ofReals_108 : decode cX0_ofReals 108 = .ok (.iconst 2, 1) := by decide +kernel
theorem dX0_ofReals_109 : decode cX0_ofReals 109 = .ok (.lload 4, 2) := by decide +kernel
theorem dX0_ofReals_111 : decode cX0_ofReals 111 = .ok (.lload_n 2, 1) := by decide +kernel
theorem dX0_ofReals_112 : decode cX0_ofReals 112 = .ok (.invokestatic 121, 3) := by decide +kernel
theorem dX0_ofReals_115 : decode cX0_ofReals 115 = .ok (.invokevirtual 46, 3) := by decide +kernel
theorem dX0_ofReals_118 : decode cX0_ofReals 118 = .ok (.ireturn, 1) := by decide +kernel
set_option maxRecDepth 20000 in
theorem ggX0_ofOne_X0_keep : GoodIn wsX0_ofOne wsX0_keep := goodIn_r _ [10, 11, 12, 13, 14, 9, 15, 16, 17, 27, 28, 29, 30, 31, 32, 33, 34, 35, 36] (by decide +kernel) (by decide +kernel)
set_option maxRecDepth 20000 in
theorem gX0_ofOne_X0_keep : GoodIn wsX0_ofOne (wsV RX0 46 RX0 yX0_keep wsX0_keep) := goodIn_app (goodIn_of _ (by decide +kernel)) ggX0_ofOne_X0_keep
set_option maxRecDepth 20000 in
theorem ggX0_ofOne_X0_cut : GoodIn wsX0_ofOne wsX0_cut := goodIn_r _ [20, 21, 22, 23, 24, 25, 9, 26] (by decide +kernel) (by decide +kernel)
set_option maxRecDepth 20000 in
theorem gX0_ofOne_X0_cut : GoodIn wsX0_ofOne (va_wsS RX0 129 yX0_cut wsX0_cut) := goodIn_app (goodIn_of _ (by decide +kernel)) ggX0_ofOne_X0_cut
theorem dX0_ofOne_0 : decode cX0_ofOne 0 = .ok (.iload_n 1, 1) := by decide +kernel
theorem dX0_ofOne_1 : decode cX0_ofOne 1 = .ok (.lookupswitch 76 #[(0, 35), (1, 44), (9, 55)], 35) := by decide +kernel
theorem dX0_ofOne_36 : decode cX0_ofOne 36 = .ok (.aload_n 0, 1) := by decide +kernel
theorem dX0_ofOne_37 : decode cX0_ofOne 37 = .ok (.iload_n 2, 1) := by decide +kernel
theorem dX0_ofOne_38 : decode cX0_ofOne 38 = .ok (.iload_n 3, 1) := by decide +kernel
theorem dX0_ofOne_39 : decode cX0_ofOne 39 = .ok (.i2l, 1) := by decide +kernel
theorem dX0_ofOne_40 : decode cX0_ofOne 40 = .ok (.lneg, 1) := by decide +kernel
theorem dX0_ofOne_41 : decode cX0_ofOne 41 = .ok (.invokevirtual 46, 3) := by decide +kernel
theorem dX0_ofOne_44 : decode cX0_ofOne 44 = .ok (.ireturn, 1) := by decide +kernel
theorem dX0_ofOne_45 : decode cX0_ofOne 45 = .ok (.aload_n 0, 1) := by decide +kernel
theorem dX0_ofOne_46 : decode cX0_ofOne 46 = .ok (.iload_n 2, 1) := by decide +kernel
theorem dX0_ofOne_47 : decode cX0_ofOne 47 = .ok (.iload_n 3, 1) := by decide +kernel
theorem dX0_ofOne_48 : decode cX0_ofOne 48 = .ok (.i2l, 1) := by decide +kernel
theorem dX0_ofOne_49 : decode cX0_ofOne 49 = .ok (.invokestatic 124, 3) := by decide +kernel
theorem dX0_ofOne_52 : decode cX0_ofOne 52 = .ok (.invokevirtual 46, 3) := by decide +kernel
theorem dX0_ofOne_55 : decode cX0_ofOne 55 = .ok (.ireturn, 1) := by decide +kernel
theorem dX0_ofOne_56 : decode cX0_ofOne 56 = .ok (.aload_n 0, 1) := by decide +kernel
theorem dX0_ofOne_57 : decode cX0_ofOne 57 = .ok (.iconst 1, 1) := by decide +kernel
theorem dX0_ofOne_58 : decode cX0_ofOne 58 = .ok (.iload_n 2, 1) := by decide +kernel
theorem dX0_ofOne_59 : decode cX0_ofOne 59 = .ok (.iconst 1, 1) := by decide +kernel
theorem dX0_ofOne_60 : decode cX0_ofOne 60 = .ok (.if_icmp .ne 8, 3) := by decide +kernel
theorem dX0_ofOne_63 : decode cX0_ofOne 63 = .ok (.iload_n 3, 1) := by decide +kernel
theorem dX0_ofOne_64 : decode cX0_ofOne 64 = .ok (.i2l, 1) := by decide +kernel
theorem dX0_ofOne_65 : decode cX0_ofOne 65 = .ok (.goto 8, 3) := by decide +kernel
theorem dX0_ofOne_68 : decode cX0_ofOne 68 = .ok (.iload_n 3, 1) := by decide +kernel
theorem dX0_ofOne_69 : decode cX0_ofOne 69 = .ok (.ldc 15, 2) := by decide +kernel
theorem dX0_ofOne_71 : decode cX0_ofOne 71 = .ok (.idiv, 1) := by decide +kernel
theorem dX0_ofOne_72 : decode cX0_ofOne 72 = .ok (.i2l, 1) := by decide +kernel
theorem dX0_ofOne_73 : decode cX0_ofOne 73 = .ok (.invokevirtual 46, 3) := by decide +kernel
theorem dX0_ofOne_76 : decode cX0_ofOne 76 = .ok (.ireturn, 1) := by decide +kernel
theorem dX0_ofOne_77 : decode cX0_ofOne 77 = .ok (.aload_n 0, 1) := by decide +kernel
theorem dX0_ofOne_78 : decode cX0_ofOne 78 = .ok (.iload_n 2, 1) := by decide +kernel
theorem dX0_ofOne_79 : decode cX0_ofOne 79 = .ok (.iload_n 2, 1) := by decide +kernel
theorem dX0_ofOne_80 : decode cX0_ofOne 80 = .ok (.iconst 1, 1) := by decide +kernel
theorem dX0_ofOne_81 : decode cX0_ofOne 81 = .ok (.if_icmp .ne 8, 3) := by decide +kernel
theorem dX0_ofOne_84 : decode cX0_ofOne 84 = .ok (.iload_n 3, 1) := by decide +kernel
theorem dX0_ofOne_85 : decode cX0_ofOne 85 = .ok (.i2l, 1) := by decide +kernel
theorem dX0_ofOne_86 : decode cX0_ofOne 86 = .ok (.goto 9, 3) := by decide +kernel
theorem dX0_ofOne_89 : decode cX0_ofOne 89 = .ok (.iload_n 1, 1) := by decide +kernel
theorem dX0_ofOne_90 : decode cX0_ofOne 90 = .ok (.iload_n 3, 1) := by decide +kernel
theorem dX0_ofOne_91 : decode cX0_ofOne 91 = .ok (.i2l, 1) := by decide +kernel
theorem dX0_ofOne_92 : decode cX0_ofOne 92 = .ok (.invokestatic 129, 3) := by decide +kernel
theorem dX0_ofOne_95 : decode cX0_ofOne 95 = .ok (.invokevirtual 46, 3) := by decide +kernel
theorem dX0_ofOne_98 : decode cX0_ofOne 98 = .ok (.ireturn, 1) := by decide +kernel
set_option maxRecDepth 20000 in
theorem ggX0_ofReal_X0_root : GoodIn wsX0_ofReal wsX0_root := goodIn_r _ [5, 6] (by decide +kernel) (by decide +kernel)
set_option maxRecDepth 20000 in
theorem gX0_ofReal_X0_root : GoodIn wsX0_ofReal (va_wsS RX0 133 yX0_root wsX0_root) := goodIn_app (goodIn_of _ (by decide +kernel)) ggX0_ofReal_X0_root
set_option maxRecDepth 20000 in
theorem ggX0_ofReal_X0_keep : GoodIn wsX0_ofReal wsX0_keep := goodIn_r _ [10, 11, 12, 13, 14, 4, 15, 16, 17, 39, 40, 41, 42, 43, 44, 45, 46, 47, 48] (by decide +kernel) (by decide +kernel)
set_option maxRecDepth 20000 in
theorem gX0_ofReal_X0_keep : GoodIn wsX0_ofReal (wsV RX0 46 RX0 yX0_keep wsX0_keep) := goodIn_app (goodIn_of _ (by decide +kernel)) ggX0_ofReal_X0_keep
set_option maxRecDepth 20000 in
theorem ggX0_ofReal_X0_sine : GoodIn wsX0_ofReal wsX0_sine := goodIn_r _ [20, 21, 22, 23, 24, 25, 26, 27, 28, 29, 30, 31, 32, 4, 33, 1, 6, 34, 35, 36, 37, 38] (by decide +kernel) (by decide +kernel)
set_option maxRecDepth 20000 in
theorem gX0_ofReal_X0_sine : GoodIn wsX0_ofReal (va_wsS RX0 136 yX0_sine wsX0_sine) := goodIn_app (goodIn_of _ (by decide +kernel)) ggX0_ofReal_X0_sine
theorem dX0_ofReal_0 : decode cX0_ofReal 0 = .ok (.iload_n 1, 1) := by decide +kernel
theorem dX0_ofReal_1 : decode cX0_ofReal 1 = .ok (.tableswitch 72 6 8 #[27, 48, 58], 27) := by decide +kernel
theorem dX0_ofReal_28 : decode cX0_ofReal 28 = .ok (.lload_n 2, 1) := by decide +kernel
theorem dX0_ofReal_29 : decode cX0_ofReal 29 = .ok (.lconst 0, 1) := by decide +kernel
theorem dX0_ofReal_30 : decode cX0_ofReal 30 = .ok (.lcmp, 1) := by decide +kernel
theorem dX0_ofReal_31 : decode cX0_ofReal 31 = .ok (.ifCond .ge 8, 3) := by decide +kernel
theorem dX0_ofReal_34 : decode cX0_ofReal 34 = .ok (.bipush (-3), 2) := by decide +kernel
theorem dX0_ofReal_36 : decode cX0_ofReal 36 = .ok (.goto 12, 3) := by decide +kernel
theorem dX0_ofReal_39 : decode cX0_ofReal 39 = .ok (.aload_n 0, 1) := by decide +kernel
theorem dX0_ofReal_40 : decode cX0_ofReal 40 = .ok (.iconst 2, 1) := by decide +kernel
theorem dX0_ofReal_41 : decode cX0_ofReal 41 = .ok (.lload_n 2, 1) := by decide +kernel
theorem dX0_ofReal_42 : decode cX0_ofReal 42 = .ok (.invokestatic 133, 3) := by decide +kernel
theorem dX0_ofReal_45 : decode cX0_ofReal 45 = .ok (.invokevirtual 46, 3) := by decide +kernel
theorem dX0_ofReal_48 : decode cX0_ofReal 48 = .ok (.ireturn, 1) := by decide +kernel
theorem dX0_ofReal_49 : decode cX0_ofReal 49 = .ok (.aload_n 0, 1) := by decide +kernel
theorem dX0_ofReal_50 : decode cX0_ofReal 50 = .ok (.iconst 2, 1) := by decide +kernel
theorem dX0_ofReal_51 : decode cX0_ofReal 51 = .ok (.lload_n 2, 1) := by decide +kernel
theorem dX0_ofReal_52 : decode cX0_ofReal 52 = .ok (.invokestatic 136, 3) := by decide +kernel
theorem dX0_ofReal_55 : decode cX0_ofReal 55 = .ok (.invokevirtual 46, 3) := by decide +kernel
theorem dX0_ofReal_58 : decode cX0_ofReal 58 = .ok (.ireturn, 1) := by decide +kernel
theorem dX0_ofReal_59 : decode cX0_ofReal 59 = .ok (.aload_n 0, 1) := by decide +kernel
theorem dX0_ofReal_60 : decode cX0_ofReal 60 = .ok (.iconst 2, 1) := by decide +kernel
theorem dX0_ofReal_61 : decode cX0_ofReal 61 = .ok (.lload_n 2, 1) := by decide +kernel
theorem dX0_ofReal_62 : decode cX0_ofReal 62 = .ok (.ldc2_w 139, 3) := by decide +kernel
theorem dX0_ofReal_65 : decode cX0_ofReal 65 = .ok (.ladd, 1) := by decide +kernel
theorem dX0_ofReal_66 : decode cX0_ofReal 66 = .ok (.invokestatic 136, 3) := by decide +kernel
theorem dX0_ofReal_69 : decode cX0_ofReal 69 = .ok (.invokevirtual 46, 3) := by decide +kernel
theorem dX0_ofReal_72 : decode cX0_ofReal 72 = .ok (.ireturn, 1) := by decide +kernel
theorem dX0_ofReal_73 : decode cX0_ofReal 73 = .ok (.aload_n 0, 1) := by decide +kernel
theorem dX0_ofReal_74 : decode cX0_ofReal 74 = .ok (.iconst 2, 1) := by decide +kernel
theorem dX0_ofReal_75 : decode cX0_ofReal 75 = .ok (.lload_n 2, 1) := by decide +kernel
theorem dX0_ofReal_76 : decode cX0_ofReal 76 = .ok (.invokevirtual 46, 3) := by decide +kernel
theorem dX0_ofReal_79 : decode cX0_ofReal 79 = .ok (.ireturn, 1) := by decide +kernel
set_option maxRecDepth 20000 in
theorem ggX0_keep_X0_isReal : GoodIn wsX0_keep wsX0_isReal := goodIn_r _ [6, 7, 8] (by decide +kernel) (by decide +kernel)
set_option maxRecDepth 20000 in
theorem gX0_keep_X0_isReal : GoodIn wsX0_keep (va_wsS RX0 38 yX0_isReal wsX0_isReal) := goodIn_app (goodIn_of _ (by decide +kernel)) ggX0_keep_X0_isReal
theorem dX0_keep_0 : decode cX0_keep 0 = .ok (.iload_n 1, 1) := by decide +kernel
theorem dX0_keep_1 : decode cX0_keep 1 = .ok (.iconst 1, 1) := by decide +kernel
theorem dX0_keep_2 : decode cX0_keep 2 = .ok (.if_icmp .ne 19, 3) := by decide +kernel
theorem dX0_keep_5 : decode cX0_keep 5 = .ok (.lload_n 2, 1) := by decide +kernel
theorem dX0_keep_6 : decode cX0_keep 6 = .ok (.lload_n 2, 1) := by decide +kernel
theorem dX0_keep_7 : decode cX0_keep 7 = .ok (.l2i, 1) := by decide +kernel
theorem dX0_keep_8 : decode cX0_keep 8 = .ok (.i2l, 1) := by decide +kernel
theorem dX0_keep_9 : decode cX0_keep 9 = .ok (.lcmp, 1) := by decide +kernel
theorem dX0_keep_10 : decode cX0_keep 10 = .ok (.ifCond .ne 7, 3) := by decide +kernel
theorem dX0_keep_13 : decode cX0_keep 13 = .ok (.iconst 1, 1) := by decide +kernel
theorem dX0_keep_14 : decode cX0_keep 14 = .ok (.goto 11, 3) := by decide +kernel
theorem dX0_keep_17 : decode cX0_keep 17 = .ok (.iconst 0, 1) := by decide +kernel
theorem dX0_keep_18 : decode cX0_keep 18 = .ok (.goto 7, 3) := by decide +kernel
theorem dX0_keep_21 : decode cX0_keep 21 = .ok (.lload_n 2, 1) := by decide +kernel
theorem dX0_keep_22 : decode cX0_keep 22 = .ok (.invokestatic 38, 3) := by decide +kernel
theorem dX0_keep_25 : decode cX0_keep 25 = .ok (.istore 4, 2) := by decide +kernel
theorem dX0_keep_27 : decode cX0_keep 27 = .ok (.iload 4, 2) := by decide +kernel
theorem dX0_keep_29 : decode cX0_keep 29 = .ok (.ifCond .ne 6, 3) := by decide +kernel
theorem dX0_keep_32 : decode cX0_keep 32 = .ok (.bipush (-2), 2) := by decide +kernel
theorem dX0_keep_34 : decode cX0_keep 34 = .ok (.ireturn, 1) := by decide +kernel
theorem dX0_keep_35 : decode cX0_keep 35 = .ok (.aload_n 0, 1) := by decide +kernel
theorem dX0_keep_36 : decode cX0_keep 36 = .ok (.iload_n 1, 1) := by decide +kernel
theorem dX0_keep_37 : decode cX0_keep 37 = .ok (.putfield 11, 3) := by decide +kernel
theorem dX0_keep_40 : decode cX0_keep 40 = .ok (.aload_n 0, 1) := by decide +kernel
theorem dX0_keep_41 : decode cX0_keep 41 = .ok (.lload_n 2, 1) := by decide +kernel
theorem dX0_keep_42 : decode cX0_keep 42 = .ok (.l2i, 1) := by decide +kernel
theorem dX0_keep_43 : decode cX0_keep 43 = .ok (.putfield 59, 3) := by decide +kernel
theorem dX0_keep_46 : decode cX0_keep 46 = .ok (.iload_n 1, 1) := by decide +kernel
theorem dX0_keep_47 : decode cX0_keep 47 = .ok (.ireturn, 1) := by decide +kernel
set_option maxRecDepth 20000 in
theorem ggX0_keepMatrix_X0_areReals : GoodIn wsX0_keepMatrix wsX0_areReals := goodIn_r _ [10, 11, 12, 9, 13, 14, 15] (by decide +kernel) (by decide +kernel)
set_option maxRecDepth 20000 in
theorem gX0_keepMatrix_X0_areReals : GoodIn wsX0_keepMatrix (va_wsS RX0 84 yX0_areReals wsX0_areReals) := goodIn_app (goodIn_of _ (by decide +kernel)) ggX0_keepMatrix_X0_areReals
theorem dX0_keepMatrix_0 : decode cX0_keepMatrix 0 = .ok (.lload_n 1, 1) := by decide +kernel
theorem dX0_keepMatrix_1 : decode cX0_keepMatrix 1 = .ok (.lload_n 3, 1) := by decide +kernel
theorem dX0_keepMatrix_2 : decode cX0_keepMatrix 2 = .ok (.lload 5, 2) := by decide +kernel
theorem dX0_keepMatrix_4 : decode cX0_keepMatrix 4 = .ok (.lload 7, 2) := by decide +kernel
theorem dX0_keepMatrix_6 : decode cX0_keepMatrix 6 = .ok (.lload 9, 2) := by decide +kernel
theorem dX0_keepMatrix_8 : decode cX0_keepMatrix 8 = .ok (.lload 11, 2) := by decide +kernel
theorem dX0_keepMatrix_10 : decode cX0_keepMatrix 10 = .ok (.invokestatic 84, 3) := by decide +kernel
theorem dX0_keepMatrix_13 : decode cX0_keepMatrix 13 = .ok (.ifCond .ne 5, 3) := by decide +kernel
theorem dX0_keepMatrix_16 : decode cX0_keepMatrix 16 = .ok (.iconst 0, 1) := by decide +kernel
theorem dX0_keepMatrix_17 : decode cX0_keepMatrix 17 = .ok (.ireturn, 1) := by decide +kernel
theorem dX0_keepMatrix_18 : decode cX0_keepMatrix 18 = .ok (.aload_n 0, 1) := by decide +kernel
theorem dX0_keepMatrix_19 : decode cX0_keepMatrix 19 = .ok (.lload_n 1, 1) := by decide +kernel
theorem dX0_keepMatrix_20 : decode cX0_keepMatrix 20 = .ok (.l2i, 1) := by decide +kernel
theorem dX0_keepMatrix_21 : decode cX0_keepMatrix 21 = .ok (.putfield 16, 3) := by decide +kernel
theorem dX0_keepMatrix_24 : decode cX0_keepMatrix 24 = .ok (.aload_n 0, 1) := by decide +kernel
theorem dX0_keepMatrix_25 : decode cX0_keepMatrix 25 = .ok (.lload_n 3, 1) := by decide +kernel
theorem dX0_keepMatrix_26 : decode cX0_keepMatrix 26 = .ok (.l2i, 1) := by decide +kernel
theorem dX0_keepMatrix_27 : decode cX0_keepMatrix 27 = .ok (.putfield 72, 3) := by decide +kernel
theorem dX0_keepMatrix_30 : decode cX0_keepMatrix 30 = .ok (.aload_n 0, 1) := by decide +kernel
theorem dX0_keepMatrix_31 : decode cX0_keepMatrix 31 = .ok (.lload 5, 2) := by decide +kernel
theorem dX0_keepMatrix_33 : decode cX0_keepMatrix 33 = .ok (.l2i, 1) := by decide +kernel
theorem dX0_keepMatrix_34 : decode cX0_keepMatrix 34 = .ok (.putfield 75, 3) := by decide +kernel
theorem dX0_keepMatrix_37 : decode cX0_keepMatrix 37 = .ok (.aload_n 0, 1) := by decide +kernel
theorem dX0_keepMatrix_38 : decode cX0_keepMatrix 38 = .ok (.lload 7, 2) := by decide +kernel
theorem dX0_keepMatrix_40 : decode cX0_keepMatrix 40 = .ok (.l2i, 1) := by decide +kernel
theorem dX0_keepMatrix_41 : decode cX0_keepMatrix 41 = .ok (.putfield 19, 3) := by decide +kernel
theorem dX0_keepMatrix_44 : decode cX0_keepMatrix 44 = .ok (.aload_n 0, 1) := by decide +kernel
theorem dX0_keepMatrix_45 : decode cX0_keepMatrix 45 = .ok (.lload 9, 2) := by decide +kernel
theorem dX0_keepMatrix_47 : decode cX0_keepMatrix 47 = .ok (.l2i, 1) := by decide +kernel
theorem dX0_keepMatrix_48 : decode cX0_keepMatrix 48 = .ok (.putfield 78, 3) := by decide +kernel
theorem dX0_keepMatrix_51 : decode cX0_keepMatrix 51 = .ok (.aload_n 0, 1) := by decide +kernel
theorem dX0_keepMatrix_52 : decode cX0_keepMatrix 52 = .ok (.lload 11, 2) := by decide +kernel
theorem dX0_keepMatrix_54 : decode cX0_keepMatrix 54 = .ok (.l2i, 1) := by decide +kernel
theorem dX0_keepMatrix_55 : decode cX0_keepMatrix 55 = .ok (.putfield 81, 3) := by decide +kernel
theorem dX0_keepMatrix_58 : decode cX0_keepMatrix 58 = .ok (.iconst 1, 1) := by decide +kernel
theorem dX0_keepMatrix_59 : decode cX0_keepMatrix 59 = .ok (.ireturn, 1) := by decide +kernel
theorem dX0_shifted_0 : decode cX0_shifted 0 = .ok (.iload_n 1, 1) := by decide +kernel
theorem dX0_shifted_1 : decode cX0_shifted 1 = .ok (.bipush (-32), 2) := by decide +kernel
theorem dX0_shifted_3 : decode cX0_shifted 3 = .ok (.if_icmp .le 9, 3) := by decide +kernel
theorem dX0_shifted_6 : decode cX0_shifted 6 = .ok (.iload_n 1, 1) := by decide +kernel
theorem dX0_shifted_7 : decode cX0_shifted 7 = .ok (.bipush 32, 2) := by decide +kernel
theorem dX0_shifted_9 : decode cX0_shifted 9 = .ok (.if_icmp .lt 5, 3) := by decide +kernel
theorem dX0_shifted_12 : decode cX0_shifted 12 = .ok (.iconst 0, 1) := by decide +kernel
theorem dX0_shifted_13 : decode cX0_shifted 13 = .ok (.ireturn, 1) := by decide +kernel
theorem dX0_shifted_14 : decode cX0_shifted 14 = .ok (.iload_n 1, 1) := by decide +kernel
theorem dX0_shifted_15 : decode cX0_shifted 15 = .ok (.ifCond .lt 9, 3) := by decide +kernel
theorem dX0_shifted_18 : decode cX0_shifted 18 = .ok (.iload_n 0, 1) := by decide +kernel
theorem dX0_shifted_19 : decode cX0_shifted 19 = .ok (.iload_n 1, 1) := by decide +kernel
theorem dX0_shifted_20 : decode cX0_shifted 20 = .ok (.ishl, 1) := by decide +kernel
theorem dX0_shifted_21 : decode cX0_shifted 21 = .ok (.goto 7, 3) := by decide +kernel
theorem dX0_shifted_24 : decode cX0_shifted 24 = .ok (.iload_n 0, 1) := by decide +kernel
theorem dX0_shifted_25 : decode cX0_shifted 25 = .ok (.iload_n 1, 1) := by decide +kernel
theorem dX0_shifted_26 : decode cX0_shifted 26 = .ok (.ineg, 1) := by decide +kernel
theorem dX0_shifted_27 : decode cX0_shifted 27 = .ok (.iushr, 1) := by decide +kernel
theorem dX0_shifted_28 : decode cX0_shifted 28 = .ok (.ireturn, 1) := by decide +kernel
set_option maxRecDepth 20000 in
theorem ggX0_cut_X0_floor : GoodIn wsX0_cut wsX0_floor := goodIn_r _ [7] (by decide +kernel) (by decide +kernel)
set_option maxRecDepth 20000 in
theorem gX0_cut_X0_floor : GoodIn wsX0_cut (va_wsS RX0 143 yX0_floor wsX0_floor) := goodIn_app (goodIn_of _ (by decide +kernel)) ggX0_cut_X0_floor
theorem dX0_cut_0 : decode cX0_cut 0 = .ok (.iload_n 0, 1) := by decide +kernel
theorem dX0_cut_1 : decode cX0_cut 1 = .ok (.tableswitch 50 2 4 #[27, 36, 41], 27) := by decide +kernel
theorem dX0_cut_28 : decode cX0_cut 28 = .ok (.lload_n 1, 1) := by decide +kernel
theorem dX0_cut_29 : decode cX0_cut 29 = .ok (.ldc2_w 141, 3) := by decide +kernel
theorem dX0_cut_32 : decode cX0_cut 32 = .ok (.ladd, 1) := by decide +kernel
theorem dX0_cut_33 : decode cX0_cut 33 = .ok (.invokestatic 143, 3) := by decide +kernel
theorem dX0_cut_36 : decode cX0_cut 36 = .ok (.lreturn, 1) := by decide +kernel
theorem dX0_cut_37 : decode cX0_cut 37 = .ok (.lload_n 1, 1) := by decide +kernel
theorem dX0_cut_38 : decode cX0_cut 38 = .ok (.invokestatic 143, 3) := by decide +kernel
theorem dX0_cut_41 : decode cX0_cut 41 = .ok (.lreturn, 1) := by decide +kernel
theorem dX0_cut_42 : decode cX0_cut 42 = .ok (.lload_n 1, 1) := by decide +kernel
theorem dX0_cut_43 : decode cX0_cut 43 = .ok (.ldc2_w 146, 3) := by decide +kernel
theorem dX0_cut_46 : decode cX0_cut 46 = .ok (.ladd, 1) := by decide +kernel
theorem dX0_cut_47 : decode cX0_cut 47 = .ok (.invokestatic 143, 3) := by decide +kernel
theorem dX0_cut_50 : decode cX0_cut 50 = .ok (.lreturn, 1) := by decide +kernel
theorem dX0_cut_51 : decode cX0_cut 51 = .ok (.lload_n 1, 1) := by decide +kernel
theorem dX0_cut_52 : decode cX0_cut 52 = .ok (.ldc2_w 97, 3) := by decide +kernel
theorem dX0_cut_55 : decode cX0_cut 55 = .ok (.ldiv, 1) := by decide +kernel
theorem dX0_cut_56 : decode cX0_cut 56 = .ok (.ldc2_w 97, 3) := by decide +kernel
theorem dX0_cut_59 : decode cX0_cut 59 = .ok (.lmul, 1) := by decide +kernel
theorem dX0_cut_60 : decode cX0_cut 60 = .ok (.lreturn, 1) := by decide +kernel
theorem dX0_floor_0 : decode cX0_floor 0 = .ok (.lload_n 0, 1) := by decide +kernel
theorem dX0_floor_1 : decode cX0_floor 1 = .ok (.bipush 16, 2) := by decide +kernel
theorem dX0_floor_3 : decode cX0_floor 3 = .ok (.lshr, 1) := by decide +kernel
theorem dX0_floor_4 : decode cX0_floor 4 = .ok (.bipush 16, 2) := by decide +kernel
theorem dX0_floor_6 : decode cX0_floor 6 = .ok (.lshl, 1) := by decide +kernel
theorem dX0_floor_7 : decode cX0_floor 7 = .ok (.lreturn, 1) := by decide +kernel
theorem dX0_withoutPlaces_0 : decode cX0_withoutPlaces 0 = .ok (.lload_n 0, 1) := by decide +kernel
theorem dX0_withoutPlaces_1 : decode cX0_withoutPlaces 1 = .ok (.ldc2_w 146, 3) := by decide +kernel
theorem dX0_withoutPlaces_4 : decode cX0_withoutPlaces 4 = .ok (.ladd, 1) := by decide +kernel
theorem dX0_withoutPlaces_5 : decode cX0_withoutPlaces 5 = .ok (.bipush 16, 2) := by decide +kernel
theorem dX0_withoutPlaces_7 : decode cX0_withoutPlaces 7 = .ok (.lshr, 1) := by decide +kernel
theorem dX0_withoutPlaces_8 : decode cX0_withoutPlaces 8 = .ok (.lreturn, 1) := by decide +kernel
set_option maxRecDepth 20000 in
theorem ggX0_quotient_J9_floorDiv_f86c9 : GoodIn wsX0_quotient wsJ9_floorDiv_f86c9 := goodIn_r _ [12] (by decide +kernel) (by decide +kernel)
set_option maxRecDepth 20000 in
theorem gX0_quotient_J9_floorDiv_f86c9 : GoodIn wsX0_quotient (va_wsS RX0 148 yJ9_floorDiv_f86c9 wsJ9_floorDiv_f86c9) := goodIn_app (goodIn_of _ (by decide +kernel)) ggX0_quotient_J9_floorDiv_f86c9
theorem dX0_quotient_0 : decode cX0_quotient 0 = .ok (.lload_n 2, 1) := by decide +kernel
theorem dX0_quotient_1 : decode cX0_quotient 1 = .ok (.invokestatic 124, 3) := by decide +kernel
theorem dX0_quotient_4 : decode cX0_quotient 4 = .ok (.lstore 4, 2) := by decide +kernel
theorem dX0_quotient_6 : decode cX0_quotient 6 = .ok (.lload_n 2, 1) := by decide +kernel
theorem dX0_quotient_7 : decode cX0_quotient 7 = .ok (.lconst 0, 1) := by decide +kernel
theorem dX0_quotient_8 : decode cX0_quotient 8 = .ok (.lcmp, 1) := by decide +kernel
theorem dX0_quotient_9 : decode cX0_quotient 9 = .ok (.ifCond .ge 8, 3) := by decide +kernel
theorem dX0_quotient_12 : decode cX0_quotient 12 = .ok (.lload_n 0, 1) := by decide +kernel
theorem dX0_quotient_13 : decode cX0_quotient 13 = .ok (.lneg, 1) := by decide +kernel
theorem dX0_quotient_14 : decode cX0_quotient 14 = .ok (.goto 4, 3) := by decide +kernel
theorem dX0_quotient_17 : decode cX0_quotient 17 = .ok (.lload_n 0, 1) := by decide +kernel
theorem dX0_quotient_18 : decode cX0_quotient 18 = .ok (.lstore 6, 2) := by decide +kernel
theorem dX0_quotient_20 : decode cX0_quotient 20 = .ok (.lload 6, 2) := by decide +kernel
theorem dX0_quotient_22 : decode cX0_quotient 22 = .ok (.lload 4, 2) := by decide +kernel
theorem dX0_quotient_24 : decode cX0_quotient 24 = .ok (.invokestatic 148, 3) := by decide +kernel
theorem dX0_quotient_27 : decode cX0_quotient 27 = .ok (.lstore 8, 2) := by decide +kernel
theorem dX0_quotient_29 : decode cX0_quotient 29 = .ok (.lload 8, 2) := by decide +kernel
theorem dX0_quotient_31 : decode cX0_quotient 31 = .ok (.ldc2_w 151, 3) := by decide +kernel
theorem dX0_quotient_34 : decode cX0_quotient 34 = .ok (.lcmp, 1) := by decide +kernel
theorem dX0_quotient_35 : decode cX0_quotient 35 = .ok (.ifCond .lt 12, 3) := by decide +kernel
theorem dX0_quotient_38 : decode cX0_quotient 38 = .ok (.lload 8, 2) := by decide +kernel
theorem dX0_quotient_40 : decode cX0_quotient 40 = .ok (.ldc2_w 146, 3) := by decide +kernel
theorem dX0_quotient_43 : decode cX0_quotient 43 = .ok (.lcmp, 1) := by decide +kernel
theorem dX0_quotient_44 : decode cX0_quotient 44 = .ok (.ifCond .lt 7, 3) := by decide +kernel
theorem dX0_quotient_47 : decode cX0_quotient 47 = .ok (.ldc2_w 153, 3) := by decide +kernel
theorem dX0_quotient_50 : decode cX0_quotient 50 = .ok (.lreturn, 1) := by decide +kernel
theorem dX0_quotient_51 : decode cX0_quotient 51 = .ok (.lload 6, 2) := by decide +kernel
theorem dX0_quotient_53 : decode cX0_quotient 53 = .ok (.lload 8, 2) := by decide +kernel
theorem dX0_quotient_55 : decode cX0_quotient 55 = .ok (.lload 4, 2) := by decide +kernel
theorem dX0_quotient_57 : decode cX0_quotient 57 = .ok (.lmul, 1) := by decide +kernel
theorem dX0_quotient_58 : decode cX0_quotient 58 = .ok (.lsub, 1) := by decide +kernel
theorem dX0_quotient_59 : decode cX0_quotient 59 = .ok (.lstore 10, 2) := by decide +kernel
theorem dX0_quotient_61 : decode cX0_quotient 61 = .ok (.iconst 0, 1) := by decide +kernel
theorem dX0_quotient_62 : decode cX0_quotient 62 = .ok (.istore 12, 2) := by decide +kernel
theorem dX0_quotient_64 : decode cX0_quotient 64 = .ok (.iload 12, 2) := by decide +kernel
theorem dX0_quotient_66 : decode cX0_quotient 66 = .ok (.bipush 16, 2) := by decide +kernel
theorem dX0_quotient_68 : decode cX0_quotient 68 = .ok (.if_icmp .ge 71, 3) := by decide +kernel
theorem dX0_quotient_71 : decode cX0_quotient 71 = .ok (.lload 4, 2) := by decide +kernel
theorem dX0_quotient_73 : decode cX0_quotient 73 = .ok (.lload 10, 2) := by decide +kernel
theorem dX0_quotient_75 : decode cX0_quotient 75 = .ok (.lsub, 1) := by decide +kernel
theorem dX0_quotient_76 : decode cX0_quotient 76 = .ok (.lstore 13, 2) := by decide +kernel
theorem dX0_quotient_78 : decode cX0_quotient 78 = .ok (.lload 10, 2) := by decide +kernel
theorem dX0_quotient_80 : decode cX0_quotient 80 = .ok (.lload 13, 2) := by decide +kernel
theorem dX0_quotient_82 : decode cX0_quotient 82 = .ok (.lcmp, 1) := by decide +kernel
theorem dX0_quotient_83 : decode cX0_quotient 83 = .ok (.ifCond .lt 7, 3) := by decide +kernel
theorem dX0_quotient_86 : decode cX0_quotient 86 = .ok (.iconst 1, 1) := by decide +kernel
theorem dX0_quotient_87 : decode cX0_quotient 87 = .ok (.goto 4, 3) := by decide +kernel
theorem dX0_quotient_90 : decode cX0_quotient 90 = .ok (.iconst 0, 1) := by decide +kernel
theorem dX0_quotient_91 : decode cX0_quotient 91 = .ok (.istore 15, 2) := by decide +kernel
theorem dX0_quotient_93 : decode cX0_quotient 93 = .ok (.ldc2_w 155, 3) := by decide +kernel
theorem dX0_quotient_96 : decode cX0_quotient 96 = .ok (.lload 8, 2) := by decide +kernel
theorem dX0_quotient_98 : decode cX0_quotient 98 = .ok (.lmul, 1) := by decide +kernel
theorem dX0_quotient_99 : decode cX0_quotient 99 = .ok (.iload 15, 2) := by decide +kernel
theorem dX0_quotient_101 : decode cX0_quotient 101 = .ok (.ifCond .eq 7, 3) := by decide +kernel
theorem dX0_quotient_104 : decode cX0_quotient 104 = .ok (.iconst 1, 1) := by decide +kernel
theorem dX0_quotient_105 : decode cX0_quotient 105 = .ok (.goto 4, 3) := by decide +kernel
theorem dX0_quotient_108 : decode cX0_quotient 108 = .ok (.iconst 0, 1) := by decide +kernel
theorem dX0_quotient_109 : decode cX0_quotient 109 = .ok (.i2l, 1) := by decide +kernel
theorem dX0_quotient_110 : decode cX0_quotient 110 = .ok (.ladd, 1) := by decide +kernel
theorem dX0_quotient_111 : decode cX0_quotient 111 = .ok (.lstore 8, 2) := by decide +kernel
theorem dX0_quotient_113 : decode cX0_quotient 113 = .ok (.iload 15, 2) := by decide +kernel
theorem dX0_quotient_115 : decode cX0_quotient 115 = .ok (.ifCond .eq 11, 3) := by decide +kernel
theorem dX0_quotient_118 : decode cX0_quotient 118 = .ok (.lload 10, 2) := by decide +kernel
theorem dX0_quotient_120 : decode cX0_quotient 120 = .ok (.lload 13, 2) := by decide +kernel
theorem dX0_quotient_122 : decode cX0_quotient 122 = .ok (.lsub, 1) := by decide +kernel
theorem dX0_quotient_123 : decode cX0_quotient 123 = .ok (.goto 8, 3) := by decide +kernel
theorem dX0_quotient_126 : decode cX0_quotient 126 = .ok (.lload 10, 2) := by decide +kernel
theorem dX0_quotient_128 : decode cX0_quotient 128 = .ok (.lload 10, 2) := by decide +kernel
theorem dX0_quotient_130 : decode cX0_quotient 130 = .ok (.ladd, 1) := by decide +kernel
theorem dX0_quotient_131 : decode cX0_quotient 131 = .ok (.lstore 10, 2) := by decide +kernel
theorem dX0_quotient_133 : decode cX0_quotient 133 = .ok (.iinc 12 1, 3) := by decide +kernel
theorem dX0_quotient_136 : decode cX0_quotient 136 = .ok (.goto (-72), 3) := by decide +kernel
theorem dX0_quotient_139 : decode cX0_quotient 139 = .ok (.lload 10, 2) := by decide +kernel
theorem dX0_quotient_141 : decode cX0_quotient 141 = .ok (.lload 4, 2) := by decide +kernel
theorem dX0_quotient_143 : decode cX0_quotient 143 = .ok (.lload 10, 2) := by decide +kernel
theorem dX0_quotient_145 : decode cX0_quotient 145 = .ok (.lsub, 1) := by decide +kernel
theorem dX0_quotient_146 : decode cX0_quotient 146 = .ok (.lcmp, 1) := by decide +kernel
theorem dX0_quotient_147 : decode cX0_quotient 147 = .ok (.ifCond .lt 10, 3) := by decide +kernel
theorem dX0_quotient_150 : decode cX0_quotient 150 = .ok (.lload 8, 2) := by decide +kernel
theorem dX0_quotient_152 : decode cX0_quotient 152 = .ok (.lconst 1, 1) := by decide +kernel
theorem dX0_quotient_153 : decode cX0_quotient 153 = .ok (.ladd, 1) := by decide +kernel
theorem dX0_quotient_154 : decode cX0_quotient 154 = .ok (.goto 5, 3) := by decide +kernel
theorem dX0_quotient_157 : decode cX0_quotient 157 = .ok (.lload 8, 2) := by decide +kernel
theorem dX0_quotient_159 : decode cX0_quotient 159 = .ok (.lreturn, 1) := by decide +kernel
theorem dX0_root_0 : decode cX0_root 0 = .ok (.lload_n 0, 1) := by decide +kernel
theorem dX0_root_1 : decode cX0_root 1 = .ok (.ldc2_w 97, 3) := by decide +kernel
theorem dX0_root_4 : decode cX0_root 4 = .ok (.lmul, 1) := by decide +kernel
theorem dX0_root_5 : decode cX0_root 5 = .ok (.lstore_n 2, 1) := by decide +kernel
theorem dX0_root_6 : decode cX0_root 6 = .ok (.lconst 0, 1) := by decide +kernel
theorem dX0_root_7 : decode cX0_root 7 = .ok (.lstore 4, 2) := by decide +kernel
theorem dX0_root_9 : decode cX0_root 9 = .ok (.bipush 23, 2) := by decide +kernel
theorem dX0_root_11 : decode cX0_root 11 = .ok (.istore 6, 2) := by decide +kernel
theorem dX0_root_13 : decode cX0_root 13 = .ok (.iload 6, 2) := by decide +kernel
theorem dX0_root_15 : decode cX0_root 15 = .ok (.ifCond .lt 32, 3) := by decide +kernel
theorem dX0_root_18 : decode cX0_root 18 = .ok (.lload 4, 2) := by decide +kernel
theorem dX0_root_20 : decode cX0_root 20 = .ok (.lconst 1, 1) := by decide +kernel
theorem dX0_root_21 : decode cX0_root 21 = .ok (.iload 6, 2) := by decide +kernel
theorem dX0_root_23 : decode cX0_root 23 = .ok (.lshl, 1) := by decide +kernel
theorem dX0_root_24 : decode cX0_root 24 = .ok (.ladd, 1) := by decide +kernel
theorem dX0_root_25 : decode cX0_root 25 = .ok (.lstore 7, 2) := by decide +kernel
theorem dX0_root_27 : decode cX0_root 27 = .ok (.lload 7, 2) := by decide +kernel
theorem dX0_root_29 : decode cX0_root 29 = .ok (.lload 7, 2) := by decide +kernel
theorem dX0_root_31 : decode cX0_root 31 = .ok (.lmul, 1) := by decide +kernel
theorem dX0_root_32 : decode cX0_root 32 = .ok (.lload_n 2, 1) := by decide +kernel
theorem dX0_root_33 : decode cX0_root 33 = .ok (.lcmp, 1) := by decide +kernel
theorem dX0_root_34 : decode cX0_root 34 = .ok (.ifCond .gt 7, 3) := by decide +kernel
theorem dX0_root_37 : decode cX0_root 37 = .ok (.lload 7, 2) := by decide +kernel
theorem dX0_root_39 : decode cX0_root 39 = .ok (.lstore 4, 2) := by decide +kernel
theorem dX0_root_41 : decode cX0_root 41 = .ok (.iinc 6 (-1), 3) := by decide +kernel
theorem dX0_root_44 : decode cX0_root 44 = .ok (.goto (-31), 3) := by decide +kernel
theorem dX0_root_47 : decode cX0_root 47 = .ok (.lload 4, 2) := by decide +kernel
theorem dX0_root_49 : decode cX0_root 49 = .ok (.lreturn, 1) := by decide +kernel
set_option maxRecDepth 20000 in
theorem ggX0_sine_J9_floorMod_f86c9 : GoodIn wsX0_sine wsJ9_floorMod_f86c9 := goodIn_r _ [10] (by decide +kernel) (by decide +kernel)
set_option maxRecDepth 20000 in
theorem gX0_sine_J9_floorMod_f86c9 : GoodIn wsX0_sine (va_wsS RX0 159 yJ9_floorMod_f86c9 wsJ9_floorMod_f86c9) := goodIn_app (goodIn_of _ (by decide +kernel)) ggX0_sine_J9_floorMod_f86c9
set_option maxRecDepth 20000 in
theorem ggX0_sine_X0_sineOfFirstQuarter : GoodIn wsX0_sine wsX0_sineOfFirstQuarter := goodIn_r _ [14, 15, 16, 17, 18, 19, 13, 20, 21] (by decide +kernel) (by decide +kernel)
set_option maxRecDepth 20000 in
theorem gX0_sine_X0_sineOfFirstQuarter : GoodIn wsX0_sine (va_wsS RX0 167 yX0_sineOfFirstQuarter wsX0_sineOfFirstQuarter) := goodIn_app (goodIn_of _ (by decide +kernel)) ggX0_sine_X0_sineOfFirstQuarter
theorem dX0_sine_0 : decode cX0_sine 0 = .ok (.lload_n 0, 1) := by decide +kernel
theorem dX0_sine_1 : decode cX0_sine 1 = .ok (.ldc2_w 157, 3) := by decide +kernel
theorem dX0_sine_4 : decode cX0_sine 4 = .ok (.invokestatic 159, 3) := by decide +kernel
theorem dX0_sine_7 : decode cX0_sine 7 = .ok (.lstore_n 2, 1) := by decide +kernel
theorem dX0_sine_8 : decode cX0_sine 8 = .ok (.lload_n 2, 1) := by decide +kernel
theorem dX0_sine_9 : decode cX0_sine 9 = .ok (.ldc2_w 162, 3) := by decide +kernel
theorem dX0_sine_12 : decode cX0_sine 12 = .ok (.lcmp, 1) := by decide +kernel
theorem dX0_sine_13 : decode cX0_sine 13 = .ok (.ifCond .ge 7, 3) := by decide +kernel
theorem dX0_sine_16 : decode cX0_sine 16 = .ok (.lload_n 2, 1) := by decide +kernel
theorem dX0_sine_17 : decode cX0_sine 17 = .ok (.goto 8, 3) := by decide +kernel
theorem dX0_sine_20 : decode cX0_sine 20 = .ok (.lload_n 2, 1) := by decide +kernel
theorem dX0_sine_21 : decode cX0_sine 21 = .ok (.ldc2_w 162, 3) := by decide +kernel
theorem dX0_sine_24 : decode cX0_sine 24 = .ok (.lsub, 1) := by decide +kernel
theorem dX0_sine_25 : decode cX0_sine 25 = .ok (.lstore 4, 2) := by decide +kernel
theorem dX0_sine_27 : decode cX0_sine 27 = .ok (.lload 4, 2) := by decide +kernel
theorem dX0_sine_29 : decode cX0_sine 29 = .ok (.ldc2_w 162, 3) := by decide +kernel
theorem dX0_sine_32 : decode cX0_sine 32 = .ok (.lload 4, 2) := by decide +kernel
theorem dX0_sine_34 : decode cX0_sine 34 = .ok (.lsub, 1) := by decide +kernel
theorem dX0_sine_35 : decode cX0_sine 35 = .ok (.invokestatic 164, 3) := by decide +kernel
theorem dX0_sine_38 : decode cX0_sine 38 = .ok (.invokestatic 167, 3) := by decide +kernel
theorem dX0_sine_41 : decode cX0_sine 41 = .ok (.lstore 6, 2) := by decide +kernel
theorem dX0_sine_43 : decode cX0_sine 43 = .ok (.lload_n 2, 1) := by decide +kernel
theorem dX0_sine_44 : decode cX0_sine 44 = .ok (.ldc2_w 162, 3) := by decide +kernel
theorem dX0_sine_47 : decode cX0_sine 47 = .ok (.lcmp, 1) := by decide +kernel
theorem dX0_sine_48 : decode cX0_sine 48 = .ok (.ifCond .ge 8, 3) := by decide +kernel
theorem dX0_sine_51 : decode cX0_sine 51 = .ok (.lload 6, 2) := by decide +kernel
theorem dX0_sine_53 : decode cX0_sine 53 = .ok (.goto 6, 3) := by decide +kernel
theorem dX0_sine_56 : decode cX0_sine 56 = .ok (.lload 6, 2) := by decide +kernel
theorem dX0_sine_58 : decode cX0_sine 58 = .ok (.lneg, 1) := by decide +kernel
theorem dX0_sine_59 : decode cX0_sine 59 = .ok (.lreturn, 1) := by decide +kernel
set_option maxRecDepth 20000 in
theorem ggX0_sineOfFirstQuarter_X0_withoutPlaces : GoodIn wsX0_sineOfFirstQuarter wsX0_withoutPlaces := goodIn_r _ [7, 8] (by decide +kernel) (by decide +kernel)
set_option maxRecDepth 20000 in
theorem gX0_sineOfFirstQuarter_X0_withoutPlaces : GoodIn wsX0_sineOfFirstQuarter (va_wsS RX0 117 yX0_withoutPlaces wsX0_withoutPlaces) := goodIn_app (goodIn_of _ (by decide +kernel)) ggX0_sineOfFirstQuarter_X0_withoutPlaces
theorem dX0_sineOfFirstQuarter_0 : decode cX0_sineOfFirstQuarter 0 = .ok (.lload_n 0, 1) := by decide +kernel
theorem dX0_sineOfFirstQuarter_1 : decode cX0_sineOfFirstQuarter 1 = .ok (.lconst 0, 1) := by decide +kernel
theorem dX0_sineOfFirstQuarter_2 : decode cX0_sineOfFirstQuarter 2 = .ok (.lcmp, 1) := by decide +kernel
theorem dX0_sineOfFirstQuarter_3 : decode cX0_sineOfFirstQuarter 3 = .ok (.ifCond .gt 5, 3) := by decide +kernel
theorem dX0_sineOfFirstQuarter_6 : decode cX0_sineOfFirstQuarter 6 = .ok (.lconst 0, 1) := by decide +kernel
theorem dX0_sineOfFirstQuarter_7 : decode cX0_sineOfFirstQuarter 7 = .ok (.lreturn, 1) := by decide +kernel
theorem dX0_sineOfFirstQuarter_8 : decode cX0_sineOfFirstQuarter 8 = .ok (.lload_n 0, 1) := by decide +kernel
theorem dX0_sineOfFirstQuarter_9 : decode cX0_sineOfFirstQuarter 9 = .ok (.ldc2_w 139, 3) := by decide +kernel
theorem dX0_sineOfFirstQuarter_12 : decode cX0_sineOfFirstQuarter 12 = .ok (.lcmp, 1) := by decide +kernel
theorem dX0_sineOfFirstQuarter_13 : decode cX0_sineOfFirstQuarter 13 = .ok (.ifCond .lt 7, 3) := by decide +kernel
theorem dX0_sineOfFirstQuarter_16 : decode cX0_sineOfFirstQuarter 16 = .ok (.ldc2_w 97, 3) := by decide +kernel
theorem dX0_sineOfFirstQuarter_19 : decode cX0_sineOfFirstQuarter 19 = .ok (.lreturn, 1) := by decide +kernel
theorem dX0_sineOfFirstQuarter_20 : decode cX0_sineOfFirstQuarter 20 = .ok (.lload_n 0, 1) := by decide +kernel
theorem dX0_sineOfFirstQuarter_21 : decode cX0_sineOfFirstQuarter 21 = .ok (.bipush 16, 2) := by decide +kernel
theorem dX0_sineOfFirstQuarter_23 : decode cX0_sineOfFirstQuarter 23 = .ok (.lshr, 1) := by decide +kernel
theorem dX0_sineOfFirstQuarter_24 : decode cX0_sineOfFirstQuarter 24 = .ok (.l2i, 1) := by decide +kernel
theorem dX0_sineOfFirstQuarter_25 : decode cX0_sineOfFirstQuarter 25 = .ok (.istore_n 2, 1) := by decide +kernel
theorem dX0_sineOfFirstQuarter_26 : decode cX0_sineOfFirstQuarter 26 = .ok (.lload_n 0, 1) := by decide +kernel
theorem dX0_sineOfFirstQuarter_27 : decode cX0_sineOfFirstQuarter 27 = .ok (.iload_n 2, 1) := by decide +kernel
theorem dX0_sineOfFirstQuarter_28 : decode cX0_sineOfFirstQuarter 28 = .ok (.i2l, 1) := by decide +kernel
theorem dX0_sineOfFirstQuarter_29 : decode cX0_sineOfFirstQuarter 29 = .ok (.ldc2_w 97, 3) := by decide +kernel
theorem dX0_sineOfFirstQuarter_32 : decode cX0_sineOfFirstQuarter 32 = .ok (.lmul, 1) := by decide +kernel
theorem dX0_sineOfFirstQuarter_33 : decode cX0_sineOfFirstQuarter 33 = .ok (.lsub, 1) := by decide +kernel
theorem dX0_sineOfFirstQuarter_34 : decode cX0_sineOfFirstQuarter 34 = .ok (.lstore_n 3, 1) := by decide +kernel
theorem dX0_sineOfFirstQuarter_35 : decode cX0_sineOfFirstQuarter 35 = .ok (.getstatic 170, 3) := by decide +kernel
theorem dX0_sineOfFirstQuarter_38 : decode cX0_sineOfFirstQuarter 38 = .ok (.iload_n 2, 1) := by decide +kernel
theorem dX0_sineOfFirstQuarter_39 : decode cX0_sineOfFirstQuarter 39 = .ok (.iaload, 1) := by decide +kernel
theorem dX0_sineOfFirstQuarter_40 : decode cX0_sineOfFirstQuarter 40 = .ok (.i2l, 1) := by decide +kernel
theorem dX0_sineOfFirstQuarter_41 : decode cX0_sineOfFirstQuarter 41 = .ok (.getstatic 170, 3) := by decide +kernel
theorem dX0_sineOfFirstQuarter_44 : decode cX0_sineOfFirstQuarter 44 = .ok (.iload_n 2, 1) := by decide +kernel
theorem dX0_sineOfFirstQuarter_45 : decode cX0_sineOfFirstQuarter 45 = .ok (.iconst 1, 1) := by decide +kernel
theorem dX0_sineOfFirstQuarter_46 : decode cX0_sineOfFirstQuarter 46 = .ok (.iadd, 1) := by decide +kernel
theorem dX0_sineOfFirstQuarter_47 : decode cX0_sineOfFirstQuarter 47 = .ok (.iaload, 1) := by decide +kernel
theorem dX0_sineOfFirstQuarter_48 : decode cX0_sineOfFirstQuarter 48 = .ok (.getstatic 170, 3) := by decide +kernel
theorem dX0_sineOfFirstQuarter_51 : decode cX0_sineOfFirstQuarter 51 = .ok (.iload_n 2, 1) := by decide +kernel
theorem dX0_sineOfFirstQuarter_52 : decode cX0_sineOfFirstQuarter 52 = .ok (.iaload, 1) := by decide +kernel
theorem dX0_sineOfFirstQuarter_53 : decode cX0_sineOfFirstQuarter 53 = .ok (.isub, 1) := by decide +kernel
theorem dX0_sineOfFirstQuarter_54 : decode cX0_sineOfFirstQuarter 54 = .ok (.i2l, 1) := by decide +kernel
theorem dX0_sineOfFirstQuarter_55 : decode cX0_sineOfFirstQuarter 55 = .ok (.lload_n 3, 1) := by decide +kernel
theorem dX0_sineOfFirstQuarter_56 : decode cX0_sineOfFirstQuarter 56 = .ok (.lmul, 1) := by decide +kernel
theorem dX0_sineOfFirstQuarter_57 : decode cX0_sineOfFirstQuarter 57 = .ok (.invokestatic 117, 3) := by decide +kernel
theorem dX0_sineOfFirstQuarter_60 : decode cX0_sineOfFirstQuarter 60 = .ok (.ladd, 1) := by decide +kernel
theorem dX0_sineOfFirstQuarter_61 : decode cX0_sineOfFirstQuarter 61 = .ok (.lreturn, 1) := by decide +kernel
set_option maxRecDepth 20000 in
theorem ggX0_angle_X0_angleOfFirstQuarter : GoodIn wsX0_angle wsX0_angleOfFirstQuarter := goodIn_r _ [10, 11, 12, 13, 14, 15, 9, 16, 17, 18, 3, 19, 20, 21, 22, 23, 24, 25, 26, 27, 28] (by decide +kernel) (by decide +kernel)
set_option maxRecDepth 20000 in
theorem gX0_angle_X0_angleOfFirstQuarter : GoodIn wsX0_angle (va_wsS RX0 174 yX0_angleOfFirstQuarter wsX0_angleOfFirstQuarter) := goodIn_app (goodIn_of _ (by decide +kernel)) ggX0_angle_X0_angleOfFirstQuarter
theorem dX0_angle_0 : decode cX0_angle 0 = .ok (.lload_n 0, 1) := by decide +kernel
theorem dX0_angle_1 : decode cX0_angle 1 = .ok (.invokestatic 124, 3) := by decide +kernel
theorem dX0_angle_4 : decode cX0_angle 4 = .ok (.lload_n 2, 1) := by decide +kernel
theorem dX0_angle_5 : decode cX0_angle 5 = .ok (.invokestatic 124, 3) := by decide +kernel
theorem dX0_angle_8 : decode cX0_angle 8 = .ok (.invokestatic 174, 3) := by decide +kernel
theorem dX0_angle_11 : decode cX0_angle 11 = .ok (.lstore 4, 2) := by decide +kernel
theorem dX0_angle_13 : decode cX0_angle 13 = .ok (.lload_n 0, 1) := by decide +kernel
theorem dX0_angle_14 : decode cX0_angle 14 = .ok (.lconst 0, 1) := by decide +kernel
theorem dX0_angle_15 : decode cX0_angle 15 = .ok (.lcmp, 1) := by decide +kernel
theorem dX0_angle_16 : decode cX0_angle 16 = .ok (.ifCond .ge 12, 3) := by decide +kernel
theorem dX0_angle_19 : decode cX0_angle 19 = .ok (.ldc2_w 162, 3) := by decide +kernel
theorem dX0_angle_22 : decode cX0_angle 22 = .ok (.lload 4, 2) := by decide +kernel
theorem dX0_angle_24 : decode cX0_angle 24 = .ok (.lsub, 1) := by decide +kernel
theorem dX0_angle_25 : decode cX0_angle 25 = .ok (.goto 5, 3) := by decide +kernel
theorem dX0_angle_28 : decode cX0_angle 28 = .ok (.lload 4, 2) := by decide +kernel
theorem dX0_angle_30 : decode cX0_angle 30 = .ok (.lstore 6, 2) := by decide +kernel
theorem dX0_angle_32 : decode cX0_angle 32 = .ok (.lload_n 2, 1) := by decide +kernel
theorem dX0_angle_33 : decode cX0_angle 33 = .ok (.lconst 0, 1) := by decide +kernel
theorem dX0_angle_34 : decode cX0_angle 34 = .ok (.lcmp, 1) := by decide +kernel
theorem dX0_angle_35 : decode cX0_angle 35 = .ok (.ifCond .ge 19, 3) := by decide +kernel
theorem dX0_angle_38 : decode cX0_angle 38 = .ok (.lload 6, 2) := by decide +kernel
theorem dX0_angle_40 : decode cX0_angle 40 = .ok (.lconst 0, 1) := by decide +kernel
theorem dX0_angle_41 : decode cX0_angle 41 = .ok (.lcmp, 1) := by decide +kernel
theorem dX0_angle_42 : decode cX0_angle 42 = .ok (.ifCond .eq 12, 3) := by decide +kernel
theorem dX0_angle_45 : decode cX0_angle 45 = .ok (.ldc2_w 157, 3) := by decide +kernel
theorem dX0_angle_48 : decode cX0_angle 48 = .ok (.lload 6, 2) := by decide +kernel
theorem dX0_angle_50 : decode cX0_angle 50 = .ok (.lsub, 1) := by decide +kernel
theorem dX0_angle_51 : decode cX0_angle 51 = .ok (.goto 5, 3) := by decide +kernel
theorem dX0_angle_54 : decode cX0_angle 54 = .ok (.lload 6, 2) := by decide +kernel
theorem dX0_angle_56 : decode cX0_angle 56 = .ok (.lreturn, 1) := by decide +kernel
set_option maxRecDepth 20000 in
theorem ggX0_angleOfFirstQuarter_X0_greatestAngle : GoodIn wsX0_angleOfFirstQuarter wsX0_greatestAngle := goodIn_r _ [7, 1, 8, 9, 10, 11, 12, 13, 6, 14, 15, 16, 17, 18, 19, 20] (by decide +kernel) (by decide +kernel)
set_option maxRecDepth 20000 in
theorem gX0_angleOfFirstQuarter_X0_greatestAngle : GoodIn wsX0_angleOfFirstQuarter (va_wsS RX0 179 yX0_greatestAngle wsX0_greatestAngle) := goodIn_app (goodIn_of _ (by decide +kernel)) ggX0_angleOfFirstQuarter_X0_greatestAngle
theorem dX0_angleOfFirstQuarter_0 : decode cX0_angleOfFirstQuarter 0 = .ok (.lload_n 2, 1) := by decide +kernel
theorem dX0_angleOfFirstQuarter_1 : decode cX0_angleOfFirstQuarter 1 = .ok (.lconst 0, 1) := by decide +kernel
theorem dX0_angleOfFirstQuarter_2 : decode cX0_angleOfFirstQuarter 2 = .ok (.lcmp, 1) := by decide +kernel
theorem dX0_angleOfFirstQuarter_3 : decode cX0_angleOfFirstQuarter 3 = .ok (.ifCond .ne 5, 3) := by decide +kernel
theorem dX0_angleOfFirstQuarter_6 : decode cX0_angleOfFirstQuarter 6 = .ok (.lconst 0, 1) := by decide +kernel
theorem dX0_angleOfFirstQuarter_7 : decode cX0_angleOfFirstQuarter 7 = .ok (.lreturn, 1) := by decide +kernel
theorem dX0_angleOfFirstQuarter_8 : decode cX0_angleOfFirstQuarter 8 = .ok (.lload_n 0, 1) := by decide +kernel
theorem dX0_angleOfFirstQuarter_9 : decode cX0_angleOfFirstQuarter 9 = .ok (.lconst 0, 1) := by decide +kernel
theorem dX0_angleOfFirstQuarter_10 : decode cX0_angleOfFirstQuarter 10 = .ok (.lcmp, 1) := by decide +kernel
theorem dX0_angleOfFirstQuarter_11 : decode cX0_angleOfFirstQuarter 11 = .ok (.ifCond .ne 7, 3) := by decide +kernel
theorem dX0_angleOfFirstQuarter_14 : decode cX0_angleOfFirstQuarter 14 = .ok (.ldc2_w 139, 3) := by decide +kernel
theorem dX0_angleOfFirstQuarter_17 : decode cX0_angleOfFirstQuarter 17 = .ok (.lreturn, 1) := by decide +kernel
theorem dX0_angleOfFirstQuarter_18 : decode cX0_angleOfFirstQuarter 18 = .ok (.lload_n 0, 1) := by decide +kernel
theorem dX0_angleOfFirstQuarter_19 : decode cX0_angleOfFirstQuarter 19 = .ok (.lload_n 2, 1) := by decide +kernel
theorem dX0_angleOfFirstQuarter_20 : decode cX0_angleOfFirstQuarter 20 = .ok (.ldc2_w 177, 3) := by decide +kernel
theorem dX0_angleOfFirstQuarter_23 : decode cX0_angleOfFirstQuarter 23 = .ok (.invokestatic 179, 3) := by decide +kernel
theorem dX0_angleOfFirstQuarter_26 : decode cX0_angleOfFirstQuarter 26 = .ok (.lconst 1, 1) := by decide +kernel
theorem dX0_angleOfFirstQuarter_27 : decode cX0_angleOfFirstQuarter 27 = .ok (.ladd, 1) := by decide +kernel
theorem dX0_angleOfFirstQuarter_28 : decode cX0_angleOfFirstQuarter 28 = .ok (.lstore 4, 2) := by decide +kernel
theorem dX0_angleOfFirstQuarter_30 : decode cX0_angleOfFirstQuarter 30 = .ok (.lload_n 0, 1) := by decide +kernel
theorem dX0_angleOfFirstQuarter_31 : decode cX0_angleOfFirstQuarter 31 = .ok (.lload_n 2, 1) := by decide +kernel
theorem dX0_angleOfFirstQuarter_32 : decode cX0_angleOfFirstQuarter 32 = .ok (.lconst 0, 1) := by decide +kernel
theorem dX0_angleOfFirstQuarter_33 : decode cX0_angleOfFirstQuarter 33 = .ok (.invokestatic 179, 3) := by decide +kernel
theorem dX0_angleOfFirstQuarter_36 : decode cX0_angleOfFirstQuarter 36 = .ok (.lstore 6, 2) := by decide +kernel
theorem dX0_angleOfFirstQuarter_38 : decode cX0_angleOfFirstQuarter 38 = .ok (.lload 4, 2) := by decide +kernel
theorem dX0_angleOfFirstQuarter_40 : decode cX0_angleOfFirstQuarter 40 = .ok (.lload 6, 2) := by decide +kernel
theorem dX0_angleOfFirstQuarter_42 : decode cX0_angleOfFirstQuarter 42 = .ok (.ladd, 1) := by decide +kernel
theorem dX0_angleOfFirstQuarter_43 : decode cX0_angleOfFirstQuarter 43 = .ok (.ldc2_w 155, 3) := by decide +kernel
theorem dX0_angleOfFirstQuarter_46 : decode cX0_angleOfFirstQuarter 46 = .ok (.ldiv, 1) := by decide +kernel
theorem dX0_angleOfFirstQuarter_47 : decode cX0_angleOfFirstQuarter 47 = .ok (.lreturn, 1) := by decide +kernel
set_option maxRecDepth 20000 in
theorem ggX0_greatestAngle_X0_sineOfFirstQuarter : GoodIn wsX0_greatestAngle wsX0_sineOfFirstQuarter := goodIn_r _ [9, 1, 10, 11, 12, 13, 8, 14, 15] (by decide +kernel) (by decide +kernel)
set_option maxRecDepth 20000 in
theorem gX0_greatestAngle_X0_sineOfFirstQuarter : GoodIn wsX0_greatestAngle (va_wsS RX0 167 yX0_sineOfFirstQuarter wsX0_sineOfFirstQuarter) := goodIn_app (goodIn_of _ (by decide +kernel)) ggX0_greatestAngle_X0_sineOfFirstQuarter
theorem dX0_greatestAngle_0 : decode cX0_greatestAngle 0 = .ok (.lconst 0, 1) := by decide +kernel
theorem dX0_greatestAngle_1 : decode cX0_greatestAngle 1 = .ok (.lstore 6, 2) := by decide +kernel
theorem dX0_greatestAngle_3 : decode cX0_greatestAngle 3 = .ok (.bipush 22, 2) := by decide +kernel
theorem dX0_greatestAngle_5 : decode cX0_greatestAngle 5 = .ok (.istore 8, 2) := by decide +kernel
theorem dX0_greatestAngle_7 : decode cX0_greatestAngle 7 = .ok (.iload 8, 2) := by decide +kernel
theorem dX0_greatestAngle_9 : decode cX0_greatestAngle 9 = .ok (.ifCond .lt 61, 3) := by decide +kernel
theorem dX0_greatestAngle_12 : decode cX0_greatestAngle 12 = .ok (.lload 6, 2) := by decide +kernel
theorem dX0_greatestAngle_14 : decode cX0_greatestAngle 14 = .ok (.lconst 1, 1) := by decide +kernel
theorem dX0_greatestAngle_15 : decode cX0_greatestAngle 15 = .ok (.iload 8, 2) := by decide +kernel
theorem dX0_greatestAngle_17 : decode cX0_greatestAngle 17 = .ok (.lshl, 1) := by decide +kernel
theorem dX0_greatestAngle_18 : decode cX0_greatestAngle 18 = .ok (.ladd, 1) := by decide +kernel
theorem dX0_greatestAngle_19 : decode cX0_greatestAngle 19 = .ok (.ldc2_w 139, 3) := by decide +kernel
theorem dX0_greatestAngle_22 : decode cX0_greatestAngle 22 = .ok (.invokestatic 164, 3) := by decide +kernel
theorem dX0_greatestAngle_25 : decode cX0_greatestAngle 25 = .ok (.lstore 9, 2) := by decide +kernel
theorem dX0_greatestAngle_27 : decode cX0_greatestAngle 27 = .ok (.lload 9, 2) := by decide +kernel
theorem dX0_greatestAngle_29 : decode cX0_greatestAngle 29 = .ok (.invokestatic 167, 3) := by decide +kernel
theorem dX0_greatestAngle_32 : decode cX0_greatestAngle 32 = .ok (.lstore 11, 2) := by decide +kernel
theorem dX0_greatestAngle_34 : decode cX0_greatestAngle 34 = .ok (.ldc2_w 139, 3) := by decide +kernel
theorem dX0_greatestAngle_37 : decode cX0_greatestAngle 37 = .ok (.lload 9, 2) := by decide +kernel
theorem dX0_greatestAngle_39 : decode cX0_greatestAngle 39 = .ok (.lsub, 1) := by decide +kernel
theorem dX0_greatestAngle_40 : decode cX0_greatestAngle 40 = .ok (.invokestatic 167, 3) := by decide +kernel
theorem dX0_greatestAngle_43 : decode cX0_greatestAngle 43 = .ok (.lstore 13, 2) := by decide +kernel
theorem dX0_greatestAngle_45 : decode cX0_greatestAngle 45 = .ok (.lload_n 0, 1) := by decide +kernel
theorem dX0_greatestAngle_46 : decode cX0_greatestAngle 46 = .ok (.lload 11, 2) := by decide +kernel
theorem dX0_greatestAngle_48 : decode cX0_greatestAngle 48 = .ok (.lmul, 1) := by decide +kernel
theorem dX0_greatestAngle_49 : decode cX0_greatestAngle 49 = .ok (.lload_n 2, 1) := by decide +kernel
theorem dX0_greatestAngle_50 : decode cX0_greatestAngle 50 = .ok (.lload 13, 2) := by decide +kernel
theorem dX0_greatestAngle_52 : decode cX0_greatestAngle 52 = .ok (.lmul, 1) := by decide +kernel
theorem dX0_greatestAngle_53 : decode cX0_greatestAngle 53 = .ok (.lsub, 1) := by decide +kernel
theorem dX0_greatestAngle_54 : decode cX0_greatestAngle 54 = .ok (.lload 4, 2) := by decide +kernel
theorem dX0_greatestAngle_56 : decode cX0_greatestAngle 56 = .ok (.lcmp, 1) := by decide +kernel
theorem dX0_greatestAngle_57 : decode cX0_greatestAngle 57 = .ok (.ifCond .gt 7, 3) := by decide +kernel
theorem dX0_greatestAngle_60 : decode cX0_greatestAngle 60 = .ok (.lload 9, 2) := by decide +kernel
theorem dX0_greatestAngle_62 : decode cX0_greatestAngle 62 = .ok (.lstore 6, 2) := by decide +kernel
theorem dX0_greatestAngle_64 : decode cX0_greatestAngle 64 = .ok (.iinc 8 (-1), 3) := by decide +kernel
theorem dX0_greatestAngle_67 : decode cX0_greatestAngle 67 = .ok (.goto (-60), 3) := by decide +kernel
theorem dX0_greatestAngle_70 : decode cX0_greatestAngle 70 = .ok (.lload 6, 2) := by decide +kernel
theorem dX0_greatestAngle_72 : decode cX0_greatestAngle 72 = .ok (.lreturn, 1) := by decide +kernel
theorem dX0_cross_0 : decode cX0_cross 0 = .ok (.iload_n 0, 1) := by decide +kernel
theorem dX0_cross_1 : decode cX0_cross 1 = .ok (.i2l, 1) := by decide +kernel
theorem dX0_cross_2 : decode cX0_cross 2 = .ok (.iload_n 1, 1) := by decide +kernel
theorem dX0_cross_3 : decode cX0_cross 3 = .ok (.i2l, 1) := by decide +kernel
theorem dX0_cross_4 : decode cX0_cross 4 = .ok (.lmul, 1) := by decide +kernel
theorem dX0_cross_5 : decode cX0_cross 5 = .ok (.iload_n 2, 1) := by decide +kernel
theorem dX0_cross_6 : decode cX0_cross 6 = .ok (.i2l, 1) := by decide +kernel
theorem dX0_cross_7 : decode cX0_cross 7 = .ok (.iload_n 3, 1) := by decide +kernel
theorem dX0_cross_8 : decode cX0_cross 8 = .ok (.i2l, 1) := by decide +kernel
theorem dX0_cross_9 : decode cX0_cross 9 = .ok (.lmul, 1) := by decide +kernel
theorem dX0_cross_10 : decode cX0_cross 10 = .ok (.lsub, 1) := by decide +kernel
theorem dX0_cross_11 : decode cX0_cross 11 = .ok (.lreturn, 1) := by decide +kernel
set_option maxRecDepth 20000 in
theorem ggX0_turnedX_X0_withoutPlaces : GoodIn wsX0_turnedX wsX0_withoutPlaces := goodIn_r _ [6, 7] (by decide +kernel) (by decide +kernel)
set_option maxRecDepth 20000 in
theorem gX0_turnedX_X0_withoutPlaces : GoodIn wsX0_turnedX (va_wsS RX0 117 yX0_withoutPlaces wsX0_withoutPlaces) := goodIn_app (goodIn_of _ (by decide +kernel)) ggX0_turnedX_X0_withoutPlaces
theorem dX0_turnedX_0 : decode cX0_turnedX 0 = .ok (.iload_n 1, 1) := by decide +kernel
theorem dX0_turnedX_1 : decode cX0_turnedX 1 = .ok (.i2l, 1) := by decide +kernel
theorem dX0_turnedX_2 : decode cX0_turnedX 2 = .ok (.aload_n 0, 1) := by decide +kernel
theorem dX0_turnedX_3 : decode cX0_turnedX 3 = .ok (.getfield 16, 3) := by decide +kernel
theorem dX0_turnedX_6 : decode cX0_turnedX 6 = .ok (.i2l, 1) := by decide +kernel
theorem dX0_turnedX_7 : decode cX0_turnedX 7 = .ok (.lmul, 1) := by decide +kernel
theorem dX0_turnedX_8 : decode cX0_turnedX 8 = .ok (.iload_n 2, 1) := by decide +kernel
theorem dX0_turnedX_9 : decode cX0_turnedX 9 = .ok (.i2l, 1) := by decide +kernel
theorem dX0_turnedX_10 : decode cX0_turnedX 10 = .ok (.aload_n 0, 1) := by decide +kernel
theorem dX0_turnedX_11 : decode cX0_turnedX 11 = .ok (.getfield 75, 3) := by decide +kernel
theorem dX0_turnedX_14 : decode cX0_turnedX 14 = .ok (.i2l, 1) := by decide +kernel
theorem dX0_turnedX_15 : decode cX0_turnedX 15 = .ok (.lmul, 1) := by decide +kernel
theorem dX0_turnedX_16 : decode cX0_turnedX 16 = .ok (.ladd, 1) := by decide +kernel
theorem dX0_turnedX_17 : decode cX0_turnedX 17 = .ok (.invokestatic 117, 3) := by decide +kernel
theorem dX0_turnedX_20 : decode cX0_turnedX 20 = .ok (.lreturn, 1) := by decide +kernel
set_option maxRecDepth 20000 in
theorem ggX0_turnedY_X0_withoutPlaces : GoodIn wsX0_turnedY wsX0_withoutPlaces := goodIn_r _ [6, 7] (by decide +kernel) (by decide +kernel)
set_option maxRecDepth 20000 in
theorem gX0_turnedY_X0_withoutPlaces : GoodIn wsX0_turnedY (va_wsS RX0 117 yX0_withoutPlaces wsX0_withoutPlaces) := goodIn_app (goodIn_of _ (by decide +kernel)) ggX0_turnedY_X0_withoutPlaces
theorem dX0_turnedY_0 : decode cX0_turnedY 0 = .ok (.iload_n 1, 1) := by decide +kernel
theorem dX0_turnedY_1 : decode cX0_turnedY 1 = .ok (.i2l, 1) := by decide +kernel
theorem dX0_turnedY_2 : decode cX0_turnedY 2 = .ok (.aload_n 0, 1) := by decide +kernel
theorem dX0_turnedY_3 : decode cX0_turnedY 3 = .ok (.getfield 72, 3) := by decide +kernel
theorem dX0_turnedY_6 : decode cX0_turnedY 6 = .ok (.i2l, 1) := by decide +kernel
theorem dX0_turnedY_7 : decode cX0_turnedY 7 = .ok (.lmul, 1) := by decide +kernel
theorem dX0_turnedY_8 : decode cX0_turnedY 8 = .ok (.iload_n 2, 1) := by decide +kernel
theorem dX0_turnedY_9 : decode cX0_turnedY 9 = .ok (.i2l, 1) := by decide +kernel
theorem dX0_turnedY_10 : decode cX0_turnedY 10 = .ok (.aload_n 0, 1) := by decide +kernel
theorem dX0_turnedY_11 : decode cX0_turnedY 11 = .ok (.getfield 19, 3) := by decide +kernel
theorem dX0_turnedY_14 : decode cX0_turnedY 14 = .ok (.i2l, 1) := by decide +kernel
theorem dX0_turnedY_15 : decode cX0_turnedY 15 = .ok (.lmul, 1) := by decide +kernel
theorem dX0_turnedY_16 : decode cX0_turnedY 16 = .ok (.ladd, 1) := by decide +kernel
theorem dX0_turnedY_17 : decode cX0_turnedY 17 = .ok (.invokestatic 117, 3) := by decide +kernel
theorem dX0_turnedY_20 : decode cX0_turnedY 20 = .ok (.lreturn, 1) := by decide +kernel
end
section
theorem dX1_init_0 : decode cX1_init 0 = .ok (.aload_n 0, 1) := by decide +kernel
theorem dX1_init_1 : decode cX1_init 1 = .ok (.invokespecial 1, 3) := by decide +kernel
theorem dX1_init_4 : decode cX1_init 4 = .ok (.aload_n 0, 1) := by decide +kernel
theorem dX1_init_5 : decode cX1_init 5 = .ok (.iconst 1, 1) := by decide +kernel
theorem dX1_init_6 : decode cX1_init 6 = .ok (.putfield 9, 3) := by decide +kernel
theorem dX1_init_9 : decode cX1_init 9 = .ok (.aload_n 0, 1) := by decide +kernel
theorem dX1_init_10 : decode cX1_init 10 = .ok (.bipush 6, 2) := by decide +kernel
theorem dX1_init_12 : decode cX1_init 12 = .ok (.newarray .int, 2) := by decide +kernel
theorem dX1_init_14 : decode cX1_init 14 = .ok (.putfield 13, 3) := by decide +kernel
theorem dX1_init_17 : decode cX1_init 17 = .ok (.aload_n 0, 1) := by decide +kernel
theorem dX1_init_18 : decode cX1_init 18 = .ok (.bipush 6, 2) := by decide +kernel
theorem dX1_init_20 : decode cX1_init 20 = .ok (.newarray .long, 2) := by decide +kernel
theorem dX1_init_22 : decode cX1_init 22 = .ok (.putfield 17, 3) := by decide +kernel
theorem dX1_init_25 : decode cX1_init 25 = .ok (.aload_n 0, 1) := by decide +kernel
theorem dX1_init_26 : decode cX1_init 26 = .ok (.getfield 13, 3) := by decide +kernel
theorem dX1_init_29 : decode cX1_init 29 = .ok (.iconst 0, 1) := by decide +kernel
theorem dX1_init_30 : decode cX1_init 30 = .ok (.ldc 21, 2) := by decide +kernel
theorem dX1_init_32 : decode cX1_init 32 = .ok (.iastore, 1) := by decide +kernel
theorem dX1_init_33 : decode cX1_init 33 = .ok (.aload_n 0, 1) := by decide +kernel
theorem dX1_init_34 : decode cX1_init 34 = .ok (.getfield 13, 3) := by decide +kernel
theorem dX1_init_37 : decode cX1_init 37 = .ok (.iconst 3, 1) := by decide +kernel
theorem dX1_init_38 : decode cX1_init 38 = .ok (.ldc 21, 2) := by decide +kernel
theorem dX1_init_40 : decode cX1_init 40 = .ok (.iastore, 1) := by decide +kernel
theorem dX1_init_41 : decode cX1_init 41 = .ok (.return_, 1) := by decide +kernel
theorem dX1_isValue_0 : decode cX1_isValue 0 = .ok (.iload_n 0, 1) := by decide +kernel
theorem dX1_isValue_1 : decode cX1_isValue 1 = .ok (.iconst 1, 1) := by decide +kernel
theorem dX1_isValue_2 : decode cX1_isValue 2 = .ok (.if_icmp .eq 14, 3) := by decide +kernel
theorem dX1_isValue_5 : decode cX1_isValue 5 = .ok (.iload_n 0, 1) := by decide +kernel
theorem dX1_isValue_6 : decode cX1_isValue 6 = .ok (.iconst 2, 1) := by decide +kernel
theorem dX1_isValue_7 : decode cX1_isValue 7 = .ok (.if_icmp .ne 13, 3) := by decide +kernel
theorem dX1_isValue_10 : decode cX1_isValue 10 = .ok (.iload_n 1, 1) := by decide +kernel
theorem dX1_isValue_11 : decode cX1_isValue 11 = .ok (.ldc 22, 2) := by decide +kernel
theorem dX1_isValue_13 : decode cX1_isValue 13 = .ok (.if_icmp .eq 7, 3) := by decide +kernel
theorem dX1_isValue_16 : decode cX1_isValue 16 = .ok (.iconst 1, 1) := by decide +kernel
theorem dX1_isValue_17 : decode cX1_isValue 17 = .ok (.goto 4, 3) := by decide +kernel
theorem dX1_isValue_20 : decode cX1_isValue 20 = .ok (.iconst 0, 1) := by decide +kernel
theorem dX1_isValue_21 : decode cX1_isValue 21 = .ok (.ireturn, 1) := by decide +kernel
theorem dX1_hasUnits_0 : decode cX1_hasUnits 0 = .ok (.iload_n 0, 1) := by decide +kernel
theorem dX1_hasUnits_1 : decode cX1_hasUnits 1 = .ok (.iconst 2, 1) := by decide +kernel
theorem dX1_hasUnits_2 : decode cX1_hasUnits 2 = .ok (.if_icmp .eq 17, 3) := by decide +kernel
theorem dX1_hasUnits_5 : decode cX1_hasUnits 5 = .ok (.iload_n 1, 1) := by decide +kernel
theorem dX1_hasUnits_6 : decode cX1_hasUnits 6 = .ok (.sipush (-32767), 3) := by decide +kernel
theorem dX1_hasUnits_9 : decode cX1_hasUnits 9 = .ok (.if_icmp .lt 14, 3) := by decide +kernel
theorem dX1_hasUnits_12 : decode cX1_hasUnits 12 = .ok (.iload_n 1, 1) := by decide +kernel
theorem dX1_hasUnits_13 : decode cX1_hasUnits 13 = .ok (.sipush 32767, 3) := by decide +kernel
theorem dX1_hasUnits_16 : decode cX1_hasUnits 16 = .ok (.if_icmp .gt 7, 3) := by decide +kernel
theorem dX1_hasUnits_19 : decode cX1_hasUnits 19 = .ok (.iconst 1, 1) := by decide +kernel
theorem dX1_hasUnits_20 : decode cX1_hasUnits 20 = .ok (.goto 4, 3) := by decide +kernel
theorem dX1_hasUnits_23 : decode cX1_hasUnits 23 = .ok (.iconst 0, 1) := by decide +kernel
theorem dX1_hasUnits_24 : decode cX1_hasUnits 24 = .ok (.ireturn, 1) := by decide +kernel
theorem dX1_units_0 : decode cX1_units 0 = .ok (.iload_n 0, 1) := by decide +kernel
theorem dX1_units_1 : decode cX1_units 1 = .ok (.iconst 2, 1) := by decide +kernel
theorem dX1_units_2 : decode cX1_units 2 = .ok (.if_icmp .ne 8, 3) := by decide +kernel
theorem dX1_units_5 : decode cX1_units 5 = .ok (.iload_n 1, 1) := by decide +kernel
theorem dX1_units_6 : decode cX1_units 6 = .ok (.i2l, 1) := by decide +kernel
theorem dX1_units_7 : decode cX1_units 7 = .ok (.goto 9, 3) := by decide +kernel
theorem dX1_units_10 : decode cX1_units 10 = .ok (.ldc2_w 23, 3) := by decide +kernel
theorem dX1_units_13 : decode cX1_units 13 = .ok (.iload_n 1, 1) := by decide +kernel
theorem dX1_units_14 : decode cX1_units 14 = .ok (.i2l, 1) := by decide +kernel
theorem dX1_units_15 : decode cX1_units 15 = .ok (.lmul, 1) := by decide +kernel
theorem dX1_units_16 : decode cX1_units 16 = .ok (.lreturn, 1) := by decide +kernel
theorem dX1_whole_0 : decode cX1_whole 0 = .ok (.lload_n 1, 1) := by decide +kernel
theorem dX1_whole_1 : decode cX1_whole 1 = .ok (.ldc2_w 25, 3) := by decide +kernel
theorem dX1_whole_4 : decode cX1_whole 4 = .ok (.lcmp, 1) := by decide +kernel
theorem dX1_whole_5 : decode cX1_whole 5 = .ok (.ifCond .gt 11, 3) := by decide +kernel
theorem dX1_whole_8 : decode cX1_whole 8 = .ok (.lload_n 1, 1) := by decide +kernel
theorem dX1_whole_9 : decode cX1_whole 9 = .ok (.ldc2_w 27, 3) := by decide +kernel
theorem dX1_whole_12 : decode cX1_whole 12 = .ok (.lcmp, 1) := by decide +kernel
theorem dX1_whole_13 : decode cX1_whole 13 = .ok (.ifCond .ge 6, 3) := by decide +kernel
theorem dX1_whole_16 : decode cX1_whole 16 = .ok (.bipush (-2), 2) := by decide +kernel
theorem dX1_whole_18 : decode cX1_whole 18 = .ok (.ireturn, 1) := by decide +kernel
theorem dX1_whole_19 : decode cX1_whole 19 = .ok (.aload_n 0, 1) := by decide +kernel
theorem dX1_whole_20 : decode cX1_whole 20 = .ok (.iconst 1, 1) := by decide +kernel
theorem dX1_whole_21 : decode cX1_whole 21 = .ok (.putfield 9, 3) := by decide +kernel
theorem dX1_whole_24 : decode cX1_whole 24 = .ok (.aload_n 0, 1) := by decide +kernel
theorem dX1_whole_25 : decode cX1_whole 25 = .ok (.lload_n 1, 1) := by decide +kernel
theorem dX1_whole_26 : decode cX1_whole 26 = .ok (.l2i, 1) := by decide +kernel
theorem dX1_whole_27 : decode cX1_whole 27 = .ok (.putfield 29, 3) := by decide +kernel
theorem dX1_whole_30 : decode cX1_whole 30 = .ok (.iconst 1, 1) := by decide +kernel
theorem dX1_whole_31 : decode cX1_whole 31 = .ok (.ireturn, 1) := by decide +kernel
theorem dX1_real_0 : decode cX1_real 0 = .ok (.lload_n 1, 1) := by decide +kernel
theorem dX1_real_1 : decode cX1_real 1 = .ok (.ldc2_w 25, 3) := by decide +kernel
theorem dX1_real_4 : decode cX1_real 4 = .ok (.lcmp, 1) := by decide +kernel
theorem dX1_real_5 : decode cX1_real 5 = .ok (.ifCond .gt 11, 3) := by decide +kernel
theorem dX1_real_8 : decode cX1_real 8 = .ok (.lload_n 1, 1) := by decide +kernel
theorem dX1_real_9 : decode cX1_real 9 = .ok (.ldc2_w 32, 3) := by decide +kernel
theorem dX1_real_12 : decode cX1_real 12 = .ok (.lcmp, 1) := by decide +kernel
theorem dX1_real_13 : decode cX1_real 13 = .ok (.ifCond .ge 6, 3) := by decide +kernel
theorem dX1_real_16 : decode cX1_real 16 = .ok (.bipush (-2), 2) := by decide +kernel
theorem dX1_real_18 : decode cX1_real 18 = .ok (.ireturn, 1) := by decide +kernel
theorem dX1_real_19 : decode cX1_real 19 = .ok (.aload_n 0, 1) := by decide +kernel
theorem dX1_real_20 : decode cX1_real 20 = .ok (.iconst 2, 1) := by decide +kernel
theorem dX1_real_21 : decode cX1_real 21 = .ok (.putfield 9, 3) := by decide +kernel
theorem dX1_real_24 : decode cX1_real 24 = .ok (.aload_n 0, 1) := by decide +kernel
theorem dX1_real_25 : decode cX1_real 25 = .ok (.lload_n 1, 1) := by decide +kernel
theorem dX1_real_26 : decode cX1_real 26 = .ok (.l2i, 1) := by decide +kernel
theorem dX1_real_27 : decode cX1_real 27 = .ok (.putfield 29, 3) := by decide +kernel
theorem dX1_real_30 : decode cX1_real 30 = .ok (.iconst 2, 1) := by decide +kernel
theorem dX1_real_31 : decode cX1_real 31 = .ok (.ireturn, 1) := by decide +kernel
theorem dX1_down_0 : decode cX1_down 0 = .ok (.lload_n 0, 1) := by decide +kernel
theorem dX1_down_1 : decode cX1_down 1 = .ok (.lload_n 2, 1) := by decide +kernel
theorem dX1_down_2 : decode cX1_down 2 = .ok (.ldiv, 1) := by decide +kernel
theorem dX1_down_3 : decode cX1_down 3 = .ok (.lstore 4, 2) := by decide +kernel
theorem dX1_down_5 : decode cX1_down 5 = .ok (.lload_n 0, 1) := by decide +kernel
theorem dX1_down_6 : decode cX1_down 6 = .ok (.lload_n 2, 1) := by decide +kernel
theorem dX1_down_7 : decode cX1_down 7 = .ok (.lrem, 1) := by decide +kernel
theorem dX1_down_8 : decode cX1_down 8 = .ok (.lconst 0, 1) := by decide +kernel
theorem dX1_down_9 : decode cX1_down 9 = .ok (.lcmp, 1) := by decide +kernel
theorem dX1_down_10 : decode cX1_down 10 = .ok (.ifCond .eq 35, 3) := by decide +kernel
theorem dX1_down_13 : decode cX1_down 13 = .ok (.lload_n 0, 1) := by decide +kernel
theorem dX1_down_14 : decode cX1_down 14 = .ok (.lconst 0, 1) := by decide +kernel
theorem dX1_down_15 : decode cX1_down 15 = .ok (.lcmp, 1) := by decide +kernel
theorem dX1_down_16 : decode cX1_down 16 = .ok (.ifCond .ge 7, 3) := by decide +kernel
theorem dX1_down_19 : decode cX1_down 19 = .ok (.iconst 1, 1) := by decide +kernel
theorem dX1_down_20 : decode cX1_down 20 = .ok (.goto 4, 3) := by decide +kernel
theorem dX1_down_23 : decode cX1_down 23 = .ok (.iconst 0, 1) := by decide +kernel
theorem dX1_down_24 : decode cX1_down 24 = .ok (.lload_n 2, 1) := by decide +kernel
theorem dX1_down_25 : decode cX1_down 25 = .ok (.lconst 0, 1) := by decide +kernel
theorem dX1_down_26 : decode cX1_down 26 = .ok (.lcmp, 1) := by decide +kernel
theorem dX1_down_27 : decode cX1_down 27 = .ok (.ifCond .ge 7, 3) := by decide +kernel
theorem dX1_down_30 : decode cX1_down 30 = .ok (.iconst 1, 1) := by decide +kernel
theorem dX1_down_31 : decode cX1_down 31 = .ok (.goto 4, 3) := by decide +kernel
theorem dX1_down_34 : decode cX1_down 34 = .ok (.iconst 0, 1) := by decide +kernel
theorem dX1_down_35 : decode cX1_down 35 = .ok (.if_icmp .eq 10, 3) := by decide +kernel
theorem dX1_down_38 : decode cX1_down 38 = .ok (.lload 4, 2) := by decide +kernel
theorem dX1_down_40 : decode cX1_down 40 = .ok (.lconst 1, 1) := by decide +kernel
theorem dX1_down_41 : decode cX1_down 41 = .ok (.lsub, 1) := by decide +kernel
theorem dX1_down_42 : decode cX1_down 42 = .ok (.goto 5, 3) := by decide +kernel
theorem dX1_down_45 : decode cX1_down 45 = .ok (.lload 4, 2) := by decide +kernel
theorem dX1_down_47 : decode cX1_down 47 = .ok (.lreturn, 1) := by decide +kernel
set_option maxRecDepth 20000 in
theorem ggX1_rounded_X1_down : GoodIn wsX1_rounded wsX1_down := goodIn_r _ [6] (by decide +kernel) (by decide +kernel)
set_option maxRecDepth 20000 in
theorem gX1_rounded_X1_down : GoodIn wsX1_rounded (va_wsS RX1 36 yX1_down wsX1_down) := goodIn_app (goodIn_of _ (by decide +kernel)) ggX1_rounded_X1_down
theorem dX1_rounded_0 : decode cX1_rounded 0 = .ok (.lload_n 0, 1) := by decide +kernel
theorem dX1_rounded_1 : decode cX1_rounded 1 = .ok (.ldc2_w 34, 3) := by decide +kernel
theorem dX1_rounded_4 : decode cX1_rounded 4 = .ok (.ladd, 1) := by decide +kernel
theorem dX1_rounded_5 : decode cX1_rounded 5 = .ok (.ldc2_w 23, 3) := by decide +kernel
theorem dX1_rounded_8 : decode cX1_rounded 8 = .ok (.invokestatic 36, 3) := by decide +kernel
theorem dX1_rounded_11 : decode cX1_rounded 11 = .ok (.lreturn, 1) := by decide +kernel
set_option maxRecDepth 20000 in
theorem ggX1_quotient_X1_down : GoodIn wsX1_quotient wsX1_down := goodIn_r _ [8] (by decide +kernel) (by decide +kernel)
set_option maxRecDepth 20000 in
theorem gX1_quotient_X1_down : GoodIn wsX1_quotient (va_wsS RX1 36 yX1_down wsX1_down) := goodIn_app (goodIn_of _ (by decide +kernel)) ggX1_quotient_X1_down
theorem dX1_quotient_0 : decode cX1_quotient 0 = .ok (.lload_n 3, 1) := by decide +kernel
theorem dX1_quotient_1 : decode cX1_quotient 1 = .ok (.lconst 0, 1) := by decide +kernel
theorem dX1_quotient_2 : decode cX1_quotient 2 = .ok (.lcmp, 1) := by decide +kernel
theorem dX1_quotient_3 : decode cX1_quotient 3 = .ok (.ifCond .ge 8, 3) := by decide +kernel
theorem dX1_quotient_6 : decode cX1_quotient 6 = .ok (.lload_n 1, 1) := by decide +kernel
theorem dX1_quotient_7 : decode cX1_quotient 7 = .ok (.lneg, 1) := by decide +kernel
theorem dX1_quotient_8 : decode cX1_quotient 8 = .ok (.goto 4, 3) := by decide +kernel
theorem dX1_quotient_11 : decode cX1_quotient 11 = .ok (.lload_n 1, 1) := by decide +kernel
theorem dX1_quotient_12 : decode cX1_quotient 12 = .ok (.lstore 6, 2) := by decide +kernel
theorem dX1_quotient_14 : decode cX1_quotient 14 = .ok (.lload_n 3, 1) := by decide +kernel
theorem dX1_quotient_15 : decode cX1_quotient 15 = .ok (.lconst 0, 1) := by decide +kernel
theorem dX1_quotient_16 : decode cX1_quotient 16 = .ok (.lcmp, 1) := by decide +kernel
theorem dX1_quotient_17 : decode cX1_quotient 17 = .ok (.ifCond .ge 8, 3) := by decide +kernel
theorem dX1_quotient_20 : decode cX1_quotient 20 = .ok (.lload_n 3, 1) := by decide +kernel
theorem dX1_quotient_21 : decode cX1_quotient 21 = .ok (.lneg, 1) := by decide +kernel
theorem dX1_quotient_22 : decode cX1_quotient 22 = .ok (.goto 4, 3) := by decide +kernel
theorem dX1_quotient_25 : decode cX1_quotient 25 = .ok (.lload_n 3, 1) := by decide +kernel
theorem dX1_quotient_26 : decode cX1_quotient 26 = .ok (.lstore 8, 2) := by decide +kernel
theorem dX1_quotient_28 : decode cX1_quotient 28 = .ok (.lload 6, 2) := by decide +kernel
theorem dX1_quotient_30 : decode cX1_quotient 30 = .ok (.lload 8, 2) := by decide +kernel
theorem dX1_quotient_32 : decode cX1_quotient 32 = .ok (.invokestatic 36, 3) := by decide +kernel
theorem dX1_quotient_35 : decode cX1_quotient 35 = .ok (.lstore 10, 2) := by decide +kernel
theorem dX1_quotient_37 : decode cX1_quotient 37 = .ok (.lload 6, 2) := by decide +kernel
theorem dX1_quotient_39 : decode cX1_quotient 39 = .ok (.lload 10, 2) := by decide +kernel
theorem dX1_quotient_41 : decode cX1_quotient 41 = .ok (.lload 8, 2) := by decide +kernel
theorem dX1_quotient_43 : decode cX1_quotient 43 = .ok (.lmul, 1) := by decide +kernel
theorem dX1_quotient_44 : decode cX1_quotient 44 = .ok (.lsub, 1) := by decide +kernel
theorem dX1_quotient_45 : decode cX1_quotient 45 = .ok (.lstore 12, 2) := by decide +kernel
theorem dX1_quotient_47 : decode cX1_quotient 47 = .ok (.aload_n 0, 1) := by decide +kernel
theorem dX1_quotient_48 : decode cX1_quotient 48 = .ok (.lload 10, 2) := by decide +kernel
theorem dX1_quotient_50 : decode cX1_quotient 50 = .ok (.ldc2_w 40, 3) := by decide +kernel
theorem dX1_quotient_53 : decode cX1_quotient 53 = .ok (.lcmp, 1) := by decide +kernel
theorem dX1_quotient_54 : decode cX1_quotient 54 = .ok (.ifCond .gt 12, 3) := by decide +kernel
theorem dX1_quotient_57 : decode cX1_quotient 57 = .ok (.lload 10, 2) := by decide +kernel
theorem dX1_quotient_59 : decode cX1_quotient 59 = .ok (.ldc2_w 42, 3) := by decide +kernel
theorem dX1_quotient_62 : decode cX1_quotient 62 = .ok (.lcmp, 1) := by decide +kernel
theorem dX1_quotient_63 : decode cX1_quotient 63 = .ok (.ifCond .ge 7, 3) := by decide +kernel
theorem dX1_quotient_66 : decode cX1_quotient 66 = .ok (.iconst 1, 1) := by decide +kernel
theorem dX1_quotient_67 : decode cX1_quotient 67 = .ok (.goto 4, 3) := by decide +kernel
theorem dX1_quotient_70 : decode cX1_quotient 70 = .ok (.iconst 0, 1) := by decide +kernel
theorem dX1_quotient_71 : decode cX1_quotient 71 = .ok (.putfield 44, 3) := by decide +kernel
theorem dX1_quotient_74 : decode cX1_quotient 74 = .ok (.aload_n 0, 1) := by decide +kernel
theorem dX1_quotient_75 : decode cX1_quotient 75 = .ok (.getfield 44, 3) := by decide +kernel
theorem dX1_quotient_78 : decode cX1_quotient 78 = .ok (.ifCond .eq 5, 3) := by decide +kernel
theorem dX1_quotient_81 : decode cX1_quotient 81 = .ok (.lconst 0, 1) := by decide +kernel
theorem dX1_quotient_82 : decode cX1_quotient 82 = .ok (.lreturn, 1) := by decide +kernel
theorem dX1_quotient_83 : decode cX1_quotient 83 = .ok (.iconst 0, 1) := by decide +kernel
theorem dX1_quotient_84 : decode cX1_quotient 84 = .ok (.istore 14, 2) := by decide +kernel
theorem dX1_quotient_86 : decode cX1_quotient 86 = .ok (.iload 14, 2) := by decide +kernel
theorem dX1_quotient_88 : decode cX1_quotient 88 = .ok (.iload 5, 2) := by decide +kernel
theorem dX1_quotient_90 : decode cX1_quotient 90 = .ok (.if_icmp .ge 69, 3) := by decide +kernel
theorem dX1_quotient_93 : decode cX1_quotient 93 = .ok (.lload 12, 2) := by decide +kernel
theorem dX1_quotient_95 : decode cX1_quotient 95 = .ok (.lload 8, 2) := by decide +kernel
theorem dX1_quotient_97 : decode cX1_quotient 97 = .ok (.lload 12, 2) := by decide +kernel
theorem dX1_quotient_99 : decode cX1_quotient 99 = .ok (.lsub, 1) := by decide +kernel
theorem dX1_quotient_100 : decode cX1_quotient 100 = .ok (.lcmp, 1) := by decide +kernel
theorem dX1_quotient_101 : decode cX1_quotient 101 = .ok (.ifCond .lt 7, 3) := by decide +kernel
theorem dX1_quotient_104 : decode cX1_quotient 104 = .ok (.iconst 1, 1) := by decide +kernel
theorem dX1_quotient_105 : decode cX1_quotient 105 = .ok (.goto 4, 3) := by decide +kernel
theorem dX1_quotient_108 : decode cX1_quotient 108 = .ok (.iconst 0, 1) := by decide +kernel
theorem dX1_quotient_109 : decode cX1_quotient 109 = .ok (.istore 15, 2) := by decide +kernel
theorem dX1_quotient_111 : decode cX1_quotient 111 = .ok (.ldc2_w 48, 3) := by decide +kernel
theorem dX1_quotient_114 : decode cX1_quotient 114 = .ok (.lload 10, 2) := by decide +kernel
theorem dX1_quotient_116 : decode cX1_quotient 116 = .ok (.lmul, 1) := by decide +kernel
theorem dX1_quotient_117 : decode cX1_quotient 117 = .ok (.iload 15, 2) := by decide +kernel
theorem dX1_quotient_119 : decode cX1_quotient 119 = .ok (.ifCond .eq 7, 3) := by decide +kernel
theorem dX1_quotient_122 : decode cX1_quotient 122 = .ok (.lconst 1, 1) := by decide +kernel
theorem dX1_quotient_123 : decode cX1_quotient 123 = .ok (.goto 4, 3) := by decide +kernel
theorem dX1_quotient_126 : decode cX1_quotient 126 = .ok (.lconst 0, 1) := by decide +kernel
theorem dX1_quotient_127 : decode cX1_quotient 127 = .ok (.ladd, 1) := by decide +kernel
theorem dX1_quotient_128 : decode cX1_quotient 128 = .ok (.lstore 10, 2) := by decide +kernel
theorem dX1_quotient_130 : decode cX1_quotient 130 = .ok (.iload 15, 2) := by decide +kernel
theorem dX1_quotient_132 : decode cX1_quotient 132 = .ok (.ifCond .eq 14, 3) := by decide +kernel
theorem dX1_quotient_135 : decode cX1_quotient 135 = .ok (.lload 12, 2) := by decide +kernel
theorem dX1_quotient_137 : decode cX1_quotient 137 = .ok (.lload 8, 2) := by decide +kernel
theorem dX1_quotient_139 : decode cX1_quotient 139 = .ok (.lload 12, 2) := by decide +kernel
theorem dX1_quotient_141 : decode cX1_quotient 141 = .ok (.lsub, 1) := by decide +kernel
theorem dX1_quotient_142 : decode cX1_quotient 142 = .ok (.lsub, 1) := by decide +kernel
theorem dX1_quotient_143 : decode cX1_quotient 143 = .ok (.goto 8, 3) := by decide +kernel
theorem dX1_quotient_146 : decode cX1_quotient 146 = .ok (.lload 12, 2) := by decide +kernel
theorem dX1_quotient_148 : decode cX1_quotient 148 = .ok (.lload 12, 2) := by decide +kernel
theorem dX1_quotient_150 : decode cX1_quotient 150 = .ok (.ladd, 1) := by decide +kernel
theorem dX1_quotient_151 : decode cX1_quotient 151 = .ok (.lstore 12, 2) := by decide +kernel
theorem dX1_quotient_153 : decode cX1_quotient 153 = .ok (.iinc 14 1, 3) := by decide +kernel
theorem dX1_quotient_156 : decode cX1_quotient 156 = .ok (.goto (-70), 3) := by decide +kernel
theorem dX1_quotient_159 : decode cX1_quotient 159 = .ok (.lload 12, 2) := by decide +kernel
theorem dX1_quotient_161 : decode cX1_quotient 161 = .ok (.lload 8, 2) := by decide +kernel
theorem dX1_quotient_163 : decode cX1_quotient 163 = .ok (.lload 12, 2) := by decide +kernel
theorem dX1_quotient_165 : decode cX1_quotient 165 = .ok (.lsub, 1) := by decide +kernel
theorem dX1_quotient_166 : decode cX1_quotient 166 = .ok (.lcmp, 1) := by decide +kernel
theorem dX1_quotient_167 : decode cX1_quotient 167 = .ok (.ifCond .lt 10, 3) := by decide +kernel
theorem dX1_quotient_170 : decode cX1_quotient 170 = .ok (.lload 10, 2) := by decide +kernel
theorem dX1_quotient_172 : decode cX1_quotient 172 = .ok (.lconst 1, 1) := by decide +kernel
theorem dX1_quotient_173 : decode cX1_quotient 173 = .ok (.ladd, 1) := by decide +kernel
theorem dX1_quotient_174 : decode cX1_quotient 174 = .ok (.goto 5, 3) := by decide +kernel
theorem dX1_quotient_177 : decode cX1_quotient 177 = .ok (.lload 10, 2) := by decide +kernel
theorem dX1_quotient_179 : decode cX1_quotient 179 = .ok (.lreturn, 1) := by decide +kernel
set_option maxRecDepth 20000 in
theorem ggX1_two_X1_isValue : GoodIn wsX1_two wsX1_isValue := goodIn_r _ [5, 6] (by decide +kernel) (by decide +kernel)
set_option maxRecDepth 20000 in
theorem gX1_two_X1_isValue : GoodIn wsX1_two (va_wsS RX1 50 yX1_isValue wsX1_isValue) := goodIn_app (goodIn_of _ (by decide +kernel)) ggX1_two_X1_isValue
set_option maxRecDepth 20000 in
theorem ggX1_two_X1_onWholes : GoodIn wsX1_two wsX1_onWholes := goodIn_r _ [10, 11, 12, 13, 4, 14, 15, 16, 17, 18, 19, 20, 21, 67, 68, 69, 70, 71, 72, 73] (by decide +kernel) (by decide +kernel)
set_option maxRecDepth 20000 in
theorem gX1_two_X1_onWholes : GoodIn wsX1_two (wsV RX1 54 RX1 yX1_onWholes wsX1_onWholes) := goodIn_app (goodIn_of _ (by decide +kernel)) ggX1_two_X1_onWholes
set_option maxRecDepth 20000 in
theorem ggX1_two_X1_whole : GoodIn wsX1_two wsX1_whole := goodIn_r _ [14, 15, 16, 17, 18, 67, 68, 69, 70, 71, 72, 73] (by decide +kernel) (by decide +kernel)
set_option maxRecDepth 20000 in
theorem gX1_two_X1_whole : GoodIn wsX1_two (wsV RX1 58 RX1 yX1_whole wsX1_whole) := goodIn_app (goodIn_of _ (by decide +kernel)) ggX1_two_X1_whole
set_option maxRecDepth 20000 in
theorem ggX1_two_X1_hasUnits : GoodIn wsX1_two wsX1_hasUnits := goodIn_r _ [24] (by decide +kernel) (by decide +kernel)
set_option maxRecDepth 20000 in
theorem gX1_two_X1_hasUnits : GoodIn wsX1_two (va_wsS RX1 62 yX1_hasUnits wsX1_hasUnits) := goodIn_app (goodIn_of _ (by decide +kernel)) ggX1_two_X1_hasUnits
set_option maxRecDepth 20000 in
theorem ggX1_two_X1_units : GoodIn wsX1_two wsX1_units := goodIn_r _ [27, 28] (by decide +kernel) (by decide +kernel)
set_option maxRecDepth 20000 in
theorem gX1_two_X1_units : GoodIn wsX1_two (va_wsS RX1 65 yX1_units wsX1_units) := goodIn_app (goodIn_of _ (by decide +kernel)) ggX1_two_X1_units
set_option maxRecDepth 20000 in
theorem ggX1_two_X1_real : GoodIn wsX1_two wsX1_real := goodIn_r _ [32, 15, 33, 17, 18, 67, 68, 69, 70, 71, 72, 73] (by decide +kernel) (by decide +kernel)
set_option maxRecDepth 20000 in
theorem gX1_two_X1_real : GoodIn wsX1_two (wsV RX1 69 RX1 yX1_real wsX1_real) := goodIn_app (goodIn_of _ (by decide +kernel)) ggX1_two_X1_real
set_option maxRecDepth 20000 in
theorem ggX1_two_X1_rounded : GoodIn wsX1_two wsX1_rounded := goodIn_r _ [36, 37, 28, 38, 39, 4, 40] (by decide +kernel) (by decide +kernel)
set_option maxRecDepth 20000 in
theorem gX1_two_X1_rounded : GoodIn wsX1_two (va_wsS RX1 72 yX1_rounded wsX1_rounded) := goodIn_app (goodIn_of _ (by decide +kernel)) ggX1_two_X1_rounded
set_option maxRecDepth 20000 in
theorem ggX1_two_X1_quotient : GoodIn wsX1_two wsX1_quotient := goodIn_r _ [44, 45, 46, 1, 47, 38, 39, 4, 40, 67, 68, 69, 70, 71, 72, 73] (by decide +kernel) (by decide +kernel)
set_option maxRecDepth 20000 in
theorem gX1_two_X1_quotient : GoodIn wsX1_two (wsV RX1 76 RX1 yX1_quotient wsX1_quotient) := goodIn_app (goodIn_of _ (by decide +kernel)) ggX1_two_X1_quotient
set_option maxRecDepth 20000 in
theorem ggX1_two_X1_angle : GoodIn wsX1_two wsX1_angle := goodIn_r _ [50, 51, 47, 52, 53, 54, 55, 4, 56, 28, 57, 58, 59, 60, 61, 62, 38, 39, 40, 63, 64, 65, 66, 34, 35, 36, 37] (by decide +kernel) (by decide +kernel)
set_option maxRecDepth 20000 in
theorem gX1_two_X1_angle : GoodIn wsX1_two (va_wsS RX1 80 yX1_angle wsX1_angle) := goodIn_app (goodIn_of _ (by decide +kernel)) ggX1_two_X1_angle
theorem dX1_two_0 : decode cX1_two 0 = .ok (.iload_n 1, 1) := by decide +kernel
theorem dX1_two_1 : decode cX1_two 1 = .ok (.ifCond .lt 27, 3) := by decide +kernel
theorem dX1_two_4 : decode cX1_two 4 = .ok (.iload_n 1, 1) := by decide +kernel
theorem dX1_two_5 : decode cX1_two 5 = .ok (.bipush 10, 2) := by decide +kernel
theorem dX1_two_7 : decode cX1_two 7 = .ok (.if_icmp .gt 21, 3) := by decide +kernel
theorem dX1_two_10 : decode cX1_two 10 = .ok (.iload_n 2, 1) := by decide +kernel
theorem dX1_two_11 : decode cX1_two 11 = .ok (.iload_n 3, 1) := by decide +kernel
theorem dX1_two_12 : decode cX1_two 12 = .ok (.invokestatic 50, 3) := by decide +kernel
theorem dX1_two_15 : decode cX1_two 15 = .ok (.ifCond .eq 13, 3) := by decide +kernel
theorem dX1_two_18 : decode cX1_two 18 = .ok (.iload 4, 2) := by decide +kernel
theorem dX1_two_20 : decode cX1_two 20 = .ok (.iload 5, 2) := by decide +kernel
theorem dX1_two_22 : decode cX1_two 22 = .ok (.invokestatic 50, 3) := by decide +kernel
theorem dX1_two_25 : decode cX1_two 25 = .ok (.ifCond .ne 5, 3) := by decide +kernel
theorem dX1_two_28 : decode cX1_two 28 = .ok (.iconst (-1), 1) := by decide +kernel
theorem dX1_two_29 : decode cX1_two 29 = .ok (.ireturn, 1) := by decide +kernel
theorem dX1_two_30 : decode cX1_two 30 = .ok (.iload_n 2, 1) := by decide +kernel
theorem dX1_two_31 : decode cX1_two 31 = .ok (.iconst 1, 1) := by decide +kernel
theorem dX1_two_32 : decode cX1_two 32 = .ok (.if_icmp .ne 13, 3) := by decide +kernel
theorem dX1_two_35 : decode cX1_two 35 = .ok (.iload 4, 2) := by decide +kernel
theorem dX1_two_37 : decode cX1_two 37 = .ok (.iconst 1, 1) := by decide +kernel
theorem dX1_two_38 : decode cX1_two 38 = .ok (.if_icmp .ne 7, 3) := by decide +kernel
theorem dX1_two_41 : decode cX1_two 41 = .ok (.iconst 1, 1) := by decide +kernel
theorem dX1_two_42 : decode cX1_two 42 = .ok (.goto 4, 3) := by decide +kernel
theorem dX1_two_45 : decode cX1_two 45 = .ok (.iconst 0, 1) := by decide +kernel
theorem dX1_two_46 : decode cX1_two 46 = .ok (.istore 6, 2) := by decide +kernel
theorem dX1_two_48 : decode cX1_two 48 = .ok (.iload_n 1, 1) := by decide +kernel
theorem dX1_two_49 : decode cX1_two 49 = .ok (.iconst 4, 1) := by decide +kernel
theorem dX1_two_50 : decode cX1_two 50 = .ok (.if_icmp .eq 14, 3) := by decide +kernel
theorem dX1_two_53 : decode cX1_two 53 = .ok (.iload_n 1, 1) := by decide +kernel
theorem dX1_two_54 : decode cX1_two 54 = .ok (.iconst 5, 1) := by decide +kernel
theorem dX1_two_55 : decode cX1_two 55 = .ok (.if_icmp .eq 9, 3) := by decide +kernel
theorem dX1_two_58 : decode cX1_two 58 = .ok (.iload_n 1, 1) := by decide +kernel
theorem dX1_two_59 : decode cX1_two 59 = .ok (.bipush 6, 2) := by decide +kernel
theorem dX1_two_61 : decode cX1_two 61 = .ok (.if_icmp .le 22, 3) := by decide +kernel
theorem dX1_two_64 : decode cX1_two 64 = .ok (.iload 6, 2) := by decide +kernel
theorem dX1_two_66 : decode cX1_two 66 = .ok (.ifCond .eq 14, 3) := by decide +kernel
theorem dX1_two_69 : decode cX1_two 69 = .ok (.aload_n 0, 1) := by decide +kernel
theorem dX1_two_70 : decode cX1_two 70 = .ok (.iload_n 1, 1) := by decide +kernel
theorem dX1_two_71 : decode cX1_two 71 = .ok (.iload_n 3, 1) := by decide +kernel
theorem dX1_two_72 : decode cX1_two 72 = .ok (.iload 5, 2) := by decide +kernel
theorem dX1_two_74 : decode cX1_two 74 = .ok (.invokevirtual 54, 3) := by decide +kernel
theorem dX1_two_77 : decode cX1_two 77 = .ok (.goto 5, 3) := by decide +kernel
theorem dX1_two_80 : decode cX1_two 80 = .ok (.bipush (-4), 2) := by decide +kernel
theorem dX1_two_82 : decode cX1_two 82 = .ok (.ireturn, 1) := by decide +kernel
theorem dX1_two_83 : decode cX1_two 83 = .ok (.iload 6, 2) := by decide +kernel
theorem dX1_two_85 : decode cX1_two 85 = .ok (.ifCond .eq 46, 3) := by decide +kernel
theorem dX1_two_88 : decode cX1_two 88 = .ok (.iload_n 1, 1) := by decide +kernel
theorem dX1_two_89 : decode cX1_two 89 = .ok (.iconst 3, 1) := by decide +kernel
theorem dX1_two_90 : decode cX1_two 90 = .ok (.if_icmp .ge 41, 3) := by decide +kernel
theorem dX1_two_93 : decode cX1_two 93 = .ok (.aload_n 0, 1) := by decide +kernel
theorem dX1_two_94 : decode cX1_two 94 = .ok (.iload_n 1, 1) := by decide +kernel
theorem dX1_two_95 : decode cX1_two 95 = .ok (.ifCond .ne 12, 3) := by decide +kernel
theorem dX1_two_98 : decode cX1_two 98 = .ok (.iload_n 3, 1) := by decide +kernel
theorem dX1_two_99 : decode cX1_two 99 = .ok (.i2l, 1) := by decide +kernel
theorem dX1_two_100 : decode cX1_two 100 = .ok (.iload 5, 2) := by decide +kernel
theorem dX1_two_102 : decode cX1_two 102 = .ok (.i2l, 1) := by decide +kernel
theorem dX1_two_103 : decode cX1_two 103 = .ok (.ladd, 1) := by decide +kernel
theorem dX1_two_104 : decode cX1_two 104 = .ok (.goto 23, 3) := by decide +kernel
theorem dX1_two_107 : decode cX1_two 107 = .ok (.iload_n 1, 1) := by decide +kernel
theorem dX1_two_108 : decode cX1_two 108 = .ok (.iconst 1, 1) := by decide +kernel
theorem dX1_two_109 : decode cX1_two 109 = .ok (.if_icmp .ne 12, 3) := by decide +kernel
theorem dX1_two_112 : decode cX1_two 112 = .ok (.iload_n 3, 1) := by decide +kernel
theorem dX1_two_113 : decode cX1_two 113 = .ok (.i2l, 1) := by decide +kernel
theorem dX1_two_114 : decode cX1_two 114 = .ok (.iload 5, 2) := by decide +kernel
theorem dX1_two_116 : decode cX1_two 116 = .ok (.i2l, 1) := by decide +kernel
theorem dX1_two_117 : decode cX1_two 117 = .ok (.lsub, 1) := by decide +kernel
theorem dX1_two_118 : decode cX1_two 118 = .ok (.goto 9, 3) := by decide +kernel
theorem dX1_two_121 : decode cX1_two 121 = .ok (.iload_n 3, 1) := by decide +kernel
theorem dX1_two_122 : decode cX1_two 122 = .ok (.i2l, 1) := by decide +kernel
theorem dX1_two_123 : decode cX1_two 123 = .ok (.iload 5, 2) := by decide +kernel
theorem dX1_two_125 : decode cX1_two 125 = .ok (.i2l, 1) := by decide +kernel
theorem dX1_two_126 : decode cX1_two 126 = .ok (.lmul, 1) := by decide +kernel
theorem dX1_two_127 : decode cX1_two 127 = .ok (.invokevirtual 58, 3) := by decide +kernel
theorem dX1_two_130 : decode cX1_two 130 = .ok (.ireturn, 1) := by decide +kernel
theorem dX1_two_131 : decode cX1_two 131 = .ok (.iload_n 2, 1) := by decide +kernel
theorem dX1_two_132 : decode cX1_two 132 = .ok (.iload_n 3, 1) := by decide +kernel
theorem dX1_two_133 : decode cX1_two 133 = .ok (.invokestatic 62, 3) := by decide +kernel
theorem dX1_two_136 : decode cX1_two 136 = .ok (.ifCond .eq 13, 3) := by decide +kernel
theorem dX1_two_139 : decode cX1_two 139 = .ok (.iload 4, 2) := by decide +kernel
theorem dX1_two_141 : decode cX1_two 141 = .ok (.iload 5, 2) := by decide +kernel
theorem dX1_two_143 : decode cX1_two 143 = .ok (.invokestatic 62, 3) := by decide +kernel
theorem dX1_two_146 : decode cX1_two 146 = .ok (.ifCond .ne 6, 3) := by decide +kernel
theorem dX1_two_149 : decode cX1_two 149 = .ok (.bipush (-2), 2) := by decide +kernel
theorem dX1_two_151 : decode cX1_two 151 = .ok (.ireturn, 1) := by decide +kernel
theorem dX1_two_152 : decode cX1_two 152 = .ok (.iload_n 2, 1) := by decide +kernel
theorem dX1_two_153 : decode cX1_two 153 = .ok (.iload_n 3, 1) := by decide +kernel
theorem dX1_two_154 : decode cX1_two 154 = .ok (.invokestatic 65, 3) := by decide +kernel
theorem dX1_two_157 : decode cX1_two 157 = .ok (.lstore 7, 2) := by decide +kernel
theorem dX1_two_159 : decode cX1_two 159 = .ok (.iload 4, 2) := by decide +kernel
theorem dX1_two_161 : decode cX1_two 161 = .ok (.iload 5, 2) := by decide +kernel
theorem dX1_two_163 : decode cX1_two 163 = .ok (.invokestatic 65, 3) := by decide +kernel
theorem dX1_two_166 : decode cX1_two 166 = .ok (.lstore 9, 2) := by decide +kernel
theorem dX1_two_168 : decode cX1_two 168 = .ok (.iload_n 1, 1) := by decide +kernel
theorem dX1_two_169 : decode cX1_two 169 = .ok (.tableswitch 105 0 3 #[31, 41, 51, 64], 31) := by decide +kernel
theorem dX1_two_200 : decode cX1_two 200 = .ok (.aload_n 0, 1) := by decide +kernel
theorem dX1_two_201 : decode cX1_two 201 = .ok (.lload 7, 2) := by decide +kernel
theorem dX1_two_203 : decode cX1_two 203 = .ok (.lload 9, 2) := by decide +kernel
theorem dX1_two_205 : decode cX1_two 205 = .ok (.ladd, 1) := by decide +kernel
theorem dX1_two_206 : decode cX1_two 206 = .ok (.invokevirtual 69, 3) := by decide +kernel
theorem dX1_two_209 : decode cX1_two 209 = .ok (.ireturn, 1) := by decide +kernel
theorem dX1_two_210 : decode cX1_two 210 = .ok (.aload_n 0, 1) := by decide +kernel
theorem dX1_two_211 : decode cX1_two 211 = .ok (.lload 7, 2) := by decide +kernel
theorem dX1_two_213 : decode cX1_two 213 = .ok (.lload 9, 2) := by decide +kernel
theorem dX1_two_215 : decode cX1_two 215 = .ok (.lsub, 1) := by decide +kernel
theorem dX1_two_216 : decode cX1_two 216 = .ok (.invokevirtual 69, 3) := by decide +kernel
theorem dX1_two_219 : decode cX1_two 219 = .ok (.ireturn, 1) := by decide +kernel
theorem dX1_two_220 : decode cX1_two 220 = .ok (.aload_n 0, 1) := by decide +kernel
theorem dX1_two_221 : decode cX1_two 221 = .ok (.lload 7, 2) := by decide +kernel
theorem dX1_two_223 : decode cX1_two 223 = .ok (.lload 9, 2) := by decide +kernel
theorem dX1_two_225 : decode cX1_two 225 = .ok (.lmul, 1) := by decide +kernel
theorem dX1_two_226 : decode cX1_two 226 = .ok (.invokestatic 72, 3) := by decide +kernel
theorem dX1_two_229 : decode cX1_two 229 = .ok (.invokevirtual 69, 3) := by decide +kernel
theorem dX1_two_232 : decode cX1_two 232 = .ok (.ireturn, 1) := by decide +kernel
theorem dX1_two_233 : decode cX1_two 233 = .ok (.lload 9, 2) := by decide +kernel
theorem dX1_two_235 : decode cX1_two 235 = .ok (.lconst 0, 1) := by decide +kernel
theorem dX1_two_236 : decode cX1_two 236 = .ok (.lcmp, 1) := by decide +kernel
theorem dX1_two_237 : decode cX1_two 237 = .ok (.ifCond .ne 6, 3) := by decide +kernel
theorem dX1_two_240 : decode cX1_two 240 = .ok (.bipush (-3), 2) := by decide +kernel
theorem dX1_two_242 : decode cX1_two 242 = .ok (.ireturn, 1) := by decide +kernel
theorem dX1_two_243 : decode cX1_two 243 = .ok (.aload_n 0, 1) := by decide +kernel
theorem dX1_two_244 : decode cX1_two 244 = .ok (.lload 7, 2) := by decide +kernel
theorem dX1_two_246 : decode cX1_two 246 = .ok (.lload 9, 2) := by decide +kernel
theorem dX1_two_248 : decode cX1_two 248 = .ok (.bipush 16, 2) := by decide +kernel
theorem dX1_two_250 : decode cX1_two 250 = .ok (.invokevirtual 76, 3) := by decide +kernel
theorem dX1_two_253 : decode cX1_two 253 = .ok (.lstore 11, 2) := by decide +kernel
theorem dX1_two_255 : decode cX1_two 255 = .ok (.aload_n 0, 1) := by decide +kernel
theorem dX1_two_256 : decode cX1_two 256 = .ok (.getfield 44, 3) := by decide +kernel
theorem dX1_two_259 : decode cX1_two 259 = .ok (.ifCond .eq 8, 3) := by decide +kernel
theorem dX1_two_262 : decode cX1_two 262 = .ok (.bipush (-2), 2) := by decide +kernel
theorem dX1_two_264 : decode cX1_two 264 = .ok (.goto 9, 3) := by decide +kernel
theorem dX1_two_267 : decode cX1_two 267 = .ok (.aload_n 0, 1) := by decide +kernel
theorem dX1_two_268 : decode cX1_two 268 = .ok (.lload 11, 2) := by decide +kernel
theorem dX1_two_270 : decode cX1_two 270 = .ok (.invokevirtual 69, 3) := by decide +kernel
theorem dX1_two_273 : decode cX1_two 273 = .ok (.ireturn, 1) := by decide +kernel
theorem dX1_two_274 : decode cX1_two 274 = .ok (.lload 7, 2) := by decide +kernel
theorem dX1_two_276 : decode cX1_two 276 = .ok (.lconst 0, 1) := by decide +kernel
theorem dX1_two_277 : decode cX1_two 277 = .ok (.lcmp, 1) := by decide +kernel
theorem dX1_two_278 : decode cX1_two 278 = .ok (.ifCond .ne 15, 3) := by decide +kernel
theorem dX1_two_281 : decode cX1_two 281 = .ok (.lload 9, 2) := by decide +kernel
theorem dX1_two_283 : decode cX1_two 283 = .ok (.lconst 0, 1) := by decide +kernel
theorem dX1_two_284 : decode cX1_two 284 = .ok (.lcmp, 1) := by decide +kernel
theorem dX1_two_285 : decode cX1_two 285 = .ok (.ifCond .ne 8, 3) := by decide +kernel
theorem dX1_two_288 : decode cX1_two 288 = .ok (.bipush (-3), 2) := by decide +kernel
theorem dX1_two_290 : decode cX1_two 290 = .ok (.goto 14, 3) := by decide +kernel
theorem dX1_two_293 : decode cX1_two 293 = .ok (.aload_n 0, 1) := by decide +kernel
theorem dX1_two_294 : decode cX1_two 294 = .ok (.lload 9, 2) := by decide +kernel
theorem dX1_two_296 : decode cX1_two 296 = .ok (.lload 7, 2) := by decide +kernel
theorem dX1_two_298 : decode cX1_two 298 = .ok (.invokestatic 80, 3) := by decide +kernel
theorem dX1_two_301 : decode cX1_two 301 = .ok (.invokevirtual 69, 3) := by decide +kernel
theorem dX1_two_304 : decode cX1_two 304 = .ok (.ireturn, 1) := by decide +kernel
set_option maxRecDepth 20000 in
theorem ggX1_onWholes_X1_whole : GoodIn wsX1_onWholes wsX1_whole := goodIn_r _ [5, 6, 7, 8, 9, 13, 14, 15, 16, 17, 18, 19] (by decide +kernel) (by decide +kernel)
set_option maxRecDepth 20000 in
theorem gX1_onWholes_X1_whole : GoodIn wsX1_onWholes (wsV RX1 58 RX1 yX1_whole wsX1_whole) := goodIn_app (goodIn_of _ (by decide +kernel)) ggX1_onWholes_X1_whole
set_option maxRecDepth 20000 in
theorem ggX1_onWholes_X1_shifted : GoodIn wsX1_onWholes wsX1_shifted := goodIn_r _ [12] (by decide +kernel) (by decide +kernel)
set_option maxRecDepth 20000 in
theorem gX1_onWholes_X1_shifted : GoodIn wsX1_onWholes (va_wsS RX1 83 yX1_shifted wsX1_shifted) := goodIn_app (goodIn_of _ (by decide +kernel)) ggX1_onWholes_X1_shifted
theorem dX1_onWholes_0 : decode cX1_onWholes 0 = .ok (.iload_n 1, 1) := by decide +kernel
theorem dX1_onWholes_1 : decode cX1_onWholes 1 = .ok (.tableswitch 104 4 9 #[39, 58, 104, 77, 86, 95], 39) := by decide +kernel
theorem dX1_onWholes_40 : decode cX1_onWholes 40 = .ok (.iload_n 3, 1) := by decide +kernel
theorem dX1_onWholes_41 : decode cX1_onWholes 41 = .ok (.ifCond .ne 8, 3) := by decide +kernel
theorem dX1_onWholes_44 : decode cX1_onWholes 44 = .ok (.bipush (-3), 2) := by decide +kernel
theorem dX1_onWholes_46 : decode cX1_onWholes 46 = .ok (.goto 12, 3) := by decide +kernel
theorem dX1_onWholes_49 : decode cX1_onWholes 49 = .ok (.aload_n 0, 1) := by decide +kernel
theorem dX1_onWholes_50 : decode cX1_onWholes 50 = .ok (.iload_n 2, 1) := by decide +kernel
theorem dX1_onWholes_51 : decode cX1_onWholes 51 = .ok (.i2l, 1) := by decide +kernel
theorem dX1_onWholes_52 : decode cX1_onWholes 52 = .ok (.iload_n 3, 1) := by decide +kernel
theorem dX1_onWholes_53 : decode cX1_onWholes 53 = .ok (.i2l, 1) := by decide +kernel
theorem dX1_onWholes_54 : decode cX1_onWholes 54 = .ok (.ldiv, 1) := by decide +kernel
theorem dX1_onWholes_55 : decode cX1_onWholes 55 = .ok (.invokevirtual 58, 3) := by decide +kernel
theorem dX1_onWholes_58 : decode cX1_onWholes 58 = .ok (.ireturn, 1) := by decide +kernel
theorem dX1_onWholes_59 : decode cX1_onWholes 59 = .ok (.iload_n 3, 1) := by decide +kernel
theorem dX1_onWholes_60 : decode cX1_onWholes 60 = .ok (.ifCond .ne 8, 3) := by decide +kernel
theorem dX1_onWholes_63 : decode cX1_onWholes 63 = .ok (.bipush (-3), 2) := by decide +kernel
theorem dX1_onWholes_65 : decode cX1_onWholes 65 = .ok (.goto 12, 3) := by decide +kernel
theorem dX1_onWholes_68 : decode cX1_onWholes 68 = .ok (.aload_n 0, 1) := by decide +kernel
theorem dX1_onWholes_69 : decode cX1_onWholes 69 = .ok (.iload_n 2, 1) := by decide +kernel
theorem dX1_onWholes_70 : decode cX1_onWholes 70 = .ok (.i2l, 1) := by decide +kernel
theorem dX1_onWholes_71 : decode cX1_onWholes 71 = .ok (.iload_n 3, 1) := by decide +kernel
theorem dX1_onWholes_72 : decode cX1_onWholes 72 = .ok (.i2l, 1) := by decide +kernel
theorem dX1_onWholes_73 : decode cX1_onWholes 73 = .ok (.lrem, 1) := by decide +kernel
theorem dX1_onWholes_74 : decode cX1_onWholes 74 = .ok (.invokevirtual 58, 3) := by decide +kernel
theorem dX1_onWholes_77 : decode cX1_onWholes 77 = .ok (.ireturn, 1) := by decide +kernel
theorem dX1_onWholes_78 : decode cX1_onWholes 78 = .ok (.aload_n 0, 1) := by decide +kernel
theorem dX1_onWholes_79 : decode cX1_onWholes 79 = .ok (.iload_n 2, 1) := by decide +kernel
theorem dX1_onWholes_80 : decode cX1_onWholes 80 = .ok (.iload_n 3, 1) := by decide +kernel
theorem dX1_onWholes_81 : decode cX1_onWholes 81 = .ok (.iand, 1) := by decide +kernel
theorem dX1_onWholes_82 : decode cX1_onWholes 82 = .ok (.i2l, 1) := by decide +kernel
theorem dX1_onWholes_83 : decode cX1_onWholes 83 = .ok (.invokevirtual 58, 3) := by decide +kernel
theorem dX1_onWholes_86 : decode cX1_onWholes 86 = .ok (.ireturn, 1) := by decide +kernel
theorem dX1_onWholes_87 : decode cX1_onWholes 87 = .ok (.aload_n 0, 1) := by decide +kernel
theorem dX1_onWholes_88 : decode cX1_onWholes 88 = .ok (.iload_n 2, 1) := by decide +kernel
theorem dX1_onWholes_89 : decode cX1_onWholes 89 = .ok (.iload_n 3, 1) := by decide +kernel
theorem dX1_onWholes_90 : decode cX1_onWholes 90 = .ok (.ior, 1) := by decide +kernel
theorem dX1_onWholes_91 : decode cX1_onWholes 91 = .ok (.i2l, 1) := by decide +kernel
theorem dX1_onWholes_92 : decode cX1_onWholes 92 = .ok (.invokevirtual 58, 3) := by decide +kernel
theorem dX1_onWholes_95 : decode cX1_onWholes 95 = .ok (.ireturn, 1) := by decide +kernel
theorem dX1_onWholes_96 : decode cX1_onWholes 96 = .ok (.aload_n 0, 1) := by decide +kernel
theorem dX1_onWholes_97 : decode cX1_onWholes 97 = .ok (.iload_n 2, 1) := by decide +kernel
theorem dX1_onWholes_98 : decode cX1_onWholes 98 = .ok (.iload_n 3, 1) := by decide +kernel
theorem dX1_onWholes_99 : decode cX1_onWholes 99 = .ok (.ixor, 1) := by decide +kernel
theorem dX1_onWholes_100 : decode cX1_onWholes 100 = .ok (.i2l, 1) := by decide +kernel
theorem dX1_onWholes_101 : decode cX1_onWholes 101 = .ok (.invokevirtual 58, 3) := by decide +kernel
theorem dX1_onWholes_104 : decode cX1_onWholes 104 = .ok (.ireturn, 1) := by decide +kernel
theorem dX1_onWholes_105 : decode cX1_onWholes 105 = .ok (.aload_n 0, 1) := by decide +kernel
theorem dX1_onWholes_106 : decode cX1_onWholes 106 = .ok (.iload_n 2, 1) := by decide +kernel
theorem dX1_onWholes_107 : decode cX1_onWholes 107 = .ok (.iload_n 3, 1) := by decide +kernel
theorem dX1_onWholes_108 : decode cX1_onWholes 108 = .ok (.invokestatic 83, 3) := by decide +kernel
theorem dX1_onWholes_111 : decode cX1_onWholes 111 = .ok (.i2l, 1) := by decide +kernel
theorem dX1_onWholes_112 : decode cX1_onWholes 112 = .ok (.invokevirtual 58, 3) := by decide +kernel
theorem dX1_onWholes_115 : decode cX1_onWholes 115 = .ok (.ireturn, 1) := by decide +kernel
theorem dX1_shifted_0 : decode cX1_shifted 0 = .ok (.iload_n 0, 1) := by decide +kernel
theorem dX1_shifted_1 : decode cX1_shifted 1 = .ok (.istore_n 2, 1) := by decide +kernel
theorem dX1_shifted_2 : decode cX1_shifted 2 = .ok (.iload_n 1, 1) := by decide +kernel
theorem dX1_shifted_3 : decode cX1_shifted 3 = .ok (.bipush 31, 2) := by decide +kernel
theorem dX1_shifted_5 : decode cX1_shifted 5 = .ok (.if_icmp .gt 9, 3) := by decide +kernel
theorem dX1_shifted_8 : decode cX1_shifted 8 = .ok (.iload_n 1, 1) := by decide +kernel
theorem dX1_shifted_9 : decode cX1_shifted 9 = .ok (.bipush (-31), 2) := by decide +kernel
theorem dX1_shifted_11 : decode cX1_shifted 11 = .ok (.if_icmp .ge 5, 3) := by decide +kernel
theorem dX1_shifted_14 : decode cX1_shifted 14 = .ok (.iconst 0, 1) := by decide +kernel
theorem dX1_shifted_15 : decode cX1_shifted 15 = .ok (.ireturn, 1) := by decide +kernel
theorem dX1_shifted_16 : decode cX1_shifted 16 = .ok (.iconst 0, 1) := by decide +kernel
theorem dX1_shifted_17 : decode cX1_shifted 17 = .ok (.istore_n 3, 1) := by decide +kernel
theorem dX1_shifted_18 : decode cX1_shifted 18 = .ok (.iload_n 3, 1) := by decide +kernel
theorem dX1_shifted_19 : decode cX1_shifted 19 = .ok (.iload_n 1, 1) := by decide +kernel
theorem dX1_shifted_20 : decode cX1_shifted 20 = .ok (.if_icmp .ge 13, 3) := by decide +kernel
theorem dX1_shifted_23 : decode cX1_shifted 23 = .ok (.iload_n 2, 1) := by decide +kernel
theorem dX1_shifted_24 : decode cX1_shifted 24 = .ok (.iload_n 2, 1) := by decide +kernel
theorem dX1_shifted_25 : decode cX1_shifted 25 = .ok (.iadd, 1) := by decide +kernel
theorem dX1_shifted_26 : decode cX1_shifted 26 = .ok (.istore_n 2, 1) := by decide +kernel
theorem dX1_shifted_27 : decode cX1_shifted 27 = .ok (.iinc 3 1, 3) := by decide +kernel
theorem dX1_shifted_30 : decode cX1_shifted 30 = .ok (.goto (-12), 3) := by decide +kernel
theorem dX1_shifted_33 : decode cX1_shifted 33 = .ok (.iconst 0, 1) := by decide +kernel
theorem dX1_shifted_34 : decode cX1_shifted 34 = .ok (.istore_n 3, 1) := by decide +kernel
theorem dX1_shifted_35 : decode cX1_shifted 35 = .ok (.iload_n 3, 1) := by decide +kernel
theorem dX1_shifted_36 : decode cX1_shifted 36 = .ok (.iload_n 1, 1) := by decide +kernel
theorem dX1_shifted_37 : decode cX1_shifted 37 = .ok (.if_icmp .le 13, 3) := by decide +kernel
theorem dX1_shifted_40 : decode cX1_shifted 40 = .ok (.iload_n 2, 1) := by decide +kernel
theorem dX1_shifted_41 : decode cX1_shifted 41 = .ok (.iconst 1, 1) := by decide +kernel
theorem dX1_shifted_42 : decode cX1_shifted 42 = .ok (.iushr, 1) := by decide +kernel
theorem dX1_shifted_43 : decode cX1_shifted 43 = .ok (.istore_n 2, 1) := by decide +kernel
theorem dX1_shifted_44 : decode cX1_shifted 44 = .ok (.iinc 3 (-1), 3) := by decide +kernel
theorem dX1_shifted_47 : decode cX1_shifted 47 = .ok (.goto (-12), 3) := by decide +kernel
theorem dX1_shifted_50 : decode cX1_shifted 50 = .ok (.iload_n 2, 1) := by decide +kernel
theorem dX1_shifted_51 : decode cX1_shifted 51 = .ok (.ireturn, 1) := by decide +kernel
set_option maxRecDepth 20000 in
theorem ggX1_one_X1_isValue : GoodIn wsX1_one wsX1_isValue := goodIn_r _ [5, 6] (by decide +kernel) (by decide +kernel)
set_option maxRecDepth 20000 in
theorem gX1_one_X1_isValue : GoodIn wsX1_one (va_wsS RX1 50 yX1_isValue wsX1_isValue) := goodIn_app (goodIn_of _ (by decide +kernel)) ggX1_one_X1_isValue
set_option maxRecDepth 20000 in
theorem ggX1_one_X1_whole : GoodIn wsX1_one wsX1_whole := goodIn_r _ [10, 11, 12, 13, 14, 54, 55, 56, 57, 58, 59, 60] (by decide +kernel) (by decide +kernel)
set_option maxRecDepth 20000 in
theorem gX1_one_X1_whole : GoodIn wsX1_one (wsV RX1 58 RX1 yX1_whole wsX1_whole) := goodIn_app (goodIn_of _ (by decide +kernel)) ggX1_one_X1_whole
set_option maxRecDepth 20000 in
theorem ggX1_one_X1_onWhole : GoodIn wsX1_one wsX1_onWhole := goodIn_r _ [18, 7, 8, 9, 4, 10, 11, 12, 13, 14, 54, 55, 56, 57, 58, 59, 60] (by decide +kernel) (by decide +kernel)
set_option maxRecDepth 20000 in
theorem gX1_one_X1_onWhole : GoodIn wsX1_one (wsV RX1 87 RX1 yX1_onWhole wsX1_onWhole) := goodIn_app (goodIn_of _ (by decide +kernel)) ggX1_one_X1_onWhole
set_option maxRecDepth 20000 in
theorem ggX1_one_X1_onReal : GoodIn wsX1_one wsX1_onReal := goodIn_r _ [22, 23, 24, 25, 4, 26, 27, 28, 29, 30, 11, 31, 13, 14, 32, 33, 34, 35, 7, 8, 9, 10, 12, 54, 55, 56, 57, 58, 59, 60] (by decide +kernel) (by decide +kernel)
set_option maxRecDepth 20000 in
theorem gX1_one_X1_onReal : GoodIn wsX1_one (wsV RX1 91 RX1 yX1_onReal wsX1_onReal) := goodIn_app (goodIn_of _ (by decide +kernel)) ggX1_one_X1_onReal
set_option maxRecDepth 20000 in
theorem ggX1_one_X1_hasUnits : GoodIn wsX1_one wsX1_hasUnits := goodIn_r _ [38] (by decide +kernel) (by decide +kernel)
set_option maxRecDepth 20000 in
theorem gX1_one_X1_hasUnits : GoodIn wsX1_one (va_wsS RX1 62 yX1_hasUnits wsX1_hasUnits) := goodIn_app (goodIn_of _ (by decide +kernel)) ggX1_one_X1_hasUnits
set_option maxRecDepth 20000 in
theorem ggX1_one_X1_units : GoodIn wsX1_one wsX1_units := goodIn_r _ [41, 23] (by decide +kernel) (by decide +kernel)
set_option maxRecDepth 20000 in
theorem gX1_one_X1_units : GoodIn wsX1_one (va_wsS RX1 65 yX1_units wsX1_units) := goodIn_app (goodIn_of _ (by decide +kernel)) ggX1_one_X1_units
set_option maxRecDepth 20000 in
theorem ggX1_one_X1_root : GoodIn wsX1_one wsX1_root := goodIn_r _ [44, 23] (by decide +kernel) (by decide +kernel)
set_option maxRecDepth 20000 in
theorem gX1_one_X1_root : GoodIn wsX1_one (va_wsS RX1 94 yX1_root wsX1_root) := goodIn_app (goodIn_of _ (by decide +kernel)) ggX1_one_X1_root
set_option maxRecDepth 20000 in
theorem ggX1_one_X1_real : GoodIn wsX1_one wsX1_real := goodIn_r _ [30, 11, 31, 13, 14, 54, 55, 56, 57, 58, 59, 60] (by decide +kernel) (by decide +kernel)
set_option maxRecDepth 20000 in
theorem gX1_one_X1_real : GoodIn wsX1_one (wsV RX1 69 RX1 yX1_real wsX1_real) := goodIn_app (goodIn_of _ (by decide +kernel)) ggX1_one_X1_real
set_option maxRecDepth 20000 in
theorem ggX1_one_X1_sine : GoodIn wsX1_one wsX1_sine := goodIn_r _ [47, 48, 49, 1, 24, 25, 4, 26, 50, 51, 52, 23, 53, 32, 33, 34, 35] (by decide +kernel) (by decide +kernel)
set_option maxRecDepth 20000 in
theorem gX1_one_X1_sine : GoodIn wsX1_one (va_wsS RX1 97 yX1_sine wsX1_sine) := goodIn_app (goodIn_of _ (by decide +kernel)) ggX1_one_X1_sine
theorem dX1_one_0 : decode cX1_one 0 = .ok (.iload_n 1, 1) := by decide +kernel
theorem dX1_one_1 : decode cX1_one 1 = .ok (.ifCond .lt 17, 3) := by decide +kernel
theorem dX1_one_4 : decode cX1_one 4 = .ok (.iload_n 1, 1) := by decide +kernel
theorem dX1_one_5 : decode cX1_one 5 = .ok (.bipush 11, 2) := by decide +kernel
theorem dX1_one_7 : decode cX1_one 7 = .ok (.if_icmp .gt 11, 3) := by decide +kernel
theorem dX1_one_10 : decode cX1_one 10 = .ok (.iload_n 2, 1) := by decide +kernel
theorem dX1_one_11 : decode cX1_one 11 = .ok (.iload_n 3, 1) := by decide +kernel
theorem dX1_one_12 : decode cX1_one 12 = .ok (.invokestatic 50, 3) := by decide +kernel
theorem dX1_one_15 : decode cX1_one 15 = .ok (.ifCond .ne 5, 3) := by decide +kernel
theorem dX1_one_18 : decode cX1_one 18 = .ok (.iconst (-1), 1) := by decide +kernel
theorem dX1_one_19 : decode cX1_one 19 = .ok (.ireturn, 1) := by decide +kernel
theorem dX1_one_20 : decode cX1_one 20 = .ok (.iload_n 1, 1) := by decide +kernel
theorem dX1_one_21 : decode cX1_one 21 = .ok (.bipush 11, 2) := by decide +kernel
theorem dX1_one_23 : decode cX1_one 23 = .ok (.if_icmp .ne 22, 3) := by decide +kernel
theorem dX1_one_26 : decode cX1_one 26 = .ok (.iload_n 2, 1) := by decide +kernel
theorem dX1_one_27 : decode cX1_one 27 = .ok (.iconst 2, 1) := by decide +kernel
theorem dX1_one_28 : decode cX1_one 28 = .ok (.if_icmp .ne 8, 3) := by decide +kernel
theorem dX1_one_31 : decode cX1_one 31 = .ok (.bipush (-4), 2) := by decide +kernel
theorem dX1_one_33 : decode cX1_one 33 = .ok (.goto 11, 3) := by decide +kernel
theorem dX1_one_36 : decode cX1_one 36 = .ok (.aload_n 0, 1) := by decide +kernel
theorem dX1_one_37 : decode cX1_one 37 = .ok (.iload_n 3, 1) := by decide +kernel
theorem dX1_one_38 : decode cX1_one 38 = .ok (.iconst (-1), 1) := by decide +kernel
theorem dX1_one_39 : decode cX1_one 39 = .ok (.ixor, 1) := by decide +kernel
theorem dX1_one_40 : decode cX1_one 40 = .ok (.i2l, 1) := by decide +kernel
theorem dX1_one_41 : decode cX1_one 41 = .ok (.invokevirtual 58, 3) := by decide +kernel
theorem dX1_one_44 : decode cX1_one 44 = .ok (.ireturn, 1) := by decide +kernel
theorem dX1_one_45 : decode cX1_one 45 = .ok (.iload_n 1, 1) := by decide +kernel
theorem dX1_one_46 : decode cX1_one 46 = .ok (.bipush 6, 2) := by decide +kernel
theorem dX1_one_48 : decode cX1_one 48 = .ok (.if_icmp .lt 9, 3) := by decide +kernel
theorem dX1_one_51 : decode cX1_one 51 = .ok (.iload_n 1, 1) := by decide +kernel
theorem dX1_one_52 : decode cX1_one 52 = .ok (.bipush 9, 2) := by decide +kernel
theorem dX1_one_54 : decode cX1_one 54 = .ok (.if_icmp .ne 26, 3) := by decide +kernel
theorem dX1_one_57 : decode cX1_one 57 = .ok (.iload_n 2, 1) := by decide +kernel
theorem dX1_one_58 : decode cX1_one 58 = .ok (.iconst 1, 1) := by decide +kernel
theorem dX1_one_59 : decode cX1_one 59 = .ok (.if_icmp .ne 13, 3) := by decide +kernel
theorem dX1_one_62 : decode cX1_one 62 = .ok (.aload_n 0, 1) := by decide +kernel
theorem dX1_one_63 : decode cX1_one 63 = .ok (.iload_n 1, 1) := by decide +kernel
theorem dX1_one_64 : decode cX1_one 64 = .ok (.iload_n 3, 1) := by decide +kernel
theorem dX1_one_65 : decode cX1_one 65 = .ok (.i2l, 1) := by decide +kernel
theorem dX1_one_66 : decode cX1_one 66 = .ok (.invokevirtual 87, 3) := by decide +kernel
theorem dX1_one_69 : decode cX1_one 69 = .ok (.goto 10, 3) := by decide +kernel
theorem dX1_one_72 : decode cX1_one 72 = .ok (.aload_n 0, 1) := by decide +kernel
theorem dX1_one_73 : decode cX1_one 73 = .ok (.iload_n 1, 1) := by decide +kernel
theorem dX1_one_74 : decode cX1_one 74 = .ok (.iload_n 3, 1) := by decide +kernel
theorem dX1_one_75 : decode cX1_one 75 = .ok (.i2l, 1) := by decide +kernel
theorem dX1_one_76 : decode cX1_one 76 = .ok (.invokevirtual 91, 3) := by decide +kernel
theorem dX1_one_79 : decode cX1_one 79 = .ok (.ireturn, 1) := by decide +kernel
theorem dX1_one_80 : decode cX1_one 80 = .ok (.iload_n 2, 1) := by decide +kernel
theorem dX1_one_81 : decode cX1_one 81 = .ok (.iload_n 3, 1) := by decide +kernel
theorem dX1_one_82 : decode cX1_one 82 = .ok (.invokestatic 62, 3) := by decide +kernel
theorem dX1_one_85 : decode cX1_one 85 = .ok (.ifCond .ne 6, 3) := by decide +kernel
theorem dX1_one_88 : decode cX1_one 88 = .ok (.bipush (-2), 2) := by decide +kernel
theorem dX1_one_90 : decode cX1_one 90 = .ok (.ireturn, 1) := by decide +kernel
theorem dX1_one_91 : decode cX1_one 91 = .ok (.iload_n 2, 1) := by decide +kernel
theorem dX1_one_92 : decode cX1_one 92 = .ok (.iload_n 3, 1) := by decide +kernel
theorem dX1_one_93 : decode cX1_one 93 = .ok (.invokestatic 65, 3) := by decide +kernel
theorem dX1_one_96 : decode cX1_one 96 = .ok (.lstore 4, 2) := by decide +kernel
theorem dX1_one_98 : decode cX1_one 98 = .ok (.iload_n 1, 1) := by decide +kernel
theorem dX1_one_99 : decode cX1_one 99 = .ok (.tableswitch 71 6 8 #[25, 47, 57], 25) := by decide +kernel
theorem dX1_one_124 : decode cX1_one 124 = .ok (.lload 4, 2) := by decide +kernel
theorem dX1_one_126 : decode cX1_one 126 = .ok (.lconst 0, 1) := by decide +kernel
theorem dX1_one_127 : decode cX1_one 127 = .ok (.lcmp, 1) := by decide +kernel
theorem dX1_one_128 : decode cX1_one 128 = .ok (.ifCond .ge 8, 3) := by decide +kernel
theorem dX1_one_131 : decode cX1_one 131 = .ok (.bipush (-3), 2) := by decide +kernel
theorem dX1_one_133 : decode cX1_one 133 = .ok (.goto 12, 3) := by decide +kernel
theorem dX1_one_136 : decode cX1_one 136 = .ok (.aload_n 0, 1) := by decide +kernel
theorem dX1_one_137 : decode cX1_one 137 = .ok (.lload 4, 2) := by decide +kernel
theorem dX1_one_139 : decode cX1_one 139 = .ok (.invokestatic 94, 3) := by decide +kernel
theorem dX1_one_142 : decode cX1_one 142 = .ok (.invokevirtual 69, 3) := by decide +kernel
theorem dX1_one_145 : decode cX1_one 145 = .ok (.ireturn, 1) := by decide +kernel
theorem dX1_one_146 : decode cX1_one 146 = .ok (.aload_n 0, 1) := by decide +kernel
theorem dX1_one_147 : decode cX1_one 147 = .ok (.lload 4, 2) := by decide +kernel
theorem dX1_one_149 : decode cX1_one 149 = .ok (.invokestatic 97, 3) := by decide +kernel
theorem dX1_one_152 : decode cX1_one 152 = .ok (.invokevirtual 69, 3) := by decide +kernel
theorem dX1_one_155 : decode cX1_one 155 = .ok (.ireturn, 1) := by decide +kernel
theorem dX1_one_156 : decode cX1_one 156 = .ok (.aload_n 0, 1) := by decide +kernel
theorem dX1_one_157 : decode cX1_one 157 = .ok (.lload 4, 2) := by decide +kernel
theorem dX1_one_159 : decode cX1_one 159 = .ok (.ldc2_w 100, 3) := by decide +kernel
theorem dX1_one_162 : decode cX1_one 162 = .ok (.ladd, 1) := by decide +kernel
theorem dX1_one_163 : decode cX1_one 163 = .ok (.invokestatic 97, 3) := by decide +kernel
theorem dX1_one_166 : decode cX1_one 166 = .ok (.invokevirtual 69, 3) := by decide +kernel
theorem dX1_one_169 : decode cX1_one 169 = .ok (.ireturn, 1) := by decide +kernel
theorem dX1_one_170 : decode cX1_one 170 = .ok (.aload_n 0, 1) := by decide +kernel
theorem dX1_one_171 : decode cX1_one 171 = .ok (.lload 4, 2) := by decide +kernel
theorem dX1_one_173 : decode cX1_one 173 = .ok (.invokevirtual 69, 3) := by decide +kernel
theorem dX1_one_176 : decode cX1_one 176 = .ok (.ireturn, 1) := by decide +kernel
set_option maxRecDepth 20000 in
theorem ggX1_onWhole_X1_whole : GoodIn wsX1_onWhole wsX1_whole := goodIn_r _ [5, 6, 7, 8, 9, 10, 11, 12, 13, 14, 15, 16] (by decide +kernel) (by decide +kernel)
set_option maxRecDepth 20000 in
theorem gX1_onWhole_X1_whole : GoodIn wsX1_onWhole (wsV RX1 58 RX1 yX1_whole wsX1_whole) := goodIn_app (goodIn_of _ (by decide +kernel)) ggX1_onWhole_X1_whole
theorem dX1_onWhole_0 : decode cX1_onWhole 0 = .ok (.aload_n 0, 1) := by decide +kernel
theorem dX1_onWhole_1 : decode cX1_onWhole 1 = .ok (.iload_n 1, 1) := by decide +kernel
theorem dX1_onWhole_2 : decode cX1_onWhole 2 = .ok (.ifCond .eq 14, 3) := by decide +kernel
theorem dX1_onWhole_5 : decode cX1_onWhole 5 = .ok (.iload_n 1, 1) := by decide +kernel
theorem dX1_onWhole_6 : decode cX1_onWhole 6 = .ok (.iconst 1, 1) := by decide +kernel
theorem dX1_onWhole_7 : decode cX1_onWhole 7 = .ok (.if_icmp .ne 14, 3) := by decide +kernel
theorem dX1_onWhole_10 : decode cX1_onWhole 10 = .ok (.lload_n 2, 1) := by decide +kernel
theorem dX1_onWhole_11 : decode cX1_onWhole 11 = .ok (.lconst 0, 1) := by decide +kernel
theorem dX1_onWhole_12 : decode cX1_onWhole 12 = .ok (.lcmp, 1) := by decide +kernel
theorem dX1_onWhole_13 : decode cX1_onWhole 13 = .ok (.ifCond .ge 8, 3) := by decide +kernel
theorem dX1_onWhole_16 : decode cX1_onWhole 16 = .ok (.lload_n 2, 1) := by decide +kernel
theorem dX1_onWhole_17 : decode cX1_onWhole 17 = .ok (.lneg, 1) := by decide +kernel
theorem dX1_onWhole_18 : decode cX1_onWhole 18 = .ok (.goto 4, 3) := by decide +kernel
theorem dX1_onWhole_21 : decode cX1_onWhole 21 = .ok (.lload_n 2, 1) := by decide +kernel
theorem dX1_onWhole_22 : decode cX1_onWhole 22 = .ok (.invokevirtual 58, 3) := by decide +kernel
theorem dX1_onWhole_25 : decode cX1_onWhole 25 = .ok (.ireturn, 1) := by decide +kernel
set_option maxRecDepth 20000 in
theorem ggX1_onReal_X1_down : GoodIn wsX1_onReal wsX1_down := goodIn_r _ [5] (by decide +kernel) (by decide +kernel)
set_option maxRecDepth 20000 in
theorem gX1_onReal_X1_down : GoodIn wsX1_onReal (va_wsS RX1 36 yX1_down wsX1_down) := goodIn_app (goodIn_of _ (by decide +kernel)) ggX1_onReal_X1_down
set_option maxRecDepth 20000 in
theorem ggX1_onReal_X1_real : GoodIn wsX1_onReal wsX1_real := goodIn_r _ [9, 10, 11, 12, 13, 23, 24, 25, 26, 27, 28, 29] (by decide +kernel) (by decide +kernel)
set_option maxRecDepth 20000 in
theorem gX1_onReal_X1_real : GoodIn wsX1_onReal (wsV RX1 69 RX1 yX1_real wsX1_real) := goodIn_app (goodIn_of _ (by decide +kernel)) ggX1_onReal_X1_real
set_option maxRecDepth 20000 in
theorem ggX1_onReal_X1_rounded : GoodIn wsX1_onReal wsX1_rounded := goodIn_r _ [16, 17, 1, 2, 3, 4, 5] (by decide +kernel) (by decide +kernel)
set_option maxRecDepth 20000 in
theorem gX1_onReal_X1_rounded : GoodIn wsX1_onReal (va_wsS RX1 72 yX1_rounded wsX1_rounded) := goodIn_app (goodIn_of _ (by decide +kernel)) ggX1_onReal_X1_rounded
set_option maxRecDepth 20000 in
theorem ggX1_onReal_X1_whole : GoodIn wsX1_onReal wsX1_whole := goodIn_r _ [21, 10, 22, 12, 13, 23, 24, 25, 26, 27, 28, 29] (by decide +kernel) (by decide +kernel)
set_option maxRecDepth 20000 in
theorem gX1_onReal_X1_whole : GoodIn wsX1_onReal (wsV RX1 58 RX1 yX1_whole wsX1_whole) := goodIn_app (goodIn_of _ (by decide +kernel)) ggX1_onReal_X1_whole
theorem dX1_onReal_0 : decode cX1_onReal 0 = .ok (.lload_n 2, 1) := by decide +kernel
theorem dX1_onReal_1 : decode cX1_onReal 1 = .ok (.ldc2_w 23, 3) := by decide +kernel
theorem dX1_onReal_4 : decode cX1_onReal 4 = .ok (.invokestatic 36, 3) := by decide +kernel
theorem dX1_onReal_7 : decode cX1_onReal 7 = .ok (.lstore 4, 2) := by decide +kernel
theorem dX1_onReal_9 : decode cX1_onReal 9 = .ok (.lload 4, 2) := by decide +kernel
theorem dX1_onReal_11 : decode cX1_onReal 11 = .ok (.ldc2_w 23, 3) := by decide +kernel
theorem dX1_onReal_14 : decode cX1_onReal 14 = .ok (.lmul, 1) := by decide +kernel
theorem dX1_onReal_15 : decode cX1_onReal 15 = .ok (.lload_n 2, 1) := by decide +kernel
theorem dX1_onReal_16 : decode cX1_onReal 16 = .ok (.lcmp, 1) := by decide +kernel
theorem dX1_onReal_17 : decode cX1_onReal 17 = .ok (.ifCond .ne 7, 3) := by decide +kernel
theorem dX1_onReal_20 : decode cX1_onReal 20 = .ok (.iconst 1, 1) := by decide +kernel
theorem dX1_onReal_21 : decode cX1_onReal 21 = .ok (.goto 4, 3) := by decide +kernel
theorem dX1_onReal_24 : decode cX1_onReal 24 = .ok (.iconst 0, 1) := by decide +kernel
theorem dX1_onReal_25 : decode cX1_onReal 25 = .ok (.istore 6, 2) := by decide +kernel
theorem dX1_onReal_27 : decode cX1_onReal 27 = .ok (.iload_n 1, 1) := by decide +kernel
theorem dX1_onReal_28 : decode cX1_onReal 28 = .ok (.tableswitch 125 0 5 #[40, 47, 64, 87, 98, 111], 40) := by decide +kernel
theorem dX1_onReal_68 : decode cX1_onReal 68 = .ok (.aload_n 0, 1) := by decide +kernel
theorem dX1_onReal_69 : decode cX1_onReal 69 = .ok (.lload_n 2, 1) := by decide +kernel
theorem dX1_onReal_70 : decode cX1_onReal 70 = .ok (.lneg, 1) := by decide +kernel
theorem dX1_onReal_71 : decode cX1_onReal 71 = .ok (.invokevirtual 69, 3) := by decide +kernel
theorem dX1_onReal_74 : decode cX1_onReal 74 = .ok (.ireturn, 1) := by decide +kernel
theorem dX1_onReal_75 : decode cX1_onReal 75 = .ok (.aload_n 0, 1) := by decide +kernel
theorem dX1_onReal_76 : decode cX1_onReal 76 = .ok (.lload_n 2, 1) := by decide +kernel
theorem dX1_onReal_77 : decode cX1_onReal 77 = .ok (.lconst 0, 1) := by decide +kernel
theorem dX1_onReal_78 : decode cX1_onReal 78 = .ok (.lcmp, 1) := by decide +kernel
theorem dX1_onReal_79 : decode cX1_onReal 79 = .ok (.ifCond .ge 8, 3) := by decide +kernel
theorem dX1_onReal_82 : decode cX1_onReal 82 = .ok (.lload_n 2, 1) := by decide +kernel
theorem dX1_onReal_83 : decode cX1_onReal 83 = .ok (.lneg, 1) := by decide +kernel
theorem dX1_onReal_84 : decode cX1_onReal 84 = .ok (.goto 4, 3) := by decide +kernel
theorem dX1_onReal_87 : decode cX1_onReal 87 = .ok (.lload_n 2, 1) := by decide +kernel
theorem dX1_onReal_88 : decode cX1_onReal 88 = .ok (.invokevirtual 69, 3) := by decide +kernel
theorem dX1_onReal_91 : decode cX1_onReal 91 = .ok (.ireturn, 1) := by decide +kernel
theorem dX1_onReal_92 : decode cX1_onReal 92 = .ok (.aload_n 0, 1) := by decide +kernel
theorem dX1_onReal_93 : decode cX1_onReal 93 = .ok (.iload 6, 2) := by decide +kernel
theorem dX1_onReal_95 : decode cX1_onReal 95 = .ok (.ifCond .eq 8, 3) := by decide +kernel
theorem dX1_onReal_98 : decode cX1_onReal 98 = .ok (.lload 4, 2) := by decide +kernel
theorem dX1_onReal_100 : decode cX1_onReal 100 = .ok (.goto 7, 3) := by decide +kernel
theorem dX1_onReal_103 : decode cX1_onReal 103 = .ok (.lload 4, 2) := by decide +kernel
theorem dX1_onReal_105 : decode cX1_onReal 105 = .ok (.lconst 1, 1) := by decide +kernel
theorem dX1_onReal_106 : decode cX1_onReal 106 = .ok (.ladd, 1) := by decide +kernel
theorem dX1_onReal_107 : decode cX1_onReal 107 = .ok (.ldc2_w 23, 3) := by decide +kernel
theorem dX1_onReal_110 : decode cX1_onReal 110 = .ok (.lmul, 1) := by decide +kernel
theorem dX1_onReal_111 : decode cX1_onReal 111 = .ok (.invokevirtual 69, 3) := by decide +kernel
theorem dX1_onReal_114 : decode cX1_onReal 114 = .ok (.ireturn, 1) := by decide +kernel
theorem dX1_onReal_115 : decode cX1_onReal 115 = .ok (.aload_n 0, 1) := by decide +kernel
theorem dX1_onReal_116 : decode cX1_onReal 116 = .ok (.lload 4, 2) := by decide +kernel
theorem dX1_onReal_118 : decode cX1_onReal 118 = .ok (.ldc2_w 23, 3) := by decide +kernel
theorem dX1_onReal_121 : decode cX1_onReal 121 = .ok (.lmul, 1) := by decide +kernel
theorem dX1_onReal_122 : decode cX1_onReal 122 = .ok (.invokevirtual 69, 3) := by decide +kernel
theorem dX1_onReal_125 : decode cX1_onReal 125 = .ok (.ireturn, 1) := by decide +kernel
theorem dX1_onReal_126 : decode cX1_onReal 126 = .ok (.aload_n 0, 1) := by decide +kernel
theorem dX1_onReal_127 : decode cX1_onReal 127 = .ok (.lload_n 2, 1) := by decide +kernel
theorem dX1_onReal_128 : decode cX1_onReal 128 = .ok (.invokestatic 72, 3) := by decide +kernel
theorem dX1_onReal_131 : decode cX1_onReal 131 = .ok (.ldc2_w 23, 3) := by decide +kernel
theorem dX1_onReal_134 : decode cX1_onReal 134 = .ok (.lmul, 1) := by decide +kernel
theorem dX1_onReal_135 : decode cX1_onReal 135 = .ok (.invokevirtual 69, 3) := by decide +kernel
theorem dX1_onReal_138 : decode cX1_onReal 138 = .ok (.ireturn, 1) := by decide +kernel
theorem dX1_onReal_139 : decode cX1_onReal 139 = .ok (.aload_n 0, 1) := by decide +kernel
theorem dX1_onReal_140 : decode cX1_onReal 140 = .ok (.lload_n 2, 1) := by decide +kernel
theorem dX1_onReal_141 : decode cX1_onReal 141 = .ok (.ldc2_w 23, 3) := by decide +kernel
theorem dX1_onReal_144 : decode cX1_onReal 144 = .ok (.ldiv, 1) := by decide +kernel
theorem dX1_onReal_145 : decode cX1_onReal 145 = .ok (.ldc2_w 23, 3) := by decide +kernel
theorem dX1_onReal_148 : decode cX1_onReal 148 = .ok (.lmul, 1) := by decide +kernel
theorem dX1_onReal_149 : decode cX1_onReal 149 = .ok (.invokevirtual 69, 3) := by decide +kernel
theorem dX1_onReal_152 : decode cX1_onReal 152 = .ok (.ireturn, 1) := by decide +kernel
theorem dX1_onReal_153 : decode cX1_onReal 153 = .ok (.aload_n 0, 1) := by decide +kernel
theorem dX1_onReal_154 : decode cX1_onReal 154 = .ok (.lload_n 2, 1) := by decide +kernel
theorem dX1_onReal_155 : decode cX1_onReal 155 = .ok (.ldc2_w 23, 3) := by decide +kernel
theorem dX1_onReal_158 : decode cX1_onReal 158 = .ok (.ldiv, 1) := by decide +kernel
theorem dX1_onReal_159 : decode cX1_onReal 159 = .ok (.invokevirtual 58, 3) := by decide +kernel
theorem dX1_onReal_162 : decode cX1_onReal 162 = .ok (.ireturn, 1) := by decide +kernel
theorem dX1_root_0 : decode cX1_root 0 = .ok (.lload_n 0, 1) := by decide +kernel
theorem dX1_root_1 : decode cX1_root 1 = .ok (.ldc2_w 23, 3) := by decide +kernel
theorem dX1_root_4 : decode cX1_root 4 = .ok (.lmul, 1) := by decide +kernel
theorem dX1_root_5 : decode cX1_root 5 = .ok (.lstore_n 2, 1) := by decide +kernel
theorem dX1_root_6 : decode cX1_root 6 = .ok (.lconst 0, 1) := by decide +kernel
theorem dX1_root_7 : decode cX1_root 7 = .ok (.lstore 4, 2) := by decide +kernel
theorem dX1_root_9 : decode cX1_root 9 = .ok (.bipush 24, 2) := by decide +kernel
theorem dX1_root_11 : decode cX1_root 11 = .ok (.istore 6, 2) := by decide +kernel
theorem dX1_root_13 : decode cX1_root 13 = .ok (.iload 6, 2) := by decide +kernel
theorem dX1_root_15 : decode cX1_root 15 = .ok (.ifCond .lt 32, 3) := by decide +kernel
theorem dX1_root_18 : decode cX1_root 18 = .ok (.lload 4, 2) := by decide +kernel
theorem dX1_root_20 : decode cX1_root 20 = .ok (.lconst 1, 1) := by decide +kernel
theorem dX1_root_21 : decode cX1_root 21 = .ok (.iload 6, 2) := by decide +kernel
theorem dX1_root_23 : decode cX1_root 23 = .ok (.lshl, 1) := by decide +kernel
theorem dX1_root_24 : decode cX1_root 24 = .ok (.ladd, 1) := by decide +kernel
theorem dX1_root_25 : decode cX1_root 25 = .ok (.lstore 7, 2) := by decide +kernel
theorem dX1_root_27 : decode cX1_root 27 = .ok (.lload 7, 2) := by decide +kernel
theorem dX1_root_29 : decode cX1_root 29 = .ok (.lload 7, 2) := by decide +kernel
theorem dX1_root_31 : decode cX1_root 31 = .ok (.lmul, 1) := by decide +kernel
theorem dX1_root_32 : decode cX1_root 32 = .ok (.lload_n 2, 1) := by decide +kernel
theorem dX1_root_33 : decode cX1_root 33 = .ok (.lcmp, 1) := by decide +kernel
theorem dX1_root_34 : decode cX1_root 34 = .ok (.ifCond .gt 7, 3) := by decide +kernel
theorem dX1_root_37 : decode cX1_root 37 = .ok (.lload 7, 2) := by decide +kernel
theorem dX1_root_39 : decode cX1_root 39 = .ok (.lstore 4, 2) := by decide +kernel
theorem dX1_root_41 : decode cX1_root 41 = .ok (.iinc 6 (-1), 3) := by decide +kernel
theorem dX1_root_44 : decode cX1_root 44 = .ok (.goto (-31), 3) := by decide +kernel
theorem dX1_root_47 : decode cX1_root 47 = .ok (.lload 4, 2) := by decide +kernel
theorem dX1_root_49 : decode cX1_root 49 = .ok (.lreturn, 1) := by decide +kernel
set_option maxRecDepth 20000 in
theorem ggX1_quarter_X1_rounded : GoodIn wsX1_quarter wsX1_rounded := goodIn_r _ [6, 7, 1, 8, 9, 5, 10] (by decide +kernel) (by decide +kernel)
set_option maxRecDepth 20000 in
theorem gX1_quarter_X1_rounded : GoodIn wsX1_quarter (va_wsS RX1 72 yX1_rounded wsX1_rounded) := goodIn_app (goodIn_of _ (by decide +kernel)) ggX1_quarter_X1_rounded
theorem dX1_quarter_0 : decode cX1_quarter 0 = .ok (.lload_n 0, 1) := by decide +kernel
theorem dX1_quarter_1 : decode cX1_quarter 1 = .ok (.ldc2_w 23, 3) := by decide +kernel
theorem dX1_quarter_4 : decode cX1_quarter 4 = .ok (.ldiv, 1) := by decide +kernel
theorem dX1_quarter_5 : decode cX1_quarter 5 = .ok (.l2i, 1) := by decide +kernel
theorem dX1_quarter_6 : decode cX1_quarter 6 = .ok (.istore_n 2, 1) := by decide +kernel
theorem dX1_quarter_7 : decode cX1_quarter 7 = .ok (.lload_n 0, 1) := by decide +kernel
theorem dX1_quarter_8 : decode cX1_quarter 8 = .ok (.iload_n 2, 1) := by decide +kernel
theorem dX1_quarter_9 : decode cX1_quarter 9 = .ok (.i2l, 1) := by decide +kernel
theorem dX1_quarter_10 : decode cX1_quarter 10 = .ok (.ldc2_w 23, 3) := by decide +kernel
theorem dX1_quarter_13 : decode cX1_quarter 13 = .ok (.lmul, 1) := by decide +kernel
theorem dX1_quarter_14 : decode cX1_quarter 14 = .ok (.lsub, 1) := by decide +kernel
theorem dX1_quarter_15 : decode cX1_quarter 15 = .ok (.lstore_n 3, 1) := by decide +kernel
theorem dX1_quarter_16 : decode cX1_quarter 16 = .ok (.lload_n 3, 1) := by decide +kernel
theorem dX1_quarter_17 : decode cX1_quarter 17 = .ok (.lconst 0, 1) := by decide +kernel
theorem dX1_quarter_18 : decode cX1_quarter 18 = .ok (.lcmp, 1) := by decide +kernel
theorem dX1_quarter_19 : decode cX1_quarter 19 = .ok (.ifCond .ne 10, 3) := by decide +kernel
theorem dX1_quarter_22 : decode cX1_quarter 22 = .ok (.getstatic 102, 3) := by decide +kernel
theorem dX1_quarter_25 : decode cX1_quarter 25 = .ok (.iload_n 2, 1) := by decide +kernel
theorem dX1_quarter_26 : decode cX1_quarter 26 = .ok (.iaload, 1) := by decide +kernel
theorem dX1_quarter_27 : decode cX1_quarter 27 = .ok (.i2l, 1) := by decide +kernel
theorem dX1_quarter_28 : decode cX1_quarter 28 = .ok (.lreturn, 1) := by decide +kernel
theorem dX1_quarter_29 : decode cX1_quarter 29 = .ok (.getstatic 102, 3) := by decide +kernel
theorem dX1_quarter_32 : decode cX1_quarter 32 = .ok (.iload_n 2, 1) := by decide +kernel
theorem dX1_quarter_33 : decode cX1_quarter 33 = .ok (.iaload, 1) := by decide +kernel
theorem dX1_quarter_34 : decode cX1_quarter 34 = .ok (.i2l, 1) := by decide +kernel
theorem dX1_quarter_35 : decode cX1_quarter 35 = .ok (.getstatic 102, 3) := by decide +kernel
theorem dX1_quarter_38 : decode cX1_quarter 38 = .ok (.iload_n 2, 1) := by decide +kernel
theorem dX1_quarter_39 : decode cX1_quarter 39 = .ok (.iconst 1, 1) := by decide +kernel
theorem dX1_quarter_40 : decode cX1_quarter 40 = .ok (.iadd, 1) := by decide +kernel
theorem dX1_quarter_41 : decode cX1_quarter 41 = .ok (.iaload, 1) := by decide +kernel
theorem dX1_quarter_42 : decode cX1_quarter 42 = .ok (.getstatic 102, 3) := by decide +kernel
theorem dX1_quarter_45 : decode cX1_quarter 45 = .ok (.iload_n 2, 1) := by decide +kernel
theorem dX1_quarter_46 : decode cX1_quarter 46 = .ok (.iaload, 1) := by decide +kernel
theorem dX1_quarter_47 : decode cX1_quarter 47 = .ok (.isub, 1) := by decide +kernel
theorem dX1_quarter_48 : decode cX1_quarter 48 = .ok (.i2l, 1) := by decide +kernel
theorem dX1_quarter_49 : decode cX1_quarter 49 = .ok (.lload_n 3, 1) := by decide +kernel
theorem dX1_quarter_50 : decode cX1_quarter 50 = .ok (.lmul, 1) := by decide +kernel
theorem dX1_quarter_51 : decode cX1_quarter 51 = .ok (.invokestatic 72, 3) := by decide +kernel
theorem dX1_quarter_54 : decode cX1_quarter 54 = .ok (.ladd, 1) := by decide +kernel
theorem dX1_quarter_55 : decode cX1_quarter 55 = .ok (.lreturn, 1) := by decide +kernel
set_option maxRecDepth 20000 in
theorem ggX1_sine_X1_down : GoodIn wsX1_sine wsX1_down := goodIn_r _ [7] (by decide +kernel) (by decide +kernel)
set_option maxRecDepth 20000 in
theorem gX1_sine_X1_down : GoodIn wsX1_sine (va_wsS RX1 36 yX1_down wsX1_down) := goodIn_app (goodIn_of _ (by decide +kernel)) ggX1_sine_X1_down
set_option maxRecDepth 20000 in
theorem ggX1_sine_X1_quarter : GoodIn wsX1_sine wsX1_quarter := goodIn_r _ [10, 11, 12, 13, 14, 6, 15, 16, 4, 5, 7] (by decide +kernel) (by decide +kernel)
set_option maxRecDepth 20000 in
theorem gX1_sine_X1_quarter : GoodIn wsX1_sine (va_wsS RX1 109 yX1_quarter wsX1_quarter) := goodIn_app (goodIn_of _ (by decide +kernel)) ggX1_sine_X1_quarter
theorem dX1_sine_0 : decode cX1_sine 0 = .ok (.ldc2_w 105, 3) := by decide +kernel
theorem dX1_sine_3 : decode cX1_sine 3 = .ok (.lstore_n 2, 1) := by decide +kernel
theorem dX1_sine_4 : decode cX1_sine 4 = .ok (.lload_n 0, 1) := by decide +kernel
theorem dX1_sine_5 : decode cX1_sine 5 = .ok (.lload_n 0, 1) := by decide +kernel
theorem dX1_sine_6 : decode cX1_sine 6 = .ok (.lload_n 2, 1) := by decide +kernel
theorem dX1_sine_7 : decode cX1_sine 7 = .ok (.invokestatic 36, 3) := by decide +kernel
theorem dX1_sine_10 : decode cX1_sine 10 = .ok (.lload_n 2, 1) := by decide +kernel
theorem dX1_sine_11 : decode cX1_sine 11 = .ok (.lmul, 1) := by decide +kernel
theorem dX1_sine_12 : decode cX1_sine 12 = .ok (.lsub, 1) := by decide +kernel
theorem dX1_sine_13 : decode cX1_sine 13 = .ok (.lstore 4, 2) := by decide +kernel
theorem dX1_sine_15 : decode cX1_sine 15 = .ok (.lload 4, 2) := by decide +kernel
theorem dX1_sine_17 : decode cX1_sine 17 = .ok (.ldc2_w 107, 3) := by decide +kernel
theorem dX1_sine_20 : decode cX1_sine 20 = .ok (.lcmp, 1) := by decide +kernel
theorem dX1_sine_21 : decode cX1_sine 21 = .ok (.ifCond .lt 7, 3) := by decide +kernel
theorem dX1_sine_24 : decode cX1_sine 24 = .ok (.iconst 1, 1) := by decide +kernel
theorem dX1_sine_25 : decode cX1_sine 25 = .ok (.goto 4, 3) := by decide +kernel
theorem dX1_sine_28 : decode cX1_sine 28 = .ok (.iconst 0, 1) := by decide +kernel
theorem dX1_sine_29 : decode cX1_sine 29 = .ok (.istore 6, 2) := by decide +kernel
theorem dX1_sine_31 : decode cX1_sine 31 = .ok (.iload 6, 2) := by decide +kernel
theorem dX1_sine_33 : decode cX1_sine 33 = .ok (.ifCond .eq 12, 3) := by decide +kernel
theorem dX1_sine_36 : decode cX1_sine 36 = .ok (.lload 4, 2) := by decide +kernel
theorem dX1_sine_38 : decode cX1_sine 38 = .ok (.ldc2_w 107, 3) := by decide +kernel
theorem dX1_sine_41 : decode cX1_sine 41 = .ok (.lsub, 1) := by decide +kernel
theorem dX1_sine_42 : decode cX1_sine 42 = .ok (.goto 5, 3) := by decide +kernel
theorem dX1_sine_45 : decode cX1_sine 45 = .ok (.lload 4, 2) := by decide +kernel
theorem dX1_sine_47 : decode cX1_sine 47 = .ok (.lstore 4, 2) := by decide +kernel
theorem dX1_sine_49 : decode cX1_sine 49 = .ok (.lload 4, 2) := by decide +kernel
theorem dX1_sine_51 : decode cX1_sine 51 = .ok (.ldc2_w 100, 3) := by decide +kernel
theorem dX1_sine_54 : decode cX1_sine 54 = .ok (.lcmp, 1) := by decide +kernel
theorem dX1_sine_55 : decode cX1_sine 55 = .ok (.ifCond .le 12, 3) := by decide +kernel
theorem dX1_sine_58 : decode cX1_sine 58 = .ok (.ldc2_w 107, 3) := by decide +kernel
theorem dX1_sine_61 : decode cX1_sine 61 = .ok (.lload 4, 2) := by decide +kernel
theorem dX1_sine_63 : decode cX1_sine 63 = .ok (.lsub, 1) := by decide +kernel
theorem dX1_sine_64 : decode cX1_sine 64 = .ok (.goto 5, 3) := by decide +kernel
theorem dX1_sine_67 : decode cX1_sine 67 = .ok (.lload 4, 2) := by decide +kernel
theorem dX1_sine_69 : decode cX1_sine 69 = .ok (.invokestatic 109, 3) := by decide +kernel
theorem dX1_sine_72 : decode cX1_sine 72 = .ok (.lstore 7, 2) := by decide +kernel
theorem dX1_sine_74 : decode cX1_sine 74 = .ok (.iload 6, 2) := by decide +kernel
theorem dX1_sine_76 : decode cX1_sine 76 = .ok (.ifCond .eq 9, 3) := by decide +kernel
theorem dX1_sine_79 : decode cX1_sine 79 = .ok (.lload 7, 2) := by decide +kernel
theorem dX1_sine_81 : decode cX1_sine 81 = .ok (.lneg, 1) := by decide +kernel
theorem dX1_sine_82 : decode cX1_sine 82 = .ok (.goto 5, 3) := by decide +kernel
theorem dX1_sine_85 : decode cX1_sine 85 = .ok (.lload 7, 2) := by decide +kernel
theorem dX1_sine_87 : decode cX1_sine 87 = .ok (.lreturn, 1) := by decide +kernel
set_option maxRecDepth 20000 in
theorem ggX1_against_X1_sine : GoodIn wsX1_against wsX1_sine := goodIn_r _ [5, 6, 7, 1, 8, 9, 4, 10, 11, 12, 13, 14, 15, 16, 17, 18, 19] (by decide +kernel) (by decide +kernel)
set_option maxRecDepth 20000 in
theorem gX1_against_X1_sine : GoodIn wsX1_against (va_wsS RX1 97 yX1_sine wsX1_sine) := goodIn_app (goodIn_of _ (by decide +kernel)) ggX1_against_X1_sine
theorem dX1_against_0 : decode cX1_against 0 = .ok (.lload_n 0, 1) := by decide +kernel
theorem dX1_against_1 : decode cX1_against 1 = .ok (.lload 4, 2) := by decide +kernel
theorem dX1_against_3 : decode cX1_against 3 = .ok (.invokestatic 97, 3) := by decide +kernel
theorem dX1_against_6 : decode cX1_against 6 = .ok (.lmul, 1) := by decide +kernel
theorem dX1_against_7 : decode cX1_against 7 = .ok (.lstore 6, 2) := by decide +kernel
theorem dX1_against_9 : decode cX1_against 9 = .ok (.lload_n 2, 1) := by decide +kernel
theorem dX1_against_10 : decode cX1_against 10 = .ok (.lload 4, 2) := by decide +kernel
theorem dX1_against_12 : decode cX1_against 12 = .ok (.ldc2_w 100, 3) := by decide +kernel
theorem dX1_against_15 : decode cX1_against 15 = .ok (.ladd, 1) := by decide +kernel
theorem dX1_against_16 : decode cX1_against 16 = .ok (.invokestatic 97, 3) := by decide +kernel
theorem dX1_against_19 : decode cX1_against 19 = .ok (.lmul, 1) := by decide +kernel
theorem dX1_against_20 : decode cX1_against 20 = .ok (.lstore 8, 2) := by decide +kernel
theorem dX1_against_22 : decode cX1_against 22 = .ok (.lload 6, 2) := by decide +kernel
theorem dX1_against_24 : decode cX1_against 24 = .ok (.lload 8, 2) := by decide +kernel
theorem dX1_against_26 : decode cX1_against 26 = .ok (.lcmp, 1) := by decide +kernel
theorem dX1_against_27 : decode cX1_against 27 = .ok (.ifCond .ge 7, 3) := by decide +kernel
theorem dX1_against_30 : decode cX1_against 30 = .ok (.iconst (-1), 1) := by decide +kernel
theorem dX1_against_31 : decode cX1_against 31 = .ok (.goto 16, 3) := by decide +kernel
theorem dX1_against_34 : decode cX1_against 34 = .ok (.lload 6, 2) := by decide +kernel
theorem dX1_against_36 : decode cX1_against 36 = .ok (.lload 8, 2) := by decide +kernel
theorem dX1_against_38 : decode cX1_against 38 = .ok (.lcmp, 1) := by decide +kernel
theorem dX1_against_39 : decode cX1_against 39 = .ok (.ifCond .le 7, 3) := by decide +kernel
theorem dX1_against_42 : decode cX1_against 42 = .ok (.iconst 1, 1) := by decide +kernel
theorem dX1_against_43 : decode cX1_against 43 = .ok (.goto 4, 3) := by decide +kernel
theorem dX1_against_46 : decode cX1_against 46 = .ok (.iconst 0, 1) := by decide +kernel
theorem dX1_against_47 : decode cX1_against 47 = .ok (.ireturn, 1) := by decide +kernel
set_option maxRecDepth 20000 in
theorem ggX1_first_X1_against : GoodIn wsX1_first wsX1_against := goodIn_r _ [6, 7, 8, 9, 5, 10, 11, 12, 13, 14, 15, 16, 17, 18, 1, 19, 20, 21, 22, 23] (by decide +kernel) (by decide +kernel)
set_option maxRecDepth 20000 in
theorem gX1_first_X1_against : GoodIn wsX1_first (va_wsS RX1 112 yX1_against wsX1_against) := goodIn_app (goodIn_of _ (by decide +kernel)) ggX1_first_X1_against
theorem dX1_first_0 : decode cX1_first 0 = .ok (.iconst 0, 1) := by decide +kernel
theorem dX1_first_1 : decode cX1_first 1 = .ok (.istore 5, 2) := by decide +kernel
theorem dX1_first_3 : decode cX1_first 3 = .ok (.iload 5, 2) := by decide +kernel
theorem dX1_first_5 : decode cX1_first 5 = .ok (.bipush 90, 2) := by decide +kernel
theorem dX1_first_7 : decode cX1_first 7 = .ok (.if_icmp .ge 28, 3) := by decide +kernel
theorem dX1_first_10 : decode cX1_first 10 = .ok (.lload_n 0, 1) := by decide +kernel
theorem dX1_first_11 : decode cX1_first 11 = .ok (.lload_n 2, 1) := by decide +kernel
theorem dX1_first_12 : decode cX1_first 12 = .ok (.iload 5, 2) := by decide +kernel
theorem dX1_first_14 : decode cX1_first 14 = .ok (.iconst 1, 1) := by decide +kernel
theorem dX1_first_15 : decode cX1_first 15 = .ok (.iadd, 1) := by decide +kernel
theorem dX1_first_16 : decode cX1_first 16 = .ok (.i2l, 1) := by decide +kernel
theorem dX1_first_17 : decode cX1_first 17 = .ok (.ldc2_w 23, 3) := by decide +kernel
theorem dX1_first_20 : decode cX1_first 20 = .ok (.lmul, 1) := by decide +kernel
theorem dX1_first_21 : decode cX1_first 21 = .ok (.invokestatic 112, 3) := by decide +kernel
theorem dX1_first_24 : decode cX1_first 24 = .ok (.iload 4, 2) := by decide +kernel
theorem dX1_first_26 : decode cX1_first 26 = .ok (.if_icmp .ge 9, 3) := by decide +kernel
theorem dX1_first_29 : decode cX1_first 29 = .ok (.iinc 5 1, 3) := by decide +kernel
theorem dX1_first_32 : decode cX1_first 32 = .ok (.goto (-29), 3) := by decide +kernel
theorem dX1_first_35 : decode cX1_first 35 = .ok (.iload 5, 2) := by decide +kernel
theorem dX1_first_37 : decode cX1_first 37 = .ok (.i2l, 1) := by decide +kernel
theorem dX1_first_38 : decode cX1_first 38 = .ok (.ldc2_w 23, 3) := by decide +kernel
theorem dX1_first_41 : decode cX1_first 41 = .ok (.lmul, 1) := by decide +kernel
theorem dX1_first_42 : decode cX1_first 42 = .ok (.lstore 6, 2) := by decide +kernel
theorem dX1_first_44 : decode cX1_first 44 = .ok (.lload_n 0, 1) := by decide +kernel
theorem dX1_first_45 : decode cX1_first 45 = .ok (.lload_n 2, 1) := by decide +kernel
theorem dX1_first_46 : decode cX1_first 46 = .ok (.lload 6, 2) := by decide +kernel
theorem dX1_first_48 : decode cX1_first 48 = .ok (.invokestatic 112, 3) := by decide +kernel
theorem dX1_first_51 : decode cX1_first 51 = .ok (.iload 4, 2) := by decide +kernel
theorem dX1_first_53 : decode cX1_first 53 = .ok (.if_icmp .lt 6, 3) := by decide +kernel
theorem dX1_first_56 : decode cX1_first 56 = .ok (.lload 6, 2) := by decide +kernel
theorem dX1_first_58 : decode cX1_first 58 = .ok (.lreturn, 1) := by decide +kernel
theorem dX1_first_59 : decode cX1_first 59 = .ok (.lload 6, 2) := by decide +kernel
theorem dX1_first_61 : decode cX1_first 61 = .ok (.ldc2_w 23, 3) := by decide +kernel
theorem dX1_first_64 : decode cX1_first 64 = .ok (.ladd, 1) := by decide +kernel
theorem dX1_first_65 : decode cX1_first 65 = .ok (.lstore 8, 2) := by decide +kernel
theorem dX1_first_67 : decode cX1_first 67 = .ok (.lload 8, 2) := by decide +kernel
theorem dX1_first_69 : decode cX1_first 69 = .ok (.lload 6, 2) := by decide +kernel
theorem dX1_first_71 : decode cX1_first 71 = .ok (.lsub, 1) := by decide +kernel
theorem dX1_first_72 : decode cX1_first 72 = .ok (.lconst 1, 1) := by decide +kernel
theorem dX1_first_73 : decode cX1_first 73 = .ok (.lcmp, 1) := by decide +kernel
theorem dX1_first_74 : decode cX1_first 74 = .ok (.ifCond .le 40, 3) := by decide +kernel
theorem dX1_first_77 : decode cX1_first 77 = .ok (.lload 6, 2) := by decide +kernel
theorem dX1_first_79 : decode cX1_first 79 = .ok (.lload 8, 2) := by decide +kernel
theorem dX1_first_81 : decode cX1_first 81 = .ok (.ladd, 1) := by decide +kernel
theorem dX1_first_82 : decode cX1_first 82 = .ok (.ldc2_w 48, 3) := by decide +kernel
theorem dX1_first_85 : decode cX1_first 85 = .ok (.ldiv, 1) := by decide +kernel
theorem dX1_first_86 : decode cX1_first 86 = .ok (.lstore 10, 2) := by decide +kernel
theorem dX1_first_88 : decode cX1_first 88 = .ok (.lload_n 0, 1) := by decide +kernel
theorem dX1_first_89 : decode cX1_first 89 = .ok (.lload_n 2, 1) := by decide +kernel
theorem dX1_first_90 : decode cX1_first 90 = .ok (.lload 10, 2) := by decide +kernel
theorem dX1_first_92 : decode cX1_first 92 = .ok (.invokestatic 112, 3) := by decide +kernel
theorem dX1_first_95 : decode cX1_first 95 = .ok (.iload 4, 2) := by decide +kernel
theorem dX1_first_97 : decode cX1_first 97 = .ok (.if_icmp .ge 10, 3) := by decide +kernel
theorem dX1_first_100 : decode cX1_first 100 = .ok (.lload 10, 2) := by decide +kernel
theorem dX1_first_102 : decode cX1_first 102 = .ok (.lstore 6, 2) := by decide +kernel
theorem dX1_first_104 : decode cX1_first 104 = .ok (.goto 7, 3) := by decide +kernel
theorem dX1_first_107 : decode cX1_first 107 = .ok (.lload 10, 2) := by decide +kernel
theorem dX1_first_109 : decode cX1_first 109 = .ok (.lstore 8, 2) := by decide +kernel
theorem dX1_first_111 : decode cX1_first 111 = .ok (.goto (-44), 3) := by decide +kernel
theorem dX1_first_114 : decode cX1_first 114 = .ok (.lload 8, 2) := by decide +kernel
theorem dX1_first_116 : decode cX1_first 116 = .ok (.lreturn, 1) := by decide +kernel
set_option maxRecDepth 20000 in
theorem ggX1_angle_X1_first : GoodIn wsX1_angle wsX1_first := goodIn_r _ [8, 9, 2, 10, 11, 7, 12, 1, 13, 14, 15, 4, 3, 16, 17, 18, 19, 20, 21, 22, 23, 24, 25, 26] (by decide +kernel) (by decide +kernel)
set_option maxRecDepth 20000 in
theorem gX1_angle_X1_first : GoodIn wsX1_angle (va_wsS RX1 116 yX1_first wsX1_first) := goodIn_app (goodIn_of _ (by decide +kernel)) ggX1_angle_X1_first
set_option maxRecDepth 20000 in
theorem ggX1_angle_X1_down : GoodIn wsX1_angle wsX1_down := goodIn_r _ [18] (by decide +kernel) (by decide +kernel)
set_option maxRecDepth 20000 in
theorem gX1_angle_X1_down : GoodIn wsX1_angle (va_wsS RX1 36 yX1_down wsX1_down) := goodIn_app (goodIn_of _ (by decide +kernel)) ggX1_angle_X1_down
theorem dX1_angle_0 : decode cX1_angle 0 = .ok (.lload_n 0, 1) := by decide +kernel
theorem dX1_angle_1 : decode cX1_angle 1 = .ok (.lconst 0, 1) := by decide +kernel
theorem dX1_angle_2 : decode cX1_angle 2 = .ok (.lcmp, 1) := by decide +kernel
theorem dX1_angle_3 : decode cX1_angle 3 = .ok (.ifCond .ge 8, 3) := by decide +kernel
theorem dX1_angle_6 : decode cX1_angle 6 = .ok (.lload_n 0, 1) := by decide +kernel
theorem dX1_angle_7 : decode cX1_angle 7 = .ok (.lneg, 1) := by decide +kernel
theorem dX1_angle_8 : decode cX1_angle 8 = .ok (.goto 4, 3) := by decide +kernel
theorem dX1_angle_11 : decode cX1_angle 11 = .ok (.lload_n 0, 1) := by decide +kernel
theorem dX1_angle_12 : decode cX1_angle 12 = .ok (.lstore 4, 2) := by decide +kernel
theorem dX1_angle_14 : decode cX1_angle 14 = .ok (.lload_n 2, 1) := by decide +kernel
theorem dX1_angle_15 : decode cX1_angle 15 = .ok (.lconst 0, 1) := by decide +kernel
theorem dX1_angle_16 : decode cX1_angle 16 = .ok (.lcmp, 1) := by decide +kernel
theorem dX1_angle_17 : decode cX1_angle 17 = .ok (.ifCond .ge 8, 3) := by decide +kernel
theorem dX1_angle_20 : decode cX1_angle 20 = .ok (.lload_n 2, 1) := by decide +kernel
theorem dX1_angle_21 : decode cX1_angle 21 = .ok (.lneg, 1) := by decide +kernel
theorem dX1_angle_22 : decode cX1_angle 22 = .ok (.goto 4, 3) := by decide +kernel
theorem dX1_angle_25 : decode cX1_angle 25 = .ok (.lload_n 2, 1) := by decide +kernel
theorem dX1_angle_26 : decode cX1_angle 26 = .ok (.lstore 6, 2) := by decide +kernel
theorem dX1_angle_28 : decode cX1_angle 28 = .ok (.lconst 0, 1) := by decide +kernel
theorem dX1_angle_29 : decode cX1_angle 29 = .ok (.lstore 8, 2) := by decide +kernel
theorem dX1_angle_31 : decode cX1_angle 31 = .ok (.lload 6, 2) := by decide +kernel
theorem dX1_angle_33 : decode cX1_angle 33 = .ok (.lconst 0, 1) := by decide +kernel
theorem dX1_angle_34 : decode cX1_angle 34 = .ok (.lcmp, 1) := by decide +kernel
theorem dX1_angle_35 : decode cX1_angle 35 = .ok (.ifCond .eq 15, 3) := by decide +kernel
theorem dX1_angle_38 : decode cX1_angle 38 = .ok (.lload 4, 2) := by decide +kernel
theorem dX1_angle_40 : decode cX1_angle 40 = .ok (.lconst 0, 1) := by decide +kernel
theorem dX1_angle_41 : decode cX1_angle 41 = .ok (.lcmp, 1) := by decide +kernel
theorem dX1_angle_42 : decode cX1_angle 42 = .ok (.ifCond .ne 8, 3) := by decide +kernel
theorem dX1_angle_45 : decode cX1_angle 45 = .ok (.ldc2_w 100, 3) := by decide +kernel
theorem dX1_angle_48 : decode cX1_angle 48 = .ok (.lstore 8, 2) := by decide +kernel
theorem dX1_angle_50 : decode cX1_angle 50 = .ok (.lload 6, 2) := by decide +kernel
theorem dX1_angle_52 : decode cX1_angle 52 = .ok (.lconst 0, 1) := by decide +kernel
theorem dX1_angle_53 : decode cX1_angle 53 = .ok (.lcmp, 1) := by decide +kernel
theorem dX1_angle_54 : decode cX1_angle 54 = .ok (.ifCond .eq 45, 3) := by decide +kernel
theorem dX1_angle_57 : decode cX1_angle 57 = .ok (.lload 4, 2) := by decide +kernel
theorem dX1_angle_59 : decode cX1_angle 59 = .ok (.lconst 0, 1) := by decide +kernel
theorem dX1_angle_60 : decode cX1_angle 60 = .ok (.lcmp, 1) := by decide +kernel
theorem dX1_angle_61 : decode cX1_angle 61 = .ok (.ifCond .eq 38, 3) := by decide +kernel
theorem dX1_angle_64 : decode cX1_angle 64 = .ok (.lload 4, 2) := by decide +kernel
theorem dX1_angle_66 : decode cX1_angle 66 = .ok (.lload 6, 2) := by decide +kernel
theorem dX1_angle_68 : decode cX1_angle 68 = .ok (.iconst 0, 1) := by decide +kernel
theorem dX1_angle_69 : decode cX1_angle 69 = .ok (.invokestatic 116, 3) := by decide +kernel
theorem dX1_angle_72 : decode cX1_angle 72 = .ok (.lstore 10, 2) := by decide +kernel
theorem dX1_angle_74 : decode cX1_angle 74 = .ok (.lload 4, 2) := by decide +kernel
theorem dX1_angle_76 : decode cX1_angle 76 = .ok (.lload 6, 2) := by decide +kernel
theorem dX1_angle_78 : decode cX1_angle 78 = .ok (.iconst 1, 1) := by decide +kernel
theorem dX1_angle_79 : decode cX1_angle 79 = .ok (.invokestatic 116, 3) := by decide +kernel
theorem dX1_angle_82 : decode cX1_angle 82 = .ok (.lconst 1, 1) := by decide +kernel
theorem dX1_angle_83 : decode cX1_angle 83 = .ok (.lsub, 1) := by decide +kernel
theorem dX1_angle_84 : decode cX1_angle 84 = .ok (.lstore 12, 2) := by decide +kernel
theorem dX1_angle_86 : decode cX1_angle 86 = .ok (.lload 10, 2) := by decide +kernel
theorem dX1_angle_88 : decode cX1_angle 88 = .ok (.lload 12, 2) := by decide +kernel
theorem dX1_angle_90 : decode cX1_angle 90 = .ok (.ladd, 1) := by decide +kernel
theorem dX1_angle_91 : decode cX1_angle 91 = .ok (.ldc2_w 48, 3) := by decide +kernel
theorem dX1_angle_94 : decode cX1_angle 94 = .ok (.invokestatic 36, 3) := by decide +kernel
theorem dX1_angle_97 : decode cX1_angle 97 = .ok (.lstore 8, 2) := by decide +kernel
theorem dX1_angle_99 : decode cX1_angle 99 = .ok (.lload_n 0, 1) := by decide +kernel
theorem dX1_angle_100 : decode cX1_angle 100 = .ok (.lconst 0, 1) := by decide +kernel
theorem dX1_angle_101 : decode cX1_angle 101 = .ok (.lcmp, 1) := by decide +kernel
theorem dX1_angle_102 : decode cX1_angle 102 = .ok (.ifCond .ge 12, 3) := by decide +kernel
theorem dX1_angle_105 : decode cX1_angle 105 = .ok (.ldc2_w 107, 3) := by decide +kernel
theorem dX1_angle_108 : decode cX1_angle 108 = .ok (.lload 8, 2) := by decide +kernel
theorem dX1_angle_110 : decode cX1_angle 110 = .ok (.lsub, 1) := by decide +kernel
theorem dX1_angle_111 : decode cX1_angle 111 = .ok (.goto 5, 3) := by decide +kernel
theorem dX1_angle_114 : decode cX1_angle 114 = .ok (.lload 8, 2) := by decide +kernel
theorem dX1_angle_116 : decode cX1_angle 116 = .ok (.lstore 8, 2) := by decide +kernel
theorem dX1_angle_118 : decode cX1_angle 118 = .ok (.lload_n 2, 1) := by decide +kernel
theorem dX1_angle_119 : decode cX1_angle 119 = .ok (.lconst 0, 1) := by decide +kernel
theorem dX1_angle_120 : decode cX1_angle 120 = .ok (.lcmp, 1) := by decide +kernel
theorem dX1_angle_121 : decode cX1_angle 121 = .ok (.ifCond .ge 19, 3) := by decide +kernel
theorem dX1_angle_124 : decode cX1_angle 124 = .ok (.lload 8, 2) := by decide +kernel
theorem dX1_angle_126 : decode cX1_angle 126 = .ok (.lconst 0, 1) := by decide +kernel
theorem dX1_angle_127 : decode cX1_angle 127 = .ok (.lcmp, 1) := by decide +kernel
theorem dX1_angle_128 : decode cX1_angle 128 = .ok (.ifCond .eq 12, 3) := by decide +kernel
theorem dX1_angle_131 : decode cX1_angle 131 = .ok (.ldc2_w 105, 3) := by decide +kernel
theorem dX1_angle_134 : decode cX1_angle 134 = .ok (.lload 8, 2) := by decide +kernel
theorem dX1_angle_136 : decode cX1_angle 136 = .ok (.lsub, 1) := by decide +kernel
theorem dX1_angle_137 : decode cX1_angle 137 = .ok (.goto 5, 3) := by decide +kernel
theorem dX1_angle_140 : decode cX1_angle 140 = .ok (.lload 8, 2) := by decide +kernel
theorem dX1_angle_142 : decode cX1_angle 142 = .ok (.lreturn, 1) := by decide +kernel
theorem dX1_kind_0 : decode cX1_kind 0 = .ok (.aload_n 0, 1) := by decide +kernel
theorem dX1_kind_1 : decode cX1_kind 1 = .ok (.getfield 9, 3) := by decide +kernel
theorem dX1_kind_4 : decode cX1_kind 4 = .ok (.ireturn, 1) := by decide +kernel
theorem dX1_number_0 : decode cX1_number 0 = .ok (.aload_n 0, 1) := by decide +kernel
theorem dX1_number_1 : decode cX1_number 1 = .ok (.getfield 29, 3) := by decide +kernel
theorem dX1_number_4 : decode cX1_number 4 = .ok (.ireturn, 1) := by decide +kernel
set_option maxRecDepth 20000 in
theorem ggX1_compare_X1_isValue : GoodIn wsX1_compare wsX1_isValue := goodIn_r _ [4, 5] (by decide +kernel) (by decide +kernel)
set_option maxRecDepth 20000 in
theorem gX1_compare_X1_isValue : GoodIn wsX1_compare (va_wsS RX1 50 yX1_isValue wsX1_isValue) := goodIn_app (goodIn_of _ (by decide +kernel)) ggX1_compare_X1_isValue
set_option maxRecDepth 20000 in
theorem ggX1_compare_X1_units : GoodIn wsX1_compare wsX1_units := goodIn_r _ [8, 9] (by decide +kernel) (by decide +kernel)
set_option maxRecDepth 20000 in
theorem gX1_compare_X1_units : GoodIn wsX1_compare (va_wsS RX1 65 yX1_units wsX1_units) := goodIn_app (goodIn_of _ (by decide +kernel)) ggX1_compare_X1_units
theorem dX1_compare_0 : decode cX1_compare 0 = .ok (.iload_n 1, 1) := by decide +kernel
theorem dX1_compare_1 : decode cX1_compare 1 = .ok (.iload_n 2, 1) := by decide +kernel
theorem dX1_compare_2 : decode cX1_compare 2 = .ok (.invokestatic 50, 3) := by decide +kernel
theorem dX1_compare_5 : decode cX1_compare 5 = .ok (.ifCond .eq 12, 3) := by decide +kernel
theorem dX1_compare_8 : decode cX1_compare 8 = .ok (.iload_n 3, 1) := by decide +kernel
theorem dX1_compare_9 : decode cX1_compare 9 = .ok (.iload 4, 2) := by decide +kernel
theorem dX1_compare_11 : decode cX1_compare 11 = .ok (.invokestatic 50, 3) := by decide +kernel
theorem dX1_compare_14 : decode cX1_compare 14 = .ok (.ifCond .ne 5, 3) := by decide +kernel
theorem dX1_compare_17 : decode cX1_compare 17 = .ok (.iconst (-1), 1) := by decide +kernel
theorem dX1_compare_18 : decode cX1_compare 18 = .ok (.ireturn, 1) := by decide +kernel
theorem dX1_compare_19 : decode cX1_compare 19 = .ok (.iload_n 1, 1) := by decide +kernel
theorem dX1_compare_20 : decode cX1_compare 20 = .ok (.iload_n 2, 1) := by decide +kernel
theorem dX1_compare_21 : decode cX1_compare 21 = .ok (.invokestatic 65, 3) := by decide +kernel
theorem dX1_compare_24 : decode cX1_compare 24 = .ok (.lstore 5, 2) := by decide +kernel
theorem dX1_compare_26 : decode cX1_compare 26 = .ok (.iload_n 3, 1) := by decide +kernel
theorem dX1_compare_27 : decode cX1_compare 27 = .ok (.iload 4, 2) := by decide +kernel
theorem dX1_compare_29 : decode cX1_compare 29 = .ok (.invokestatic 65, 3) := by decide +kernel
theorem dX1_compare_32 : decode cX1_compare 32 = .ok (.lstore 7, 2) := by decide +kernel
theorem dX1_compare_34 : decode cX1_compare 34 = .ok (.lload 5, 2) := by decide +kernel
theorem dX1_compare_36 : decode cX1_compare 36 = .ok (.lload 7, 2) := by decide +kernel
theorem dX1_compare_38 : decode cX1_compare 38 = .ok (.lcmp, 1) := by decide +kernel
theorem dX1_compare_39 : decode cX1_compare 39 = .ok (.ifCond .ge 7, 3) := by decide +kernel
theorem dX1_compare_42 : decode cX1_compare 42 = .ok (.iconst 0, 1) := by decide +kernel
theorem dX1_compare_43 : decode cX1_compare 43 = .ok (.goto 16, 3) := by decide +kernel
theorem dX1_compare_46 : decode cX1_compare 46 = .ok (.lload 5, 2) := by decide +kernel
theorem dX1_compare_48 : decode cX1_compare 48 = .ok (.lload 7, 2) := by decide +kernel
theorem dX1_compare_50 : decode cX1_compare 50 = .ok (.lcmp, 1) := by decide +kernel
theorem dX1_compare_51 : decode cX1_compare 51 = .ok (.ifCond .ne 7, 3) := by decide +kernel
theorem dX1_compare_54 : decode cX1_compare 54 = .ok (.iconst 1, 1) := by decide +kernel
theorem dX1_compare_55 : decode cX1_compare 55 = .ok (.goto 4, 3) := by decide +kernel
theorem dX1_compare_58 : decode cX1_compare 58 = .ok (.iconst 2, 1) := by decide +kernel
theorem dX1_compare_59 : decode cX1_compare 59 = .ok (.ireturn, 1) := by decide +kernel
theorem dX1_isBad_0 : decode cX1_isBad 0 = .ok (.iload_n 0, 1) := by decide +kernel
theorem dX1_isBad_1 : decode cX1_isBad 1 = .ok (.ldc 22, 2) := by decide +kernel
theorem dX1_isBad_3 : decode cX1_isBad 3 = .ok (.if_icmp .ne 7, 3) := by decide +kernel
theorem dX1_isBad_6 : decode cX1_isBad 6 = .ok (.iconst 1, 1) := by decide +kernel
theorem dX1_isBad_7 : decode cX1_isBad 7 = .ok (.goto 4, 3) := by decide +kernel
theorem dX1_isBad_10 : decode cX1_isBad 10 = .ok (.iconst 0, 1) := by decide +kernel
theorem dX1_isBad_11 : decode cX1_isBad 11 = .ok (.ireturn, 1) := by decide +kernel
set_option maxRecDepth 20000 in
theorem ggX1_areBad_X1_isBad : GoodIn wsX1_areBad wsX1_isBad := goodIn_r _ [4, 5] (by decide +kernel) (by decide +kernel)
set_option maxRecDepth 20000 in
theorem gX1_areBad_X1_isBad : GoodIn wsX1_areBad (va_wsS RX1 119 yX1_isBad wsX1_isBad) := goodIn_app (goodIn_of _ (by decide +kernel)) ggX1_areBad_X1_isBad
theorem dX1_areBad_0 : decode cX1_areBad 0 = .ok (.iload_n 0, 1) := by decide +kernel
theorem dX1_areBad_1 : decode cX1_areBad 1 = .ok (.invokestatic 119, 3) := by decide +kernel
theorem dX1_areBad_4 : decode cX1_areBad 4 = .ok (.ifCond .ne 40, 3) := by decide +kernel
theorem dX1_areBad_7 : decode cX1_areBad 7 = .ok (.iload_n 1, 1) := by decide +kernel
theorem dX1_areBad_8 : decode cX1_areBad 8 = .ok (.invokestatic 119, 3) := by decide +kernel
theorem dX1_areBad_11 : decode cX1_areBad 11 = .ok (.ifCond .ne 33, 3) := by decide +kernel
theorem dX1_areBad_14 : decode cX1_areBad 14 = .ok (.iload_n 2, 1) := by decide +kernel
theorem dX1_areBad_15 : decode cX1_areBad 15 = .ok (.invokestatic 119, 3) := by decide +kernel
theorem dX1_areBad_18 : decode cX1_areBad 18 = .ok (.ifCond .ne 26, 3) := by decide +kernel
theorem dX1_areBad_21 : decode cX1_areBad 21 = .ok (.iload_n 3, 1) := by decide +kernel
theorem dX1_areBad_22 : decode cX1_areBad 22 = .ok (.invokestatic 119, 3) := by decide +kernel
theorem dX1_areBad_25 : decode cX1_areBad 25 = .ok (.ifCond .ne 19, 3) := by decide +kernel
theorem dX1_areBad_28 : decode cX1_areBad 28 = .ok (.iload 4, 2) := by decide +kernel
theorem dX1_areBad_30 : decode cX1_areBad 30 = .ok (.invokestatic 119, 3) := by decide +kernel
theorem dX1_areBad_33 : decode cX1_areBad 33 = .ok (.ifCond .ne 11, 3) := by decide +kernel
theorem dX1_areBad_36 : decode cX1_areBad 36 = .ok (.iload 5, 2) := by decide +kernel
theorem dX1_areBad_38 : decode cX1_areBad 38 = .ok (.invokestatic 119, 3) := by decide +kernel
theorem dX1_areBad_41 : decode cX1_areBad 41 = .ok (.ifCond .eq 7, 3) := by decide +kernel
theorem dX1_areBad_44 : decode cX1_areBad 44 = .ok (.iconst 1, 1) := by decide +kernel
theorem dX1_areBad_45 : decode cX1_areBad 45 = .ok (.goto 4, 3) := by decide +kernel
theorem dX1_areBad_48 : decode cX1_areBad 48 = .ok (.iconst 0, 1) := by decide +kernel
theorem dX1_areBad_49 : decode cX1_areBad 49 = .ok (.ireturn, 1) := by decide +kernel
set_option maxRecDepth 20000 in
theorem ggX1_matrix_X1_areBad : GoodIn wsX1_matrix wsX1_areBad := goodIn_r _ [5, 6, 7, 4, 8, 9] (by decide +kernel) (by decide +kernel)
set_option maxRecDepth 20000 in
theorem gX1_matrix_X1_areBad : GoodIn wsX1_matrix (va_wsS RX1 123 yX1_areBad wsX1_areBad) := goodIn_app (goodIn_of _ (by decide +kernel)) ggX1_matrix_X1_areBad
theorem dX1_matrix_0 : decode cX1_matrix 0 = .ok (.iload_n 1, 1) := by decide +kernel
theorem dX1_matrix_1 : decode cX1_matrix 1 = .ok (.iload_n 2, 1) := by decide +kernel
theorem dX1_matrix_2 : decode cX1_matrix 2 = .ok (.iload_n 3, 1) := by decide +kernel
theorem dX1_matrix_3 : decode cX1_matrix 3 = .ok (.iload 4, 2) := by decide +kernel
theorem dX1_matrix_5 : decode cX1_matrix 5 = .ok (.iload 5, 2) := by decide +kernel
theorem dX1_matrix_7 : decode cX1_matrix 7 = .ok (.iload 6, 2) := by decide +kernel
theorem dX1_matrix_9 : decode cX1_matrix 9 = .ok (.invokestatic 123, 3) := by decide +kernel
theorem dX1_matrix_12 : decode cX1_matrix 12 = .ok (.ifCond .eq 5, 3) := by decide +kernel
theorem dX1_matrix_15 : decode cX1_matrix 15 = .ok (.iconst 0, 1) := by decide +kernel
theorem dX1_matrix_16 : decode cX1_matrix 16 = .ok (.ireturn, 1) := by decide +kernel
theorem dX1_matrix_17 : decode cX1_matrix 17 = .ok (.aload_n 0, 1) := by decide +kernel
theorem dX1_matrix_18 : decode cX1_matrix 18 = .ok (.getfield 13, 3) := by decide +kernel
theorem dX1_matrix_21 : decode cX1_matrix 21 = .ok (.iconst 0, 1) := by decide +kernel
theorem dX1_matrix_22 : decode cX1_matrix 22 = .ok (.iload_n 1, 1) := by decide +kernel
theorem dX1_matrix_23 : decode cX1_matrix 23 = .ok (.iastore, 1) := by decide +kernel
theorem dX1_matrix_24 : decode cX1_matrix 24 = .ok (.aload_n 0, 1) := by decide +kernel
theorem dX1_matrix_25 : decode cX1_matrix 25 = .ok (.getfield 13, 3) := by decide +kernel
theorem dX1_matrix_28 : decode cX1_matrix 28 = .ok (.iconst 1, 1) := by decide +kernel
theorem dX1_matrix_29 : decode cX1_matrix 29 = .ok (.iload_n 2, 1) := by decide +kernel
theorem dX1_matrix_30 : decode cX1_matrix 30 = .ok (.iastore, 1) := by decide +kernel
theorem dX1_matrix_31 : decode cX1_matrix 31 = .ok (.aload_n 0, 1) := by decide +kernel
theorem dX1_matrix_32 : decode cX1_matrix 32 = .ok (.getfield 13, 3) := by decide +kernel
theorem dX1_matrix_35 : decode cX1_matrix 35 = .ok (.iconst 2, 1) := by decide +kernel
theorem dX1_matrix_36 : decode cX1_matrix 36 = .ok (.iload_n 3, 1) := by decide +kernel
theorem dX1_matrix_37 : decode cX1_matrix 37 = .ok (.iastore, 1) := by decide +kernel
theorem dX1_matrix_38 : decode cX1_matrix 38 = .ok (.aload_n 0, 1) := by decide +kernel
theorem dX1_matrix_39 : decode cX1_matrix 39 = .ok (.getfield 13, 3) := by decide +kernel
theorem dX1_matrix_42 : decode cX1_matrix 42 = .ok (.iconst 3, 1) := by decide +kernel
theorem dX1_matrix_43 : decode cX1_matrix 43 = .ok (.iload 4, 2) := by decide +kernel
theorem dX1_matrix_45 : decode cX1_matrix 45 = .ok (.iastore, 1) := by decide +kernel
theorem dX1_matrix_46 : decode cX1_matrix 46 = .ok (.aload_n 0, 1) := by decide +kernel
theorem dX1_matrix_47 : decode cX1_matrix 47 = .ok (.getfield 13, 3) := by decide +kernel
theorem dX1_matrix_50 : decode cX1_matrix 50 = .ok (.iconst 4, 1) := by decide +kernel
theorem dX1_matrix_51 : decode cX1_matrix 51 = .ok (.iload 5, 2) := by decide +kernel
theorem dX1_matrix_53 : decode cX1_matrix 53 = .ok (.iastore, 1) := by decide +kernel
theorem dX1_matrix_54 : decode cX1_matrix 54 = .ok (.aload_n 0, 1) := by decide +kernel
theorem dX1_matrix_55 : decode cX1_matrix 55 = .ok (.getfield 13, 3) := by decide +kernel
theorem dX1_matrix_58 : decode cX1_matrix 58 = .ok (.iconst 5, 1) := by decide +kernel
theorem dX1_matrix_59 : decode cX1_matrix 59 = .ok (.iload 6, 2) := by decide +kernel
theorem dX1_matrix_61 : decode cX1_matrix 61 = .ok (.iastore, 1) := by decide +kernel
theorem dX1_matrix_62 : decode cX1_matrix 62 = .ok (.iconst 1, 1) := by decide +kernel
theorem dX1_matrix_63 : decode cX1_matrix 63 = .ok (.ireturn, 1) := by decide +kernel
theorem dX1_entry_0 : decode cX1_entry 0 = .ok (.iload_n 1, 1) := by decide +kernel
theorem dX1_entry_1 : decode cX1_entry 1 = .ok (.ifCond .lt 18, 3) := by decide +kernel
theorem dX1_entry_4 : decode cX1_entry 4 = .ok (.iload_n 1, 1) := by decide +kernel
theorem dX1_entry_5 : decode cX1_entry 5 = .ok (.bipush 6, 2) := by decide +kernel
theorem dX1_entry_7 : decode cX1_entry 7 = .ok (.if_icmp .ge 12, 3) := by decide +kernel
theorem dX1_entry_10 : decode cX1_entry 10 = .ok (.aload_n 0, 1) := by decide +kernel
theorem dX1_entry_11 : decode cX1_entry 11 = .ok (.getfield 13, 3) := by decide +kernel
theorem dX1_entry_14 : decode cX1_entry 14 = .ok (.iload_n 1, 1) := by decide +kernel
theorem dX1_entry_15 : decode cX1_entry 15 = .ok (.iaload, 1) := by decide +kernel
theorem dX1_entry_16 : decode cX1_entry 16 = .ok (.goto 4, 3) := by decide +kernel
theorem dX1_entry_19 : decode cX1_entry 19 = .ok (.iconst 0, 1) := by decide +kernel
theorem dX1_entry_20 : decode cX1_entry 20 = .ok (.ireturn, 1) := by decide +kernel
set_option maxRecDepth 20000 in
theorem ggX1_moving_X1_rounded : GoodIn wsX1_moving wsX1_rounded := goodIn_r _ [5, 6, 7, 8, 9, 4, 10] (by decide +kernel) (by decide +kernel)
set_option maxRecDepth 20000 in
theorem gX1_moving_X1_rounded : GoodIn wsX1_moving (va_wsS RX1 72 yX1_rounded wsX1_rounded) := goodIn_app (goodIn_of _ (by decide +kernel)) ggX1_moving_X1_rounded
theorem dX1_moving_0 : decode cX1_moving 0 = .ok (.lload_n 1, 1) := by decide +kernel
theorem dX1_moving_1 : decode cX1_moving 1 = .ok (.aload_n 0, 1) := by decide +kernel
theorem dX1_moving_2 : decode cX1_moving 2 = .ok (.getfield 13, 3) := by decide +kernel
theorem dX1_moving_5 : decode cX1_moving 5 = .ok (.iload 5, 2) := by decide +kernel
theorem dX1_moving_7 : decode cX1_moving 7 = .ok (.iaload, 1) := by decide +kernel
theorem dX1_moving_8 : decode cX1_moving 8 = .ok (.i2l, 1) := by decide +kernel
theorem dX1_moving_9 : decode cX1_moving 9 = .ok (.lmul, 1) := by decide +kernel
theorem dX1_moving_10 : decode cX1_moving 10 = .ok (.lload_n 3, 1) := by decide +kernel
theorem dX1_moving_11 : decode cX1_moving 11 = .ok (.aload_n 0, 1) := by decide +kernel
theorem dX1_moving_12 : decode cX1_moving 12 = .ok (.getfield 13, 3) := by decide +kernel
theorem dX1_moving_15 : decode cX1_moving 15 = .ok (.iconst 2, 1) := by decide +kernel
theorem dX1_moving_16 : decode cX1_moving 16 = .ok (.iload 5, 2) := by decide +kernel
theorem dX1_moving_18 : decode cX1_moving 18 = .ok (.iadd, 1) := by decide +kernel
theorem dX1_moving_19 : decode cX1_moving 19 = .ok (.iaload, 1) := by decide +kernel
theorem dX1_moving_20 : decode cX1_moving 20 = .ok (.i2l, 1) := by decide +kernel
theorem dX1_moving_21 : decode cX1_moving 21 = .ok (.lmul, 1) := by decide +kernel
theorem dX1_moving_22 : decode cX1_moving 22 = .ok (.ladd, 1) := by decide +kernel
theorem dX1_moving_23 : decode cX1_moving 23 = .ok (.invokestatic 72, 3) := by decide +kernel
theorem dX1_moving_26 : decode cX1_moving 26 = .ok (.lstore 7, 2) := by decide +kernel
theorem dX1_moving_28 : decode cX1_moving 28 = .ok (.iload 6, 2) := by decide +kernel
theorem dX1_moving_30 : decode cX1_moving 30 = .ok (.ifCond .eq 19, 3) := by decide +kernel
theorem dX1_moving_33 : decode cX1_moving 33 = .ok (.lload 7, 2) := by decide +kernel
theorem dX1_moving_35 : decode cX1_moving 35 = .ok (.aload_n 0, 1) := by decide +kernel
theorem dX1_moving_36 : decode cX1_moving 36 = .ok (.getfield 13, 3) := by decide +kernel
theorem dX1_moving_39 : decode cX1_moving 39 = .ok (.iconst 4, 1) := by decide +kernel
theorem dX1_moving_40 : decode cX1_moving 40 = .ok (.iload 5, 2) := by decide +kernel
theorem dX1_moving_42 : decode cX1_moving 42 = .ok (.iadd, 1) := by decide +kernel
theorem dX1_moving_43 : decode cX1_moving 43 = .ok (.iaload, 1) := by decide +kernel
theorem dX1_moving_44 : decode cX1_moving 44 = .ok (.i2l, 1) := by decide +kernel
theorem dX1_moving_45 : decode cX1_moving 45 = .ok (.ladd, 1) := by decide +kernel
theorem dX1_moving_46 : decode cX1_moving 46 = .ok (.goto 5, 3) := by decide +kernel
theorem dX1_moving_49 : decode cX1_moving 49 = .ok (.lload 7, 2) := by decide +kernel
theorem dX1_moving_51 : decode cX1_moving 51 = .ok (.lreturn, 1) := by decide +kernel
theorem dX1_take_0 : decode cX1_take 0 = .ok (.iconst 0, 1) := by decide +kernel
theorem dX1_take_1 : decode cX1_take 1 = .ok (.istore_n 1, 1) := by decide +kernel
theorem dX1_take_2 : decode cX1_take 2 = .ok (.iload_n 1, 1) := by decide +kernel
theorem dX1_take_3 : decode cX1_take 3 = .ok (.bipush 6, 2) := by decide +kernel
theorem dX1_take_5 : decode cX1_take 5 = .ok (.if_icmp .ge 38, 3) := by decide +kernel
theorem dX1_take_8 : decode cX1_take 8 = .ok (.aload_n 0, 1) := by decide +kernel
theorem dX1_take_9 : decode cX1_take 9 = .ok (.getfield 17, 3) := by decide +kernel
theorem dX1_take_12 : decode cX1_take 12 = .ok (.iload_n 1, 1) := by decide +kernel
theorem dX1_take_13 : decode cX1_take 13 = .ok (.laload, 1) := by decide +kernel
theorem dX1_take_14 : decode cX1_take 14 = .ok (.ldc2_w 25, 3) := by decide +kernel
theorem dX1_take_17 : decode cX1_take 17 = .ok (.lcmp, 1) := by decide +kernel
theorem dX1_take_18 : decode cX1_take 18 = .ok (.ifCond .gt 16, 3) := by decide +kernel
theorem dX1_take_21 : decode cX1_take 21 = .ok (.aload_n 0, 1) := by decide +kernel
theorem dX1_take_22 : decode cX1_take 22 = .ok (.getfield 17, 3) := by decide +kernel
theorem dX1_take_25 : decode cX1_take 25 = .ok (.iload_n 1, 1) := by decide +kernel
theorem dX1_take_26 : decode cX1_take 26 = .ok (.laload, 1) := by decide +kernel
theorem dX1_take_27 : decode cX1_take 27 = .ok (.ldc2_w 32, 3) := by decide +kernel
theorem dX1_take_30 : decode cX1_take 30 = .ok (.lcmp, 1) := by decide +kernel
theorem dX1_take_31 : decode cX1_take 31 = .ok (.ifCond .ge 6, 3) := by decide +kernel
theorem dX1_take_34 : decode cX1_take 34 = .ok (.bipush (-2), 2) := by decide +kernel
theorem dX1_take_36 : decode cX1_take 36 = .ok (.ireturn, 1) := by decide +kernel
theorem dX1_take_37 : decode cX1_take 37 = .ok (.iinc 1 1, 3) := by decide +kernel
theorem dX1_take_40 : decode cX1_take 40 = .ok (.goto (-38), 3) := by decide +kernel
theorem dX1_take_43 : decode cX1_take 43 = .ok (.iconst 0, 1) := by decide +kernel
theorem dX1_take_44 : decode cX1_take 44 = .ok (.istore_n 1, 1) := by decide +kernel
theorem dX1_take_45 : decode cX1_take 45 = .ok (.iload_n 1, 1) := by decide +kernel
theorem dX1_take_46 : decode cX1_take 46 = .ok (.bipush 6, 2) := by decide +kernel
theorem dX1_take_48 : decode cX1_take 48 = .ok (.if_icmp .ge 22, 3) := by decide +kernel
theorem dX1_take_51 : decode cX1_take 51 = .ok (.aload_n 0, 1) := by decide +kernel
theorem dX1_take_52 : decode cX1_take 52 = .ok (.getfield 13, 3) := by decide +kernel
theorem dX1_take_55 : decode cX1_take 55 = .ok (.iload_n 1, 1) := by decide +kernel
theorem dX1_take_56 : decode cX1_take 56 = .ok (.aload_n 0, 1) := by decide +kernel
theorem dX1_take_57 : decode cX1_take 57 = .ok (.getfield 17, 3) := by decide +kernel
theorem dX1_take_60 : decode cX1_take 60 = .ok (.iload_n 1, 1) := by decide +kernel
theorem dX1_take_61 : decode cX1_take 61 = .ok (.laload, 1) := by decide +kernel
theorem dX1_take_62 : decode cX1_take 62 = .ok (.l2i, 1) := by decide +kernel
theorem dX1_take_63 : decode cX1_take 63 = .ok (.iastore, 1) := by decide +kernel
theorem dX1_take_64 : decode cX1_take 64 = .ok (.iinc 1 1, 3) := by decide +kernel
theorem dX1_take_67 : decode cX1_take 67 = .ok (.goto (-22), 3) := by decide +kernel
theorem dX1_take_70 : decode cX1_take 70 = .ok (.iconst 1, 1) := by decide +kernel
theorem dX1_take_71 : decode cX1_take 71 = .ok (.ireturn, 1) := by decide +kernel
set_option maxRecDepth 20000 in
theorem ggX1_before_X1_areBad : GoodIn wsX1_before wsX1_areBad := goodIn_r _ [5, 6, 7, 4, 8, 9] (by decide +kernel) (by decide +kernel)
set_option maxRecDepth 20000 in
theorem gX1_before_X1_areBad : GoodIn wsX1_before (va_wsS RX1 123 yX1_areBad wsX1_areBad) := goodIn_app (goodIn_of _ (by decide +kernel)) ggX1_before_X1_areBad
set_option maxRecDepth 20000 in
theorem ggX1_before_X1_moving : GoodIn wsX1_before wsX1_moving := goodIn_r _ [13, 14, 15, 16, 4, 17, 18, 19, 20, 21, 22, 29, 30, 31, 32, 33, 34, 35] (by decide +kernel) (by decide +kernel)
set_option maxRecDepth 20000 in
theorem gX1_before_X1_moving : GoodIn wsX1_before (wsV RX1 127 RX1 yX1_moving wsX1_moving) := goodIn_app (goodIn_of _ (by decide +kernel)) ggX1_before_X1_moving
set_option maxRecDepth 20000 in
theorem ggX1_before_X1_take : GoodIn wsX1_before wsX1_take := goodIn_r _ [26, 1, 27, 28, 14, 29, 30, 31, 32, 33, 34, 35] (by decide +kernel) (by decide +kernel)
set_option maxRecDepth 20000 in
theorem gX1_before_X1_take : GoodIn wsX1_before (wsV RX1 131 RX1 yX1_take wsX1_take) := goodIn_app (goodIn_of _ (by decide +kernel)) ggX1_before_X1_take
theorem dX1_before_0 : decode cX1_before 0 = .ok (.iload_n 1, 1) := by decide +kernel
theorem dX1_before_1 : decode cX1_before 1 = .ok (.iload_n 2, 1) := by decide +kernel
theorem dX1_before_2 : decode cX1_before 2 = .ok (.iload_n 3, 1) := by decide +kernel
theorem dX1_before_3 : decode cX1_before 3 = .ok (.iload 4, 2) := by decide +kernel
theorem dX1_before_5 : decode cX1_before 5 = .ok (.iload 5, 2) := by decide +kernel
theorem dX1_before_7 : decode cX1_before 7 = .ok (.iload 6, 2) := by decide +kernel
theorem dX1_before_9 : decode cX1_before 9 = .ok (.invokestatic 123, 3) := by decide +kernel
theorem dX1_before_12 : decode cX1_before 12 = .ok (.ifCond .eq 5, 3) := by decide +kernel
theorem dX1_before_15 : decode cX1_before 15 = .ok (.iconst (-1), 1) := by decide +kernel
theorem dX1_before_16 : decode cX1_before 16 = .ok (.ireturn, 1) := by decide +kernel
theorem dX1_before_17 : decode cX1_before 17 = .ok (.iconst 0, 1) := by decide +kernel
theorem dX1_before_18 : decode cX1_before 18 = .ok (.istore 7, 2) := by decide +kernel
theorem dX1_before_20 : decode cX1_before 20 = .ok (.iload 7, 2) := by decide +kernel
theorem dX1_before_22 : decode cX1_before 22 = .ok (.iconst 2, 1) := by decide +kernel
theorem dX1_before_23 : decode cX1_before 23 = .ok (.if_icmp .ge 70, 3) := by decide +kernel
theorem dX1_before_26 : decode cX1_before 26 = .ok (.aload_n 0, 1) := by decide +kernel
theorem dX1_before_27 : decode cX1_before 27 = .ok (.getfield 17, 3) := by decide +kernel
theorem dX1_before_30 : decode cX1_before 30 = .ok (.iload 7, 2) := by decide +kernel
theorem dX1_before_32 : decode cX1_before 32 = .ok (.aload_n 0, 1) := by decide +kernel
theorem dX1_before_33 : decode cX1_before 33 = .ok (.iload_n 1, 1) := by decide +kernel
theorem dX1_before_34 : decode cX1_before 34 = .ok (.i2l, 1) := by decide +kernel
theorem dX1_before_35 : decode cX1_before 35 = .ok (.iload_n 2, 1) := by decide +kernel
theorem dX1_before_36 : decode cX1_before 36 = .ok (.i2l, 1) := by decide +kernel
theorem dX1_before_37 : decode cX1_before 37 = .ok (.iload 7, 2) := by decide +kernel
theorem dX1_before_39 : decode cX1_before 39 = .ok (.iconst 0, 1) := by decide +kernel
theorem dX1_before_40 : decode cX1_before 40 = .ok (.invokevirtual 127, 3) := by decide +kernel
theorem dX1_before_43 : decode cX1_before 43 = .ok (.lastore, 1) := by decide +kernel
theorem dX1_before_44 : decode cX1_before 44 = .ok (.aload_n 0, 1) := by decide +kernel
theorem dX1_before_45 : decode cX1_before 45 = .ok (.getfield 17, 3) := by decide +kernel
theorem dX1_before_48 : decode cX1_before 48 = .ok (.iconst 2, 1) := by decide +kernel
theorem dX1_before_49 : decode cX1_before 49 = .ok (.iload 7, 2) := by decide +kernel
theorem dX1_before_51 : decode cX1_before 51 = .ok (.iadd, 1) := by decide +kernel
theorem dX1_before_52 : decode cX1_before 52 = .ok (.aload_n 0, 1) := by decide +kernel
theorem dX1_before_53 : decode cX1_before 53 = .ok (.iload_n 3, 1) := by decide +kernel
theorem dX1_before_54 : decode cX1_before 54 = .ok (.i2l, 1) := by decide +kernel
theorem dX1_before_55 : decode cX1_before 55 = .ok (.iload 4, 2) := by decide +kernel
theorem dX1_before_57 : decode cX1_before 57 = .ok (.i2l, 1) := by decide +kernel
theorem dX1_before_58 : decode cX1_before 58 = .ok (.iload 7, 2) := by decide +kernel
theorem dX1_before_60 : decode cX1_before 60 = .ok (.iconst 0, 1) := by decide +kernel
theorem dX1_before_61 : decode cX1_before 61 = .ok (.invokevirtual 127, 3) := by decide +kernel
theorem dX1_before_64 : decode cX1_before 64 = .ok (.lastore, 1) := by decide +kernel
theorem dX1_before_65 : decode cX1_before 65 = .ok (.aload_n 0, 1) := by decide +kernel
theorem dX1_before_66 : decode cX1_before 66 = .ok (.getfield 17, 3) := by decide +kernel
theorem dX1_before_69 : decode cX1_before 69 = .ok (.iconst 4, 1) := by decide +kernel
theorem dX1_before_70 : decode cX1_before 70 = .ok (.iload 7, 2) := by decide +kernel
theorem dX1_before_72 : decode cX1_before 72 = .ok (.iadd, 1) := by decide +kernel
theorem dX1_before_73 : decode cX1_before 73 = .ok (.aload_n 0, 1) := by decide +kernel
theorem dX1_before_74 : decode cX1_before 74 = .ok (.iload 5, 2) := by decide +kernel
theorem dX1_before_76 : decode cX1_before 76 = .ok (.i2l, 1) := by decide +kernel
theorem dX1_before_77 : decode cX1_before 77 = .ok (.iload 6, 2) := by decide +kernel
theorem dX1_before_79 : decode cX1_before 79 = .ok (.i2l, 1) := by decide +kernel
theorem dX1_before_80 : decode cX1_before 80 = .ok (.iload 7, 2) := by decide +kernel
theorem dX1_before_82 : decode cX1_before 82 = .ok (.iconst 1, 1) := by decide +kernel
theorem dX1_before_83 : decode cX1_before 83 = .ok (.invokevirtual 127, 3) := by decide +kernel
theorem dX1_before_86 : decode cX1_before 86 = .ok (.lastore, 1) := by decide +kernel
theorem dX1_before_87 : decode cX1_before 87 = .ok (.iinc 7 1, 3) := by decide +kernel
theorem dX1_before_90 : decode cX1_before 90 = .ok (.goto (-70), 3) := by decide +kernel
theorem dX1_before_93 : decode cX1_before 93 = .ok (.aload_n 0, 1) := by decide +kernel
theorem dX1_before_94 : decode cX1_before 94 = .ok (.invokevirtual 131, 3) := by decide +kernel
theorem dX1_before_97 : decode cX1_before 97 = .ok (.ireturn, 1) := by decide +kernel
set_option maxRecDepth 20000 in
theorem ggX1_invert_X1_quotient : GoodIn wsX1_invert wsX1_quotient := goodIn_r _ [9, 10, 11, 4, 12, 13, 14, 8, 15, 22, 23, 24, 25, 26, 27, 28] (by decide +kernel) (by decide +kernel)
set_option maxRecDepth 20000 in
theorem gX1_invert_X1_quotient : GoodIn wsX1_invert (wsV RX1 76 RX1 yX1_quotient wsX1_quotient) := goodIn_app (goodIn_of _ (by decide +kernel)) ggX1_invert_X1_quotient
set_option maxRecDepth 20000 in
theorem ggX1_invert_X1_take : GoodIn wsX1_invert wsX1_take := goodIn_r _ [19, 2, 20, 21, 1, 22, 23, 24, 25, 26, 27, 28] (by decide +kernel) (by decide +kernel)
set_option maxRecDepth 20000 in
theorem gX1_invert_X1_take : GoodIn wsX1_invert (wsV RX1 131 RX1 yX1_take wsX1_take) := goodIn_app (goodIn_of _ (by decide +kernel)) ggX1_invert_X1_take
theorem dX1_invert_0 : decode cX1_invert 0 = .ok (.aload_n 0, 1) := by decide +kernel
theorem dX1_invert_1 : decode cX1_invert 1 = .ok (.getfield 13, 3) := by decide +kernel
theorem dX1_invert_4 : decode cX1_invert 4 = .ok (.iconst 0, 1) := by decide +kernel
theorem dX1_invert_5 : decode cX1_invert 5 = .ok (.iaload, 1) := by decide +kernel
theorem dX1_invert_6 : decode cX1_invert 6 = .ok (.i2l, 1) := by decide +kernel
theorem dX1_invert_7 : decode cX1_invert 7 = .ok (.lstore_n 1, 1) := by decide +kernel
theorem dX1_invert_8 : decode cX1_invert 8 = .ok (.aload_n 0, 1) := by decide +kernel
theorem dX1_invert_9 : decode cX1_invert 9 = .ok (.getfield 13, 3) := by decide +kernel
theorem dX1_invert_12 : decode cX1_invert 12 = .ok (.iconst 1, 1) := by decide +kernel
theorem dX1_invert_13 : decode cX1_invert 13 = .ok (.iaload, 1) := by decide +kernel
theorem dX1_invert_14 : decode cX1_invert 14 = .ok (.i2l, 1) := by decide +kernel
theorem dX1_invert_15 : decode cX1_invert 15 = .ok (.lstore_n 3, 1) := by decide +kernel
theorem dX1_invert_16 : decode cX1_invert 16 = .ok (.aload_n 0, 1) := by decide +kernel
theorem dX1_invert_17 : decode cX1_invert 17 = .ok (.getfield 13, 3) := by decide +kernel
theorem dX1_invert_20 : decode cX1_invert 20 = .ok (.iconst 2, 1) := by decide +kernel
theorem dX1_invert_21 : decode cX1_invert 21 = .ok (.iaload, 1) := by decide +kernel
theorem dX1_invert_22 : decode cX1_invert 22 = .ok (.i2l, 1) := by decide +kernel
theorem dX1_invert_23 : decode cX1_invert 23 = .ok (.lstore 5, 2) := by decide +kernel
theorem dX1_invert_25 : decode cX1_invert 25 = .ok (.aload_n 0, 1) := by decide +kernel
theorem dX1_invert_26 : decode cX1_invert 26 = .ok (.getfield 13, 3) := by decide +kernel
theorem dX1_invert_29 : decode cX1_invert 29 = .ok (.iconst 3, 1) := by decide +kernel
theorem dX1_invert_30 : decode cX1_invert 30 = .ok (.iaload, 1) := by decide +kernel
theorem dX1_invert_31 : decode cX1_invert 31 = .ok (.i2l, 1) := by decide +kernel
theorem dX1_invert_32 : decode cX1_invert 32 = .ok (.lstore 7, 2) := by decide +kernel
theorem dX1_invert_34 : decode cX1_invert 34 = .ok (.aload_n 0, 1) := by decide +kernel
theorem dX1_invert_35 : decode cX1_invert 35 = .ok (.getfield 13, 3) := by decide +kernel
theorem dX1_invert_38 : decode cX1_invert 38 = .ok (.iconst 4, 1) := by decide +kernel
theorem dX1_invert_39 : decode cX1_invert 39 = .ok (.iaload, 1) := by decide +kernel
theorem dX1_invert_40 : decode cX1_invert 40 = .ok (.i2l, 1) := by decide +kernel
theorem dX1_invert_41 : decode cX1_invert 41 = .ok (.lstore 9, 2) := by decide +kernel
theorem dX1_invert_43 : decode cX1_invert 43 = .ok (.aload_n 0, 1) := by decide +kernel
theorem dX1_invert_44 : decode cX1_invert 44 = .ok (.getfield 13, 3) := by decide +kernel
theorem dX1_invert_47 : decode cX1_invert 47 = .ok (.iconst 5, 1) := by decide +kernel
theorem dX1_invert_48 : decode cX1_invert 48 = .ok (.iaload, 1) := by decide +kernel
theorem dX1_invert_49 : decode cX1_invert 49 = .ok (.i2l, 1) := by decide +kernel
theorem dX1_invert_50 : decode cX1_invert 50 = .ok (.lstore 11, 2) := by decide +kernel
theorem dX1_invert_52 : decode cX1_invert 52 = .ok (.lload_n 1, 1) := by decide +kernel
theorem dX1_invert_53 : decode cX1_invert 53 = .ok (.lload 7, 2) := by decide +kernel
theorem dX1_invert_55 : decode cX1_invert 55 = .ok (.lmul, 1) := by decide +kernel
theorem dX1_invert_56 : decode cX1_invert 56 = .ok (.lload_n 3, 1) := by decide +kernel
theorem dX1_invert_57 : decode cX1_invert 57 = .ok (.lload 5, 2) := by decide +kernel
theorem dX1_invert_59 : decode cX1_invert 59 = .ok (.lmul, 1) := by decide +kernel
theorem dX1_invert_60 : decode cX1_invert 60 = .ok (.lsub, 1) := by decide +kernel
theorem dX1_invert_61 : decode cX1_invert 61 = .ok (.lstore 13, 2) := by decide +kernel
theorem dX1_invert_63 : decode cX1_invert 63 = .ok (.lload 13, 2) := by decide +kernel
theorem dX1_invert_65 : decode cX1_invert 65 = .ok (.lconst 0, 1) := by decide +kernel
theorem dX1_invert_66 : decode cX1_invert 66 = .ok (.lcmp, 1) := by decide +kernel
theorem dX1_invert_67 : decode cX1_invert 67 = .ok (.ifCond .ne 6, 3) := by decide +kernel
theorem dX1_invert_70 : decode cX1_invert 70 = .ok (.bipush (-3), 2) := by decide +kernel
theorem dX1_invert_72 : decode cX1_invert 72 = .ok (.ireturn, 1) := by decide +kernel
theorem dX1_invert_73 : decode cX1_invert 73 = .ok (.iconst 0, 1) := by decide +kernel
theorem dX1_invert_74 : decode cX1_invert 74 = .ok (.istore 15, 2) := by decide +kernel
theorem dX1_invert_76 : decode cX1_invert 76 = .ok (.iconst 0, 1) := by decide +kernel
theorem dX1_invert_77 : decode cX1_invert 77 = .ok (.istore 16, 2) := by decide +kernel
theorem dX1_invert_79 : decode cX1_invert 79 = .ok (.iload 16, 2) := by decide +kernel
theorem dX1_invert_81 : decode cX1_invert 81 = .ok (.iconst 4, 1) := by decide +kernel
theorem dX1_invert_82 : decode cX1_invert 82 = .ok (.if_icmp .ge 88, 3) := by decide +kernel
theorem dX1_invert_85 : decode cX1_invert 85 = .ok (.iload 16, 2) := by decide +kernel
theorem dX1_invert_87 : decode cX1_invert 87 = .ok (.ifCond .ne 8, 3) := by decide +kernel
theorem dX1_invert_90 : decode cX1_invert 90 = .ok (.lload 7, 2) := by decide +kernel
theorem dX1_invert_92 : decode cX1_invert 92 = .ok (.goto 27, 3) := by decide +kernel
theorem dX1_invert_95 : decode cX1_invert 95 = .ok (.iload 16, 2) := by decide +kernel
theorem dX1_invert_97 : decode cX1_invert 97 = .ok (.iconst 1, 1) := by decide +kernel
theorem dX1_invert_98 : decode cX1_invert 98 = .ok (.if_icmp .ne 8, 3) := by decide +kernel
theorem dX1_invert_101 : decode cX1_invert 101 = .ok (.lload_n 3, 1) := by decide +kernel
theorem dX1_invert_102 : decode cX1_invert 102 = .ok (.lneg, 1) := by decide +kernel
theorem dX1_invert_103 : decode cX1_invert 103 = .ok (.goto 16, 3) := by decide +kernel
theorem dX1_invert_106 : decode cX1_invert 106 = .ok (.iload 16, 2) := by decide +kernel
theorem dX1_invert_108 : decode cX1_invert 108 = .ok (.iconst 2, 1) := by decide +kernel
theorem dX1_invert_109 : decode cX1_invert 109 = .ok (.if_icmp .ne 9, 3) := by decide +kernel
theorem dX1_invert_112 : decode cX1_invert 112 = .ok (.lload 5, 2) := by decide +kernel
theorem dX1_invert_114 : decode cX1_invert 114 = .ok (.lneg, 1) := by decide +kernel
theorem dX1_invert_115 : decode cX1_invert 115 = .ok (.goto 4, 3) := by decide +kernel
theorem dX1_invert_118 : decode cX1_invert 118 = .ok (.lload_n 1, 1) := by decide +kernel
theorem dX1_invert_119 : decode cX1_invert 119 = .ok (.lstore 17, 2) := by decide +kernel
theorem dX1_invert_121 : decode cX1_invert 121 = .ok (.aload_n 0, 1) := by decide +kernel
theorem dX1_invert_122 : decode cX1_invert 122 = .ok (.getfield 17, 3) := by decide +kernel
theorem dX1_invert_125 : decode cX1_invert 125 = .ok (.iload 16, 2) := by decide +kernel
theorem dX1_invert_127 : decode cX1_invert 127 = .ok (.aload_n 0, 1) := by decide +kernel
theorem dX1_invert_128 : decode cX1_invert 128 = .ok (.lload 17, 2) := by decide +kernel
theorem dX1_invert_130 : decode cX1_invert 130 = .ok (.ldc2_w 23, 3) := by decide +kernel
theorem dX1_invert_133 : decode cX1_invert 133 = .ok (.lmul, 1) := by decide +kernel
theorem dX1_invert_134 : decode cX1_invert 134 = .ok (.ldc2_w 23, 3) := by decide +kernel
theorem dX1_invert_137 : decode cX1_invert 137 = .ok (.lmul, 1) := by decide +kernel
theorem dX1_invert_138 : decode cX1_invert 138 = .ok (.lload 13, 2) := by decide +kernel
theorem dX1_invert_140 : decode cX1_invert 140 = .ok (.iconst 0, 1) := by decide +kernel
theorem dX1_invert_141 : decode cX1_invert 141 = .ok (.invokevirtual 76, 3) := by decide +kernel
theorem dX1_invert_144 : decode cX1_invert 144 = .ok (.lastore, 1) := by decide +kernel
theorem dX1_invert_145 : decode cX1_invert 145 = .ok (.iload 15, 2) := by decide +kernel
theorem dX1_invert_147 : decode cX1_invert 147 = .ok (.ifCond .ne 10, 3) := by decide +kernel
theorem dX1_invert_150 : decode cX1_invert 150 = .ok (.aload_n 0, 1) := by decide +kernel
theorem dX1_invert_151 : decode cX1_invert 151 = .ok (.getfield 44, 3) := by decide +kernel
theorem dX1_invert_154 : decode cX1_invert 154 = .ok (.ifCond .eq 7, 3) := by decide +kernel
theorem dX1_invert_157 : decode cX1_invert 157 = .ok (.iconst 1, 1) := by decide +kernel
theorem dX1_invert_158 : decode cX1_invert 158 = .ok (.goto 4, 3) := by decide +kernel
theorem dX1_invert_161 : decode cX1_invert 161 = .ok (.iconst 0, 1) := by decide +kernel
theorem dX1_invert_162 : decode cX1_invert 162 = .ok (.istore 15, 2) := by decide +kernel
theorem dX1_invert_164 : decode cX1_invert 164 = .ok (.iinc 16 1, 3) := by decide +kernel
theorem dX1_invert_167 : decode cX1_invert 167 = .ok (.goto (-88), 3) := by decide +kernel
theorem dX1_invert_170 : decode cX1_invert 170 = .ok (.aload_n 0, 1) := by decide +kernel
theorem dX1_invert_171 : decode cX1_invert 171 = .ok (.getfield 17, 3) := by decide +kernel
theorem dX1_invert_174 : decode cX1_invert 174 = .ok (.iconst 4, 1) := by decide +kernel
theorem dX1_invert_175 : decode cX1_invert 175 = .ok (.aload_n 0, 1) := by decide +kernel
theorem dX1_invert_176 : decode cX1_invert 176 = .ok (.lload 5, 2) := by decide +kernel
theorem dX1_invert_178 : decode cX1_invert 178 = .ok (.lload 11, 2) := by decide +kernel
theorem dX1_invert_180 : decode cX1_invert 180 = .ok (.lmul, 1) := by decide +kernel
theorem dX1_invert_181 : decode cX1_invert 181 = .ok (.lload 7, 2) := by decide +kernel
theorem dX1_invert_183 : decode cX1_invert 183 = .ok (.lload 9, 2) := by decide +kernel
theorem dX1_invert_185 : decode cX1_invert 185 = .ok (.lmul, 1) := by decide +kernel
theorem dX1_invert_186 : decode cX1_invert 186 = .ok (.lsub, 1) := by decide +kernel
theorem dX1_invert_187 : decode cX1_invert 187 = .ok (.lload 13, 2) := by decide +kernel
theorem dX1_invert_189 : decode cX1_invert 189 = .ok (.bipush 16, 2) := by decide +kernel
theorem dX1_invert_191 : decode cX1_invert 191 = .ok (.invokevirtual 76, 3) := by decide +kernel
theorem dX1_invert_194 : decode cX1_invert 194 = .ok (.lastore, 1) := by decide +kernel
theorem dX1_invert_195 : decode cX1_invert 195 = .ok (.iload 15, 2) := by decide +kernel
theorem dX1_invert_197 : decode cX1_invert 197 = .ok (.ifCond .ne 10, 3) := by decide +kernel
theorem dX1_invert_200 : decode cX1_invert 200 = .ok (.aload_n 0, 1) := by decide +kernel
theorem dX1_invert_201 : decode cX1_invert 201 = .ok (.getfield 44, 3) := by decide +kernel
theorem dX1_invert_204 : decode cX1_invert 204 = .ok (.ifCond .eq 7, 3) := by decide +kernel
theorem dX1_invert_207 : decode cX1_invert 207 = .ok (.iconst 1, 1) := by decide +kernel
theorem dX1_invert_208 : decode cX1_invert 208 = .ok (.goto 4, 3) := by decide +kernel
theorem dX1_invert_211 : decode cX1_invert 211 = .ok (.iconst 0, 1) := by decide +kernel
theorem dX1_invert_212 : decode cX1_invert 212 = .ok (.istore 15, 2) := by decide +kernel
theorem dX1_invert_214 : decode cX1_invert 214 = .ok (.aload_n 0, 1) := by decide +kernel
theorem dX1_invert_215 : decode cX1_invert 215 = .ok (.getfield 17, 3) := by decide +kernel
theorem dX1_invert_218 : decode cX1_invert 218 = .ok (.iconst 5, 1) := by decide +kernel
theorem dX1_invert_219 : decode cX1_invert 219 = .ok (.aload_n 0, 1) := by decide +kernel
theorem dX1_invert_220 : decode cX1_invert 220 = .ok (.lload_n 3, 1) := by decide +kernel
theorem dX1_invert_221 : decode cX1_invert 221 = .ok (.lload 9, 2) := by decide +kernel
theorem dX1_invert_223 : decode cX1_invert 223 = .ok (.lmul, 1) := by decide +kernel
theorem dX1_invert_224 : decode cX1_invert 224 = .ok (.lload_n 1, 1) := by decide +kernel
theorem dX1_invert_225 : decode cX1_invert 225 = .ok (.lload 11, 2) := by decide +kernel
theorem dX1_invert_227 : decode cX1_invert 227 = .ok (.lmul, 1) := by decide +kernel
theorem dX1_invert_228 : decode cX1_invert 228 = .ok (.lsub, 1) := by decide +kernel
theorem dX1_invert_229 : decode cX1_invert 229 = .ok (.lload 13, 2) := by decide +kernel
theorem dX1_invert_231 : decode cX1_invert 231 = .ok (.bipush 16, 2) := by decide +kernel
theorem dX1_invert_233 : decode cX1_invert 233 = .ok (.invokevirtual 76, 3) := by decide +kernel
theorem dX1_invert_236 : decode cX1_invert 236 = .ok (.lastore, 1) := by decide +kernel
theorem dX1_invert_237 : decode cX1_invert 237 = .ok (.iload 15, 2) := by decide +kernel
theorem dX1_invert_239 : decode cX1_invert 239 = .ok (.ifCond .ne 10, 3) := by decide +kernel
theorem dX1_invert_242 : decode cX1_invert 242 = .ok (.aload_n 0, 1) := by decide +kernel
theorem dX1_invert_243 : decode cX1_invert 243 = .ok (.getfield 44, 3) := by decide +kernel
theorem dX1_invert_246 : decode cX1_invert 246 = .ok (.ifCond .eq 7, 3) := by decide +kernel
theorem dX1_invert_249 : decode cX1_invert 249 = .ok (.iconst 1, 1) := by decide +kernel
theorem dX1_invert_250 : decode cX1_invert 250 = .ok (.goto 4, 3) := by decide +kernel
theorem dX1_invert_253 : decode cX1_invert 253 = .ok (.iconst 0, 1) := by decide +kernel
theorem dX1_invert_254 : decode cX1_invert 254 = .ok (.istore 15, 2) := by decide +kernel
theorem dX1_invert_256 : decode cX1_invert 256 = .ok (.iload 15, 2) := by decide +kernel
theorem dX1_invert_258 : decode cX1_invert 258 = .ok (.ifCond .eq 8, 3) := by decide +kernel
theorem dX1_invert_261 : decode cX1_invert 261 = .ok (.bipush (-2), 2) := by decide +kernel
theorem dX1_invert_263 : decode cX1_invert 263 = .ok (.goto 7, 3) := by decide +kernel
theorem dX1_invert_266 : decode cX1_invert 266 = .ok (.aload_n 0, 1) := by decide +kernel
theorem dX1_invert_267 : decode cX1_invert 267 = .ok (.invokevirtual 131, 3) := by decide +kernel
theorem dX1_invert_270 : decode cX1_invert 270 = .ok (.ireturn, 1) := by decide +kernel
set_option maxRecDepth 20000 in
theorem ggX1_move_X1_isBad : GoodIn wsX1_move wsX1_isBad := goodIn_r _ [8, 9] (by decide +kernel) (by decide +kernel)
set_option maxRecDepth 20000 in
theorem gX1_move_X1_isBad : GoodIn wsX1_move (va_wsS RX1 119 yX1_isBad wsX1_isBad) := goodIn_app (goodIn_of _ (by decide +kernel)) ggX1_move_X1_isBad
set_option maxRecDepth 20000 in
theorem ggX1_move_X1_moving : GoodIn wsX1_move wsX1_moving := goodIn_r _ [13, 14, 15, 16, 7, 17, 18, 19, 20, 21, 22, 23, 24, 25, 26, 27, 28, 29] (by decide +kernel) (by decide +kernel)
set_option maxRecDepth 20000 in
theorem gX1_move_X1_moving : GoodIn wsX1_move (wsV RX1 127 RX1 yX1_moving wsX1_moving) := goodIn_app (goodIn_of _ (by decide +kernel)) ggX1_move_X1_moving
theorem dX1_move_0 : decode cX1_move 0 = .ok (.iload_n 1, 1) := by decide +kernel
theorem dX1_move_1 : decode cX1_move 1 = .ok (.invokestatic 119, 3) := by decide +kernel
theorem dX1_move_4 : decode cX1_move 4 = .ok (.ifCond .ne 10, 3) := by decide +kernel
theorem dX1_move_7 : decode cX1_move 7 = .ok (.iload_n 2, 1) := by decide +kernel
theorem dX1_move_8 : decode cX1_move 8 = .ok (.invokestatic 119, 3) := by decide +kernel
theorem dX1_move_11 : decode cX1_move 11 = .ok (.ifCond .eq 5, 3) := by decide +kernel
theorem dX1_move_14 : decode cX1_move 14 = .ok (.iconst (-1), 1) := by decide +kernel
theorem dX1_move_15 : decode cX1_move 15 = .ok (.ireturn, 1) := by decide +kernel
theorem dX1_move_16 : decode cX1_move 16 = .ok (.aload_n 0, 1) := by decide +kernel
theorem dX1_move_17 : decode cX1_move 17 = .ok (.iload_n 1, 1) := by decide +kernel
theorem dX1_move_18 : decode cX1_move 18 = .ok (.i2l, 1) := by decide +kernel
theorem dX1_move_19 : decode cX1_move 19 = .ok (.iload_n 2, 1) := by decide +kernel
theorem dX1_move_20 : decode cX1_move 20 = .ok (.i2l, 1) := by decide +kernel
theorem dX1_move_21 : decode cX1_move 21 = .ok (.iconst 0, 1) := by decide +kernel
theorem dX1_move_22 : decode cX1_move 22 = .ok (.iload_n 3, 1) := by decide +kernel
theorem dX1_move_23 : decode cX1_move 23 = .ok (.invokevirtual 127, 3) := by decide +kernel
theorem dX1_move_26 : decode cX1_move 26 = .ok (.lstore 4, 2) := by decide +kernel
theorem dX1_move_28 : decode cX1_move 28 = .ok (.aload_n 0, 1) := by decide +kernel
theorem dX1_move_29 : decode cX1_move 29 = .ok (.iload_n 1, 1) := by decide +kernel
theorem dX1_move_30 : decode cX1_move 30 = .ok (.i2l, 1) := by decide +kernel
theorem dX1_move_31 : decode cX1_move 31 = .ok (.iload_n 2, 1) := by decide +kernel
theorem dX1_move_32 : decode cX1_move 32 = .ok (.i2l, 1) := by decide +kernel
theorem dX1_move_33 : decode cX1_move 33 = .ok (.iconst 1, 1) := by decide +kernel
theorem dX1_move_34 : decode cX1_move 34 = .ok (.iload_n 3, 1) := by decide +kernel
theorem dX1_move_35 : decode cX1_move 35 = .ok (.invokevirtual 127, 3) := by decide +kernel
theorem dX1_move_38 : decode cX1_move 38 = .ok (.lstore 6, 2) := by decide +kernel
theorem dX1_move_40 : decode cX1_move 40 = .ok (.lload 4, 2) := by decide +kernel
theorem dX1_move_42 : decode cX1_move 42 = .ok (.ldc2_w 25, 3) := by decide +kernel
theorem dX1_move_45 : decode cX1_move 45 = .ok (.lcmp, 1) := by decide +kernel
theorem dX1_move_46 : decode cX1_move 46 = .ok (.ifCond .gt 30, 3) := by decide +kernel
theorem dX1_move_49 : decode cX1_move 49 = .ok (.lload 4, 2) := by decide +kernel
theorem dX1_move_51 : decode cX1_move 51 = .ok (.ldc2_w 32, 3) := by decide +kernel
theorem dX1_move_54 : decode cX1_move 54 = .ok (.lcmp, 1) := by decide +kernel
theorem dX1_move_55 : decode cX1_move 55 = .ok (.ifCond .lt 21, 3) := by decide +kernel
theorem dX1_move_58 : decode cX1_move 58 = .ok (.lload 6, 2) := by decide +kernel
theorem dX1_move_60 : decode cX1_move 60 = .ok (.ldc2_w 25, 3) := by decide +kernel
theorem dX1_move_63 : decode cX1_move 63 = .ok (.lcmp, 1) := by decide +kernel
theorem dX1_move_64 : decode cX1_move 64 = .ok (.ifCond .gt 12, 3) := by decide +kernel
theorem dX1_move_67 : decode cX1_move 67 = .ok (.lload 6, 2) := by decide +kernel
theorem dX1_move_69 : decode cX1_move 69 = .ok (.ldc2_w 32, 3) := by decide +kernel
theorem dX1_move_72 : decode cX1_move 72 = .ok (.lcmp, 1) := by decide +kernel
theorem dX1_move_73 : decode cX1_move 73 = .ok (.ifCond .ge 6, 3) := by decide +kernel
theorem dX1_move_76 : decode cX1_move 76 = .ok (.bipush (-2), 2) := by decide +kernel
theorem dX1_move_78 : decode cX1_move 78 = .ok (.ireturn, 1) := by decide +kernel
theorem dX1_move_79 : decode cX1_move 79 = .ok (.aload_n 0, 1) := by decide +kernel
theorem dX1_move_80 : decode cX1_move 80 = .ok (.lload 4, 2) := by decide +kernel
theorem dX1_move_82 : decode cX1_move 82 = .ok (.l2i, 1) := by decide +kernel
theorem dX1_move_83 : decode cX1_move 83 = .ok (.putfield 135, 3) := by decide +kernel
theorem dX1_move_86 : decode cX1_move 86 = .ok (.aload_n 0, 1) := by decide +kernel
theorem dX1_move_87 : decode cX1_move 87 = .ok (.lload 6, 2) := by decide +kernel
theorem dX1_move_89 : decode cX1_move 89 = .ok (.l2i, 1) := by decide +kernel
theorem dX1_move_90 : decode cX1_move 90 = .ok (.putfield 138, 3) := by decide +kernel
theorem dX1_move_93 : decode cX1_move 93 = .ok (.iconst 1, 1) := by decide +kernel
theorem dX1_move_94 : decode cX1_move 94 = .ok (.ireturn, 1) := by decide +kernel
theorem dX1_moved_0 : decode cX1_moved 0 = .ok (.iload_n 1, 1) := by decide +kernel
theorem dX1_moved_1 : decode cX1_moved 1 = .ok (.ifCond .ne 10, 3) := by decide +kernel
theorem dX1_moved_4 : decode cX1_moved 4 = .ok (.aload_n 0, 1) := by decide +kernel
theorem dX1_moved_5 : decode cX1_moved 5 = .ok (.getfield 135, 3) := by decide +kernel
theorem dX1_moved_8 : decode cX1_moved 8 = .ok (.goto 16, 3) := by decide +kernel
theorem dX1_moved_11 : decode cX1_moved 11 = .ok (.iload_n 1, 1) := by decide +kernel
theorem dX1_moved_12 : decode cX1_moved 12 = .ok (.iconst 1, 1) := by decide +kernel
theorem dX1_moved_13 : decode cX1_moved 13 = .ok (.if_icmp .ne 10, 3) := by decide +kernel
theorem dX1_moved_16 : decode cX1_moved 16 = .ok (.aload_n 0, 1) := by decide +kernel
theorem dX1_moved_17 : decode cX1_moved 17 = .ok (.getfield 138, 3) := by decide +kernel
theorem dX1_moved_20 : decode cX1_moved 20 = .ok (.goto 4, 3) := by decide +kernel
theorem dX1_moved_23 : decode cX1_moved 23 = .ok (.iconst 0, 1) := by decide +kernel
theorem dX1_moved_24 : decode cX1_moved 24 = .ok (.ireturn, 1) := by decide +kernel
theorem dJ13_compare_74951_0 : decode cJ13_compare_74951 0 = .ok (.lload_n 0, 1) := by decide +kernel
theorem dJ13_compare_74951_1 : decode cJ13_compare_74951 1 = .ok (.lload_n 2, 1) := by decide +kernel
theorem dJ13_compare_74951_2 : decode cJ13_compare_74951 2 = .ok (.lcmp, 1) := by decide +kernel
theorem dJ13_compare_74951_3 : decode cJ13_compare_74951 3 = .ok (.ifCond .ge 7, 3) := by decide +kernel
theorem dJ13_compare_74951_6 : decode cJ13_compare_74951 6 = .ok (.iconst (-1), 1) := by decide +kernel
theorem dJ13_compare_74951_7 : decode cJ13_compare_74951 7 = .ok (.goto 14, 3) := by decide +kernel
theorem dJ13_compare_74951_10 : decode cJ13_compare_74951 10 = .ok (.lload_n 0, 1) := by decide +kernel
theorem dJ13_compare_74951_11 : decode cJ13_compare_74951 11 = .ok (.lload_n 2, 1) := by decide +kernel
theorem dJ13_compare_74951_12 : decode cJ13_compare_74951 12 = .ok (.lcmp, 1) := by decide +kernel
theorem dJ13_compare_74951_13 : decode cJ13_compare_74951 13 = .ok (.ifCond .ne 7, 3) := by decide +kernel
theorem dJ13_compare_74951_16 : decode cJ13_compare_74951 16 = .ok (.iconst 0, 1) := by decide +kernel
theorem dJ13_compare_74951_17 : decode cJ13_compare_74951 17 = .ok (.goto 4, 3) := by decide +kernel
theorem dJ13_compare_74951_20 : decode cJ13_compare_74951 20 = .ok (.iconst 1, 1) := by decide +kernel
theorem dJ13_compare_74951_21 : decode cJ13_compare_74951 21 = .ok (.ireturn, 1) := by decide +kernel
theorem dJ9_floorDiv_f86c9_0 : decode cJ9_floorDiv_f86c9 0 = .ok (.lload_n 0, 1) := by decide +kernel
theorem dJ9_floorDiv_f86c9_1 : decode cJ9_floorDiv_f86c9 1 = .ok (.lload_n 2, 1) := by decide +kernel
theorem dJ9_floorDiv_f86c9_2 : decode cJ9_floorDiv_f86c9 2 = .ok (.ldiv, 1) := by decide +kernel
theorem dJ9_floorDiv_f86c9_3 : decode cJ9_floorDiv_f86c9 3 = .ok (.lstore 4, 2) := by decide +kernel
theorem dJ9_floorDiv_f86c9_5 : decode cJ9_floorDiv_f86c9 5 = .ok (.lload_n 0, 1) := by decide +kernel
theorem dJ9_floorDiv_f86c9_6 : decode cJ9_floorDiv_f86c9 6 = .ok (.lload_n 2, 1) := by decide +kernel
theorem dJ9_floorDiv_f86c9_7 : decode cJ9_floorDiv_f86c9 7 = .ok (.lxor, 1) := by decide +kernel
theorem dJ9_floorDiv_f86c9_8 : decode cJ9_floorDiv_f86c9 8 = .ok (.lconst 0, 1) := by decide +kernel
theorem dJ9_floorDiv_f86c9_9 : decode cJ9_floorDiv_f86c9 9 = .ok (.lcmp, 1) := by decide +kernel
theorem dJ9_floorDiv_f86c9_10 : decode cJ9_floorDiv_f86c9 10 = .ok (.ifCond .ge 17, 3) := by decide +kernel
theorem dJ9_floorDiv_f86c9_13 : decode cJ9_floorDiv_f86c9 13 = .ok (.lload 4, 2) := by decide +kernel
theorem dJ9_floorDiv_f86c9_15 : decode cJ9_floorDiv_f86c9 15 = .ok (.lload_n 2, 1) := by decide +kernel
theorem dJ9_floorDiv_f86c9_16 : decode cJ9_floorDiv_f86c9 16 = .ok (.lmul, 1) := by decide +kernel
theorem dJ9_floorDiv_f86c9_17 : decode cJ9_floorDiv_f86c9 17 = .ok (.lload_n 0, 1) := by decide +kernel
theorem dJ9_floorDiv_f86c9_18 : decode cJ9_floorDiv_f86c9 18 = .ok (.lcmp, 1) := by decide +kernel
theorem dJ9_floorDiv_f86c9_19 : decode cJ9_floorDiv_f86c9 19 = .ok (.ifCond .eq 8, 3) := by decide +kernel
theorem dJ9_floorDiv_f86c9_22 : decode cJ9_floorDiv_f86c9 22 = .ok (.lload 4, 2) := by decide +kernel
theorem dJ9_floorDiv_f86c9_24 : decode cJ9_floorDiv_f86c9 24 = .ok (.lconst 1, 1) := by decide +kernel
theorem dJ9_floorDiv_f86c9_25 : decode cJ9_floorDiv_f86c9 25 = .ok (.lsub, 1) := by decide +kernel
theorem dJ9_floorDiv_f86c9_26 : decode cJ9_floorDiv_f86c9 26 = .ok (.lreturn, 1) := by decide +kernel
theorem dJ9_floorDiv_f86c9_27 : decode cJ9_floorDiv_f86c9 27 = .ok (.lload 4, 2) := by decide +kernel
theorem dJ9_floorDiv_f86c9_29 : decode cJ9_floorDiv_f86c9 29 = .ok (.lreturn, 1) := by decide +kernel
theorem dJ9_floorMod_f86c9_0 : decode cJ9_floorMod_f86c9 0 = .ok (.lload_n 0, 1) := by decide +kernel
theorem dJ9_floorMod_f86c9_1 : decode cJ9_floorMod_f86c9 1 = .ok (.lload_n 2, 1) := by decide +kernel
theorem dJ9_floorMod_f86c9_2 : decode cJ9_floorMod_f86c9 2 = .ok (.lrem, 1) := by decide +kernel
theorem dJ9_floorMod_f86c9_3 : decode cJ9_floorMod_f86c9 3 = .ok (.lstore 4, 2) := by decide +kernel
theorem dJ9_floorMod_f86c9_5 : decode cJ9_floorMod_f86c9 5 = .ok (.lload_n 0, 1) := by decide +kernel
theorem dJ9_floorMod_f86c9_6 : decode cJ9_floorMod_f86c9 6 = .ok (.lload_n 2, 1) := by decide +kernel
theorem dJ9_floorMod_f86c9_7 : decode cJ9_floorMod_f86c9 7 = .ok (.lxor, 1) := by decide +kernel
theorem dJ9_floorMod_f86c9_8 : decode cJ9_floorMod_f86c9 8 = .ok (.lconst 0, 1) := by decide +kernel
theorem dJ9_floorMod_f86c9_9 : decode cJ9_floorMod_f86c9 9 = .ok (.lcmp, 1) := by decide +kernel
theorem dJ9_floorMod_f86c9_10 : decode cJ9_floorMod_f86c9 10 = .ok (.ifCond .ge 15, 3) := by decide +kernel
theorem dJ9_floorMod_f86c9_13 : decode cJ9_floorMod_f86c9 13 = .ok (.lload 4, 2) := by decide +kernel
theorem dJ9_floorMod_f86c9_15 : decode cJ9_floorMod_f86c9 15 = .ok (.lconst 0, 1) := by decide +kernel
theorem dJ9_floorMod_f86c9_16 : decode cJ9_floorMod_f86c9 16 = .ok (.lcmp, 1) := by decide +kernel
theorem dJ9_floorMod_f86c9_17 : decode cJ9_floorMod_f86c9 17 = .ok (.ifCond .eq 8, 3) := by decide +kernel
theorem dJ9_floorMod_f86c9_20 : decode cJ9_floorMod_f86c9 20 = .ok (.lload 4, 2) := by decide +kernel
theorem dJ9_floorMod_f86c9_22 : decode cJ9_floorMod_f86c9 22 = .ok (.lload_n 2, 1) := by decide +kernel
theorem dJ9_floorMod_f86c9_23 : decode cJ9_floorMod_f86c9 23 = .ok (.ladd, 1) := by decide +kernel
theorem dJ9_floorMod_f86c9_24 : decode cJ9_floorMod_f86c9 24 = .ok (.lreturn, 1) := by decide +kernel
theorem dJ9_floorMod_f86c9_25 : decode cJ9_floorMod_f86c9 25 = .ok (.lload 4, 2) := by decide +kernel
theorem dJ9_floorMod_f86c9_27 : decode cJ9_floorMod_f86c9 27 = .ok (.lreturn, 1) := by decide +kernel
theorem dJ9_abs_067f4_0 : decode cJ9_abs_067f4 0 = .ok (.lload_n 0, 1) := by decide +kernel
theorem dJ9_abs_067f4_1 : decode cJ9_abs_067f4 1 = .ok (.lconst 0, 1) := by decide +kernel
theorem dJ9_abs_067f4_2 : decode cJ9_abs_067f4 2 = .ok (.lcmp, 1) := by decide +kernel
theorem dJ9_abs_067f4_3 : decode cJ9_abs_067f4 3 = .ok (.ifCond .ge 8, 3) := by decide +kernel
theorem dJ9_abs_067f4_6 : decode cJ9_abs_067f4 6 = .ok (.lload_n 0, 1) := by decide +kernel
theorem dJ9_abs_067f4_7 : decode cJ9_abs_067f4 7 = .ok (.lneg, 1) := by decide +kernel
theorem dJ9_abs_067f4_8 : decode cJ9_abs_067f4 8 = .ok (.goto 4, 3) := by decide +kernel
theorem dJ9_abs_067f4_11 : decode cJ9_abs_067f4 11 = .ok (.lload_n 0, 1) := by decide +kernel
theorem dJ9_abs_067f4_12 : decode cJ9_abs_067f4 12 = .ok (.lreturn, 1) := by decide +kernel
theorem dJ9_min_f86c9_0 : decode cJ9_min_f86c9 0 = .ok (.lload_n 0, 1) := by decide +kernel
theorem dJ9_min_f86c9_1 : decode cJ9_min_f86c9 1 = .ok (.lload_n 2, 1) := by decide +kernel
theorem dJ9_min_f86c9_2 : decode cJ9_min_f86c9 2 = .ok (.lcmp, 1) := by decide +kernel
theorem dJ9_min_f86c9_3 : decode cJ9_min_f86c9 3 = .ok (.ifCond .gt 7, 3) := by decide +kernel
theorem dJ9_min_f86c9_6 : decode cJ9_min_f86c9 6 = .ok (.lload_n 0, 1) := by decide +kernel
theorem dJ9_min_f86c9_7 : decode cJ9_min_f86c9 7 = .ok (.goto 4, 3) := by decide +kernel
theorem dJ9_min_f86c9_10 : decode cJ9_min_f86c9 10 = .ok (.lload_n 2, 1) := by decide +kernel
theorem dJ9_min_f86c9_11 : decode cJ9_min_f86c9 11 = .ok (.lreturn, 1) := by decide +kernel
end
section
set_option maxRecDepth 20000 in
theorem ggL_law_X0_init : GoodIn wsL_law wsX0_init := goodIn_r _ [8, 9, 10, 11, 12, 13, 14, 15, 329, 330, 331, 332, 333, 334, 335, 336, 337, 338] (by decide +kernel) (by decide +kernel)
set_option maxRecDepth 20000 in
theorem gL_law_X0_init : GoodIn wsL_law (wsX0_init) := ggL_law_X0_init
set_option maxRecDepth 20000 in
theorem ggL_law_X1_init : GoodIn wsL_law wsX1_init := goodIn_r _ [18, 19, 10, 11, 20, 21, 22, 23, 24, 25, 339, 340, 341, 342, 343, 344, 345] (by decide +kernel) (by decide +kernel)
set_option maxRecDepth 20000 in
theorem gL_law_X1_init : GoodIn wsL_law (wsX1_init) := ggL_law_X1_init
set_option maxRecDepth 20000 in
theorem ggL_law_X0_two : GoodIn wsL_law wsX0_two := goodIn_r _ [29, 30, 31, 2, 32, 33, 34, 35, 36, 37, 38, 39, 40, 41, 42, 43, 44, 45, 46, 47, 48, 12, 49, 50, 51, 52, 53, 54, 55, 56, 57, 58, 59, 60, 61, 62, 63, 64, 65, 66, 67, 68, 69, 70, 71, 72, 73, 74, 75, 76, 77, 78, 79, 80, 81, 82, 83, 84, 85, 86, 87, 88, 89, 90, 91, 92, 93, 94, 95, 96, 97, 98, 329, 330, 331, 332, 333, 334, 335, 336, 337, 338] (by decide +kernel) (by decide +kernel)
set_option maxRecDepth 20000 in
theorem gL_law_X0_two : GoodIn wsL_law (wsV RL 13 RX0 yX0_two wsX0_two) := goodIn_app (goodIn_of _ (by decide +kernel)) ggL_law_X0_two
set_option maxRecDepth 20000 in
theorem ggL_law_X1_two : GoodIn wsL_law wsX1_two := goodIn_r _ [102, 103, 104, 105, 5, 106, 107, 108, 109, 110, 111, 112, 113, 114, 115, 116, 117, 20, 118, 119, 120, 121, 122, 123, 124, 125, 126, 127, 128, 129, 130, 131, 132, 133, 134, 135, 136, 137, 138, 139, 140, 141, 142, 143, 144, 145, 146, 147, 148, 149, 150, 151, 152, 153, 154, 155, 156, 157, 158, 159, 160, 161, 162, 163, 164, 165, 166, 339, 340, 341, 342, 343, 344, 345] (by decide +kernel) (by decide +kernel)
set_option maxRecDepth 20000 in
theorem gL_law_X1_two : GoodIn wsL_law (wsV RL 17 RX1 yX1_two wsX1_two) := goodIn_app (goodIn_of _ (by decide +kernel)) ggL_law_X1_two
set_option maxRecDepth 20000 in
theorem ggL_law_X0_one : GoodIn wsL_law wsX0_one := goodIn_r _ [170, 30, 31, 2, 32, 33, 34, 35, 36, 37, 45, 46, 47, 48, 12, 49, 171, 172, 173, 174, 175, 176, 177, 68, 69, 70, 71, 13, 178, 179, 180, 181, 64, 56, 182, 183, 184, 53, 54, 55, 185, 186, 187, 188, 87, 189, 190, 191, 192, 193, 194, 83, 82, 92, 93, 94, 195, 196, 77, 197, 95, 96, 97, 98, 61, 62, 63, 329, 330, 331, 332, 333, 334, 335, 336, 337, 338] (by decide +kernel) (by decide +kernel)
set_option maxRecDepth 20000 in
theorem gL_law_X0_one : GoodIn wsL_law (wsV RL 18 RX0 yX0_one wsX0_one) := goodIn_app (goodIn_of _ (by decide +kernel)) ggL_law_X0_one
set_option maxRecDepth 20000 in
theorem ggL_law_X1_one : GoodIn wsL_law wsX1_one := goodIn_r _ [201, 151, 104, 105, 5, 106, 107, 112, 113, 114, 115, 116, 117, 20, 118, 202, 203, 204, 205, 206, 207, 208, 209, 128, 138, 139, 140, 129, 130, 131, 132, 133, 134, 135, 136, 137, 122, 123, 124, 125, 126, 127, 210, 211, 212, 160, 161, 162, 153, 152, 163, 164, 165, 166, 339, 340, 341, 342, 343, 344, 345] (by decide +kernel) (by decide +kernel)
set_option maxRecDepth 20000 in
theorem gL_law_X1_one : GoodIn wsL_law (wsV RL 22 RX1 yX1_one wsX1_one) := goodIn_app (goodIn_of _ (by decide +kernel)) ggL_law_X1_one
set_option maxRecDepth 20000 in
theorem ggL_law_X0_kind : GoodIn wsL_law wsX0_kind := goodIn_r _ [216, 12, 329, 330, 331, 332, 333, 334, 335, 336, 337, 338] (by decide +kernel) (by decide +kernel)
set_option maxRecDepth 20000 in
theorem gL_law_X0_kind : GoodIn wsL_law (wsV RL 23 RX0 yX0_kind wsX0_kind) := goodIn_app (goodIn_of _ (by decide +kernel)) ggL_law_X0_kind
set_option maxRecDepth 20000 in
theorem ggL_law_X1_kind : GoodIn wsL_law wsX1_kind := goodIn_r _ [220, 20, 339, 340, 341, 342, 343, 344, 345] (by decide +kernel) (by decide +kernel)
set_option maxRecDepth 20000 in
theorem gL_law_X1_kind : GoodIn wsL_law (wsV RL 27 RX1 yX1_kind wsX1_kind) := goodIn_app (goodIn_of _ (by decide +kernel)) ggL_law_X1_kind
set_option maxRecDepth 20000 in
theorem ggL_law_X0_number : GoodIn wsL_law wsX0_number := goodIn_r _ [224, 49, 329, 330, 331, 332, 333, 334, 335, 336, 337, 338] (by decide +kernel) (by decide +kernel)
set_option maxRecDepth 20000 in
theorem gL_law_X0_number : GoodIn wsL_law (wsV RL 28 RX0 yX0_number wsX0_number) := goodIn_app (goodIn_of _ (by decide +kernel)) ggL_law_X0_number
set_option maxRecDepth 20000 in
theorem ggL_law_X1_number : GoodIn wsL_law wsX1_number := goodIn_r _ [228, 118, 339, 340, 341, 342, 343, 344, 345] (by decide +kernel) (by decide +kernel)
set_option maxRecDepth 20000 in
theorem gL_law_X1_number : GoodIn wsL_law (wsV RL 31 RX1 yX1_number wsX1_number) := goodIn_app (goodIn_of _ (by decide +kernel)) ggL_law_X1_number
set_option maxRecDepth 20000 in
theorem ggL_law_X0_compare : GoodIn wsL_law wsX0_compare := goodIn_r _ [232, 30, 31, 2, 32, 33, 34, 35, 36, 37, 53, 54, 55, 56, 233, 234, 235, 236] (by decide +kernel) (by decide +kernel)
set_option maxRecDepth 20000 in
theorem gL_law_X0_compare : GoodIn wsL_law (wsV RL 32 RX0 yX0_compare wsX0_compare) := goodIn_app (goodIn_of _ (by decide +kernel)) ggL_law_X0_compare
set_option maxRecDepth 20000 in
theorem ggL_law_X1_compare : GoodIn wsL_law wsX1_compare := goodIn_r _ [240, 104, 105, 5, 106, 107, 125, 126, 127, 128] (by decide +kernel) (by decide +kernel)
set_option maxRecDepth 20000 in
theorem gL_law_X1_compare : GoodIn wsL_law (wsV RL 36 RX1 yX1_compare wsX1_compare) := goodIn_app (goodIn_of _ (by decide +kernel)) ggL_law_X1_compare
set_option maxRecDepth 20000 in
theorem ggL_law_X0_matrix : GoodIn wsL_law wsX0_matrix := goodIn_r _ [244, 245, 246, 247, 2, 248, 14, 249, 250, 15, 251, 252, 253, 254, 255, 33, 34, 35, 36, 37, 329, 330, 331, 332, 333, 334, 335, 336, 337, 338] (by decide +kernel) (by decide +kernel)
set_option maxRecDepth 20000 in
theorem gL_law_X0_matrix : GoodIn wsL_law (wsV RL 37 RX0 yX0_matrix wsX0_matrix) := goodIn_app (goodIn_of _ (by decide +kernel)) ggL_law_X0_matrix
set_option maxRecDepth 20000 in
theorem ggL_law_X1_matrix : GoodIn wsL_law wsX1_matrix := goodIn_r _ [259, 22, 260, 261, 5, 262, 263, 264, 265, 107, 339, 340, 341, 342, 343, 344, 345] (by decide +kernel) (by decide +kernel)
set_option maxRecDepth 20000 in
theorem gL_law_X1_matrix : GoodIn wsL_law (wsV RL 41 RX1 yX1_matrix wsX1_matrix) := goodIn_app (goodIn_of _ (by decide +kernel)) ggL_law_X1_matrix
set_option maxRecDepth 20000 in
theorem ggL_law_X0_entry : GoodIn wsL_law wsX0_entry := goodIn_r _ [269, 14, 249, 250, 15, 251, 252, 329, 330, 331, 332, 333, 334, 335, 336, 337, 338] (by decide +kernel) (by decide +kernel)
set_option maxRecDepth 20000 in
theorem gL_law_X0_entry : GoodIn wsL_law (wsV RL 42 RX0 yX0_entry wsX0_entry) := goodIn_app (goodIn_of _ (by decide +kernel)) ggL_law_X0_entry
set_option maxRecDepth 20000 in
theorem ggL_law_X1_entry : GoodIn wsL_law wsX1_entry := goodIn_r _ [273, 22, 339, 340, 341, 342, 343, 344, 345] (by decide +kernel) (by decide +kernel)
set_option maxRecDepth 20000 in
theorem gL_law_X1_entry : GoodIn wsL_law (wsV RL 46 RX1 yX1_entry wsX1_entry) := goodIn_app (goodIn_of _ (by decide +kernel)) ggL_law_X1_entry
set_option maxRecDepth 20000 in
theorem ggL_law_X0_before : GoodIn wsL_law wsX0_before := goodIn_r _ [277, 251, 252, 253, 254, 2, 255, 33, 34, 35, 36, 37, 278, 279, 280, 281, 14, 250, 61, 62, 63, 64, 282, 283, 284, 285, 249, 15, 245, 246, 247, 248, 329, 330, 331, 332, 333, 334, 335, 336, 337, 338] (by decide +kernel) (by decide +kernel)
set_option maxRecDepth 20000 in
theorem gL_law_X0_before : GoodIn wsL_law (wsV RL 47 RX0 yX0_before wsX0_before) := goodIn_app (goodIn_of _ (by decide +kernel)) ggL_law_X0_before
set_option maxRecDepth 20000 in
theorem ggL_law_X1_before : GoodIn wsL_law wsX1_before := goodIn_r _ [289, 24, 260, 261, 5, 262, 263, 264, 265, 107, 290, 291, 292, 293, 22, 134, 135, 136, 137, 128, 138, 139, 140, 294, 295, 296, 297, 116, 133, 339, 340, 341, 342, 343, 344, 345] (by decide +kernel) (by decide +kernel)
set_option maxRecDepth 20000 in
theorem gL_law_X1_before : GoodIn wsL_law (wsV RL 51 RX1 yX1_before wsX1_before) := goodIn_app (goodIn_of _ (by decide +kernel)) ggL_law_X1_before
set_option maxRecDepth 20000 in
theorem ggL_law_X0_invert : GoodIn wsL_law wsX0_invert := goodIn_r _ [301, 14, 15, 249, 250, 56, 252, 251, 302, 303, 2, 304, 65, 66, 67, 68, 69, 70, 71, 72, 64, 73, 74, 75, 76, 77, 78, 245, 246, 247, 248, 253, 254, 255, 33, 34, 35, 36, 37, 329, 330, 331, 332, 333, 334, 335, 336, 337, 338] (by decide +kernel) (by decide +kernel)
set_option maxRecDepth 20000 in
theorem gL_law_X0_invert : GoodIn wsL_law (wsV RL 52 RX0 yX0_invert wsX0_invert) := goodIn_app (goodIn_of _ (by decide +kernel)) ggL_law_X0_invert
set_option maxRecDepth 20000 in
theorem ggL_law_X1_invert : GoodIn wsL_law wsX1_invert := goodIn_r _ [308, 22, 24, 128, 103, 141, 142, 143, 5, 144, 145, 146, 147, 138, 139, 140, 294, 295, 296, 297, 116, 133, 339, 340, 341, 342, 343, 344, 345] (by decide +kernel) (by decide +kernel)
set_option maxRecDepth 20000 in
theorem gL_law_X1_invert : GoodIn wsL_law (wsV RL 55 RX1 yX1_invert wsX1_invert) := goodIn_app (goodIn_of _ (by decide +kernel)) ggL_law_X1_invert
set_option maxRecDepth 20000 in
theorem ggL_law_X0_move : GoodIn wsL_law wsX0_move := goodIn_r _ [312, 251, 252, 313, 314, 33, 34, 2, 35, 36, 37, 278, 279, 280, 281, 14, 250, 61, 62, 63, 64, 282, 283, 284, 285, 249, 15, 329, 330, 331, 332, 333, 334, 335, 336, 337, 338] (by decide +kernel) (by decide +kernel)
set_option maxRecDepth 20000 in
theorem gL_law_X0_move : GoodIn wsL_law (wsV RL 56 RX0 yX0_move wsX0_move) := goodIn_app (goodIn_of _ (by decide +kernel)) ggL_law_X0_move
set_option maxRecDepth 20000 in
theorem ggL_law_X1_move : GoodIn wsL_law wsX1_move := goodIn_r _ [318, 116, 133, 319, 320, 263, 264, 5, 265, 107, 290, 291, 292, 293, 22, 134, 135, 136, 137, 128, 138, 139, 140, 339, 340, 341, 342, 343, 344, 345] (by decide +kernel) (by decide +kernel)
set_option maxRecDepth 20000 in
theorem gL_law_X1_move : GoodIn wsL_law (wsV RL 60 RX1 yX1_move wsX1_move) := goodIn_app (goodIn_of _ (by decide +kernel)) ggL_law_X1_move
set_option maxRecDepth 20000 in
theorem ggL_law_X0_moved : GoodIn wsL_law wsX0_moved := goodIn_r _ [324, 313, 314, 329, 330, 331, 332, 333, 334, 335, 336, 337, 338] (by decide +kernel) (by decide +kernel)
set_option maxRecDepth 20000 in
theorem gL_law_X0_moved : GoodIn wsL_law (wsV RL 61 RX0 yX0_moved wsX0_moved) := goodIn_app (goodIn_of _ (by decide +kernel)) ggL_law_X0_moved
set_option maxRecDepth 20000 in
theorem ggL_law_X1_moved : GoodIn wsL_law wsX1_moved := goodIn_r _ [328, 319, 320, 339, 340, 341, 342, 343, 344, 345] (by decide +kernel) (by decide +kernel)
set_option maxRecDepth 20000 in
theorem gL_law_X1_moved : GoodIn wsL_law (wsV RL 64 RX1 yX1_moved wsX1_moved) := goodIn_app (goodIn_of _ (by decide +kernel)) ggL_law_X1_moved
theorem dL_law_0 : decode cL_law 0 = .ok (.new 7, 3) := by decide +kernel
theorem dL_law_3 : decode cL_law 3 = .ok (.dup, 1) := by decide +kernel
theorem dL_law_4 : decode cL_law 4 = .ok (.invokespecial 9, 3) := by decide +kernel
theorem dL_law_7 : decode cL_law 7 = .ok (.astore_n 1, 1) := by decide +kernel
theorem dL_law_8 : decode cL_law 8 = .ok (.new 10, 3) := by decide +kernel
theorem dL_law_11 : decode cL_law 11 = .ok (.dup, 1) := by decide +kernel
theorem dL_law_12 : decode cL_law 12 = .ok (.invokespecial 12, 3) := by decide +kernel
theorem dL_law_15 : decode cL_law 15 = .ok (.astore_n 2, 1) := by decide +kernel
theorem dL_law_16 : decode cL_law 16 = .ok (.iconst 0, 1) := by decide +kernel
theorem dL_law_17 : decode cL_law 17 = .ok (.istore_n 3, 1) := by decide +kernel
theorem dL_law_18 : decode cL_law 18 = .ok (.iload_n 3, 1) := by decide +kernel
theorem dL_law_19 : decode cL_law 19 = .ok (.aload_n 0, 1) := by decide +kernel
theorem dL_law_20 : decode cL_law 20 = .ok (.arraylength, 1) := by decide +kernel
theorem dL_law_21 : decode cL_law 21 = .ok (.bipush 7, 2) := by decide +kernel
theorem dL_law_23 : decode cL_law 23 = .ok (.isub, 1) := by decide +kernel
theorem dL_law_24 : decode cL_law 24 = .ok (.if_icmp .gt 527, 3) := by decide +kernel
theorem dL_law_27 : decode cL_law 27 = .ok (.aload_n 0, 1) := by decide +kernel
theorem dL_law_28 : decode cL_law 28 = .ok (.iload_n 3, 1) := by decide +kernel
theorem dL_law_29 : decode cL_law 29 = .ok (.iaload, 1) := by decide +kernel
theorem dL_law_30 : decode cL_law 30 = .ok (.bipush 15, 2) := by decide +kernel
theorem dL_law_32 : decode cL_law 32 = .ok (.iand, 1) := by decide +kernel
theorem dL_law_33 : decode cL_law 33 = .ok (.tableswitch 512 0 10 #[59, 122, 165, 178, 191, 244, 319, 342, 417, 430, 489], 59) := by decide +kernel
theorem dL_law_92 : decode cL_law 92 = .ok (.aload_n 1, 1) := by decide +kernel
theorem dL_law_93 : decode cL_law 93 = .ok (.aload_n 0, 1) := by decide +kernel
theorem dL_law_94 : decode cL_law 94 = .ok (.iload_n 3, 1) := by decide +kernel
theorem dL_law_95 : decode cL_law 95 = .ok (.iconst 1, 1) := by decide +kernel
theorem dL_law_96 : decode cL_law 96 = .ok (.iadd, 1) := by decide +kernel
theorem dL_law_97 : decode cL_law 97 = .ok (.iaload, 1) := by decide +kernel
theorem dL_law_98 : decode cL_law 98 = .ok (.aload_n 0, 1) := by decide +kernel
theorem dL_law_99 : decode cL_law 99 = .ok (.iload_n 3, 1) := by decide +kernel
theorem dL_law_100 : decode cL_law 100 = .ok (.iconst 2, 1) := by decide +kernel
theorem dL_law_101 : decode cL_law 101 = .ok (.iadd, 1) := by decide +kernel
theorem dL_law_102 : decode cL_law 102 = .ok (.iaload, 1) := by decide +kernel
theorem dL_law_103 : decode cL_law 103 = .ok (.aload_n 0, 1) := by decide +kernel
theorem dL_law_104 : decode cL_law 104 = .ok (.iload_n 3, 1) := by decide +kernel
theorem dL_law_105 : decode cL_law 105 = .ok (.iconst 3, 1) := by decide +kernel
theorem dL_law_106 : decode cL_law 106 = .ok (.iadd, 1) := by decide +kernel
theorem dL_law_107 : decode cL_law 107 = .ok (.iaload, 1) := by decide +kernel
theorem dL_law_108 : decode cL_law 108 = .ok (.aload_n 0, 1) := by decide +kernel
theorem dL_law_109 : decode cL_law 109 = .ok (.iload_n 3, 1) := by decide +kernel
theorem dL_law_110 : decode cL_law 110 = .ok (.iconst 4, 1) := by decide +kernel
theorem dL_law_111 : decode cL_law 111 = .ok (.iadd, 1) := by decide +kernel
theorem dL_law_112 : decode cL_law 112 = .ok (.iaload, 1) := by decide +kernel
theorem dL_law_113 : decode cL_law 113 = .ok (.aload_n 0, 1) := by decide +kernel
theorem dL_law_114 : decode cL_law 114 = .ok (.iload_n 3, 1) := by decide +kernel
theorem dL_law_115 : decode cL_law 115 = .ok (.iconst 5, 1) := by decide +kernel
theorem dL_law_116 : decode cL_law 116 = .ok (.iadd, 1) := by decide +kernel
theorem dL_law_117 : decode cL_law 117 = .ok (.iaload, 1) := by decide +kernel
theorem dL_law_118 : decode cL_law 118 = .ok (.invokevirtual 13, 3) := by decide +kernel
theorem dL_law_121 : decode cL_law 121 = .ok (.aload_n 2, 1) := by decide +kernel
theorem dL_law_122 : decode cL_law 122 = .ok (.aload_n 0, 1) := by decide +kernel
theorem dL_law_123 : decode cL_law 123 = .ok (.iload_n 3, 1) := by decide +kernel
theorem dL_law_124 : decode cL_law 124 = .ok (.iconst 1, 1) := by decide +kernel
theorem dL_law_125 : decode cL_law 125 = .ok (.iadd, 1) := by decide +kernel
theorem dL_law_126 : decode cL_law 126 = .ok (.iaload, 1) := by decide +kernel
theorem dL_law_127 : decode cL_law 127 = .ok (.aload_n 0, 1) := by decide +kernel
theorem dL_law_128 : decode cL_law 128 = .ok (.iload_n 3, 1) := by decide +kernel
theorem dL_law_129 : decode cL_law 129 = .ok (.iconst 2, 1) := by decide +kernel
theorem dL_law_130 : decode cL_law 130 = .ok (.iadd, 1) := by decide +kernel
theorem dL_law_131 : decode cL_law 131 = .ok (.iaload, 1) := by decide +kernel
theorem dL_law_132 : decode cL_law 132 = .ok (.aload_n 0, 1) := by decide +kernel
theorem dL_law_133 : decode cL_law 133 = .ok (.iload_n 3, 1) := by decide +kernel
theorem dL_law_134 : decode cL_law 134 = .ok (.iconst 3, 1) := by decide +kernel
theorem dL_law_135 : decode cL_law 135 = .ok (.iadd, 1) := by decide +kernel
theorem dL_law_136 : decode cL_law 136 = .ok (.iaload, 1) := by decide +kernel
theorem dL_law_137 : decode cL_law 137 = .ok (.aload_n 0, 1) := by decide +kernel
theorem dL_law_138 : decode cL_law 138 = .ok (.iload_n 3, 1) := by decide +kernel
theorem dL_law_139 : decode cL_law 139 = .ok (.iconst 4, 1) := by decide +kernel
theorem dL_law_140 : decode cL_law 140 = .ok (.iadd, 1) := by decide +kernel
theorem dL_law_141 : decode cL_law 141 = .ok (.iaload, 1) := by decide +kernel
theorem dL_law_142 : decode cL_law 142 = .ok (.aload_n 0, 1) := by decide +kernel
theorem dL_law_143 : decode cL_law 143 = .ok (.iload_n 3, 1) := by decide +kernel
theorem dL_law_144 : decode cL_law 144 = .ok (.iconst 5, 1) := by decide +kernel
theorem dL_law_145 : decode cL_law 145 = .ok (.iadd, 1) := by decide +kernel
theorem dL_law_146 : decode cL_law 146 = .ok (.iaload, 1) := by decide +kernel
theorem dL_law_147 : decode cL_law 147 = .ok (.invokevirtual 17, 3) := by decide +kernel
theorem dL_law_150 : decode cL_law 150 = .ok (.if_icmp .eq 395, 3) := by decide +kernel
theorem dL_law_153 : decode cL_law 153 = .ok (.iconst 0, 1) := by decide +kernel
theorem dL_law_154 : decode cL_law 154 = .ok (.ireturn, 1) := by decide +kernel
theorem dL_law_155 : decode cL_law 155 = .ok (.aload_n 1, 1) := by decide +kernel
theorem dL_law_156 : decode cL_law 156 = .ok (.aload_n 0, 1) := by decide +kernel
theorem dL_law_157 : decode cL_law 157 = .ok (.iload_n 3, 1) := by decide +kernel
theorem dL_law_158 : decode cL_law 158 = .ok (.iconst 1, 1) := by decide +kernel
theorem dL_law_159 : decode cL_law 159 = .ok (.iadd, 1) := by decide +kernel
theorem dL_law_160 : decode cL_law 160 = .ok (.iaload, 1) := by decide +kernel
theorem dL_law_161 : decode cL_law 161 = .ok (.aload_n 0, 1) := by decide +kernel
theorem dL_law_162 : decode cL_law 162 = .ok (.iload_n 3, 1) := by decide +kernel
theorem dL_law_163 : decode cL_law 163 = .ok (.iconst 2, 1) := by decide +kernel
theorem dL_law_164 : decode cL_law 164 = .ok (.iadd, 1) := by decide +kernel
theorem dL_law_165 : decode cL_law 165 = .ok (.iaload, 1) := by decide +kernel
theorem dL_law_166 : decode cL_law 166 = .ok (.aload_n 0, 1) := by decide +kernel
theorem dL_law_167 : decode cL_law 167 = .ok (.iload_n 3, 1) := by decide +kernel
theorem dL_law_168 : decode cL_law 168 = .ok (.iconst 3, 1) := by decide +kernel
theorem dL_law_169 : decode cL_law 169 = .ok (.iadd, 1) := by decide +kernel
theorem dL_law_170 : decode cL_law 170 = .ok (.iaload, 1) := by decide +kernel
theorem dL_law_171 : decode cL_law 171 = .ok (.invokevirtual 18, 3) := by decide +kernel
theorem dL_law_174 : decode cL_law 174 = .ok (.aload_n 2, 1) := by decide +kernel
theorem dL_law_175 : decode cL_law 175 = .ok (.aload_n 0, 1) := by decide +kernel
theorem dL_law_176 : decode cL_law 176 = .ok (.iload_n 3, 1) := by decide +kernel
theorem dL_law_177 : decode cL_law 177 = .ok (.iconst 1, 1) := by decide +kernel
theorem dL_law_178 : decode cL_law 178 = .ok (.iadd, 1) := by decide +kernel
theorem dL_law_179 : decode cL_law 179 = .ok (.iaload, 1) := by decide +kernel
theorem dL_law_180 : decode cL_law 180 = .ok (.aload_n 0, 1) := by decide +kernel
theorem dL_law_181 : decode cL_law 181 = .ok (.iload_n 3, 1) := by decide +kernel
theorem dL_law_182 : decode cL_law 182 = .ok (.iconst 2, 1) := by decide +kernel
theorem dL_law_183 : decode cL_law 183 = .ok (.iadd, 1) := by decide +kernel
theorem dL_law_184 : decode cL_law 184 = .ok (.iaload, 1) := by decide +kernel
theorem dL_law_185 : decode cL_law 185 = .ok (.aload_n 0, 1) := by decide +kernel
theorem dL_law_186 : decode cL_law 186 = .ok (.iload_n 3, 1) := by decide +kernel
theorem dL_law_187 : decode cL_law 187 = .ok (.iconst 3, 1) := by decide +kernel
theorem dL_law_188 : decode cL_law 188 = .ok (.iadd, 1) := by decide +kernel
theorem dL_law_189 : decode cL_law 189 = .ok (.iaload, 1) := by decide +kernel
theorem dL_law_190 : decode cL_law 190 = .ok (.invokevirtual 22, 3) := by decide +kernel
theorem dL_law_193 : decode cL_law 193 = .ok (.if_icmp .eq 352, 3) := by decide +kernel
theorem dL_law_196 : decode cL_law 196 = .ok (.iconst 0, 1) := by decide +kernel
theorem dL_law_197 : decode cL_law 197 = .ok (.ireturn, 1) := by decide +kernel
theorem dL_law_198 : decode cL_law 198 = .ok (.aload_n 1, 1) := by decide +kernel
theorem dL_law_199 : decode cL_law 199 = .ok (.invokevirtual 23, 3) := by decide +kernel
theorem dL_law_202 : decode cL_law 202 = .ok (.aload_n 2, 1) := by decide +kernel
theorem dL_law_203 : decode cL_law 203 = .ok (.invokevirtual 27, 3) := by decide +kernel
theorem dL_law_206 : decode cL_law 206 = .ok (.if_icmp .eq 339, 3) := by decide +kernel
theorem dL_law_209 : decode cL_law 209 = .ok (.iconst 0, 1) := by decide +kernel
theorem dL_law_210 : decode cL_law 210 = .ok (.ireturn, 1) := by decide +kernel
theorem dL_law_211 : decode cL_law 211 = .ok (.aload_n 1, 1) := by decide +kernel
theorem dL_law_212 : decode cL_law 212 = .ok (.invokevirtual 28, 3) := by decide +kernel
theorem dL_law_215 : decode cL_law 215 = .ok (.aload_n 2, 1) := by decide +kernel
theorem dL_law_216 : decode cL_law 216 = .ok (.invokevirtual 31, 3) := by decide +kernel
theorem dL_law_219 : decode cL_law 219 = .ok (.if_icmp .eq 326, 3) := by decide +kernel
theorem dL_law_222 : decode cL_law 222 = .ok (.iconst 0, 1) := by decide +kernel
theorem dL_law_223 : decode cL_law 223 = .ok (.ireturn, 1) := by decide +kernel
theorem dL_law_224 : decode cL_law 224 = .ok (.aload_n 1, 1) := by decide +kernel
theorem dL_law_225 : decode cL_law 225 = .ok (.aload_n 0, 1) := by decide +kernel
theorem dL_law_226 : decode cL_law 226 = .ok (.iload_n 3, 1) := by decide +kernel
theorem dL_law_227 : decode cL_law 227 = .ok (.iconst 1, 1) := by decide +kernel
theorem dL_law_228 : decode cL_law 228 = .ok (.iadd, 1) := by decide +kernel
theorem dL_law_229 : decode cL_law 229 = .ok (.iaload, 1) := by decide +kernel
theorem dL_law_230 : decode cL_law 230 = .ok (.aload_n 0, 1) := by decide +kernel
theorem dL_law_231 : decode cL_law 231 = .ok (.iload_n 3, 1) := by decide +kernel
theorem dL_law_232 : decode cL_law 232 = .ok (.iconst 2, 1) := by decide +kernel
theorem dL_law_233 : decode cL_law 233 = .ok (.iadd, 1) := by decide +kernel
theorem dL_law_234 : decode cL_law 234 = .ok (.iaload, 1) := by decide +kernel
theorem dL_law_235 : decode cL_law 235 = .ok (.aload_n 0, 1) := by decide +kernel
theorem dL_law_236 : decode cL_law 236 = .ok (.iload_n 3, 1) := by decide +kernel
theorem dL_law_237 : decode cL_law 237 = .ok (.iconst 3, 1) := by decide +kernel
theorem dL_law_238 : decode cL_law 238 = .ok (.iadd, 1) := by decide +kernel
theorem dL_law_239 : decode cL_law 239 = .ok (.iaload, 1) := by decide +kernel
theorem dL_law_240 : decode cL_law 240 = .ok (.aload_n 0, 1) := by decide +kernel
theorem dL_law_241 : decode cL_law 241 = .ok (.iload_n 3, 1) := by decide +kernel
theorem dL_law_242 : decode cL_law 242 = .ok (.iconst 4, 1) := by decide +kernel
theorem dL_law_243 : decode cL_law 243 = .ok (.iadd, 1) := by decide +kernel
theorem dL_law_244 : decode cL_law 244 = .ok (.iaload, 1) := by decide +kernel
theorem dL_law_245 : decode cL_law 245 = .ok (.invokevirtual 32, 3) := by decide +kernel
theorem dL_law_248 : decode cL_law 248 = .ok (.aload_n 2, 1) := by decide +kernel
theorem dL_law_249 : decode cL_law 249 = .ok (.aload_n 0, 1) := by decide +kernel
theorem dL_law_250 : decode cL_law 250 = .ok (.iload_n 3, 1) := by decide +kernel
theorem dL_law_251 : decode cL_law 251 = .ok (.iconst 1, 1) := by decide +kernel
theorem dL_law_252 : decode cL_law 252 = .ok (.iadd, 1) := by decide +kernel
theorem dL_law_253 : decode cL_law 253 = .ok (.iaload, 1) := by decide +kernel
theorem dL_law_254 : decode cL_law 254 = .ok (.aload_n 0, 1) := by decide +kernel
theorem dL_law_255 : decode cL_law 255 = .ok (.iload_n 3, 1) := by decide +kernel
theorem dL_law_256 : decode cL_law 256 = .ok (.iconst 2, 1) := by decide +kernel
theorem dL_law_257 : decode cL_law 257 = .ok (.iadd, 1) := by decide +kernel
theorem dL_law_258 : decode cL_law 258 = .ok (.iaload, 1) := by decide +kernel
theorem dL_law_259 : decode cL_law 259 = .ok (.aload_n 0, 1) := by decide +kernel
theorem dL_law_260 : decode cL_law 260 = .ok (.iload_n 3, 1) := by decide +kernel
theorem dL_law_261 : decode cL_law 261 = .ok (.iconst 3, 1) := by decide +kernel
theorem dL_law_262 : decode cL_law 262 = .ok (.iadd, 1) := by decide +kernel
theorem dL_law_263 : decode cL_law 263 = .ok (.iaload, 1) := by decide +kernel
theorem dL_law_264 : decode cL_law 264 = .ok (.aload_n 0, 1) := by decide +kernel
theorem dL_law_265 : decode cL_law 265 = .ok (.iload_n 3, 1) := by decide +kernel
theorem dL_law_266 : decode cL_law 266 = .ok (.iconst 4, 1) := by decide +kernel
theorem dL_law_267 : decode cL_law 267 = .ok (.iadd, 1) := by decide +kernel
theorem dL_law_268 : decode cL_law 268 = .ok (.iaload, 1) := by decide +kernel
theorem dL_law_269 : decode cL_law 269 = .ok (.invokevirtual 36, 3) := by decide +kernel
theorem dL_law_272 : decode cL_law 272 = .ok (.if_icmp .eq 273, 3) := by decide +kernel
theorem dL_law_275 : decode cL_law 275 = .ok (.iconst 0, 1) := by decide +kernel
theorem dL_law_276 : decode cL_law 276 = .ok (.ireturn, 1) := by decide +kernel
theorem dL_law_277 : decode cL_law 277 = .ok (.aload_n 1, 1) := by decide +kernel
theorem dL_law_278 : decode cL_law 278 = .ok (.aload_n 0, 1) := by decide +kernel
theorem dL_law_279 : decode cL_law 279 = .ok (.iload_n 3, 1) := by decide +kernel
theorem dL_law_280 : decode cL_law 280 = .ok (.iconst 1, 1) := by decide +kernel
theorem dL_law_281 : decode cL_law 281 = .ok (.iadd, 1) := by decide +kernel
theorem dL_law_282 : decode cL_law 282 = .ok (.iaload, 1) := by decide +kernel
theorem dL_law_283 : decode cL_law 283 = .ok (.aload_n 0, 1) := by decide +kernel
theorem dL_law_284 : decode cL_law 284 = .ok (.iload_n 3, 1) := by decide +kernel
theorem dL_law_285 : decode cL_law 285 = .ok (.iconst 2, 1) := by decide +kernel
theorem dL_law_286 : decode cL_law 286 = .ok (.iadd, 1) := by decide +kernel
theorem dL_law_287 : decode cL_law 287 = .ok (.iaload, 1) := by decide +kernel
theorem dL_law_288 : decode cL_law 288 = .ok (.aload_n 0, 1) := by decide +kernel
theorem dL_law_289 : decode cL_law 289 = .ok (.iload_n 3, 1) := by decide +kernel
theorem dL_law_290 : decode cL_law 290 = .ok (.iconst 3, 1) := by decide +kernel
theorem dL_law_291 : decode cL_law 291 = .ok (.iadd, 1) := by decide +kernel
theorem dL_law_292 : decode cL_law 292 = .ok (.iaload, 1) := by decide +kernel
theorem dL_law_293 : decode cL_law 293 = .ok (.aload_n 0, 1) := by decide +kernel
theorem dL_law_294 : decode cL_law 294 = .ok (.iload_n 3, 1) := by decide +kernel
theorem dL_law_295 : decode cL_law 295 = .ok (.iconst 4, 1) := by decide +kernel
theorem dL_law_296 : decode cL_law 296 = .ok (.iadd, 1) := by decide +kernel
theorem dL_law_297 : decode cL_law 297 = .ok (.iaload, 1) := by decide +kernel
theorem dL_law_298 : decode cL_law 298 = .ok (.aload_n 0, 1) := by decide +kernel
theorem dL_law_299 : decode cL_law 299 = .ok (.iload_n 3, 1) := by decide +kernel
theorem dL_law_300 : decode cL_law 300 = .ok (.iconst 5, 1) := by decide +kernel
theorem dL_law_301 : decode cL_law 301 = .ok (.iadd, 1) := by decide +kernel
theorem dL_law_302 : decode cL_law 302 = .ok (.iaload, 1) := by decide +kernel
theorem dL_law_303 : decode cL_law 303 = .ok (.aload_n 0, 1) := by decide +kernel
theorem dL_law_304 : decode cL_law 304 = .ok (.iload_n 3, 1) := by decide +kernel
theorem dL_law_305 : decode cL_law 305 = .ok (.bipush 6, 2) := by decide +kernel
theorem dL_law_307 : decode cL_law 307 = .ok (.iadd, 1) := by decide +kernel
theorem dL_law_308 : decode cL_law 308 = .ok (.iaload, 1) := by decide +kernel
theorem dL_law_309 : decode cL_law 309 = .ok (.invokevirtual 37, 3) := by decide +kernel
theorem dL_law_312 : decode cL_law 312 = .ok (.aload_n 2, 1) := by decide +kernel
theorem dL_law_313 : decode cL_law 313 = .ok (.aload_n 0, 1) := by decide +kernel
theorem dL_law_314 : decode cL_law 314 = .ok (.iload_n 3, 1) := by decide +kernel
theorem dL_law_315 : decode cL_law 315 = .ok (.iconst 1, 1) := by decide +kernel
theorem dL_law_316 : decode cL_law 316 = .ok (.iadd, 1) := by decide +kernel
theorem dL_law_317 : decode cL_law 317 = .ok (.iaload, 1) := by decide +kernel
theorem dL_law_318 : decode cL_law 318 = .ok (.aload_n 0, 1) := by decide +kernel
theorem dL_law_319 : decode cL_law 319 = .ok (.iload_n 3, 1) := by decide +kernel
theorem dL_law_320 : decode cL_law 320 = .ok (.iconst 2, 1) := by decide +kernel
theorem dL_law_321 : decode cL_law 321 = .ok (.iadd, 1) := by decide +kernel
theorem dL_law_322 : decode cL_law 322 = .ok (.iaload, 1) := by decide +kernel
theorem dL_law_323 : decode cL_law 323 = .ok (.aload_n 0, 1) := by decide +kernel
theorem dL_law_324 : decode cL_law 324 = .ok (.iload_n 3, 1) := by decide +kernel
theorem dL_law_325 : decode cL_law 325 = .ok (.iconst 3, 1) := by decide +kernel
theorem dL_law_326 : decode cL_law 326 = .ok (.iadd, 1) := by decide +kernel
theorem dL_law_327 : decode cL_law 327 = .ok (.iaload, 1) := by decide +kernel
theorem dL_law_328 : decode cL_law 328 = .ok (.aload_n 0, 1) := by decide +kernel
theorem dL_law_329 : decode cL_law 329 = .ok (.iload_n 3, 1) := by decide +kernel
theorem dL_law_330 : decode cL_law 330 = .ok (.iconst 4, 1) := by decide +kernel
theorem dL_law_331 : decode cL_law 331 = .ok (.iadd, 1) := by decide +kernel
theorem dL_law_332 : decode cL_law 332 = .ok (.iaload, 1) := by decide +kernel
theorem dL_law_333 : decode cL_law 333 = .ok (.aload_n 0, 1) := by decide +kernel
theorem dL_law_334 : decode cL_law 334 = .ok (.iload_n 3, 1) := by decide +kernel
theorem dL_law_335 : decode cL_law 335 = .ok (.iconst 5, 1) := by decide +kernel
theorem dL_law_336 : decode cL_law 336 = .ok (.iadd, 1) := by decide +kernel
theorem dL_law_337 : decode cL_law 337 = .ok (.iaload, 1) := by decide +kernel
theorem dL_law_338 : decode cL_law 338 = .ok (.aload_n 0, 1) := by decide +kernel
theorem dL_law_339 : decode cL_law 339 = .ok (.iload_n 3, 1) := by decide +kernel
theorem dL_law_340 : decode cL_law 340 = .ok (.bipush 6, 2) := by decide +kernel
theorem dL_law_342 : decode cL_law 342 = .ok (.iadd, 1) := by decide +kernel
theorem dL_law_343 : decode cL_law 343 = .ok (.iaload, 1) := by decide +kernel
theorem dL_law_344 : decode cL_law 344 = .ok (.invokevirtual 41, 3) := by decide +kernel
theorem dL_law_347 : decode cL_law 347 = .ok (.if_icmp .eq 198, 3) := by decide +kernel
theorem dL_law_350 : decode cL_law 350 = .ok (.iconst 0, 1) := by decide +kernel
theorem dL_law_351 : decode cL_law 351 = .ok (.ireturn, 1) := by decide +kernel
theorem dL_law_352 : decode cL_law 352 = .ok (.aload_n 1, 1) := by decide +kernel
theorem dL_law_353 : decode cL_law 353 = .ok (.aload_n 0, 1) := by decide +kernel
theorem dL_law_354 : decode cL_law 354 = .ok (.iload_n 3, 1) := by decide +kernel
theorem dL_law_355 : decode cL_law 355 = .ok (.iconst 1, 1) := by decide +kernel
theorem dL_law_356 : decode cL_law 356 = .ok (.iadd, 1) := by decide +kernel
theorem dL_law_357 : decode cL_law 357 = .ok (.iaload, 1) := by decide +kernel
theorem dL_law_358 : decode cL_law 358 = .ok (.invokevirtual 42, 3) := by decide +kernel
theorem dL_law_361 : decode cL_law 361 = .ok (.aload_n 2, 1) := by decide +kernel
theorem dL_law_362 : decode cL_law 362 = .ok (.aload_n 0, 1) := by decide +kernel
theorem dL_law_363 : decode cL_law 363 = .ok (.iload_n 3, 1) := by decide +kernel
theorem dL_law_364 : decode cL_law 364 = .ok (.iconst 1, 1) := by decide +kernel
theorem dL_law_365 : decode cL_law 365 = .ok (.iadd, 1) := by decide +kernel
theorem dL_law_366 : decode cL_law 366 = .ok (.iaload, 1) := by decide +kernel
theorem dL_law_367 : decode cL_law 367 = .ok (.invokevirtual 46, 3) := by decide +kernel
theorem dL_law_370 : decode cL_law 370 = .ok (.if_icmp .eq 175, 3) := by decide +kernel
theorem dL_law_373 : decode cL_law 373 = .ok (.iconst 0, 1) := by decide +kernel
theorem dL_law_374 : decode cL_law 374 = .ok (.ireturn, 1) := by decide +kernel
theorem dL_law_375 : decode cL_law 375 = .ok (.aload_n 1, 1) := by decide +kernel
theorem dL_law_376 : decode cL_law 376 = .ok (.aload_n 0, 1) := by decide +kernel
theorem dL_law_377 : decode cL_law 377 = .ok (.iload_n 3, 1) := by decide +kernel
theorem dL_law_378 : decode cL_law 378 = .ok (.iconst 1, 1) := by decide +kernel
theorem dL_law_379 : decode cL_law 379 = .ok (.iadd, 1) := by decide +kernel
theorem dL_law_380 : decode cL_law 380 = .ok (.iaload, 1) := by decide +kernel
theorem dL_law_381 : decode cL_law 381 = .ok (.aload_n 0, 1) := by decide +kernel
theorem dL_law_382 : decode cL_law 382 = .ok (.iload_n 3, 1) := by decide +kernel
theorem dL_law_383 : decode cL_law 383 = .ok (.iconst 2, 1) := by decide +kernel
theorem dL_law_384 : decode cL_law 384 = .ok (.iadd, 1) := by decide +kernel
theorem dL_law_385 : decode cL_law 385 = .ok (.iaload, 1) := by decide +kernel
theorem dL_law_386 : decode cL_law 386 = .ok (.aload_n 0, 1) := by decide +kernel
theorem dL_law_387 : decode cL_law 387 = .ok (.iload_n 3, 1) := by decide +kernel
theorem dL_law_388 : decode cL_law 388 = .ok (.iconst 3, 1) := by decide +kernel
theorem dL_law_389 : decode cL_law 389 = .ok (.iadd, 1) := by decide +kernel
theorem dL_law_390 : decode cL_law 390 = .ok (.iaload, 1) := by decide +kernel
theorem dL_law_391 : decode cL_law 391 = .ok (.aload_n 0, 1) := by decide +kernel
theorem dL_law_392 : decode cL_law 392 = .ok (.iload_n 3, 1) := by decide +kernel
theorem dL_law_393 : decode cL_law 393 = .ok (.iconst 4, 1) := by decide +kernel
theorem dL_law_394 : decode cL_law 394 = .ok (.iadd, 1) := by decide +kernel
theorem dL_law_395 : decode cL_law 395 = .ok (.iaload, 1) := by decide +kernel
theorem dL_law_396 : decode cL_law 396 = .ok (.aload_n 0, 1) := by decide +kernel
theorem dL_law_397 : decode cL_law 397 = .ok (.iload_n 3, 1) := by decide +kernel
theorem dL_law_398 : decode cL_law 398 = .ok (.iconst 5, 1) := by decide +kernel
theorem dL_law_399 : decode cL_law 399 = .ok (.iadd, 1) := by decide +kernel
theorem dL_law_400 : decode cL_law 400 = .ok (.iaload, 1) := by decide +kernel
theorem dL_law_401 : decode cL_law 401 = .ok (.aload_n 0, 1) := by decide +kernel
theorem dL_law_402 : decode cL_law 402 = .ok (.iload_n 3, 1) := by decide +kernel
theorem dL_law_403 : decode cL_law 403 = .ok (.bipush 6, 2) := by decide +kernel
theorem dL_law_405 : decode cL_law 405 = .ok (.iadd, 1) := by decide +kernel
theorem dL_law_406 : decode cL_law 406 = .ok (.iaload, 1) := by decide +kernel
theorem dL_law_407 : decode cL_law 407 = .ok (.invokevirtual 47, 3) := by decide +kernel
theorem dL_law_410 : decode cL_law 410 = .ok (.aload_n 2, 1) := by decide +kernel
theorem dL_law_411 : decode cL_law 411 = .ok (.aload_n 0, 1) := by decide +kernel
theorem dL_law_412 : decode cL_law 412 = .ok (.iload_n 3, 1) := by decide +kernel
theorem dL_law_413 : decode cL_law 413 = .ok (.iconst 1, 1) := by decide +kernel
theorem dL_law_414 : decode cL_law 414 = .ok (.iadd, 1) := by decide +kernel
theorem dL_law_415 : decode cL_law 415 = .ok (.iaload, 1) := by decide +kernel
theorem dL_law_416 : decode cL_law 416 = .ok (.aload_n 0, 1) := by decide +kernel
theorem dL_law_417 : decode cL_law 417 = .ok (.iload_n 3, 1) := by decide +kernel
theorem dL_law_418 : decode cL_law 418 = .ok (.iconst 2, 1) := by decide +kernel
theorem dL_law_419 : decode cL_law 419 = .ok (.iadd, 1) := by decide +kernel
theorem dL_law_420 : decode cL_law 420 = .ok (.iaload, 1) := by decide +kernel
theorem dL_law_421 : decode cL_law 421 = .ok (.aload_n 0, 1) := by decide +kernel
theorem dL_law_422 : decode cL_law 422 = .ok (.iload_n 3, 1) := by decide +kernel
theorem dL_law_423 : decode cL_law 423 = .ok (.iconst 3, 1) := by decide +kernel
theorem dL_law_424 : decode cL_law 424 = .ok (.iadd, 1) := by decide +kernel
theorem dL_law_425 : decode cL_law 425 = .ok (.iaload, 1) := by decide +kernel
theorem dL_law_426 : decode cL_law 426 = .ok (.aload_n 0, 1) := by decide +kernel
theorem dL_law_427 : decode cL_law 427 = .ok (.iload_n 3, 1) := by decide +kernel
theorem dL_law_428 : decode cL_law 428 = .ok (.iconst 4, 1) := by decide +kernel
theorem dL_law_429 : decode cL_law 429 = .ok (.iadd, 1) := by decide +kernel
theorem dL_law_430 : decode cL_law 430 = .ok (.iaload, 1) := by decide +kernel
theorem dL_law_431 : decode cL_law 431 = .ok (.aload_n 0, 1) := by decide +kernel
theorem dL_law_432 : decode cL_law 432 = .ok (.iload_n 3, 1) := by decide +kernel
theorem dL_law_433 : decode cL_law 433 = .ok (.iconst 5, 1) := by decide +kernel
theorem dL_law_434 : decode cL_law 434 = .ok (.iadd, 1) := by decide +kernel
theorem dL_law_435 : decode cL_law 435 = .ok (.iaload, 1) := by decide +kernel
theorem dL_law_436 : decode cL_law 436 = .ok (.aload_n 0, 1) := by decide +kernel
theorem dL_law_437 : decode cL_law 437 = .ok (.iload_n 3, 1) := by decide +kernel
theorem dL_law_438 : decode cL_law 438 = .ok (.bipush 6, 2) := by decide +kernel
theorem dL_law_440 : decode cL_law 440 = .ok (.iadd, 1) := by decide +kernel
theorem dL_law_441 : decode cL_law 441 = .ok (.iaload, 1) := by decide +kernel
theorem dL_law_442 : decode cL_law 442 = .ok (.invokevirtual 51, 3) := by decide +kernel
theorem dL_law_445 : decode cL_law 445 = .ok (.if_icmp .eq 100, 3) := by decide +kernel
theorem dL_law_448 : decode cL_law 448 = .ok (.iconst 0, 1) := by decide +kernel
theorem dL_law_449 : decode cL_law 449 = .ok (.ireturn, 1) := by decide +kernel
theorem dL_law_450 : decode cL_law 450 = .ok (.aload_n 1, 1) := by decide +kernel
theorem dL_law_451 : decode cL_law 451 = .ok (.invokevirtual 52, 3) := by decide +kernel
theorem dL_law_454 : decode cL_law 454 = .ok (.aload_n 2, 1) := by decide +kernel
theorem dL_law_455 : decode cL_law 455 = .ok (.invokevirtual 55, 3) := by decide +kernel
theorem dL_law_458 : decode cL_law 458 = .ok (.if_icmp .eq 87, 3) := by decide +kernel
theorem dL_law_461 : decode cL_law 461 = .ok (.iconst 0, 1) := by decide +kernel
theorem dL_law_462 : decode cL_law 462 = .ok (.ireturn, 1) := by decide +kernel
theorem dL_law_463 : decode cL_law 463 = .ok (.aload_n 1, 1) := by decide +kernel
theorem dL_law_464 : decode cL_law 464 = .ok (.aload_n 0, 1) := by decide +kernel
theorem dL_law_465 : decode cL_law 465 = .ok (.iload_n 3, 1) := by decide +kernel
theorem dL_law_466 : decode cL_law 466 = .ok (.iconst 1, 1) := by decide +kernel
theorem dL_law_467 : decode cL_law 467 = .ok (.iadd, 1) := by decide +kernel
theorem dL_law_468 : decode cL_law 468 = .ok (.iaload, 1) := by decide +kernel
theorem dL_law_469 : decode cL_law 469 = .ok (.aload_n 0, 1) := by decide +kernel
theorem dL_law_470 : decode cL_law 470 = .ok (.iload_n 3, 1) := by decide +kernel
theorem dL_law_471 : decode cL_law 471 = .ok (.iconst 2, 1) := by decide +kernel
theorem dL_law_472 : decode cL_law 472 = .ok (.iadd, 1) := by decide +kernel
theorem dL_law_473 : decode cL_law 473 = .ok (.iaload, 1) := by decide +kernel
theorem dL_law_474 : decode cL_law 474 = .ok (.aload_n 0, 1) := by decide +kernel
theorem dL_law_475 : decode cL_law 475 = .ok (.iload_n 3, 1) := by decide +kernel
theorem dL_law_476 : decode cL_law 476 = .ok (.iconst 3, 1) := by decide +kernel
theorem dL_law_477 : decode cL_law 477 = .ok (.iadd, 1) := by decide +kernel
theorem dL_law_478 : decode cL_law 478 = .ok (.iaload, 1) := by decide +kernel
theorem dL_law_479 : decode cL_law 479 = .ok (.ifCond .eq 7, 3) := by decide +kernel
theorem dL_law_482 : decode cL_law 482 = .ok (.iconst 1, 1) := by decide +kernel
theorem dL_law_483 : decode cL_law 483 = .ok (.goto 4, 3) := by decide +kernel
theorem dL_law_486 : decode cL_law 486 = .ok (.iconst 0, 1) := by decide +kernel
theorem dL_law_487 : decode cL_law 487 = .ok (.invokevirtual 56, 3) := by decide +kernel
theorem dL_law_490 : decode cL_law 490 = .ok (.aload_n 2, 1) := by decide +kernel
theorem dL_law_491 : decode cL_law 491 = .ok (.aload_n 0, 1) := by decide +kernel
theorem dL_law_492 : decode cL_law 492 = .ok (.iload_n 3, 1) := by decide +kernel
theorem dL_law_493 : decode cL_law 493 = .ok (.iconst 1, 1) := by decide +kernel
theorem dL_law_494 : decode cL_law 494 = .ok (.iadd, 1) := by decide +kernel
theorem dL_law_495 : decode cL_law 495 = .ok (.iaload, 1) := by decide +kernel
theorem dL_law_496 : decode cL_law 496 = .ok (.aload_n 0, 1) := by decide +kernel
theorem dL_law_497 : decode cL_law 497 = .ok (.iload_n 3, 1) := by decide +kernel
theorem dL_law_498 : decode cL_law 498 = .ok (.iconst 2, 1) := by decide +kernel
theorem dL_law_499 : decode cL_law 499 = .ok (.iadd, 1) := by decide +kernel
theorem dL_law_500 : decode cL_law 500 = .ok (.iaload, 1) := by decide +kernel
theorem dL_law_501 : decode cL_law 501 = .ok (.aload_n 0, 1) := by decide +kernel
theorem dL_law_502 : decode cL_law 502 = .ok (.iload_n 3, 1) := by decide +kernel
theorem dL_law_503 : decode cL_law 503 = .ok (.iconst 3, 1) := by decide +kernel
theorem dL_law_504 : decode cL_law 504 = .ok (.iadd, 1) := by decide +kernel
theorem dL_law_505 : decode cL_law 505 = .ok (.iaload, 1) := by decide +kernel
theorem dL_law_506 : decode cL_law 506 = .ok (.ifCond .eq 7, 3) := by decide +kernel
theorem dL_law_509 : decode cL_law 509 = .ok (.iconst 1, 1) := by decide +kernel
theorem dL_law_510 : decode cL_law 510 = .ok (.goto 4, 3) := by decide +kernel
theorem dL_law_513 : decode cL_law 513 = .ok (.iconst 0, 1) := by decide +kernel
theorem dL_law_514 : decode cL_law 514 = .ok (.invokevirtual 60, 3) := by decide +kernel
theorem dL_law_517 : decode cL_law 517 = .ok (.if_icmp .eq 28, 3) := by decide +kernel
theorem dL_law_520 : decode cL_law 520 = .ok (.iconst 0, 1) := by decide +kernel
theorem dL_law_521 : decode cL_law 521 = .ok (.ireturn, 1) := by decide +kernel
theorem dL_law_522 : decode cL_law 522 = .ok (.aload_n 1, 1) := by decide +kernel
theorem dL_law_523 : decode cL_law 523 = .ok (.aload_n 0, 1) := by decide +kernel
theorem dL_law_524 : decode cL_law 524 = .ok (.iload_n 3, 1) := by decide +kernel
theorem dL_law_525 : decode cL_law 525 = .ok (.iconst 1, 1) := by decide +kernel
theorem dL_law_526 : decode cL_law 526 = .ok (.iadd, 1) := by decide +kernel
theorem dL_law_527 : decode cL_law 527 = .ok (.iaload, 1) := by decide +kernel
theorem dL_law_528 : decode cL_law 528 = .ok (.invokevirtual 61, 3) := by decide +kernel
theorem dL_law_531 : decode cL_law 531 = .ok (.aload_n 2, 1) := by decide +kernel
theorem dL_law_532 : decode cL_law 532 = .ok (.aload_n 0, 1) := by decide +kernel
theorem dL_law_533 : decode cL_law 533 = .ok (.iload_n 3, 1) := by decide +kernel
theorem dL_law_534 : decode cL_law 534 = .ok (.iconst 1, 1) := by decide +kernel
theorem dL_law_535 : decode cL_law 535 = .ok (.iadd, 1) := by decide +kernel
theorem dL_law_536 : decode cL_law 536 = .ok (.iaload, 1) := by decide +kernel
theorem dL_law_537 : decode cL_law 537 = .ok (.invokevirtual 64, 3) := by decide +kernel
theorem dL_law_540 : decode cL_law 540 = .ok (.if_icmp .eq 5, 3) := by decide +kernel
theorem dL_law_543 : decode cL_law 543 = .ok (.iconst 0, 1) := by decide +kernel
theorem dL_law_544 : decode cL_law 544 = .ok (.ireturn, 1) := by decide +kernel
theorem dL_law_545 : decode cL_law 545 = .ok (.iinc 3 7, 3) := by decide +kernel
theorem dL_law_548 : decode cL_law 548 = .ok (.goto (-530), 3) := by decide +kernel
theorem dL_law_551 : decode cL_law 551 = .ok (.iconst 1, 1) := by decide +kernel
theorem dL_law_552 : decode cL_law 552 = .ok (.ireturn, 1) := by decide +kernel
abbrev vwCl : List vw_C := [(RX0, TX0, 10), (RX1, TX1, 7)]
end
section
/-! Rules of this claim: branches in one form (below, same), pure calls, calls on the class's own world, the table of sines. -/
def sin_l : List Int32 := [0, 1144, 2287, 3430, 4572, 5712, 6850, 7987, 9121, 10252, 11380, 12505, 13626, 14742, 15855, 16962, 18064, 19161, 20252, 21336, 22415, 23486, 24550, 25607, 26656, 27697, 28729, 29753, 30767, 31772, 32768, 33754, 34729, 35693, 36647, 37590, 38521, 39441, 40348, 41243, 42126, 42995, 43852, 44695, 45525, 46341, 47143, 47930, 48703, 49461, 50203, 50931, 51643, 52339, 53020, 53684, 54332, 54963, 55578, 56175, 56756, 57319, 57865, 58393, 58903, 59396, 59870, 60326, 60764, 61183, 61584, 61966, 62328, 62672, 62997, 63303, 63589, 63856, 64104, 64332, 64540, 64729, 64898, 65048, 65177, 65287, 65376, 65446, 65496, 65526, 65536]
def sinV (j : Nat) : Int32 := sin_l.getD j 0
section PU1
variable {p : Program} {l : Launch} {e : Env} {R : Room} {s : State} {m : MethodId} {args : Array Value} {below : List Frame} {meth : Method} {c : Code} {H : Heap} {locs : List Loc} {cells slots : Nat} {Q : State → Prop}
variable {cc : ByteArray} {pc : Nat} {ls : Array Slot} {rest : List Value}
theorem pi_ge (hexec : p.tables.exec = Jvm.exec) (hb : c.code = cc) {x y : Int32} {off : Int} {tgt : Nat} (hdg : decode cc pc = .ok (.if_icmp .ge off, 3)) (ht : (pc : Int) + off = (tgt : Int))
    (kt : ¬ x < y → W p l e R s m args below meth c H locs cells slots Q (F0 m tgt ls rest)) (kf : x < y → W p l e R s m args below meth c H locs cells slots Q (F0 m (pc + 3) ls rest)) : W p l e R s m args below meth c H locs cells slots Q (F0 m pc ls (.int y :: .int x :: rest)) :=
  lv_icmp_ge hexec hb hdg ht (fun h => kt (Int32.not_lt.mpr h)) (fun h => kf (Int32.not_le.mp h))
theorem pi_gt (hexec : p.tables.exec = Jvm.exec) (hb : c.code = cc) {x y : Int32} {off : Int} {tgt : Nat} (hdg : decode cc pc = .ok (.if_icmp .gt off, 3)) (ht : (pc : Int) + off = (tgt : Int))
    (kt : y < x → W p l e R s m args below meth c H locs cells slots Q (F0 m tgt ls rest)) (kf : ¬ y < x → W p l e R s m args below meth c H locs cells slots Q (F0 m (pc + 3) ls rest)) : W p l e R s m args below meth c H locs cells slots Q (F0 m pc ls (.int y :: .int x :: rest)) :=
  lv_icmp_gt hexec hb hdg ht (fun h => kt h) (fun h => kf h)
theorem pi_le (hexec : p.tables.exec = Jvm.exec) (hb : c.code = cc) {x y : Int32} {off : Int} {tgt : Nat} (hdg : decode cc pc = .ok (.if_icmp .le off, 3)) (ht : (pc : Int) + off = (tgt : Int))
    (kt : ¬ y < x → W p l e R s m args below meth c H locs cells slots Q (F0 m tgt ls rest)) (kf : y < x → W p l e R s m args below meth c H locs cells slots Q (F0 m (pc + 3) ls rest)) : W p l e R s m args below meth c H locs cells slots Q (F0 m pc ls (.int y :: .int x :: rest)) :=
  lv_icmp_le hexec hb hdg ht (fun h => kt (Int32.not_lt.mpr h)) (fun h => kf (Int32.not_le.mp h))
theorem pz_ge (hexec : p.tables.exec = Jvm.exec) (hb : c.code = cc) {x : Int32} {off : Int} {tgt : Nat} (hdg : decode cc pc = .ok (.ifCond .ge off, 3)) (ht : (pc : Int) + off = (tgt : Int))
    (kt : ¬ x < 0 → W p l e R s m args below meth c H locs cells slots Q (F0 m tgt ls rest)) (kf : x < 0 → W p l e R s m args below meth c H locs cells slots Q (F0 m (pc + 3) ls rest)) : W p l e R s m args below meth c H locs cells slots Q (F0 m pc ls (.int x :: rest)) :=
  lv_if_ge hexec hb hdg ht (fun h => kt (Int32.not_lt.mpr h)) (fun h => kf (Int32.not_le.mp h))
theorem pz_gt (hexec : p.tables.exec = Jvm.exec) (hb : c.code = cc) {x : Int32} {off : Int} {tgt : Nat} (hdg : decode cc pc = .ok (.ifCond .gt off, 3)) (ht : (pc : Int) + off = (tgt : Int))
    (kt : 0 < x → W p l e R s m args below meth c H locs cells slots Q (F0 m tgt ls rest)) (kf : ¬ 0 < x → W p l e R s m args below meth c H locs cells slots Q (F0 m (pc + 3) ls rest)) : W p l e R s m args below meth c H locs cells slots Q (F0 m pc ls (.int x :: rest)) :=
  lv_if_gt hexec hb hdg ht (fun h => kt h) (fun h => kf h)
theorem pz_le (hexec : p.tables.exec = Jvm.exec) (hb : c.code = cc) {x : Int32} {off : Int} {tgt : Nat} (hdg : decode cc pc = .ok (.ifCond .le off, 3)) (ht : (pc : Int) + off = (tgt : Int))
    (kt : ¬ 0 < x → W p l e R s m args below meth c H locs cells slots Q (F0 m tgt ls rest)) (kf : 0 < x → W p l e R s m args below meth c H locs cells slots Q (F0 m (pc + 3) ls rest)) : W p l e R s m args below meth c H locs cells slots Q (F0 m pc ls (.int x :: rest)) :=
  lv_if_le hexec hb hdg ht (fun h => kt (Int32.not_lt.mpr h)) (fun h => kf (Int32.not_le.mp h))
theorem pl_eq (hexec : p.tables.exec = Jvm.exec) (hb : c.code = cc) {x y : Int64} {off : Int} {tgt : Nat} (hd1 : decode cc pc = .ok (.lcmp, 1)) (hdg : decode cc (pc + 1) = .ok (.ifCond .eq off, 3)) (ht : ((pc + 1 : Nat) : Int) + off = (tgt : Int))
    (kt : x = y → W p l e R s m args below meth c H locs cells slots Q (F0 m tgt ls rest)) (kf : ¬ x = y → W p l e R s m args below meth c H locs cells slots Q (F0 m (pc + 4) ls rest)) : W p l e R s m args below meth c H locs cells slots Q (F0 m pc ls (.long y :: .long x :: rest)) :=
  W.lcmp hexec hb hd1 (lv_if_eq hexec hb hdg ht (fun h => kt ((lg_cmp_eq x y).mp h)) (fun h => kf (fun q => h ((lg_cmp_eq x y).mpr q))))
theorem pl_ne (hexec : p.tables.exec = Jvm.exec) (hb : c.code = cc) {x y : Int64} {off : Int} {tgt : Nat} (hd1 : decode cc pc = .ok (.lcmp, 1)) (hdg : decode cc (pc + 1) = .ok (.ifCond .ne off, 3)) (ht : ((pc + 1 : Nat) : Int) + off = (tgt : Int))
    (kt : ¬ x = y → W p l e R s m args below meth c H locs cells slots Q (F0 m tgt ls rest)) (kf : x = y → W p l e R s m args below meth c H locs cells slots Q (F0 m (pc + 4) ls rest)) : W p l e R s m args below meth c H locs cells slots Q (F0 m pc ls (.long y :: .long x :: rest)) :=
  W.lcmp hexec hb hd1 (lv_if_ne hexec hb hdg ht (fun h => kt (fun q => h ((lg_cmp_eq x y).mpr q))) (fun h => kf ((lg_cmp_eq x y).mp h)))
theorem pl_lt (hexec : p.tables.exec = Jvm.exec) (hb : c.code = cc) {x y : Int64} {off : Int} {tgt : Nat} (hd1 : decode cc pc = .ok (.lcmp, 1)) (hdg : decode cc (pc + 1) = .ok (.ifCond .lt off, 3)) (ht : ((pc + 1 : Nat) : Int) + off = (tgt : Int))
    (kt : x < y → W p l e R s m args below meth c H locs cells slots Q (F0 m tgt ls rest)) (kf : ¬ x < y → W p l e R s m args below meth c H locs cells slots Q (F0 m (pc + 4) ls rest)) : W p l e R s m args below meth c H locs cells slots Q (F0 m pc ls (.long y :: .long x :: rest)) :=
  W.lcmp hexec hb hd1 (lv_if_lt hexec hb hdg ht (fun h => kt ((lg_cmp_lt x y).mp h)) (fun h => kf (fun q => h ((lg_cmp_lt x y).mpr q))))
theorem pl_ge (hexec : p.tables.exec = Jvm.exec) (hb : c.code = cc) {x y : Int64} {off : Int} {tgt : Nat} (hd1 : decode cc pc = .ok (.lcmp, 1)) (hdg : decode cc (pc + 1) = .ok (.ifCond .ge off, 3)) (ht : ((pc + 1 : Nat) : Int) + off = (tgt : Int))
    (kt : ¬ x < y → W p l e R s m args below meth c H locs cells slots Q (F0 m tgt ls rest)) (kf : x < y → W p l e R s m args below meth c H locs cells slots Q (F0 m (pc + 4) ls rest)) : W p l e R s m args below meth c H locs cells slots Q (F0 m pc ls (.long y :: .long x :: rest)) :=
  W.lcmp hexec hb hd1 (pz_ge hexec hb hdg ht (fun h => kt (fun q => h ((lg_cmp_lt x y).mpr q))) (fun h => kf ((lg_cmp_lt x y).mp h)))
theorem pl_gt (hexec : p.tables.exec = Jvm.exec) (hb : c.code = cc) {x y : Int64} {off : Int} {tgt : Nat} (hd1 : decode cc pc = .ok (.lcmp, 1)) (hdg : decode cc (pc + 1) = .ok (.ifCond .gt off, 3)) (ht : ((pc + 1 : Nat) : Int) + off = (tgt : Int))
    (kt : y < x → W p l e R s m args below meth c H locs cells slots Q (F0 m tgt ls rest)) (kf : ¬ y < x → W p l e R s m args below meth c H locs cells slots Q (F0 m (pc + 4) ls rest)) : W p l e R s m args below meth c H locs cells slots Q (F0 m pc ls (.long y :: .long x :: rest)) :=
  W.lcmp hexec hb hd1 (pz_gt hexec hb hdg ht (fun h => kt ((lg_cmp_gt x y).mp h)) (fun h => kf (fun q => h ((lg_cmp_gt x y).mpr q))))
theorem pl_le (hexec : p.tables.exec = Jvm.exec) (hb : c.code = cc) {x y : Int64} {off : Int} {tgt : Nat} (hd1 : decode cc pc = .ok (.lcmp, 1)) (hdg : decode cc (pc + 1) = .ok (.ifCond .le off, 3)) (ht : ((pc + 1 : Nat) : Int) + off = (tgt : Int))
    (kt : ¬ y < x → W p l e R s m args below meth c H locs cells slots Q (F0 m tgt ls rest)) (kf : y < x → W p l e R s m args below meth c H locs cells slots Q (F0 m (pc + 4) ls rest)) : W p l e R s m args below meth c H locs cells slots Q (F0 m pc ls (.long y :: .long x :: rest)) :=
  W.lcmp hexec hb hd1 (pz_le hexec hb hdg ht (fun h => kt (fun q => h ((lg_cmp_gt x y).mpr q))) (fun h => kf ((lg_cmp_gt x y).mp h)))
end PU1
-- a call with up to 24 words of the stack below it
section PU2
variable {p : Program} {l : Launch} {e : Env} {R : Room} {s : State} {m : MethodId} {args : Array Value} {below : List Frame} {meth : Method} {c : Code} {H : Heap} {locs : List Loc} {cells slots : Nat} {Q : State → Prop}
variable {y : MethodName} {bytes cc : ByteArray} {maxL nL mc ms n index : Nat} {ret : Option FieldType} {ws ws' : List Cond} {rm : Room} {Pc : Array Value → State → Prop} {Qc : Array Value → State → Outcome → State → Prop} {free : Addr → Prop} {Ts : List Cond} {own C : String} {b : Addr} {As rest : List Value} {g : JFrame}
theorem pu_runS (S : CallFix p m c cc nL s args Ts own) (hM : Met l y ws rm Pc Qc mc ms free) (n : Nat) (hT : GoodIn Ts (va_wsS own index y ws)) (hw : ws = Cond.code y bytes maxL ret :: ws') (hrc : rm.cells = mc) (hrs : rm.slots = ms)
    (hd : y.cls ≠ "java/lang/invoke/MethodHandle" ∧ y.cls ≠ "java/lang/invoke/VarHandle" ∧ (parseMethodDescriptor y.desc).map (fun d => d.parameters.length) = some n) (hR : rm.frames + 1 ≤ R.frames ∧ 24 + (maxL + 11) + rm.locals ≤ R.locals) (hp : PreS s H Pc As)
    (hg : g.method = m) (hn : As.length = n) (hsize : g.locals.size = nL) (hstack : g.stack = As.reverse ++ rest) (hW : 2 * g.monitorRoom + (rest.map fun v => v.category).sum ≤ 24) (hdg : decode cc g.pc = .ok (.invokestatic index, 3)) (hf : cells + mc ≤ R.cells ∧ slots + ms ≤ R.slots) :
    va_Run p l e R s m args below meth c H locs cells slots mc ms g rest (Qc As.toArray) free := by
  have hts := S.2.2.2.2
  have cw := va_cwS (R := R) (s := s) (args := args) n hts hT hw hrc hrs hd ⟨hR.1, by omega⟩
  have hK : Back l R p e below s args y 3 24 (PreOf R mc ms Pc) (PostOf Qc mc ms free) := by
    obtain ⟨⟨h1, h2, h3, h4, h5, h6, -, hini, -⟩, -⟩ := cw
    exact back_of (bytes := bytes) (maxL := maxL) (ret := ret) hM hp.1 h1 h2 h3 hR.2 h5 h6 (fun a' U hW => word_at hW (Or.inl (by first | rfl | simp [Cond.onTables, Cond.keeps, Cond.steady])) hini)
  obtain ⟨⟨-, -, -, -, -, -, hcode, hini, hy, hlen, hl⟩, hstt⟩ := cw
  obtain ⟨hx, hb, hml, ho, -⟩ := S
  intro T hT2 X
  obtain ⟨v, vm₁, ⟨U', l2, c2, s2⟩, hW₁, X', ⟨g', mk, t, L, e1, e2, hq, h1, hL, h2, h3⟩, st⟩ := callS X hx (bytes := bytes) (maxL := maxL) (ret := ret) ho hl hstt hini hcode hy hK hg (hsize.trans hml.symm) (argsL := As) (rest := rest) (fun sig h => hn.trans (hlen sig h)) hstack hW (by rw [hb]; exact hdg)
    (fun vm₁ hW₁ => ⟨hf.1, hf.2, hp.2 (T.setVm vm₁) hT2 hW₁⟩)
  dsimp only [Pt.U, Pt.locs, Pt.cells, Pt.slots] at X' e1 e2 h1 h2 h3 st
  subst h1; subst h2; subst h3
  exact ⟨v, (T.setVm vm₁).calling g' mk As.toArray, t, U', L, hT2, X', hL, e1, e2, hq, st⟩
theorem pu_runV (S : CallFix p m c cc nL s args Ts own) (hM : Met l y ws rm Pc Qc mc ms free) (n : Nat) (hT : GoodIn Ts (wsV own index C y ws)) (hw : ws = Cond.code y bytes maxL ret :: ws') (hrc : rm.cells = mc) (hrs : rm.slots = ms)
    (hd : y.cls = C ∧ y.cls ≠ "java/lang/invoke/MethodHandle" ∧ y.cls ≠ "java/lang/invoke/VarHandle" ∧ (parseMethodDescriptor y.desc).map (fun d => d.parameters.length) = some n) (hR : rm.frames + 1 ≤ R.frames ∧ 24 + (maxL + 11) + rm.locals ≤ R.locals) (hp : PreV s H C b Pc As)
    (hg : g.method = m) (hn : As.length = n) (hsize : g.locals.size = nL) (hstack : g.stack = As.reverse ++ .ref b :: rest) (hW : 2 * g.monitorRoom + (rest.map fun v => v.category).sum ≤ 24) (hdg : decode cc g.pc = .ok (.invokevirtual index, 3)) (hf : cells + mc ≤ R.cells ∧ slots + ms ≤ R.slots) :
    va_Run p l e R s m args below meth c H locs cells slots mc ms g rest (Qc (Value.ref b :: As).toArray) free := by
  have hts := S.2.2.2.2
  have cw := cwV (R := R) (s := s) (args := args) n hts hT hw hrc hrs hd ⟨hR.1, by omega⟩
  have hK : Back l R p e below s args y 3 24 (PreOf R mc ms Pc) (PostOf Qc mc ms free) := by
    obtain ⟨⟨h1, h2, h3, h4, h5, h6, -, hini, -⟩, -⟩ := cw
    exact back_of (bytes := bytes) (maxL := maxL) (ret := ret) hM hp.1 h1 h2 h3 hR.2 h5 h6 (fun a' U hW => word_at hW (Or.inl (by first | rfl | simp [Cond.onTables, Cond.keeps, Cond.steady])) hini)
  obtain ⟨⟨-, -, -, -, -, -, hcode, -, hy, hlen, hl⟩, hin, hse⟩ := cw
  obtain ⟨hx, hb, hml, ho, -⟩ := S
  obtain ⟨-, ⟨cellB, hcB, hoB, hclB⟩, hPc⟩ := hp
  intro T hT2 X
  obtain ⟨v, vm₁, ⟨U', l2, c2, s2⟩, hW₁, X', ⟨g', mk, t, L, e1, e2, hq, h1, hL, h2, h3⟩, st⟩ := callV X hx (C := C) (bytes := bytes) (maxL := maxL) (ret := ret) ho hl hin hse hcode hy hK (by rw [hT2]; exact hcB) hoB hclB hg (hsize.trans hml.symm) (argsL := As) (rest := rest) (fun sig h => hn.trans (hlen sig h)) hstack hW (by rw [hb]; exact hdg)
    (fun vm₁ hW₁ => ⟨hf.1, hf.2, hPc (T.setVm vm₁) hT2 hW₁⟩)
  dsimp only [Pt.U, Pt.locs, Pt.cells, Pt.slots] at X' e1 e2 h1 h2 h3 st
  subst h1; subst h2; subst h3
  exact ⟨v, (T.setVm vm₁).calling g' mk (Value.ref b :: As).toArray, t, U', L, hT2, X', hL, e1, e2, hq, st⟩
end PU2
/-- what a pure method may ask of the state: a property that no frame and no warming changes -/
def kOk (K : State → Prop) : Prop := ∀ (U : State) (g : JFrame) (mk : MethodId) (a : Array Value), K U → K (U.calling g mk a)
def kN : State → Prop := fun _ => True
theorem kN_ok : kOk kN := fun _ _ _ _ _ => trivial
def tbS (C : String) (A : Nat → Prop) (U : State) (H : Heap) : Prop := ∃ t : Nat, va_Z C "SINES" "[I" (.ref t) A U H ∧ va_T .int t 91 (fun j => .int (sinV j)) A U H
theorem tbS.kept {C : String} {A : Nat → Prop} {U : State} {H H1 : Heap} (h : tbS C A U H) (hq : ∀ a : Nat, a < H.size → ¬ A a → H1[a]? = H[a]?) : tbS C A U H1 := by
  obtain ⟨t, h1, h2⟩ := h
  exact ⟨t, h1.kept hq, h2.kept hq⟩
theorem tbS.moved {C : String} {A : Nat → Prop} {u U : State} {H : Heap} (hvm : u.vm.Alike U.vm) (h : tbS C A u H) : tbS C A U H := by
  obtain ⟨t, h1, h2⟩ := h
  exact ⟨t, h1.moved hvm, h2.moved hvm⟩
theorem tbS.narrow {C : String} {A B : Nat → Prop} {U : State} {H : Heap} (h : tbS C A U H) (hAB : ∀ q, B q → A q) : tbS C B U H := by
  obtain ⟨t, h1, h2⟩ := h
  exact ⟨t, h1.narrow hAB, h2.narrow hAB⟩
def kT (C : String) : State → Prop := fun U => tbS C (fun _ => False) U U.heap
theorem kT_ok (C : String) : kOk (kT C) := fun U g mk a h => tbS.moved (u := U) (U := U.calling g mk a) (Vm.Alike.refl U.vm) h
/-- what a state s knows of its table, at any heap that leaves it alone -/
theorem kT_of {C : String} {A : Nat → Prop} {s : State} {H : Heap} {locs : List Loc} (h : tbS C A s s.heap) (hS : va_S A s.heap H locs) : ∀ U : State, U.heap = H → s.WarmedH U.vm → kT C U := by
  intro U hU hW
  unfold kT
  rw [hU]
  exact ((h.kept (fun a h1 h2 => hS.2.1 a h1 h2)).moved hW.alike).narrow (fun _ q => q.elim)
theorem kT_at {C : String} {s : State} (h : kT C s) : ∀ U : State, U.heap = s.heap → s.WarmedH U.vm → kT C U := by
  intro U hU hW
  unfold kT
  rw [hU]
  exact tbS.moved hW.alike h
theorem kN_at {s : State} {H : Heap} : ∀ U : State, U.heap = H → s.WarmedH U.vm → kN U := fun _ _ _ => trivial
abbrev pQi (H : Heap) (v : Int32) : Array Value → State → Outcome → State → Prop := va_Qi (fun r (_ : Unit) => r = v) (fun _ t => t.heap = H) (fun _ => False)
abbrev pQl (H : Heap) (v : Int64) : Array Value → State → Outcome → State → Prop := va_Ql (fun r (_ : Unit) => r = v) (fun _ t => t.heap = H) (fun _ => False)
abbrev pPc (as : List Value) (H : Heap) (K : State → Prop) : Array Value → State → Prop := va_Pc as (fun U => U.heap = H ∧ K U)
section PU3
variable {p : Program} {l : Launch} {e : Env} {R : Room} {s : State} {m : MethodId} {args : Array Value} {below : List Frame} {meth : Method} {c : Code} {H : Heap} {locs : List Loc} {cells slots : Nat} {Q : State → Prop}
variable {y : MethodName} {bytes cc : ByteArray} {maxL nL index : Nat} {ret : Option FieldType} {ws ws' : List Cond} {rm : Room} {Ts : List Cond} {own : String} {As rest : List Value} {pc : Nat} {ls : Array Slot} {st0 : List Value} {K : State → Prop}
theorem pu_Si (S : CallFix p m c cc nL s args Ts own) {v : Int32} (hM : Met l y ws rm (pPc As H K) (pQi H v) 0 0 (fun _ => False)) (n : Nat) (hT : GoodIn Ts (va_wsS own index y ws)) (hw : ws = Cond.code y bytes maxL ret :: ws') (hrc : rm.cells = 0) (hrs : rm.slots = 0)
    (hd : y.cls ≠ "java/lang/invoke/MethodHandle" ∧ y.cls ≠ "java/lang/invoke/VarHandle" ∧ (parseMethodDescriptor y.desc).map (fun d => d.parameters.length) = some n) (hR : rm.frames + 1 ≤ R.frames ∧ 24 + (maxL + 11) + rm.locals ≤ R.locals) (hkk : kOk K) (hk : ∀ U : State, U.heap = H → s.WarmedH U.vm → K U)
    (hn : As.length = n) (hsize : ls.size = nL) (hstack : st0 = As.reverse ++ rest) (hW : (rest.map fun v => v.category).sum ≤ 24) (hdg : decode cc pc = .ok (.invokestatic index, 3)) (hf : cells ≤ R.cells ∧ slots ≤ R.slots)
    (kk : W p l e R s m args below meth c H locs cells slots Q (F0 m (pc + 3) ls (.int v :: rest))) : W p l e R s m args below meth c H locs cells slots Q (F0 m pc ls st0) := by
  intro T hT2 X
  obtain ⟨v', st₀, t, T', L, h0, X', hL, e1, e2, ⟨⟨r, u, hv, hp, hb⟩, -, -⟩, st⟩ := pu_runS S hM n hT hw hrc hrs hd hR ⟨fun a U g mk q => ⟨q.1, q.2.1, hkk U g mk a q.2.2⟩, fun U hU hW => ⟨rfl, hU, hk U hU hW⟩⟩ (g := F0 m pc ls st0) rfl hn hsize hstack (by show 2 * 0 + _ ≤ 24; omega) hdg hf T hT2 X
  cases hv
  subst hp
  have hL0 : L = [] := List.eq_nil_iff_forall_not_mem.mpr (fun q hq => hL q hq)
  subst hL0
  rw [List.append_nil] at X'
  obtain ⟨t2, a1, b1⟩ := kk T' (e1.trans hb) X'
  exact ⟨t2, st t2 a1, b1⟩
theorem pu_Sl (S : CallFix p m c cc nL s args Ts own) {v : Int64} (hM : Met l y ws rm (pPc As H K) (pQl H v) 0 0 (fun _ => False)) (n : Nat) (hT : GoodIn Ts (va_wsS own index y ws)) (hw : ws = Cond.code y bytes maxL ret :: ws') (hrc : rm.cells = 0) (hrs : rm.slots = 0)
    (hd : y.cls ≠ "java/lang/invoke/MethodHandle" ∧ y.cls ≠ "java/lang/invoke/VarHandle" ∧ (parseMethodDescriptor y.desc).map (fun d => d.parameters.length) = some n) (hR : rm.frames + 1 ≤ R.frames ∧ 24 + (maxL + 11) + rm.locals ≤ R.locals) (hkk : kOk K) (hk : ∀ U : State, U.heap = H → s.WarmedH U.vm → K U)
    (hn : As.length = n) (hsize : ls.size = nL) (hstack : st0 = As.reverse ++ rest) (hW : (rest.map fun v => v.category).sum ≤ 24) (hdg : decode cc pc = .ok (.invokestatic index, 3)) (hf : cells ≤ R.cells ∧ slots ≤ R.slots)
    (kk : W p l e R s m args below meth c H locs cells slots Q (F0 m (pc + 3) ls (.long v :: rest))) : W p l e R s m args below meth c H locs cells slots Q (F0 m pc ls st0) := by
  intro T hT2 X
  obtain ⟨v', st₀, t, T', L, h0, X', hL, e1, e2, ⟨⟨r, u, hv, hp, hb⟩, -, -⟩, st⟩ := pu_runS S hM n hT hw hrc hrs hd hR ⟨fun a U g mk q => ⟨q.1, q.2.1, hkk U g mk a q.2.2⟩, fun U hU hW => ⟨rfl, hU, hk U hU hW⟩⟩ (g := F0 m pc ls st0) rfl hn hsize hstack (by show 2 * 0 + _ ≤ 24; omega) hdg hf T hT2 X
  cases hv
  subst hp
  have hL0 : L = [] := List.eq_nil_iff_forall_not_mem.mpr (fun q hq => hL q hq)
  subst hL0
  rw [List.append_nil] at X'
  obtain ⟨t2, a1, b1⟩ := kk T' (e1.trans hb) X'
  exact ⟨t2, st t2 a1, b1⟩
end PU3
/-- the head of a pure static method -/
theorem pu_head {l : Launch} {y : MethodName} {ws ws' : List Cond} {rm : Room} {cc : ByteArray} {maxL : Nat} {ret : Option FieldType} {as : List Value} {H0 : Heap} {K : State → Prop} {Qc : Array Value → State → Outcome → State → Prop} (hy : plainName y.cls = true) (hw : ws = Cond.code y cc maxL ret :: ws') (hlen : (lg_sl as).length ≤ maxL)
    (body : ∀ (p : Program) (e : Env) (s : State) (m : MethodId) (below : List Frame) (meth : Method) (c : Code) (ls : Array Slot), p.tables.exec = Jvm.exec → c.code = cc → meth.sig.returnType = ret → meth.locks = false → c.maxLocals = maxL → s.vm.findClass y.cls = some m.cls → (∀ w ∈ ws, w.before as.toArray s = true) → s.heap = H0 → K s → lv_has ls maxL (lv_args 0 as) →
      W p l e (headSpec ws rm).room s m as.toArray below meth c H0 [] 0 0 (MQ below Qc as.toArray s 0 0 (fun _ => False)) (F0 m 0 ls [])) : Met l y ws rm (pPc as H0 K) Qc 0 0 (fun _ => False) := by
  refine Met.ofW (cc := cc) (maxL := maxL) (ret := ret) hy hw ?_
  intro p e s m args below meth c s₁ B hml hv
  obtain ⟨rfl, hh, hk⟩ := hv
  have hts := atoms_spec (ws := ws) B.pre
  have hl := lv_entry as hlen
  have k := body p e s m below meth c _ B.exec B.bytes B.returns B.notSynchronized hml (findClass_of_methodNamed B.named) hts hh hk hl
  rw [lg_entry_eq]
  rw [hh]
  exact k
/-- .. and its end -/
theorem pu_F {s t : State} {H : Heap} (hs : s.heap = H) (ht : t.heap = H) : va_F (fun _ => False) s t := ⟨by rw [hs, ht]; exact Nat.le_refl _, fun q _ _ => by rw [hs, ht]⟩
section PU4
variable {p : Program} {l : Launch} {e : Env} {R : Room} {s : State} {m : MethodId} {args : Array Value} {below : List Frame} {meth : Method} {c : Code} {H : Heap}
theorem pu_iret {cc : ByteArray} {v w : Int32} (hexec : p.tables.exec = Jvm.exec) (hb : c.code = cc) (hr : meth.sig.returnType = some .int) (hlocks : meth.locks = false) (hs : s.heap = H) {pc : Nat} {ls : Array Slot} (hdg : decode cc pc = .ok (.ireturn, 1)) (he : v = w) : W p l e R s m args below meth c H [] 0 0 (MQ below (pQi H w) args s 0 0 (fun _ => False)) (F0 m pc ls [.int v]) :=
  W.iret (v := v) hexec hb hr (fun t ht _ => ⟨⟨v, (), rfl, he, ht⟩, pu_F hs ht⟩) (fun q hq => by cases hq) hdg hlocks
theorem pu_zret {cc : ByteArray} {v w : Int32} (hexec : p.tables.exec = Jvm.exec) (hb : c.code = cc) (hr : meth.sig.returnType = some .boolean) (hlocks : meth.locks = false) (hs : s.heap = H) {pc : Nat} {ls : Array Slot} (hdg : decode cc pc = .ok (.ireturn, 1)) (hn : narrow .boolean (.int v) = .int v) (he : v = w) : W p l e R s m args below meth c H [] 0 0 (MQ below (pQi H w) args s 0 0 (fun _ => False)) (F0 m pc ls [.int v]) :=
  W.zret (v := v) (ty := .boolean) hexec hb hr hn (fun t ht _ => ⟨⟨v, (), rfl, he, ht⟩, pu_F hs ht⟩) (fun q hq => by cases hq) hdg hlocks
theorem pu_lret {cc : ByteArray} {v w : Int64} (hexec : p.tables.exec = Jvm.exec) (hb : c.code = cc) (hr : meth.sig.returnType = some .long) (hlocks : meth.locks = false) (hs : s.heap = H) {pc : Nat} {ls : Array Slot} (hdg : decode cc pc = .ok (.lreturn, 1)) (he : v = w) : W p l e R s m args below meth c H [] 0 0 (MQ below (pQl H w) args s 0 0 (fun _ => False)) (F0 m pc ls [.long v]) :=
  W.lret (v := v) hexec hb hr (fun t ht _ => ⟨⟨v, (), rfl, he, ht⟩, pu_F hs ht⟩) (fun q hq => by cases hq) hdg hlocks
end PU4
/-- the head of a method of the JDK's that has no row among the natives -/
theorem Met_ofWF {l : Launch} {y : MethodName} {ws ws' : List Cond} {rm : Room} {Pc : Array Value → State → Prop} {Qc : Array Value → State → Outcome → State → Prop} {mc ms : Nat} {free : Addr → Prop} {cc : ByteArray} {maxL : Nat} {ret : Option FieldType}
    (hy : plainFor y = true) (hw : ws = Cond.code y cc maxL ret :: ws')
    (body : ∀ p e s m args below meth c s₁, BodyLoose p l y (headSpec ws rm) cc maxL ret e s m args below meth c s₁ → c.maxLocals = maxL → Pc args s →
      W p l e (headSpec ws rm).room s m args below meth c s.heap [] 0 0 (MQ below Qc args s mc ms free) (entryFrame m args maxL)) : Met l y ws rm Pc Qc mc ms free := by
  refine MetFree.of_bodySF (code := cc) (maxLocals := maxL) (ret := ret) hy ?_ ?_
  · intro args s m h hn
    obtain ⟨meth, c, h1, h2, h3, h4, h5, h6, -, -⟩ := Cond.code_spec hn (atoms_spec (ws := ws) h _ (by rw [hw]; exact List.mem_cons_self))
    exact ⟨meth, c, h1, h2, h3, h4, h5, h6⟩
  · intro p e s m args below meth c s₁ B hml hP _
    have hh0 : s₁.heap = s.heap := by rw [B.state]; rfl
    obtain ⟨t, a1, o, b1, b2, b3⟩ := body p e s m args below meth c s₁ B hml hP s₁ hh0 (Stand.of_body B)
    exact ⟨t, o, a1, b1, b2, ⟨b3.1, b3.2⟩⟩
theorem pu_headF {l : Launch} {y : MethodName} {ws ws' : List Cond} {rm : Room} {cc : ByteArray} {maxL : Nat} {ret : Option FieldType} {as : List Value} {H0 : Heap} {K : State → Prop} {Qc : Array Value → State → Outcome → State → Prop} (hy : plainFor y = true) (hw : ws = Cond.code y cc maxL ret :: ws') (hlen : (lg_sl as).length ≤ maxL)
    (body : ∀ (p : Program) (e : Env) (s : State) (m : MethodId) (below : List Frame) (meth : Method) (c : Code) (ls : Array Slot), p.tables.exec = Jvm.exec → c.code = cc → meth.sig.returnType = ret → meth.locks = false → c.maxLocals = maxL → s.vm.findClass y.cls = some m.cls → (∀ w ∈ ws, w.before as.toArray s = true) → s.heap = H0 → K s → lv_has ls maxL (lv_args 0 as) →
      W p l e (headSpec ws rm).room s m as.toArray below meth c H0 [] 0 0 (MQ below Qc as.toArray s 0 0 (fun _ => False)) (F0 m 0 ls [])) : Met l y ws rm (pPc as H0 K) Qc 0 0 (fun _ => False) := by
  refine Met_ofWF (cc := cc) (maxL := maxL) (ret := ret) hy hw ?_
  intro p e s m args below meth c s₁ B hml hv
  obtain ⟨rfl, hh, hk⟩ := hv
  have hts := atoms_spec (ws := ws) B.pre
  have hl := lv_entry as hlen
  have k := body p e s m below meth c _ B.exec B.bytes B.returns B.notSynchronized hml (findClass_of_methodNamed B.named) hts hh hk hl
  rw [lg_entry_eq]
  rw [hh]
  exact k
end
section
/-! The two worlds: the class's one object; the reference's object with its two rows. -/
abbrev XS : Type := Int32 × Int32 × Int32 × Int32 × Int32 × Int32 × Int32 × Int32 × Int32 × Int32
abbrev MS : Type := Int32 × Int32 × (Nat → Int32) × (Nat → Int64) × Int32 × Int32 × Int32
abbrev xW (h0 : Nat) (u : XS) : va_W := [(h0, .inr (0, [.int u.1, .int u.2.1, .int u.2.2.1, .int u.2.2.2.1, .int u.2.2.2.2.1, .int u.2.2.2.2.2.1, .int u.2.2.2.2.2.2.1, .int u.2.2.2.2.2.2.2.1, .int u.2.2.2.2.2.2.2.2.1, .int u.2.2.2.2.2.2.2.2.2]))]
abbrev mW (h0 h1 h2 : Nat) (cI cL : ClassId) (v : MS) : va_W := [(h0, .inr (1, [.int v.1, .int v.2.1, .ref h1, .ref h2, .int v.2.2.2.2.1, .int v.2.2.2.2.2.1, .int v.2.2.2.2.2.2])), (h1, .inl (cI, 6, .inl v.2.2.1)), (h2, .inl (cL, 6, .inr (.inl v.2.2.2.1)))]
abbrev mT (cI cL : ClassId) : List (ClassId × FieldType) := [(cI, .int), (cL, .long)]
def xPre (dC : Nat → ClassId) (dI : Nat → Nat → Nat) (h0 sz : Nat) (u : XS) : State → Prop := fun U => U.heap.size = sz ∧ va_P (dC, dI) vwCl (xW h0 u) U.heap ∧ va_K (dC, dI) vwCl [] U ∧ va_D (fun _ => True) (xW h0 u) ∧ tbS "FixedPlane" (va_A (xW h0 u) sz) U U.heap
def mPre (dC : Nat → ClassId) (dI : Nat → Nat → Nat) (h0 h1 h2 : Nat) (cI cL : ClassId) (sz : Nat) (v : MS) : State → Prop := fun U => U.heap.size = sz ∧ va_P (dC, dI) vwCl (mW h0 h1 h2 cI cL v) U.heap ∧ va_K (dC, dI) vwCl (mT cI cL) U ∧ va_D (fun _ => True) (mW h0 h1 h2 cI cL v) ∧ tbS "FixedPlaneModel" (va_A (mW h0 h1 h2 cI cL v) sz) U U.heap
def at_X (dC : Nat → ClassId) (dI : Nat → Nat → Nat) (h0 : Nat) (A : Nat → Prop) (z : XS) (t : State) : Prop := va_P (dC, dI) vwCl (xW h0 z) t.heap ∧ va_K (dC, dI) vwCl [] t ∧ va_D A (xW h0 z)
def at_M (dC : Nat → ClassId) (dI : Nat → Nat → Nat) (h0 h1 h2 : Nat) (cI cL : ClassId) (A : Nat → Prop) (z : MS) (t : State) : Prop := va_P (dC, dI) vwCl (mW h0 h1 h2 cI cL z) t.heap ∧ va_K (dC, dI) vwCl (mT cI cL) t ∧ va_D A (mW h0 h1 h2 cI cL z)
abbrev xQi (dC : Nat → ClassId) (dI : Nat → Nat → Nat) (h0 : Nat) (A : Nat → Prop) (v : Int32) (w : XS) := va_Qi (fun (r : Int32) (z : XS) => r = v ∧ z = w) (at_X dC dI h0 A) A
abbrev xQl (dC : Nat → ClassId) (dI : Nat → Nat → Nat) (h0 : Nat) (A : Nat → Prop) (v : Int64) (w : XS) := va_Ql (fun (r : Int64) (z : XS) => r = v ∧ z = w) (at_X dC dI h0 A) A
abbrev mQi (dC : Nat → ClassId) (dI : Nat → Nat → Nat) (h0 h1 h2 : Nat) (cI cL : ClassId) (A : Nat → Prop) (v : Int32) (w : MS) := va_Qi (fun (r : Int32) (z : MS) => r = v ∧ z = w) (at_M dC dI h0 h1 h2 cI cL A) A
abbrev mQl (dC : Nat → ClassId) (dI : Nat → Nat → Nat) (h0 h1 h2 : Nat) (cI cL : ClassId) (A : Nat → Prop) (v : Int64) (w : MS) := va_Ql (fun (r : Int64) (z : MS) => r = v ∧ z = w) (at_M dC dI h0 h1 h2 cI cL A) A
theorem x_headi {l : Launch} {y : MethodName} {ws ws' : List Cond} {rm : Room} {cc : ByteArray} {maxL : Nat} {ret : Option FieldType} {as : List Value} {dC : Nat → ClassId} {dI : Nat → Nat → Nat} {h0 : Nat} {sz : Nat} {u w : XS} {v : Int32} (hy : plainName y.cls = true) (hyc : y.cls = RX0) (hw : ws = Cond.code y cc maxL ret :: ws') (hlen : (lg_sl (.ref h0 :: as)).length ≤ maxL)
    (body : ∀ (p : Program) (e : Env) (s : State) (m : MethodId) (below : List Frame) (meth : Method) (c : Code) (ls : Array Slot) (A : Nat → Prop), p.tables.exec = Jvm.exec → c.code = cc → meth.sig.returnType = ret → meth.locks = false → c.maxLocals = maxL → s.vm.findClass RX0 = some m.cls → (∀ w ∈ ws, w.before (Value.ref h0 :: as).toArray s = true) → (∀ q, s.heap.size ≤ q → A q) → va_P (dC, dI) vwCl (xW h0 u) s.heap → va_D A (xW h0 u) → va_K (dC, dI) vwCl ([]) s → tbS "FixedPlane" A s s.heap → va_S A s.heap s.heap [] → lv_has ls maxL (lv_args 0 (.ref h0 :: as)) →
      W p l e (headSpec ws rm).room s m (Value.ref h0 :: as).toArray below meth c s.heap [] 0 0 (MQ below (xQi dC dI h0 A v w) (Value.ref h0 :: as).toArray s 0 0 A) (F0 m 0 ls [])) : Met l y ws rm (va_Pc (.ref h0 :: as) (xPre dC dI h0 sz u)) (xQi dC dI h0 (va_A (xW h0 u) sz) v w) 0 0 (va_A (xW h0 u) sz) := by
  refine Met.ofW (cc := cc) (maxL := maxL) (ret := ret) hy hw ?_
  intro p e s m args below meth c s₁ B hml hv
  obtain ⟨rfl, hsz, hP, hK, hD0, htb⟩ := hv
  have hts := atoms_spec (ws := ws) B.pre
  have hown : s.vm.findClass RX0 = some m.cls := hyc ▸ findClass_of_methodNamed B.named
  subst hsz
  have hD := hD0.self (sz := s.heap.size)
  have hl := lv_entry (.ref h0 :: as) hlen
  have hA : ∀ q : Nat, s.heap.size ≤ q → va_A (xW h0 u) s.heap.size q := fun q h => Or.inr h
  have k := body p e s m below meth c _ (va_A (xW h0 u) s.heap.size) B.exec B.bytes B.returns B.notSynchronized hml hown hts hA hP hD hK htb va_S.rf hl
  rw [lg_entry_eq]
  exact k
theorem xg_i {p : Program} {l : Launch} {e : Env} {R : Room} {s : State} {m : MethodId} {args : Array Value} {below : List Frame} {meth : Method} {c : Code} {H : Heap} {locs : List Loc} {cells slots : Nat} {Q : State → Prop} {dC : Nat → ClassId} {dI : Nat → Nat → Nat} {h0 : Nat} {A : Nat → Prop}
    {y : MethodName} {bytes cc : ByteArray} {maxL nL index : Nat} {ret : Option FieldType} {ws ws' : List Cond} {rm : Room} {Ts : List Cond} {own : String} {As rest : List Value} {pc : Nat} {ls : Array Slot} {st0 : List Value} {u w : XS} {v : Int32} {ws0 wr : va_W}
    (S : CallFix p m c cc nL s args Ts own) (hM : Met l y ws rm (va_Pc (.ref h0 :: As) (xPre dC dI h0 H.size u)) (xQi dC dI h0 (va_A (xW h0 u) H.size) v w) 0 0 (va_A (xW h0 u) H.size)) (n : Nat) (hT : GoodIn Ts (wsV own index RX0 y ws)) (hw : ws = Cond.code y bytes maxL ret :: ws') (hrc : rm.cells = 0) (hrs : rm.slots = 0)
    (hd : y.cls = RX0 ∧ y.cls ≠ "java/lang/invoke/MethodHandle" ∧ y.cls ≠ "java/lang/invoke/VarHandle" ∧ (parseMethodDescriptor y.desc).map (fun d => d.parameters.length) = some n) (hR : rm.frames + 1 ≤ R.frames ∧ 24 + (maxL + 11) + rm.locals ≤ R.locals)
    (hP : va_P (dC, dI) vwCl ws0 H) (hD : va_D A ws0) (hK : va_K (dC, dI) vwCl ([]) s) (hS : va_S A s.heap H locs) (hA : ∀ q, s.heap.size ≤ q → A q) (htb : tbS "FixedPlane" A s s.heap)
    (isC isR : List Nat) (hC : isC.map (fun i => ws0[i]?) = (xW h0 u).map some) (hC2 : isC.filterMap (fun i => ws0[i]?) = xW h0 u) (hnC : va_nd isC = true) (hRr : isR.map (fun i => ws0[i]?) = wr.map some) (hnd : va_nd isR = true) (hdis : ∀ i ∈ isR, i ∉ isC)
    (hn : As.length = n) (hsize : ls.size = nL) (hstack : st0 = As.reverse ++ .ref h0 :: rest) (hW : (rest.map fun v => v.category).sum ≤ 24) (hdg : decode cc pc = .ok (.invokevirtual index, 3)) (hf : cells ≤ R.cells ∧ slots ≤ R.slots)
    (kk : ∀ (H1 : Heap) (locs1 : List Loc), va_P (dC, dI) vwCl (wr ++ xW h0 w) H1 → va_D A (wr ++ xW h0 w) → va_S A s.heap H1 locs1 → W p l e R s m args below meth c H1 locs1 cells slots Q (F0 m (pc + 3) ls (.int v :: rest))) : W p l e R s m args below meth c H locs cells slots Q (F0 m pc ls st0) := by
  have hFc := va_free (wc := xW h0 u) hD hS hA isC hC
  have hPc := hP.sub (ws' := xW h0 u) isC hC2
  have hDc := hD.sub (ws' := xW h0 u) isC hnC hC
  refine va_calli (pu_runV S hM n hT hw hrc hrs hd hR ⟨fun a U g mk q => ⟨q.1, q.2.1, q.2.2.1, va_K.moved (u := U) (U := U.calling g mk a) (Vm.Alike.refl U.vm) q.2.2.2.1, q.2.2.2.2.1, tbS.moved (u := U) (U := U.calling g mk a) (Vm.Alike.refl U.vm) q.2.2.2.2.2⟩, va_recv hK hPc (ci := 0) (q0 := 0) rfl rfl, fun U hU hWm => ⟨rfl, by rw [hU], by rw [hU]; exact hPc, va_K.moved hWm.alike hK, hDc.weaken (fun _ _ _ _ => trivial), by rw [hU]; exact ((htb.kept (fun a h1 h2 => hS.2.1 a h1 h2)).moved hWm.alike).narrow hFc⟩⟩ (g := F0 m pc ls st0) rfl hn hsize hstack (by show 2 * 0 + _ ≤ 24; omega) hdg hf) hS (fun q _ h => hFc q h) hFc (fun r z t H1 locs1 ht hvm hw2 hB hz1 hk1 hS1 => ?_)
  obtain ⟨rfl, rfl⟩ := hw2
  obtain ⟨hP1, hK1, hD1⟩ := hB
  rw [ht] at hP1
  obtain ⟨hP2, hD2⟩ := va_join (wr := wr) (w1 := xW h0 z) hP hD isC isR hC hRr hnd hdis hk1 hFc hP1 hD1
  exact kk H1 locs1 hP2 hD2 hS1
theorem xc_i {p : Program} {l : Launch} {e : Env} {R : Room} {s : State} {m : MethodId} {args : Array Value} {below : List Frame} {meth : Method} {c : Code} {H : Heap} {locs : List Loc} {cells slots : Nat} {Q : State → Prop} {dC : Nat → ClassId} {dI : Nat → Nat → Nat} {h0 : Nat} {A : Nat → Prop}
    {y : MethodName} {bytes cc : ByteArray} {maxL nL index : Nat} {ret : Option FieldType} {ws ws' : List Cond} {rm : Room} {Ts : List Cond} {own : String} {As rest : List Value} {pc : Nat} {ls : Array Slot} {st0 : List Value} {u w : XS} {v : Int32}
    (S : CallFix p m c cc nL s args Ts own) (hM : Met l y ws rm (va_Pc (.ref h0 :: As) (xPre dC dI h0 H.size u)) (xQi dC dI h0 (va_A (xW h0 u) H.size) v w) 0 0 (va_A (xW h0 u) H.size)) (n : Nat) (hT : GoodIn Ts (wsV own index RX0 y ws)) (hw : ws = Cond.code y bytes maxL ret :: ws') (hrc : rm.cells = 0) (hrs : rm.slots = 0)
    (hd : y.cls = RX0 ∧ y.cls ≠ "java/lang/invoke/MethodHandle" ∧ y.cls ≠ "java/lang/invoke/VarHandle" ∧ (parseMethodDescriptor y.desc).map (fun d => d.parameters.length) = some n) (hR : rm.frames + 1 ≤ R.frames ∧ 24 + (maxL + 11) + rm.locals ≤ R.locals)
    (hP : va_P (dC, dI) vwCl (xW h0 u) H) (hD : va_D A (xW h0 u)) (hK : va_K (dC, dI) vwCl ([]) s) (hS : va_S A s.heap H locs) (hA : ∀ q, s.heap.size ≤ q → A q) (htb : tbS "FixedPlane" A s s.heap)
    (hn : As.length = n) (hsize : ls.size = nL) (hstack : st0 = As.reverse ++ .ref h0 :: rest) (hW : (rest.map fun v => v.category).sum ≤ 24) (hdg : decode cc pc = .ok (.invokevirtual index, 3)) (hf : cells ≤ R.cells ∧ slots ≤ R.slots)
    (kk : ∀ (H1 : Heap) (locs1 : List Loc), va_P (dC, dI) vwCl (xW h0 w) H1 → va_D A (xW h0 w) → va_S A s.heap H1 locs1 → W p l e R s m args below meth c H1 locs1 cells slots Q (F0 m (pc + 3) ls (.int v :: rest))) : W p l e R s m args below meth c H locs cells slots Q (F0 m pc ls st0) :=
  xg_i (wr := []) S hM n hT hw hrc hrs hd hR hP hD hK hS hA htb [0] [] rfl rfl rfl rfl rfl (fun i h => by cases h) hn hsize hstack hW hdg hf kk
theorem x_headl {l : Launch} {y : MethodName} {ws ws' : List Cond} {rm : Room} {cc : ByteArray} {maxL : Nat} {ret : Option FieldType} {as : List Value} {dC : Nat → ClassId} {dI : Nat → Nat → Nat} {h0 : Nat} {sz : Nat} {u w : XS} {v : Int64} (hy : plainName y.cls = true) (hyc : y.cls = RX0) (hw : ws = Cond.code y cc maxL ret :: ws') (hlen : (lg_sl (.ref h0 :: as)).length ≤ maxL)
    (body : ∀ (p : Program) (e : Env) (s : State) (m : MethodId) (below : List Frame) (meth : Method) (c : Code) (ls : Array Slot) (A : Nat → Prop), p.tables.exec = Jvm.exec → c.code = cc → meth.sig.returnType = ret → meth.locks = false → c.maxLocals = maxL → s.vm.findClass RX0 = some m.cls → (∀ w ∈ ws, w.before (Value.ref h0 :: as).toArray s = true) → (∀ q, s.heap.size ≤ q → A q) → va_P (dC, dI) vwCl (xW h0 u) s.heap → va_D A (xW h0 u) → va_K (dC, dI) vwCl ([]) s → tbS "FixedPlane" A s s.heap → va_S A s.heap s.heap [] → lv_has ls maxL (lv_args 0 (.ref h0 :: as)) →
      W p l e (headSpec ws rm).room s m (Value.ref h0 :: as).toArray below meth c s.heap [] 0 0 (MQ below (xQl dC dI h0 A v w) (Value.ref h0 :: as).toArray s 0 0 A) (F0 m 0 ls [])) : Met l y ws rm (va_Pc (.ref h0 :: as) (xPre dC dI h0 sz u)) (xQl dC dI h0 (va_A (xW h0 u) sz) v w) 0 0 (va_A (xW h0 u) sz) := by
  refine Met.ofW (cc := cc) (maxL := maxL) (ret := ret) hy hw ?_
  intro p e s m args below meth c s₁ B hml hv
  obtain ⟨rfl, hsz, hP, hK, hD0, htb⟩ := hv
  have hts := atoms_spec (ws := ws) B.pre
  have hown : s.vm.findClass RX0 = some m.cls := hyc ▸ findClass_of_methodNamed B.named
  subst hsz
  have hD := hD0.self (sz := s.heap.size)
  have hl := lv_entry (.ref h0 :: as) hlen
  have hA : ∀ q : Nat, s.heap.size ≤ q → va_A (xW h0 u) s.heap.size q := fun q h => Or.inr h
  have k := body p e s m below meth c _ (va_A (xW h0 u) s.heap.size) B.exec B.bytes B.returns B.notSynchronized hml hown hts hA hP hD hK htb va_S.rf hl
  rw [lg_entry_eq]
  exact k
theorem xg_l {p : Program} {l : Launch} {e : Env} {R : Room} {s : State} {m : MethodId} {args : Array Value} {below : List Frame} {meth : Method} {c : Code} {H : Heap} {locs : List Loc} {cells slots : Nat} {Q : State → Prop} {dC : Nat → ClassId} {dI : Nat → Nat → Nat} {h0 : Nat} {A : Nat → Prop}
    {y : MethodName} {bytes cc : ByteArray} {maxL nL index : Nat} {ret : Option FieldType} {ws ws' : List Cond} {rm : Room} {Ts : List Cond} {own : String} {As rest : List Value} {pc : Nat} {ls : Array Slot} {st0 : List Value} {u w : XS} {v : Int64} {ws0 wr : va_W}
    (S : CallFix p m c cc nL s args Ts own) (hM : Met l y ws rm (va_Pc (.ref h0 :: As) (xPre dC dI h0 H.size u)) (xQl dC dI h0 (va_A (xW h0 u) H.size) v w) 0 0 (va_A (xW h0 u) H.size)) (n : Nat) (hT : GoodIn Ts (wsV own index RX0 y ws)) (hw : ws = Cond.code y bytes maxL ret :: ws') (hrc : rm.cells = 0) (hrs : rm.slots = 0)
    (hd : y.cls = RX0 ∧ y.cls ≠ "java/lang/invoke/MethodHandle" ∧ y.cls ≠ "java/lang/invoke/VarHandle" ∧ (parseMethodDescriptor y.desc).map (fun d => d.parameters.length) = some n) (hR : rm.frames + 1 ≤ R.frames ∧ 24 + (maxL + 11) + rm.locals ≤ R.locals)
    (hP : va_P (dC, dI) vwCl ws0 H) (hD : va_D A ws0) (hK : va_K (dC, dI) vwCl ([]) s) (hS : va_S A s.heap H locs) (hA : ∀ q, s.heap.size ≤ q → A q) (htb : tbS "FixedPlane" A s s.heap)
    (isC isR : List Nat) (hC : isC.map (fun i => ws0[i]?) = (xW h0 u).map some) (hC2 : isC.filterMap (fun i => ws0[i]?) = xW h0 u) (hnC : va_nd isC = true) (hRr : isR.map (fun i => ws0[i]?) = wr.map some) (hnd : va_nd isR = true) (hdis : ∀ i ∈ isR, i ∉ isC)
    (hn : As.length = n) (hsize : ls.size = nL) (hstack : st0 = As.reverse ++ .ref h0 :: rest) (hW : (rest.map fun v => v.category).sum ≤ 24) (hdg : decode cc pc = .ok (.invokevirtual index, 3)) (hf : cells ≤ R.cells ∧ slots ≤ R.slots)
    (kk : ∀ (H1 : Heap) (locs1 : List Loc), va_P (dC, dI) vwCl (wr ++ xW h0 w) H1 → va_D A (wr ++ xW h0 w) → va_S A s.heap H1 locs1 → W p l e R s m args below meth c H1 locs1 cells slots Q (F0 m (pc + 3) ls (.long v :: rest))) : W p l e R s m args below meth c H locs cells slots Q (F0 m pc ls st0) := by
  have hFc := va_free (wc := xW h0 u) hD hS hA isC hC
  have hPc := hP.sub (ws' := xW h0 u) isC hC2
  have hDc := hD.sub (ws' := xW h0 u) isC hnC hC
  refine va_calll (pu_runV S hM n hT hw hrc hrs hd hR ⟨fun a U g mk q => ⟨q.1, q.2.1, q.2.2.1, va_K.moved (u := U) (U := U.calling g mk a) (Vm.Alike.refl U.vm) q.2.2.2.1, q.2.2.2.2.1, tbS.moved (u := U) (U := U.calling g mk a) (Vm.Alike.refl U.vm) q.2.2.2.2.2⟩, va_recv hK hPc (ci := 0) (q0 := 0) rfl rfl, fun U hU hWm => ⟨rfl, by rw [hU], by rw [hU]; exact hPc, va_K.moved hWm.alike hK, hDc.weaken (fun _ _ _ _ => trivial), by rw [hU]; exact ((htb.kept (fun a h1 h2 => hS.2.1 a h1 h2)).moved hWm.alike).narrow hFc⟩⟩ (g := F0 m pc ls st0) rfl hn hsize hstack (by show 2 * 0 + _ ≤ 24; omega) hdg hf) hS (fun q _ h => hFc q h) hFc (fun r z t H1 locs1 ht hvm hw2 hB hz1 hk1 hS1 => ?_)
  obtain ⟨rfl, rfl⟩ := hw2
  obtain ⟨hP1, hK1, hD1⟩ := hB
  rw [ht] at hP1
  obtain ⟨hP2, hD2⟩ := va_join (wr := wr) (w1 := xW h0 z) hP hD isC isR hC hRr hnd hdis hk1 hFc hP1 hD1
  exact kk H1 locs1 hP2 hD2 hS1
theorem xc_l {p : Program} {l : Launch} {e : Env} {R : Room} {s : State} {m : MethodId} {args : Array Value} {below : List Frame} {meth : Method} {c : Code} {H : Heap} {locs : List Loc} {cells slots : Nat} {Q : State → Prop} {dC : Nat → ClassId} {dI : Nat → Nat → Nat} {h0 : Nat} {A : Nat → Prop}
    {y : MethodName} {bytes cc : ByteArray} {maxL nL index : Nat} {ret : Option FieldType} {ws ws' : List Cond} {rm : Room} {Ts : List Cond} {own : String} {As rest : List Value} {pc : Nat} {ls : Array Slot} {st0 : List Value} {u w : XS} {v : Int64}
    (S : CallFix p m c cc nL s args Ts own) (hM : Met l y ws rm (va_Pc (.ref h0 :: As) (xPre dC dI h0 H.size u)) (xQl dC dI h0 (va_A (xW h0 u) H.size) v w) 0 0 (va_A (xW h0 u) H.size)) (n : Nat) (hT : GoodIn Ts (wsV own index RX0 y ws)) (hw : ws = Cond.code y bytes maxL ret :: ws') (hrc : rm.cells = 0) (hrs : rm.slots = 0)
    (hd : y.cls = RX0 ∧ y.cls ≠ "java/lang/invoke/MethodHandle" ∧ y.cls ≠ "java/lang/invoke/VarHandle" ∧ (parseMethodDescriptor y.desc).map (fun d => d.parameters.length) = some n) (hR : rm.frames + 1 ≤ R.frames ∧ 24 + (maxL + 11) + rm.locals ≤ R.locals)
    (hP : va_P (dC, dI) vwCl (xW h0 u) H) (hD : va_D A (xW h0 u)) (hK : va_K (dC, dI) vwCl ([]) s) (hS : va_S A s.heap H locs) (hA : ∀ q, s.heap.size ≤ q → A q) (htb : tbS "FixedPlane" A s s.heap)
    (hn : As.length = n) (hsize : ls.size = nL) (hstack : st0 = As.reverse ++ .ref h0 :: rest) (hW : (rest.map fun v => v.category).sum ≤ 24) (hdg : decode cc pc = .ok (.invokevirtual index, 3)) (hf : cells ≤ R.cells ∧ slots ≤ R.slots)
    (kk : ∀ (H1 : Heap) (locs1 : List Loc), va_P (dC, dI) vwCl (xW h0 w) H1 → va_D A (xW h0 w) → va_S A s.heap H1 locs1 → W p l e R s m args below meth c H1 locs1 cells slots Q (F0 m (pc + 3) ls (.long v :: rest))) : W p l e R s m args below meth c H locs cells slots Q (F0 m pc ls st0) :=
  xg_l (wr := []) S hM n hT hw hrc hrs hd hR hP hD hK hS hA htb [0] [] rfl rfl rfl rfl rfl (fun i h => by cases h) hn hsize hstack hW hdg hf kk
theorem x_iret {p : Program} {l : Launch} {e : Env} {R : Room} {s : State} {m : MethodId} {args : Array Value} {below : List Frame} {meth : Method} {c : Code} {H : Heap} {locs : List Loc} {dC : Nat → ClassId} {dI : Nat → Nat → Nat} {h0 : Nat} {A : Nat → Prop} {cc : ByteArray} {v v' : Int32} {w w' : XS} (hexec : p.tables.exec = Jvm.exec) (hb : c.code = cc) (hr : meth.sig.returnType = some .int) (hlocks : meth.locks = false) (hP : va_P (dC, dI) vwCl (xW h0 w') H) (hD : va_D A (xW h0 w')) (hK : va_K (dC, dI) vwCl ([]) s) (hS : va_S A s.heap H locs) {pc : Nat} {ls : Array Slot} (hdg : decode cc pc = .ok (.ireturn, 1)) (he : v' = v ∧ w' = w) : W p l e R s m args below meth c H locs 0 0 (MQ below (xQi dC dI h0 A v w) args s 0 0 A) (F0 m pc ls [.int v']) :=
  W.iret (v := v') hexec hb hr (fun t ht hW => ⟨⟨v', w', rfl, he, by rw [ht]; exact hP, va_K.moved hW.alike hK, hD⟩, hS.F ht⟩) hS.2.2 hdg hlocks
theorem x_lret {p : Program} {l : Launch} {e : Env} {R : Room} {s : State} {m : MethodId} {args : Array Value} {below : List Frame} {meth : Method} {c : Code} {H : Heap} {locs : List Loc} {dC : Nat → ClassId} {dI : Nat → Nat → Nat} {h0 : Nat} {A : Nat → Prop} {cc : ByteArray} {v v' : Int64} {w w' : XS} (hexec : p.tables.exec = Jvm.exec) (hb : c.code = cc) (hr : meth.sig.returnType = some .long) (hlocks : meth.locks = false) (hP : va_P (dC, dI) vwCl (xW h0 w') H) (hD : va_D A (xW h0 w')) (hK : va_K (dC, dI) vwCl ([]) s) (hS : va_S A s.heap H locs) {pc : Nat} {ls : Array Slot} (hdg : decode cc pc = .ok (.lreturn, 1)) (he : v' = v ∧ w' = w) : W p l e R s m args below meth c H locs 0 0 (MQ below (xQl dC dI h0 A v w) args s 0 0 A) (F0 m pc ls [.long v']) :=
  W.lret (v := v') hexec hb hr (fun t ht hW => ⟨⟨v', w', rfl, he, by rw [ht]; exact hP, va_K.moved hW.alike hK, hD⟩, hS.F ht⟩) hS.2.2 hdg hlocks
theorem x_zret {p : Program} {l : Launch} {e : Env} {R : Room} {s : State} {m : MethodId} {args : Array Value} {below : List Frame} {meth : Method} {c : Code} {H : Heap} {locs : List Loc} {dC : Nat → ClassId} {dI : Nat → Nat → Nat} {h0 : Nat} {A : Nat → Prop} {cc : ByteArray} {v v' : Int32} {w w' : XS} (hexec : p.tables.exec = Jvm.exec) (hb : c.code = cc) (hr : meth.sig.returnType = some .boolean) (hlocks : meth.locks = false) (hP : va_P (dC, dI) vwCl (xW h0 w') H) (hD : va_D A (xW h0 w')) (hK : va_K (dC, dI) vwCl ([]) s) (hS : va_S A s.heap H locs) {pc : Nat} {ls : Array Slot} (hdg : decode cc pc = .ok (.ireturn, 1)) (hn : narrow .boolean (.int v') = .int v') (he : v' = v ∧ w' = w) : W p l e R s m args below meth c H locs 0 0 (MQ below (xQi dC dI h0 A v w) args s 0 0 A) (F0 m pc ls [.int v']) :=
  W.zret (v := v') (ty := .boolean) hexec hb hr hn (fun t ht hW => ⟨⟨v', w', rfl, he, by rw [ht]; exact hP, va_K.moved hW.alike hK, hD⟩, hS.F ht⟩) hS.2.2 hdg hlocks
theorem m_headi {l : Launch} {y : MethodName} {ws ws' : List Cond} {rm : Room} {cc : ByteArray} {maxL : Nat} {ret : Option FieldType} {as : List Value} {dC : Nat → ClassId} {dI : Nat → Nat → Nat} {h0 h1 h2 : Nat} {cI cL : ClassId} {sz : Nat} {u w : MS} {v : Int32} (hy : plainName y.cls = true) (hyc : y.cls = RX1) (hw : ws = Cond.code y cc maxL ret :: ws') (hlen : (lg_sl (.ref h0 :: as)).length ≤ maxL)
    (body : ∀ (p : Program) (e : Env) (s : State) (m : MethodId) (below : List Frame) (meth : Method) (c : Code) (ls : Array Slot) (A : Nat → Prop), p.tables.exec = Jvm.exec → c.code = cc → meth.sig.returnType = ret → meth.locks = false → c.maxLocals = maxL → s.vm.findClass RX1 = some m.cls → (∀ w ∈ ws, w.before (Value.ref h0 :: as).toArray s = true) → (∀ q, s.heap.size ≤ q → A q) → va_P (dC, dI) vwCl (mW h0 h1 h2 cI cL u) s.heap → va_D A (mW h0 h1 h2 cI cL u) → va_K (dC, dI) vwCl (mT cI cL) s → tbS "FixedPlaneModel" A s s.heap → va_S A s.heap s.heap [] → lv_has ls maxL (lv_args 0 (.ref h0 :: as)) →
      W p l e (headSpec ws rm).room s m (Value.ref h0 :: as).toArray below meth c s.heap [] 0 0 (MQ below (mQi dC dI h0 h1 h2 cI cL A v w) (Value.ref h0 :: as).toArray s 0 0 A) (F0 m 0 ls [])) : Met l y ws rm (va_Pc (.ref h0 :: as) (mPre dC dI h0 h1 h2 cI cL sz u)) (mQi dC dI h0 h1 h2 cI cL (va_A (mW h0 h1 h2 cI cL u) sz) v w) 0 0 (va_A (mW h0 h1 h2 cI cL u) sz) := by
  refine Met.ofW (cc := cc) (maxL := maxL) (ret := ret) hy hw ?_
  intro p e s m args below meth c s₁ B hml hv
  obtain ⟨rfl, hsz, hP, hK, hD0, htb⟩ := hv
  have hts := atoms_spec (ws := ws) B.pre
  have hown : s.vm.findClass RX1 = some m.cls := hyc ▸ findClass_of_methodNamed B.named
  subst hsz
  have hD := hD0.self (sz := s.heap.size)
  have hl := lv_entry (.ref h0 :: as) hlen
  have hA : ∀ q : Nat, s.heap.size ≤ q → va_A (mW h0 h1 h2 cI cL u) s.heap.size q := fun q h => Or.inr h
  have k := body p e s m below meth c _ (va_A (mW h0 h1 h2 cI cL u) s.heap.size) B.exec B.bytes B.returns B.notSynchronized hml hown hts hA hP hD hK htb va_S.rf hl
  rw [lg_entry_eq]
  exact k
theorem mg_i {p : Program} {l : Launch} {e : Env} {R : Room} {s : State} {m : MethodId} {args : Array Value} {below : List Frame} {meth : Method} {c : Code} {H : Heap} {locs : List Loc} {cells slots : Nat} {Q : State → Prop} {dC : Nat → ClassId} {dI : Nat → Nat → Nat} {h0 h1 h2 : Nat} {cI cL : ClassId} {A : Nat → Prop}
    {y : MethodName} {bytes cc : ByteArray} {maxL nL index : Nat} {ret : Option FieldType} {ws ws' : List Cond} {rm : Room} {Ts : List Cond} {own : String} {As rest : List Value} {pc : Nat} {ls : Array Slot} {st0 : List Value} {u w : MS} {v : Int32} {ws0 wr : va_W}
    (S : CallFix p m c cc nL s args Ts own) (hM : Met l y ws rm (va_Pc (.ref h0 :: As) (mPre dC dI h0 h1 h2 cI cL H.size u)) (mQi dC dI h0 h1 h2 cI cL (va_A (mW h0 h1 h2 cI cL u) H.size) v w) 0 0 (va_A (mW h0 h1 h2 cI cL u) H.size)) (n : Nat) (hT : GoodIn Ts (wsV own index RX1 y ws)) (hw : ws = Cond.code y bytes maxL ret :: ws') (hrc : rm.cells = 0) (hrs : rm.slots = 0)
    (hd : y.cls = RX1 ∧ y.cls ≠ "java/lang/invoke/MethodHandle" ∧ y.cls ≠ "java/lang/invoke/VarHandle" ∧ (parseMethodDescriptor y.desc).map (fun d => d.parameters.length) = some n) (hR : rm.frames + 1 ≤ R.frames ∧ 24 + (maxL + 11) + rm.locals ≤ R.locals)
    (hP : va_P (dC, dI) vwCl ws0 H) (hD : va_D A ws0) (hK : va_K (dC, dI) vwCl (mT cI cL) s) (hS : va_S A s.heap H locs) (hA : ∀ q, s.heap.size ≤ q → A q) (htb : tbS "FixedPlaneModel" A s s.heap)
    (isC isR : List Nat) (hC : isC.map (fun i => ws0[i]?) = (mW h0 h1 h2 cI cL u).map some) (hC2 : isC.filterMap (fun i => ws0[i]?) = mW h0 h1 h2 cI cL u) (hnC : va_nd isC = true) (hRr : isR.map (fun i => ws0[i]?) = wr.map some) (hnd : va_nd isR = true) (hdis : ∀ i ∈ isR, i ∉ isC)
    (hn : As.length = n) (hsize : ls.size = nL) (hstack : st0 = As.reverse ++ .ref h0 :: rest) (hW : (rest.map fun v => v.category).sum ≤ 24) (hdg : decode cc pc = .ok (.invokevirtual index, 3)) (hf : cells ≤ R.cells ∧ slots ≤ R.slots)
    (kk : ∀ (H1 : Heap) (locs1 : List Loc), va_P (dC, dI) vwCl (wr ++ mW h0 h1 h2 cI cL w) H1 → va_D A (wr ++ mW h0 h1 h2 cI cL w) → va_S A s.heap H1 locs1 → W p l e R s m args below meth c H1 locs1 cells slots Q (F0 m (pc + 3) ls (.int v :: rest))) : W p l e R s m args below meth c H locs cells slots Q (F0 m pc ls st0) := by
  have hFc := va_free (wc := mW h0 h1 h2 cI cL u) hD hS hA isC hC
  have hPc := hP.sub (ws' := mW h0 h1 h2 cI cL u) isC hC2
  have hDc := hD.sub (ws' := mW h0 h1 h2 cI cL u) isC hnC hC
  refine va_calli (pu_runV S hM n hT hw hrc hrs hd hR ⟨fun a U g mk q => ⟨q.1, q.2.1, q.2.2.1, va_K.moved (u := U) (U := U.calling g mk a) (Vm.Alike.refl U.vm) q.2.2.2.1, q.2.2.2.2.1, tbS.moved (u := U) (U := U.calling g mk a) (Vm.Alike.refl U.vm) q.2.2.2.2.2⟩, va_recv hK hPc (ci := 1) (q0 := 0) rfl rfl, fun U hU hWm => ⟨rfl, by rw [hU], by rw [hU]; exact hPc, va_K.moved hWm.alike hK, hDc.weaken (fun _ _ _ _ => trivial), by rw [hU]; exact ((htb.kept (fun a h1 h2 => hS.2.1 a h1 h2)).moved hWm.alike).narrow hFc⟩⟩ (g := F0 m pc ls st0) rfl hn hsize hstack (by show 2 * 0 + _ ≤ 24; omega) hdg hf) hS (fun q _ h => hFc q h) hFc (fun r z t H1 locs1 ht hvm hw2 hB hz1 hk1 hS1 => ?_)
  obtain ⟨rfl, rfl⟩ := hw2
  obtain ⟨hP1, hK1, hD1⟩ := hB
  rw [ht] at hP1
  obtain ⟨hP2, hD2⟩ := va_join (wr := wr) (w1 := mW h0 h1 h2 cI cL z) hP hD isC isR hC hRr hnd hdis hk1 hFc hP1 hD1
  exact kk H1 locs1 hP2 hD2 hS1
theorem mc_i {p : Program} {l : Launch} {e : Env} {R : Room} {s : State} {m : MethodId} {args : Array Value} {below : List Frame} {meth : Method} {c : Code} {H : Heap} {locs : List Loc} {cells slots : Nat} {Q : State → Prop} {dC : Nat → ClassId} {dI : Nat → Nat → Nat} {h0 h1 h2 : Nat} {cI cL : ClassId} {A : Nat → Prop}
    {y : MethodName} {bytes cc : ByteArray} {maxL nL index : Nat} {ret : Option FieldType} {ws ws' : List Cond} {rm : Room} {Ts : List Cond} {own : String} {As rest : List Value} {pc : Nat} {ls : Array Slot} {st0 : List Value} {u w : MS} {v : Int32}
    (S : CallFix p m c cc nL s args Ts own) (hM : Met l y ws rm (va_Pc (.ref h0 :: As) (mPre dC dI h0 h1 h2 cI cL H.size u)) (mQi dC dI h0 h1 h2 cI cL (va_A (mW h0 h1 h2 cI cL u) H.size) v w) 0 0 (va_A (mW h0 h1 h2 cI cL u) H.size)) (n : Nat) (hT : GoodIn Ts (wsV own index RX1 y ws)) (hw : ws = Cond.code y bytes maxL ret :: ws') (hrc : rm.cells = 0) (hrs : rm.slots = 0)
    (hd : y.cls = RX1 ∧ y.cls ≠ "java/lang/invoke/MethodHandle" ∧ y.cls ≠ "java/lang/invoke/VarHandle" ∧ (parseMethodDescriptor y.desc).map (fun d => d.parameters.length) = some n) (hR : rm.frames + 1 ≤ R.frames ∧ 24 + (maxL + 11) + rm.locals ≤ R.locals)
    (hP : va_P (dC, dI) vwCl (mW h0 h1 h2 cI cL u) H) (hD : va_D A (mW h0 h1 h2 cI cL u)) (hK : va_K (dC, dI) vwCl (mT cI cL) s) (hS : va_S A s.heap H locs) (hA : ∀ q, s.heap.size ≤ q → A q) (htb : tbS "FixedPlaneModel" A s s.heap)
    (hn : As.length = n) (hsize : ls.size = nL) (hstack : st0 = As.reverse ++ .ref h0 :: rest) (hW : (rest.map fun v => v.category).sum ≤ 24) (hdg : decode cc pc = .ok (.invokevirtual index, 3)) (hf : cells ≤ R.cells ∧ slots ≤ R.slots)
    (kk : ∀ (H1 : Heap) (locs1 : List Loc), va_P (dC, dI) vwCl (mW h0 h1 h2 cI cL w) H1 → va_D A (mW h0 h1 h2 cI cL w) → va_S A s.heap H1 locs1 → W p l e R s m args below meth c H1 locs1 cells slots Q (F0 m (pc + 3) ls (.int v :: rest))) : W p l e R s m args below meth c H locs cells slots Q (F0 m pc ls st0) :=
  mg_i (wr := []) S hM n hT hw hrc hrs hd hR hP hD hK hS hA htb [0, 1, 2] [] rfl rfl rfl rfl rfl (fun i h => by cases h) hn hsize hstack hW hdg hf kk
theorem m_headl {l : Launch} {y : MethodName} {ws ws' : List Cond} {rm : Room} {cc : ByteArray} {maxL : Nat} {ret : Option FieldType} {as : List Value} {dC : Nat → ClassId} {dI : Nat → Nat → Nat} {h0 h1 h2 : Nat} {cI cL : ClassId} {sz : Nat} {u w : MS} {v : Int64} (hy : plainName y.cls = true) (hyc : y.cls = RX1) (hw : ws = Cond.code y cc maxL ret :: ws') (hlen : (lg_sl (.ref h0 :: as)).length ≤ maxL)
    (body : ∀ (p : Program) (e : Env) (s : State) (m : MethodId) (below : List Frame) (meth : Method) (c : Code) (ls : Array Slot) (A : Nat → Prop), p.tables.exec = Jvm.exec → c.code = cc → meth.sig.returnType = ret → meth.locks = false → c.maxLocals = maxL → s.vm.findClass RX1 = some m.cls → (∀ w ∈ ws, w.before (Value.ref h0 :: as).toArray s = true) → (∀ q, s.heap.size ≤ q → A q) → va_P (dC, dI) vwCl (mW h0 h1 h2 cI cL u) s.heap → va_D A (mW h0 h1 h2 cI cL u) → va_K (dC, dI) vwCl (mT cI cL) s → tbS "FixedPlaneModel" A s s.heap → va_S A s.heap s.heap [] → lv_has ls maxL (lv_args 0 (.ref h0 :: as)) →
      W p l e (headSpec ws rm).room s m (Value.ref h0 :: as).toArray below meth c s.heap [] 0 0 (MQ below (mQl dC dI h0 h1 h2 cI cL A v w) (Value.ref h0 :: as).toArray s 0 0 A) (F0 m 0 ls [])) : Met l y ws rm (va_Pc (.ref h0 :: as) (mPre dC dI h0 h1 h2 cI cL sz u)) (mQl dC dI h0 h1 h2 cI cL (va_A (mW h0 h1 h2 cI cL u) sz) v w) 0 0 (va_A (mW h0 h1 h2 cI cL u) sz) := by
  refine Met.ofW (cc := cc) (maxL := maxL) (ret := ret) hy hw ?_
  intro p e s m args below meth c s₁ B hml hv
  obtain ⟨rfl, hsz, hP, hK, hD0, htb⟩ := hv
  have hts := atoms_spec (ws := ws) B.pre
  have hown : s.vm.findClass RX1 = some m.cls := hyc ▸ findClass_of_methodNamed B.named
  subst hsz
  have hD := hD0.self (sz := s.heap.size)
  have hl := lv_entry (.ref h0 :: as) hlen
  have hA : ∀ q : Nat, s.heap.size ≤ q → va_A (mW h0 h1 h2 cI cL u) s.heap.size q := fun q h => Or.inr h
  have k := body p e s m below meth c _ (va_A (mW h0 h1 h2 cI cL u) s.heap.size) B.exec B.bytes B.returns B.notSynchronized hml hown hts hA hP hD hK htb va_S.rf hl
  rw [lg_entry_eq]
  exact k
theorem mg_l {p : Program} {l : Launch} {e : Env} {R : Room} {s : State} {m : MethodId} {args : Array Value} {below : List Frame} {meth : Method} {c : Code} {H : Heap} {locs : List Loc} {cells slots : Nat} {Q : State → Prop} {dC : Nat → ClassId} {dI : Nat → Nat → Nat} {h0 h1 h2 : Nat} {cI cL : ClassId} {A : Nat → Prop}
    {y : MethodName} {bytes cc : ByteArray} {maxL nL index : Nat} {ret : Option FieldType} {ws ws' : List Cond} {rm : Room} {Ts : List Cond} {own : String} {As rest : List Value} {pc : Nat} {ls : Array Slot} {st0 : List Value} {u w : MS} {v : Int64} {ws0 wr : va_W}
    (S : CallFix p m c cc nL s args Ts own) (hM : Met l y ws rm (va_Pc (.ref h0 :: As) (mPre dC dI h0 h1 h2 cI cL H.size u)) (mQl dC dI h0 h1 h2 cI cL (va_A (mW h0 h1 h2 cI cL u) H.size) v w) 0 0 (va_A (mW h0 h1 h2 cI cL u) H.size)) (n : Nat) (hT : GoodIn Ts (wsV own index RX1 y ws)) (hw : ws = Cond.code y bytes maxL ret :: ws') (hrc : rm.cells = 0) (hrs : rm.slots = 0)
    (hd : y.cls = RX1 ∧ y.cls ≠ "java/lang/invoke/MethodHandle" ∧ y.cls ≠ "java/lang/invoke/VarHandle" ∧ (parseMethodDescriptor y.desc).map (fun d => d.parameters.length) = some n) (hR : rm.frames + 1 ≤ R.frames ∧ 24 + (maxL + 11) + rm.locals ≤ R.locals)
    (hP : va_P (dC, dI) vwCl ws0 H) (hD : va_D A ws0) (hK : va_K (dC, dI) vwCl (mT cI cL) s) (hS : va_S A s.heap H locs) (hA : ∀ q, s.heap.size ≤ q → A q) (htb : tbS "FixedPlaneModel" A s s.heap)
    (isC isR : List Nat) (hC : isC.map (fun i => ws0[i]?) = (mW h0 h1 h2 cI cL u).map some) (hC2 : isC.filterMap (fun i => ws0[i]?) = mW h0 h1 h2 cI cL u) (hnC : va_nd isC = true) (hRr : isR.map (fun i => ws0[i]?) = wr.map some) (hnd : va_nd isR = true) (hdis : ∀ i ∈ isR, i ∉ isC)
    (hn : As.length = n) (hsize : ls.size = nL) (hstack : st0 = As.reverse ++ .ref h0 :: rest) (hW : (rest.map fun v => v.category).sum ≤ 24) (hdg : decode cc pc = .ok (.invokevirtual index, 3)) (hf : cells ≤ R.cells ∧ slots ≤ R.slots)
    (kk : ∀ (H1 : Heap) (locs1 : List Loc), va_P (dC, dI) vwCl (wr ++ mW h0 h1 h2 cI cL w) H1 → va_D A (wr ++ mW h0 h1 h2 cI cL w) → va_S A s.heap H1 locs1 → W p l e R s m args below meth c H1 locs1 cells slots Q (F0 m (pc + 3) ls (.long v :: rest))) : W p l e R s m args below meth c H locs cells slots Q (F0 m pc ls st0) := by
  have hFc := va_free (wc := mW h0 h1 h2 cI cL u) hD hS hA isC hC
  have hPc := hP.sub (ws' := mW h0 h1 h2 cI cL u) isC hC2
  have hDc := hD.sub (ws' := mW h0 h1 h2 cI cL u) isC hnC hC
  refine va_calll (pu_runV S hM n hT hw hrc hrs hd hR ⟨fun a U g mk q => ⟨q.1, q.2.1, q.2.2.1, va_K.moved (u := U) (U := U.calling g mk a) (Vm.Alike.refl U.vm) q.2.2.2.1, q.2.2.2.2.1, tbS.moved (u := U) (U := U.calling g mk a) (Vm.Alike.refl U.vm) q.2.2.2.2.2⟩, va_recv hK hPc (ci := 1) (q0 := 0) rfl rfl, fun U hU hWm => ⟨rfl, by rw [hU], by rw [hU]; exact hPc, va_K.moved hWm.alike hK, hDc.weaken (fun _ _ _ _ => trivial), by rw [hU]; exact ((htb.kept (fun a h1 h2 => hS.2.1 a h1 h2)).moved hWm.alike).narrow hFc⟩⟩ (g := F0 m pc ls st0) rfl hn hsize hstack (by show 2 * 0 + _ ≤ 24; omega) hdg hf) hS (fun q _ h => hFc q h) hFc (fun r z t H1 locs1 ht hvm hw2 hB hz1 hk1 hS1 => ?_)
  obtain ⟨rfl, rfl⟩ := hw2
  obtain ⟨hP1, hK1, hD1⟩ := hB
  rw [ht] at hP1
  obtain ⟨hP2, hD2⟩ := va_join (wr := wr) (w1 := mW h0 h1 h2 cI cL z) hP hD isC isR hC hRr hnd hdis hk1 hFc hP1 hD1
  exact kk H1 locs1 hP2 hD2 hS1
theorem mc_l {p : Program} {l : Launch} {e : Env} {R : Room} {s : State} {m : MethodId} {args : Array Value} {below : List Frame} {meth : Method} {c : Code} {H : Heap} {locs : List Loc} {cells slots : Nat} {Q : State → Prop} {dC : Nat → ClassId} {dI : Nat → Nat → Nat} {h0 h1 h2 : Nat} {cI cL : ClassId} {A : Nat → Prop}
    {y : MethodName} {bytes cc : ByteArray} {maxL nL index : Nat} {ret : Option FieldType} {ws ws' : List Cond} {rm : Room} {Ts : List Cond} {own : String} {As rest : List Value} {pc : Nat} {ls : Array Slot} {st0 : List Value} {u w : MS} {v : Int64}
    (S : CallFix p m c cc nL s args Ts own) (hM : Met l y ws rm (va_Pc (.ref h0 :: As) (mPre dC dI h0 h1 h2 cI cL H.size u)) (mQl dC dI h0 h1 h2 cI cL (va_A (mW h0 h1 h2 cI cL u) H.size) v w) 0 0 (va_A (mW h0 h1 h2 cI cL u) H.size)) (n : Nat) (hT : GoodIn Ts (wsV own index RX1 y ws)) (hw : ws = Cond.code y bytes maxL ret :: ws') (hrc : rm.cells = 0) (hrs : rm.slots = 0)
    (hd : y.cls = RX1 ∧ y.cls ≠ "java/lang/invoke/MethodHandle" ∧ y.cls ≠ "java/lang/invoke/VarHandle" ∧ (parseMethodDescriptor y.desc).map (fun d => d.parameters.length) = some n) (hR : rm.frames + 1 ≤ R.frames ∧ 24 + (maxL + 11) + rm.locals ≤ R.locals)
    (hP : va_P (dC, dI) vwCl (mW h0 h1 h2 cI cL u) H) (hD : va_D A (mW h0 h1 h2 cI cL u)) (hK : va_K (dC, dI) vwCl (mT cI cL) s) (hS : va_S A s.heap H locs) (hA : ∀ q, s.heap.size ≤ q → A q) (htb : tbS "FixedPlaneModel" A s s.heap)
    (hn : As.length = n) (hsize : ls.size = nL) (hstack : st0 = As.reverse ++ .ref h0 :: rest) (hW : (rest.map fun v => v.category).sum ≤ 24) (hdg : decode cc pc = .ok (.invokevirtual index, 3)) (hf : cells ≤ R.cells ∧ slots ≤ R.slots)
    (kk : ∀ (H1 : Heap) (locs1 : List Loc), va_P (dC, dI) vwCl (mW h0 h1 h2 cI cL w) H1 → va_D A (mW h0 h1 h2 cI cL w) → va_S A s.heap H1 locs1 → W p l e R s m args below meth c H1 locs1 cells slots Q (F0 m (pc + 3) ls (.long v :: rest))) : W p l e R s m args below meth c H locs cells slots Q (F0 m pc ls st0) :=
  mg_l (wr := []) S hM n hT hw hrc hrs hd hR hP hD hK hS hA htb [0, 1, 2] [] rfl rfl rfl rfl rfl (fun i h => by cases h) hn hsize hstack hW hdg hf kk
theorem m_iret {p : Program} {l : Launch} {e : Env} {R : Room} {s : State} {m : MethodId} {args : Array Value} {below : List Frame} {meth : Method} {c : Code} {H : Heap} {locs : List Loc} {dC : Nat → ClassId} {dI : Nat → Nat → Nat} {h0 h1 h2 : Nat} {cI cL : ClassId} {A : Nat → Prop} {cc : ByteArray} {v v' : Int32} {w w' : MS} (hexec : p.tables.exec = Jvm.exec) (hb : c.code = cc) (hr : meth.sig.returnType = some .int) (hlocks : meth.locks = false) (hP : va_P (dC, dI) vwCl (mW h0 h1 h2 cI cL w') H) (hD : va_D A (mW h0 h1 h2 cI cL w')) (hK : va_K (dC, dI) vwCl (mT cI cL) s) (hS : va_S A s.heap H locs) {pc : Nat} {ls : Array Slot} (hdg : decode cc pc = .ok (.ireturn, 1)) (he : v' = v ∧ w' = w) : W p l e R s m args below meth c H locs 0 0 (MQ below (mQi dC dI h0 h1 h2 cI cL A v w) args s 0 0 A) (F0 m pc ls [.int v']) :=
  W.iret (v := v') hexec hb hr (fun t ht hW => ⟨⟨v', w', rfl, he, by rw [ht]; exact hP, va_K.moved hW.alike hK, hD⟩, hS.F ht⟩) hS.2.2 hdg hlocks
theorem m_lret {p : Program} {l : Launch} {e : Env} {R : Room} {s : State} {m : MethodId} {args : Array Value} {below : List Frame} {meth : Method} {c : Code} {H : Heap} {locs : List Loc} {dC : Nat → ClassId} {dI : Nat → Nat → Nat} {h0 h1 h2 : Nat} {cI cL : ClassId} {A : Nat → Prop} {cc : ByteArray} {v v' : Int64} {w w' : MS} (hexec : p.tables.exec = Jvm.exec) (hb : c.code = cc) (hr : meth.sig.returnType = some .long) (hlocks : meth.locks = false) (hP : va_P (dC, dI) vwCl (mW h0 h1 h2 cI cL w') H) (hD : va_D A (mW h0 h1 h2 cI cL w')) (hK : va_K (dC, dI) vwCl (mT cI cL) s) (hS : va_S A s.heap H locs) {pc : Nat} {ls : Array Slot} (hdg : decode cc pc = .ok (.lreturn, 1)) (he : v' = v ∧ w' = w) : W p l e R s m args below meth c H locs 0 0 (MQ below (mQl dC dI h0 h1 h2 cI cL A v w) args s 0 0 A) (F0 m pc ls [.long v']) :=
  W.lret (v := v') hexec hb hr (fun t ht hW => ⟨⟨v', w', rfl, he, by rw [ht]; exact hP, va_K.moved hW.alike hK, hD⟩, hS.F ht⟩) hS.2.2 hdg hlocks
theorem m_zret {p : Program} {l : Launch} {e : Env} {R : Room} {s : State} {m : MethodId} {args : Array Value} {below : List Frame} {meth : Method} {c : Code} {H : Heap} {locs : List Loc} {dC : Nat → ClassId} {dI : Nat → Nat → Nat} {h0 h1 h2 : Nat} {cI cL : ClassId} {A : Nat → Prop} {cc : ByteArray} {v v' : Int32} {w w' : MS} (hexec : p.tables.exec = Jvm.exec) (hb : c.code = cc) (hr : meth.sig.returnType = some .boolean) (hlocks : meth.locks = false) (hP : va_P (dC, dI) vwCl (mW h0 h1 h2 cI cL w') H) (hD : va_D A (mW h0 h1 h2 cI cL w')) (hK : va_K (dC, dI) vwCl (mT cI cL) s) (hS : va_S A s.heap H locs) {pc : Nat} {ls : Array Slot} (hdg : decode cc pc = .ok (.ireturn, 1)) (hn : narrow .boolean (.int v') = .int v') (he : v' = v ∧ w' = w) : W p l e R s m args below meth c H locs 0 0 (MQ below (mQi dC dI h0 h1 h2 cI cL A v w) args s 0 0 A) (F0 m pc ls [.int v']) :=
  W.zret (v := v') (ty := .boolean) hexec hb hr hn (fun t ht hW => ⟨⟨v', w', rfl, he, by rw [ht]; exact hP, va_K.moved hW.alike hK, hD⟩, hS.F ht⟩) hS.2.2 hdg hlocks
section PM1
variable {p : Program} {l : Launch} {e : Env} {R : Room} {s : State} {m : MethodId} {args : Array Value} {below : List Frame} {meth : Method} {c : Code} {H : Heap} {locs : List Loc} {cells slots : Nat} {Q : State → Prop}
variable {cc : ByteArray} {pc : Nat} {ls : Array Slot} {rest : List Value} {D : va_G} {cl : List vw_C} {a : Nat} {tys : List (ClassId × FieldType)} {ws : va_W}
theorem pm_iald (hexec : p.tables.exec = Jvm.exec) (hb : c.code = cc) (hK : va_K D cl tys s) (hP : va_P D cl ws H) (q0 t0 : Nat) {cA : ClassId} {n : Nat} {f : Nat → Int32} (ha : ws[q0]? = some (a, .inl (cA, n, .inl f))) (ht : tys[t0]? = some (cA, .int)) {i v : Int32} (hin : vp_in i n) (hv : f i.toNatClampNeg = v) (hdg : decode cc pc = .ok (.iaload, 1))
    (kk : W p l e R s m args below meth c H locs cells slots Q (F0 m (pc + 1) ls (.int v :: rest))) : W p l e R s m args below meth c H locs cells slots Q (F0 m pc ls (.int i :: .ref a :: rest)) := by
  subst hv
  exact va_iald hexec hb hK hP q0 t0 ha ht hin hdg kk
theorem pm_lald (hexec : p.tables.exec = Jvm.exec) (hb : c.code = cc) (hK : va_K D cl tys s) (hP : va_P D cl ws H) (q0 t0 : Nat) {cA : ClassId} {n : Nat} {f : Nat → Int64} (ha : ws[q0]? = some (a, .inl (cA, n, .inr (.inl f)))) (ht : tys[t0]? = some (cA, .long)) {i : Int32} {v : Int64} (hin : vp_in i n) (hv : f i.toNatClampNeg = v) (hdg : decode cc pc = .ok (.laload, 1))
    (kk : W p l e R s m args below meth c H locs cells slots Q (F0 m (pc + 1) ls (.long v :: rest))) : W p l e R s m args below meth c H locs cells slots Q (F0 m pc ls (.int i :: .ref a :: rest)) := by
  subst hv
  exact va_lald hexec hb hK hP q0 t0 ha ht hin hdg kk
end PM1
end
section
theorem hdS_X0_isReal : yX0_isReal.cls ≠ "java/lang/invoke/MethodHandle" ∧ yX0_isReal.cls ≠ "java/lang/invoke/VarHandle" ∧ (parseMethodDescriptor yX0_isReal.desc).map (fun d => d.parameters.length) = some 1 := by decide +kernel
def f_X0_isReal (p0 : Int64) : Int32 := if p0 < (-2147483647) then (0) else (if 2147483647 < p0 then (0) else (1))
abbrev rm_X0_isReal : Room := { frames := 0, cells := 0, slots := 0, locals := 0 }
set_option maxHeartbeats 4000000 in
set_option maxRecDepth 100000 in
theorem cc_X0_isReal (l : Launch) (H0 : Heap) (p0 : Int64)   : Met l yX0_isReal wsX0_isReal rm_X0_isReal (pPc [.long p0] H0 (kN)) (pQi H0 (f_X0_isReal p0)) 0 0 (fun _ => False) := by
  refine pu_head (cc := cX0_isReal) (maxL := 2) (ret := some .boolean) (by decide +kernel) rfl (Nat.le_of_ble_eq_true rfl) ?_
  intro p e s m below meth c ls hx hb hr hlocks hml hown hts hs hk hl
  have hown : s.vm.findClass RX0 = some m.cls := hown
  have hl : lv_has ls 2 [(0, .long p0)] := hl
  refine lv_lload_n hx hb dX0_isReal_0 rfl (lv_at hl 0 rfl) ?_
  refine lv_ldc2 (v := (-2147483647)) hx hb hown (hts (.constantLong RX0 109 (-2147483647)) (by decide +kernel)) dX0_isReal_1 ?_
  refine pl_lt (tgt := 20) hx hb dX0_isReal_4 dX0_isReal_5 (by decide) (fun c_1 => ?_) (fun c_1 => ?_)
  · skip
    refine lv_iconst (v := 0) hx hb dX0_isReal_20 (by decide) ?_
    exact pu_zret hx hb hr hlocks hs dX0_isReal_21 rfl (by rw [f_X0_isReal, if_pos c_1])
  · skip
    refine lv_lload_n hx hb dX0_isReal_8 rfl (lv_at hl 0 rfl) ?_
    refine lv_ldc2 (v := 2147483647) hx hb hown (hts (.constantLong RX0 111 (2147483647)) (by decide +kernel)) dX0_isReal_9 ?_
    refine pl_gt (tgt := 20) hx hb dX0_isReal_12 dX0_isReal_13 (by decide) (fun c_2 => ?_) (fun c_2 => ?_)
    · skip
      refine lv_iconst (v := 0) hx hb dX0_isReal_20 (by decide) ?_
      exact pu_zret hx hb hr hlocks hs dX0_isReal_21 rfl (by rw [f_X0_isReal, if_neg c_1, if_pos c_2])
    · skip
      refine lv_iconst (v := 1) hx hb dX0_isReal_16 (by decide) ?_
      refine lv_goto (tgt := 21) hx hb dX0_isReal_17 (by decide) ?_
      exact pu_zret hx hb hr hlocks hs dX0_isReal_21 rfl (by rw [f_X0_isReal, if_neg c_1, if_neg c_2])
theorem hdS_X0_isValue : yX0_isValue.cls ≠ "java/lang/invoke/MethodHandle" ∧ yX0_isValue.cls ≠ "java/lang/invoke/VarHandle" ∧ (parseMethodDescriptor yX0_isValue.desc).map (fun d => d.parameters.length) = some 2 := by decide +kernel
def f_X0_isValue (p0 : Int32) (p1 : Int32) : Int32 := if p0 = 1 then (1) else (if p0 = 2 then (if (f_X0_isReal ((p1).toInt64)) = 0 then (0) else (1)) else (0))
abbrev rm_X0_isValue : Room := { frames := 1, cells := 0, slots := 0, locals := 37 }
set_option maxHeartbeats 4000000 in
set_option maxRecDepth 100000 in
theorem cc_X0_isValue (l : Launch) (H0 : Heap) (p0 : Int32) (p1 : Int32)   : Met l yX0_isValue wsX0_isValue rm_X0_isValue (pPc [.int p0, .int p1] H0 (kN)) (pQi H0 (f_X0_isValue p0 p1)) 0 0 (fun _ => False) := by
  refine pu_head (cc := cX0_isValue) (maxL := 2) (ret := some .boolean) (by decide +kernel) rfl (Nat.le_of_ble_eq_true rfl) ?_
  intro p e s m below meth c ls hx hb hr hlocks hml hown hts hs hk hl
  have hown : s.vm.findClass RX0 = some m.cls := hown
  have hl : lv_has ls 2 [(0, .int p0), (1, .int p1)] := hl
  refine lv_iload_n hx hb dX0_isValue_0 rfl (lv_at hl 0 rfl) ?_
  refine lv_iconst (v := 1) hx hb dX0_isValue_1 (by decide) ?_
  refine lv_icmp_eq (tgt := 18) hx hb dX0_isValue_2 (by decide) (fun c_1 => ?_) (fun c_1 => ?_)
  · skip
    refine lv_iconst (v := 1) hx hb dX0_isValue_18 (by decide) ?_
    refine lv_goto (tgt := 23) hx hb dX0_isValue_19 (by decide) ?_
    exact pu_zret hx hb hr hlocks hs dX0_isValue_23 rfl (by rw [f_X0_isValue, if_pos c_1])
  · skip
    refine lv_iload_n hx hb dX0_isValue_5 rfl (lv_at hl 0 rfl) ?_
    refine lv_iconst (v := 2) hx hb dX0_isValue_6 (by decide) ?_
    refine lv_icmp_ne (tgt := 22) hx hb dX0_isValue_7 (by decide) (fun c_2 => ?_) (fun c_2 => ?_)
    · skip
      refine lv_iconst (v := 0) hx hb dX0_isValue_22 (by decide) ?_
      exact pu_zret hx hb hr hlocks hs dX0_isValue_23 rfl (by rw [f_X0_isValue, if_neg c_1, if_neg c_2])
    · skip
      refine lv_iload_n hx hb dX0_isValue_10 rfl (lv_at hl 1 rfl) ?_
      refine lv_i2l (v := (p1).toInt64) hx hb dX0_isValue_11 rfl ?_
      refine pu_Si (As := [.long (p1).toInt64]) (rest := []) ⟨hx, hb, hml, hown, hts⟩ (cc_X0_isReal l H0 ((p1).toInt64)) 1 gX0_isValue_X0_isReal rfl rfl rfl hdS_X0_isReal ⟨Nat.le_of_ble_eq_true rfl, Nat.le_of_ble_eq_true rfl⟩ kN_ok kN_at rfl hl.1 rfl (Nat.le_of_ble_eq_true rfl) dX0_isValue_12 ⟨Nat.zero_le _, Nat.zero_le _⟩ ?_
      refine lv_if_eq (tgt := 22) hx hb dX0_isValue_15 (by decide) (fun c_3 => ?_) (fun c_3 => ?_)
      · skip
        refine lv_iconst (v := 0) hx hb dX0_isValue_22 (by decide) ?_
        exact pu_zret hx hb hr hlocks hs dX0_isValue_23 rfl (by rw [f_X0_isValue, if_neg c_1, if_pos c_2, if_pos c_3])
      · skip
        refine lv_iconst (v := 1) hx hb dX0_isValue_18 (by decide) ?_
        refine lv_goto (tgt := 23) hx hb dX0_isValue_19 (by decide) ?_
        exact pu_zret hx hb hr hlocks hs dX0_isValue_23 rfl (by rw [f_X0_isValue, if_neg c_1, if_pos c_2, if_neg c_3])
theorem hdS_X0_areReals : yX0_areReals.cls ≠ "java/lang/invoke/MethodHandle" ∧ yX0_areReals.cls ≠ "java/lang/invoke/VarHandle" ∧ (parseMethodDescriptor yX0_areReals.desc).map (fun d => d.parameters.length) = some 6 := by decide +kernel
def f_X0_areReals (p0 : Int64) (p1 : Int64) (p2 : Int64) (p3 : Int64) (p4 : Int64) (p5 : Int64) : Int32 := if (f_X0_isReal (p0)) = 0 then (0) else (if (f_X0_isReal (p1)) = 0 then (0) else (if (f_X0_isReal (p2)) = 0 then (0) else (if (f_X0_isReal (p3)) = 0 then (0) else (if (f_X0_isReal (p4)) = 0 then (0) else (if (f_X0_isReal (p5)) = 0 then (0) else (1))))))
abbrev rm_X0_areReals : Room := { frames := 1, cells := 0, slots := 0, locals := 37 }
set_option maxHeartbeats 4000000 in
set_option maxRecDepth 100000 in
theorem cc_X0_areReals (l : Launch) (H0 : Heap) (p0 : Int64) (p1 : Int64) (p2 : Int64) (p3 : Int64) (p4 : Int64) (p5 : Int64)   : Met l yX0_areReals wsX0_areReals rm_X0_areReals (pPc [.long p0, .long p1, .long p2, .long p3, .long p4, .long p5] H0 (kN)) (pQi H0 (f_X0_areReals p0 p1 p2 p3 p4 p5)) 0 0 (fun _ => False) := by
  refine pu_head (cc := cX0_areReals) (maxL := 12) (ret := some .boolean) (by decide +kernel) rfl (Nat.le_of_ble_eq_true rfl) ?_
  intro p e s m below meth c ls hx hb hr hlocks hml hown hts hs hk hl
  have hown : s.vm.findClass RX0 = some m.cls := hown
  have hl : lv_has ls 12 [(0, .long p0), (2, .long p1), (4, .long p2), (6, .long p3), (8, .long p4), (10, .long p5)] := hl
  refine lv_lload_n hx hb dX0_areReals_0 rfl (lv_at hl 0 rfl) ?_
  refine pu_Si (As := [.long p0]) (rest := []) ⟨hx, hb, hml, hown, hts⟩ (cc_X0_isReal l H0 (p0)) 1 gX0_areReals_X0_isReal rfl rfl rfl hdS_X0_isReal ⟨Nat.le_of_ble_eq_true rfl, Nat.le_of_ble_eq_true rfl⟩ kN_ok kN_at rfl hl.1 rfl (Nat.le_of_ble_eq_true rfl) dX0_areReals_1 ⟨Nat.zero_le _, Nat.zero_le _⟩ ?_
  refine lv_if_eq (tgt := 50) hx hb dX0_areReals_4 (by decide) (fun c_1 => ?_) (fun c_1 => ?_)
  · skip
    refine lv_iconst (v := 0) hx hb dX0_areReals_50 (by decide) ?_
    exact pu_zret hx hb hr hlocks hs dX0_areReals_51 rfl (by rw [f_X0_areReals, if_pos c_1])
  · skip
    refine lv_lload_n hx hb dX0_areReals_7 rfl (lv_at hl 1 rfl) ?_
    refine pu_Si (As := [.long p1]) (rest := []) ⟨hx, hb, hml, hown, hts⟩ (cc_X0_isReal l H0 (p1)) 1 gX0_areReals_X0_isReal rfl rfl rfl hdS_X0_isReal ⟨Nat.le_of_ble_eq_true rfl, Nat.le_of_ble_eq_true rfl⟩ kN_ok kN_at rfl hl.1 rfl (Nat.le_of_ble_eq_true rfl) dX0_areReals_8 ⟨Nat.zero_le _, Nat.zero_le _⟩ ?_
    refine lv_if_eq (tgt := 50) hx hb dX0_areReals_11 (by decide) (fun c_2 => ?_) (fun c_2 => ?_)
    · skip
      refine lv_iconst (v := 0) hx hb dX0_areReals_50 (by decide) ?_
      exact pu_zret hx hb hr hlocks hs dX0_areReals_51 rfl (by rw [f_X0_areReals, if_neg c_1, if_pos c_2])
    · skip
      refine lv_lload hx hb dX0_areReals_14 (lv_at hl 2 rfl) ?_
      refine pu_Si (As := [.long p2]) (rest := []) ⟨hx, hb, hml, hown, hts⟩ (cc_X0_isReal l H0 (p2)) 1 gX0_areReals_X0_isReal rfl rfl rfl hdS_X0_isReal ⟨Nat.le_of_ble_eq_true rfl, Nat.le_of_ble_eq_true rfl⟩ kN_ok kN_at rfl hl.1 rfl (Nat.le_of_ble_eq_true rfl) dX0_areReals_16 ⟨Nat.zero_le _, Nat.zero_le _⟩ ?_
      refine lv_if_eq (tgt := 50) hx hb dX0_areReals_19 (by decide) (fun c_3 => ?_) (fun c_3 => ?_)
      · skip
        refine lv_iconst (v := 0) hx hb dX0_areReals_50 (by decide) ?_
        exact pu_zret hx hb hr hlocks hs dX0_areReals_51 rfl (by rw [f_X0_areReals, if_neg c_1, if_neg c_2, if_pos c_3])
      · skip
        refine lv_lload hx hb dX0_areReals_22 (lv_at hl 3 rfl) ?_
        refine pu_Si (As := [.long p3]) (rest := []) ⟨hx, hb, hml, hown, hts⟩ (cc_X0_isReal l H0 (p3)) 1 gX0_areReals_X0_isReal rfl rfl rfl hdS_X0_isReal ⟨Nat.le_of_ble_eq_true rfl, Nat.le_of_ble_eq_true rfl⟩ kN_ok kN_at rfl hl.1 rfl (Nat.le_of_ble_eq_true rfl) dX0_areReals_24 ⟨Nat.zero_le _, Nat.zero_le _⟩ ?_
        refine lv_if_eq (tgt := 50) hx hb dX0_areReals_27 (by decide) (fun c_4 => ?_) (fun c_4 => ?_)
        · skip
          refine lv_iconst (v := 0) hx hb dX0_areReals_50 (by decide) ?_
          exact pu_zret hx hb hr hlocks hs dX0_areReals_51 rfl (by rw [f_X0_areReals, if_neg c_1, if_neg c_2, if_neg c_3, if_pos c_4])
        · skip
          refine lv_lload hx hb dX0_areReals_30 (lv_at hl 4 rfl) ?_
          refine pu_Si (As := [.long p4]) (rest := []) ⟨hx, hb, hml, hown, hts⟩ (cc_X0_isReal l H0 (p4)) 1 gX0_areReals_X0_isReal rfl rfl rfl hdS_X0_isReal ⟨Nat.le_of_ble_eq_true rfl, Nat.le_of_ble_eq_true rfl⟩ kN_ok kN_at rfl hl.1 rfl (Nat.le_of_ble_eq_true rfl) dX0_areReals_32 ⟨Nat.zero_le _, Nat.zero_le _⟩ ?_
          refine lv_if_eq (tgt := 50) hx hb dX0_areReals_35 (by decide) (fun c_5 => ?_) (fun c_5 => ?_)
          · skip
            refine lv_iconst (v := 0) hx hb dX0_areReals_50 (by decide) ?_
            exact pu_zret hx hb hr hlocks hs dX0_areReals_51 rfl (by rw [f_X0_areReals, if_neg c_1, if_neg c_2, if_neg c_3, if_neg c_4, if_pos c_5])
          · skip
            refine lv_lload hx hb dX0_areReals_38 (lv_at hl 5 rfl) ?_
            refine pu_Si (As := [.long p5]) (rest := []) ⟨hx, hb, hml, hown, hts⟩ (cc_X0_isReal l H0 (p5)) 1 gX0_areReals_X0_isReal rfl rfl rfl hdS_X0_isReal ⟨Nat.le_of_ble_eq_true rfl, Nat.le_of_ble_eq_true rfl⟩ kN_ok kN_at rfl hl.1 rfl (Nat.le_of_ble_eq_true rfl) dX0_areReals_40 ⟨Nat.zero_le _, Nat.zero_le _⟩ ?_
            refine lv_if_eq (tgt := 50) hx hb dX0_areReals_43 (by decide) (fun c_6 => ?_) (fun c_6 => ?_)
            · skip
              refine lv_iconst (v := 0) hx hb dX0_areReals_50 (by decide) ?_
              exact pu_zret hx hb hr hlocks hs dX0_areReals_51 rfl (by rw [f_X0_areReals, if_neg c_1, if_neg c_2, if_neg c_3, if_neg c_4, if_neg c_5, if_pos c_6])
            · skip
              refine lv_iconst (v := 1) hx hb dX0_areReals_46 (by decide) ?_
              refine lv_goto (tgt := 51) hx hb dX0_areReals_47 (by decide) ?_
              exact pu_zret hx hb hr hlocks hs dX0_areReals_51 rfl (by rw [f_X0_areReals, if_neg c_1, if_neg c_2, if_neg c_3, if_neg c_4, if_neg c_5, if_neg c_6])
theorem hdS_X0_units : yX0_units.cls ≠ "java/lang/invoke/MethodHandle" ∧ yX0_units.cls ≠ "java/lang/invoke/VarHandle" ∧ (parseMethodDescriptor yX0_units.desc).map (fun d => d.parameters.length) = some 2 := by decide +kernel
def f_X0_units (p0 : Int32) (p1 : Int32) : Int64 := if p0 = 1 then (((p1).toInt64 * 65536)) else ((p1).toInt64)
abbrev rm_X0_units : Room := { frames := 0, cells := 0, slots := 0, locals := 0 }
set_option maxHeartbeats 4000000 in
set_option maxRecDepth 100000 in
theorem cc_X0_units (l : Launch) (H0 : Heap) (p0 : Int32) (p1 : Int32)   : Met l yX0_units wsX0_units rm_X0_units (pPc [.int p0, .int p1] H0 (kN)) (pQl H0 (f_X0_units p0 p1)) 0 0 (fun _ => False) := by
  refine pu_head (cc := cX0_units) (maxL := 2) (ret := some .long) (by decide +kernel) rfl (Nat.le_of_ble_eq_true rfl) ?_
  intro p e s m below meth c ls hx hb hr hlocks hml hown hts hs hk hl
  have hown : s.vm.findClass RX0 = some m.cls := hown
  have hl : lv_has ls 2 [(0, .int p0), (1, .int p1)] := hl
  refine lv_iload_n hx hb dX0_units_0 rfl (lv_at hl 0 rfl) ?_
  refine lv_iconst (v := 1) hx hb dX0_units_1 (by decide) ?_
  refine lv_icmp_ne (tgt := 14) hx hb dX0_units_2 (by decide) (fun c_1 => ?_) (fun c_1 => ?_)
  · skip
    refine lv_iload_n hx hb dX0_units_14 rfl (lv_at hl 1 rfl) ?_
    refine lv_i2l (v := (p1).toInt64) hx hb dX0_units_15 rfl ?_
    exact pu_lret hx hb hr hlocks hs dX0_units_16 (by rw [f_X0_units, if_neg c_1])
  · skip
    refine lv_iload_n hx hb dX0_units_5 rfl (lv_at hl 1 rfl) ?_
    refine lv_i2l (v := (p1).toInt64) hx hb dX0_units_6 rfl ?_
    refine lv_ldc2 (v := 65536) hx hb hown (hts (.constantLong RX0 97 (65536)) (by decide +kernel)) dX0_units_7 ?_
    refine lv_lmul hx hb dX0_units_10 ?_
    refine lv_goto (tgt := 16) hx hb dX0_units_11 (by decide) ?_
    exact pu_lret hx hb hr hlocks hs dX0_units_16 (by rw [f_X0_units, if_pos c_1])
theorem hdS_X0_isForWholesAlone : yX0_isForWholesAlone.cls ≠ "java/lang/invoke/MethodHandle" ∧ yX0_isForWholesAlone.cls ≠ "java/lang/invoke/VarHandle" ∧ (parseMethodDescriptor yX0_isForWholesAlone.desc).map (fun d => d.parameters.length) = some 1 := by decide +kernel
def f_X0_isForWholesAlone (p0 : Int32) : Int32 := if p0 = 4 then (1) else (if p0 = 5 then (1) else (if p0 < 7 then (0) else (1)))
abbrev rm_X0_isForWholesAlone : Room := { frames := 0, cells := 0, slots := 0, locals := 0 }
set_option maxHeartbeats 4000000 in
set_option maxRecDepth 100000 in
theorem cc_X0_isForWholesAlone (l : Launch) (H0 : Heap) (p0 : Int32)   : Met l yX0_isForWholesAlone wsX0_isForWholesAlone rm_X0_isForWholesAlone (pPc [.int p0] H0 (kN)) (pQi H0 (f_X0_isForWholesAlone p0)) 0 0 (fun _ => False) := by
  refine pu_head (cc := cX0_isForWholesAlone) (maxL := 1) (ret := some .boolean) (by decide +kernel) rfl (Nat.le_of_ble_eq_true rfl) ?_
  intro p e s m below meth c ls hx hb hr hlocks hml hown hts hs hk hl
  have hown : s.vm.findClass RX0 = some m.cls := hown
  have hl : lv_has ls 1 [(0, .int p0)] := hl
  refine lv_iload_n hx hb dX0_isForWholesAlone_0 rfl (lv_at hl 0 rfl) ?_
  refine lv_iconst (v := 4) hx hb dX0_isForWholesAlone_1 (by decide) ?_
  refine lv_icmp_eq (tgt := 16) hx hb dX0_isForWholesAlone_2 (by decide) (fun c_1 => ?_) (fun c_1 => ?_)
  · skip
    refine lv_iconst (v := 1) hx hb dX0_isForWholesAlone_16 (by decide) ?_
    refine lv_goto (tgt := 21) hx hb dX0_isForWholesAlone_17 (by decide) ?_
    exact pu_zret hx hb hr hlocks hs dX0_isForWholesAlone_21 rfl (by rw [f_X0_isForWholesAlone, if_pos c_1])
  · skip
    refine lv_iload_n hx hb dX0_isForWholesAlone_5 rfl (lv_at hl 0 rfl) ?_
    refine lv_iconst (v := 5) hx hb dX0_isForWholesAlone_6 (by decide) ?_
    refine lv_icmp_eq (tgt := 16) hx hb dX0_isForWholesAlone_7 (by decide) (fun c_2 => ?_) (fun c_2 => ?_)
    · skip
      refine lv_iconst (v := 1) hx hb dX0_isForWholesAlone_16 (by decide) ?_
      refine lv_goto (tgt := 21) hx hb dX0_isForWholesAlone_17 (by decide) ?_
      exact pu_zret hx hb hr hlocks hs dX0_isForWholesAlone_21 rfl (by rw [f_X0_isForWholesAlone, if_neg c_1, if_pos c_2])
    · skip
      refine lv_iload_n hx hb dX0_isForWholesAlone_10 rfl (lv_at hl 0 rfl) ?_
      refine lv_bipush (v := 7) hx hb dX0_isForWholesAlone_11 (by decide) ?_
      refine lv_icmp_lt (tgt := 20) hx hb dX0_isForWholesAlone_13 (by decide) (fun c_3 => ?_) (fun c_3 => ?_)
      · skip
        refine lv_iconst (v := 0) hx hb dX0_isForWholesAlone_20 (by decide) ?_
        exact pu_zret hx hb hr hlocks hs dX0_isForWholesAlone_21 rfl (by rw [f_X0_isForWholesAlone, if_neg c_1, if_neg c_2, if_pos c_3])
      · skip
        refine lv_iconst (v := 1) hx hb dX0_isForWholesAlone_16 (by decide) ?_
        refine lv_goto (tgt := 21) hx hb dX0_isForWholesAlone_17 (by decide) ?_
        exact pu_zret hx hb hr hlocks hs dX0_isForWholesAlone_21 rfl (by rw [f_X0_isForWholesAlone, if_neg c_1, if_neg c_2, if_neg c_3])
theorem hdS_X0_isAsAReal : yX0_isAsAReal.cls ≠ "java/lang/invoke/MethodHandle" ∧ yX0_isAsAReal.cls ≠ "java/lang/invoke/VarHandle" ∧ (parseMethodDescriptor yX0_isAsAReal.desc).map (fun d => d.parameters.length) = some 1 := by decide +kernel
def f_X0_isAsAReal (p0 : Int32) : Int32 := if p0 = 6 then (1) else (if p0 = 7 then (1) else (if p0 = 8 then (1) else (if p0 = 10 then (1) else (0))))
abbrev rm_X0_isAsAReal : Room := { frames := 0, cells := 0, slots := 0, locals := 0 }
set_option maxHeartbeats 4000000 in
set_option maxRecDepth 100000 in
theorem cc_X0_isAsAReal (l : Launch) (H0 : Heap) (p0 : Int32)   : Met l yX0_isAsAReal wsX0_isAsAReal rm_X0_isAsAReal (pPc [.int p0] H0 (kN)) (pQi H0 (f_X0_isAsAReal p0)) 0 0 (fun _ => False) := by
  refine pu_head (cc := cX0_isAsAReal) (maxL := 1) (ret := some .boolean) (by decide +kernel) rfl (Nat.le_of_ble_eq_true rfl) ?_
  intro p e s m below meth c ls hx hb hr hlocks hml hown hts hs hk hl
  have hown : s.vm.findClass RX0 = some m.cls := hown
  have hl : lv_has ls 1 [(0, .int p0)] := hl
  refine lv_iload_n hx hb dX0_isAsAReal_0 rfl (lv_at hl 0 rfl) ?_
  refine lv_bipush (v := 6) hx hb dX0_isAsAReal_1 (by decide) ?_
  refine lv_icmp_eq (tgt := 24) hx hb dX0_isAsAReal_3 (by decide) (fun c_1 => ?_) (fun c_1 => ?_)
  · skip
    refine lv_iconst (v := 1) hx hb dX0_isAsAReal_24 (by decide) ?_
    refine lv_goto (tgt := 29) hx hb dX0_isAsAReal_25 (by decide) ?_
    exact pu_zret hx hb hr hlocks hs dX0_isAsAReal_29 rfl (by rw [f_X0_isAsAReal, if_pos c_1])
  · skip
    refine lv_iload_n hx hb dX0_isAsAReal_6 rfl (lv_at hl 0 rfl) ?_
    refine lv_bipush (v := 7) hx hb dX0_isAsAReal_7 (by decide) ?_
    refine lv_icmp_eq (tgt := 24) hx hb dX0_isAsAReal_9 (by decide) (fun c_2 => ?_) (fun c_2 => ?_)
    · skip
      refine lv_iconst (v := 1) hx hb dX0_isAsAReal_24 (by decide) ?_
      refine lv_goto (tgt := 29) hx hb dX0_isAsAReal_25 (by decide) ?_
      exact pu_zret hx hb hr hlocks hs dX0_isAsAReal_29 rfl (by rw [f_X0_isAsAReal, if_neg c_1, if_pos c_2])
    · skip
      refine lv_iload_n hx hb dX0_isAsAReal_12 rfl (lv_at hl 0 rfl) ?_
      refine lv_bipush (v := 8) hx hb dX0_isAsAReal_13 (by decide) ?_
      refine lv_icmp_eq (tgt := 24) hx hb dX0_isAsAReal_15 (by decide) (fun c_3 => ?_) (fun c_3 => ?_)
      · skip
        refine lv_iconst (v := 1) hx hb dX0_isAsAReal_24 (by decide) ?_
        refine lv_goto (tgt := 29) hx hb dX0_isAsAReal_25 (by decide) ?_
        exact pu_zret hx hb hr hlocks hs dX0_isAsAReal_29 rfl (by rw [f_X0_isAsAReal, if_neg c_1, if_neg c_2, if_pos c_3])
      · skip
        refine lv_iload_n hx hb dX0_isAsAReal_18 rfl (lv_at hl 0 rfl) ?_
        refine lv_bipush (v := 10) hx hb dX0_isAsAReal_19 (by decide) ?_
        refine lv_icmp_ne (tgt := 28) hx hb dX0_isAsAReal_21 (by decide) (fun c_4 => ?_) (fun c_4 => ?_)
        · skip
          refine lv_iconst (v := 0) hx hb dX0_isAsAReal_28 (by decide) ?_
          exact pu_zret hx hb hr hlocks hs dX0_isAsAReal_29 rfl (by rw [f_X0_isAsAReal, if_neg c_1, if_neg c_2, if_neg c_3, if_neg c_4])
        · skip
          refine lv_iconst (v := 1) hx hb dX0_isAsAReal_24 (by decide) ?_
          refine lv_goto (tgt := 29) hx hb dX0_isAsAReal_25 (by decide) ?_
          exact pu_zret hx hb hr hlocks hs dX0_isAsAReal_29 rfl (by rw [f_X0_isAsAReal, if_neg c_1, if_neg c_2, if_neg c_3, if_pos c_4])
theorem hdS_X0_shifted : yX0_shifted.cls ≠ "java/lang/invoke/MethodHandle" ∧ yX0_shifted.cls ≠ "java/lang/invoke/VarHandle" ∧ (parseMethodDescriptor yX0_shifted.desc).map (fun d => d.parameters.length) = some 2 := by decide +kernel
def f_X0_shifted (p0 : Int32) (p1 : Int32) : Int32 := if (-32) < p1 then (if p1 < 32 then (if p1 < 0 then (((p0).toUInt32 >>> (((-p1)).toUInt32 &&& Int32.toUInt32 31)).toInt32) else ((p0 <<< (p1 &&& 31)))) else (0)) else (0)
abbrev rm_X0_shifted : Room := { frames := 0, cells := 0, slots := 0, locals := 0 }
set_option maxHeartbeats 4000000 in
set_option maxRecDepth 100000 in
theorem cc_X0_shifted (l : Launch) (H0 : Heap) (p0 : Int32) (p1 : Int32)   : Met l yX0_shifted wsX0_shifted rm_X0_shifted (pPc [.int p0, .int p1] H0 (kN)) (pQi H0 (f_X0_shifted p0 p1)) 0 0 (fun _ => False) := by
  refine pu_head (cc := cX0_shifted) (maxL := 2) (ret := some .int) (by decide +kernel) rfl (Nat.le_of_ble_eq_true rfl) ?_
  intro p e s m below meth c ls hx hb hr hlocks hml hown hts hs hk hl
  have hown : s.vm.findClass RX0 = some m.cls := hown
  have hl : lv_has ls 2 [(0, .int p0), (1, .int p1)] := hl
  refine lv_iload_n hx hb dX0_shifted_0 rfl (lv_at hl 1 rfl) ?_
  refine lv_bipush (v := (-32)) hx hb dX0_shifted_1 (by decide) ?_
  refine pi_le (tgt := 12) hx hb dX0_shifted_3 (by decide) (fun c_1 => ?_) (fun c_1 => ?_)
  · skip
    refine lv_iconst (v := 0) hx hb dX0_shifted_12 (by decide) ?_
    exact pu_iret hx hb hr hlocks hs dX0_shifted_13 (by rw [f_X0_shifted, if_neg c_1])
  · skip
    refine lv_iload_n hx hb dX0_shifted_6 rfl (lv_at hl 1 rfl) ?_
    refine lv_bipush (v := 32) hx hb dX0_shifted_7 (by decide) ?_
    refine lv_icmp_lt (tgt := 14) hx hb dX0_shifted_9 (by decide) (fun c_2 => ?_) (fun c_2 => ?_)
    · skip
      refine lv_iload_n hx hb dX0_shifted_14 rfl (lv_at hl 1 rfl) ?_
      refine lv_if_lt (tgt := 24) hx hb dX0_shifted_15 (by decide) (fun c_3 => ?_) (fun c_3 => ?_)
      · skip
        refine lv_iload_n hx hb dX0_shifted_24 rfl (lv_at hl 0 rfl) ?_
        refine lv_iload_n hx hb dX0_shifted_25 rfl (lv_at hl 1 rfl) ?_
        refine lv_ineg hx hb dX0_shifted_26 ?_
        refine lv_iushr (v := ((p0).toUInt32 >>> (((-p1)).toUInt32 &&& Int32.toUInt32 31)).toInt32) hx hb dX0_shifted_27 rfl ?_
        exact pu_iret hx hb hr hlocks hs dX0_shifted_28 (by rw [f_X0_shifted, if_pos c_1, if_pos c_2, if_pos c_3])
      · skip
        refine lv_iload_n hx hb dX0_shifted_18 rfl (lv_at hl 0 rfl) ?_
        refine lv_iload_n hx hb dX0_shifted_19 rfl (lv_at hl 1 rfl) ?_
        refine lv_ishl hx hb dX0_shifted_20 ?_
        refine lv_goto (tgt := 28) hx hb dX0_shifted_21 (by decide) ?_
        exact pu_iret hx hb hr hlocks hs dX0_shifted_28 (by rw [f_X0_shifted, if_pos c_1, if_pos c_2, if_neg c_3])
    · skip
      refine lv_iconst (v := 0) hx hb dX0_shifted_12 (by decide) ?_
      exact pu_iret hx hb hr hlocks hs dX0_shifted_13 (by rw [f_X0_shifted, if_pos c_1, if_neg c_2])
theorem hdS_X0_floor : yX0_floor.cls ≠ "java/lang/invoke/MethodHandle" ∧ yX0_floor.cls ≠ "java/lang/invoke/VarHandle" ∧ (parseMethodDescriptor yX0_floor.desc).map (fun d => d.parameters.length) = some 1 := by decide +kernel
def f_X0_floor (p0 : Int64) : Int64 := ((p0 >>> ((16 : Int32).toInt64 &&& 63)) <<< ((16 : Int32).toInt64 &&& 63))
abbrev rm_X0_floor : Room := { frames := 0, cells := 0, slots := 0, locals := 0 }
set_option maxHeartbeats 4000000 in
set_option maxRecDepth 100000 in
theorem cc_X0_floor (l : Launch) (H0 : Heap) (p0 : Int64)   : Met l yX0_floor wsX0_floor rm_X0_floor (pPc [.long p0] H0 (kN)) (pQl H0 (f_X0_floor p0)) 0 0 (fun _ => False) := by
  refine pu_head (cc := cX0_floor) (maxL := 2) (ret := some .long) (by decide +kernel) rfl (Nat.le_of_ble_eq_true rfl) ?_
  intro p e s m below meth c ls hx hb hr hlocks hml hown hts hs hk hl
  have hown : s.vm.findClass RX0 = some m.cls := hown
  have hl : lv_has ls 2 [(0, .long p0)] := hl
  refine lv_lload_n hx hb dX0_floor_0 rfl (lv_at hl 0 rfl) ?_
  refine lv_bipush (v := 16) hx hb dX0_floor_1 (by decide) ?_
  refine lv_lshr (v := (p0 >>> ((16 : Int32).toInt64 &&& 63))) hx hb dX0_floor_3 rfl ?_
  refine lv_bipush (v := 16) hx hb dX0_floor_4 (by decide) ?_
  refine lv_lshl (v := ((p0 >>> ((16 : Int32).toInt64 &&& 63)) <<< ((16 : Int32).toInt64 &&& 63))) hx hb dX0_floor_6 rfl ?_
  exact pu_lret hx hb hr hlocks hs dX0_floor_7 (by rw [f_X0_floor])
theorem hdS_X0_cut : yX0_cut.cls ≠ "java/lang/invoke/MethodHandle" ∧ yX0_cut.cls ≠ "java/lang/invoke/VarHandle" ∧ (parseMethodDescriptor yX0_cut.desc).map (fun d => d.parameters.length) = some 2 := by decide +kernel
def f_X0_cut (p0 : Int32) (p1 : Int64) : Int64 := if p0 = 2 then ((f_X0_floor ((p1 + 65535)))) else (if p0 = 3 then ((f_X0_floor (p1))) else (if p0 = 4 then ((f_X0_floor ((p1 + 32768)))) else (((p1 / 65536) * 65536))))
abbrev rm_X0_cut : Room := { frames := 1, cells := 0, slots := 0, locals := 37 }
set_option maxHeartbeats 4000000 in
set_option maxRecDepth 100000 in
theorem cc_X0_cut (l : Launch) (H0 : Heap) (p0 : Int32) (p1 : Int64)   : Met l yX0_cut wsX0_cut rm_X0_cut (pPc [.int p0, .long p1] H0 (kN)) (pQl H0 (f_X0_cut p0 p1)) 0 0 (fun _ => False) := by
  refine pu_head (cc := cX0_cut) (maxL := 3) (ret := some .long) (by decide +kernel) rfl (Nat.le_of_ble_eq_true rfl) ?_
  intro p e s m below meth c ls hx hb hr hlocks hml hown hts hs hk hl
  have hown : s.vm.findClass RX0 = some m.cls := hown
  have hl : lv_has ls 3 [(0, .int p0), (1, .long p1)] := hl
  refine lv_iload_n hx hb dX0_cut_0 rfl (lv_at hl 0 rfl) ?_
  by_cases c_1 : p0 = 2
  · skip
    refine lv_tableIn (tgt := 28) (off := 27) hx hb dX0_cut_1 (by rw [c_1]; decide) (by rw [c_1]; decide) (by rw [c_1]; decide) (by decide) ?_
    refine lv_lload_n hx hb dX0_cut_28 rfl (lv_at hl 1 rfl) ?_
    refine lv_ldc2 (v := 65535) hx hb hown (hts (.constantLong RX0 141 (65535)) (by decide +kernel)) dX0_cut_29 ?_
    refine lv_ladd hx hb dX0_cut_32 ?_
    refine pu_Sl (As := [.long (p1 + 65535)]) (rest := []) ⟨hx, hb, hml, hown, hts⟩ (cc_X0_floor l H0 ((p1 + 65535))) 1 gX0_cut_X0_floor rfl rfl rfl hdS_X0_floor ⟨Nat.le_of_ble_eq_true rfl, Nat.le_of_ble_eq_true rfl⟩ kN_ok kN_at rfl hl.1 rfl (Nat.le_of_ble_eq_true rfl) dX0_cut_33 ⟨Nat.zero_le _, Nat.zero_le _⟩ ?_
    exact pu_lret hx hb hr hlocks hs dX0_cut_36 (by rw [f_X0_cut, if_pos c_1])
  by_cases c_2 : p0 = 3
  · skip
    refine lv_tableIn (tgt := 37) (off := 36) hx hb dX0_cut_1 (by rw [c_2]; decide) (by rw [c_2]; decide) (by rw [c_2]; decide) (by decide) ?_
    refine lv_lload_n hx hb dX0_cut_37 rfl (lv_at hl 1 rfl) ?_
    refine pu_Sl (As := [.long p1]) (rest := []) ⟨hx, hb, hml, hown, hts⟩ (cc_X0_floor l H0 (p1)) 1 gX0_cut_X0_floor rfl rfl rfl hdS_X0_floor ⟨Nat.le_of_ble_eq_true rfl, Nat.le_of_ble_eq_true rfl⟩ kN_ok kN_at rfl hl.1 rfl (Nat.le_of_ble_eq_true rfl) dX0_cut_38 ⟨Nat.zero_le _, Nat.zero_le _⟩ ?_
    exact pu_lret hx hb hr hlocks hs dX0_cut_41 (by rw [f_X0_cut, if_neg c_1, if_pos c_2])
  by_cases c_3 : p0 = 4
  · skip
    refine lv_tableIn (tgt := 42) (off := 41) hx hb dX0_cut_1 (by rw [c_3]; decide) (by rw [c_3]; decide) (by rw [c_3]; decide) (by decide) ?_
    refine lv_lload_n hx hb dX0_cut_42 rfl (lv_at hl 1 rfl) ?_
    refine lv_ldc2 (v := 32768) hx hb hown (hts (.constantLong RX0 146 (32768)) (by decide +kernel)) dX0_cut_43 ?_
    refine lv_ladd hx hb dX0_cut_46 ?_
    refine pu_Sl (As := [.long (p1 + 32768)]) (rest := []) ⟨hx, hb, hml, hown, hts⟩ (cc_X0_floor l H0 ((p1 + 32768))) 1 gX0_cut_X0_floor rfl rfl rfl hdS_X0_floor ⟨Nat.le_of_ble_eq_true rfl, Nat.le_of_ble_eq_true rfl⟩ kN_ok kN_at rfl hl.1 rfl (Nat.le_of_ble_eq_true rfl) dX0_cut_47 ⟨Nat.zero_le _, Nat.zero_le _⟩ ?_
    exact pu_lret hx hb hr hlocks hs dX0_cut_50 (by rw [f_X0_cut, if_neg c_1, if_neg c_2, if_pos c_3])
  refine lv_tableOut (tgt := 51) hx hb dX0_cut_1 (by have q2 : p0.toInt ≠ 2 := fun q => c_1 (Int32.toInt_inj.mp (q.trans (by decide))); have q3 : p0.toInt ≠ 3 := fun q => c_2 (Int32.toInt_inj.mp (q.trans (by decide))); have q4 : p0.toInt ≠ 4 := fun q => c_3 (Int32.toInt_inj.mp (q.trans (by decide))); omega) (by decide) ?_
  refine lv_lload_n hx hb dX0_cut_51 rfl (lv_at hl 1 rfl) ?_
  refine lv_ldc2 (v := 65536) hx hb hown (hts (.constantLong RX0 97 (65536)) (by decide +kernel)) dX0_cut_52 ?_
  refine lv_ldiv hx hb dX0_cut_55 (by decide) ?_
  refine lv_ldc2 (v := 65536) hx hb hown (hts (.constantLong RX0 97 (65536)) (by decide +kernel)) dX0_cut_56 ?_
  refine lv_lmul hx hb dX0_cut_59 ?_
  exact pu_lret hx hb hr hlocks hs dX0_cut_60 (by rw [f_X0_cut, if_neg c_1, if_neg c_2, if_neg c_3])
theorem hdS_X0_withoutPlaces : yX0_withoutPlaces.cls ≠ "java/lang/invoke/MethodHandle" ∧ yX0_withoutPlaces.cls ≠ "java/lang/invoke/VarHandle" ∧ (parseMethodDescriptor yX0_withoutPlaces.desc).map (fun d => d.parameters.length) = some 1 := by decide +kernel
def f_X0_withoutPlaces (p0 : Int64) : Int64 := ((p0 + 32768) >>> ((16 : Int32).toInt64 &&& 63))
abbrev rm_X0_withoutPlaces : Room := { frames := 0, cells := 0, slots := 0, locals := 0 }
set_option maxHeartbeats 4000000 in
set_option maxRecDepth 100000 in
theorem cc_X0_withoutPlaces (l : Launch) (H0 : Heap) (p0 : Int64)   : Met l yX0_withoutPlaces wsX0_withoutPlaces rm_X0_withoutPlaces (pPc [.long p0] H0 (kN)) (pQl H0 (f_X0_withoutPlaces p0)) 0 0 (fun _ => False) := by
  refine pu_head (cc := cX0_withoutPlaces) (maxL := 2) (ret := some .long) (by decide +kernel) rfl (Nat.le_of_ble_eq_true rfl) ?_
  intro p e s m below meth c ls hx hb hr hlocks hml hown hts hs hk hl
  have hown : s.vm.findClass RX0 = some m.cls := hown
  have hl : lv_has ls 2 [(0, .long p0)] := hl
  refine lv_lload_n hx hb dX0_withoutPlaces_0 rfl (lv_at hl 0 rfl) ?_
  refine lv_ldc2 (v := 32768) hx hb hown (hts (.constantLong RX0 146 (32768)) (by decide +kernel)) dX0_withoutPlaces_1 ?_
  refine lv_ladd hx hb dX0_withoutPlaces_4 ?_
  refine lv_bipush (v := 16) hx hb dX0_withoutPlaces_5 (by decide) ?_
  refine lv_lshr (v := ((p0 + 32768) >>> ((16 : Int32).toInt64 &&& 63))) hx hb dX0_withoutPlaces_7 rfl ?_
  exact pu_lret hx hb hr hlocks hs dX0_withoutPlaces_8 (by rw [f_X0_withoutPlaces])
theorem hdS_X0_cross : yX0_cross.cls ≠ "java/lang/invoke/MethodHandle" ∧ yX0_cross.cls ≠ "java/lang/invoke/VarHandle" ∧ (parseMethodDescriptor yX0_cross.desc).map (fun d => d.parameters.length) = some 4 := by decide +kernel
def f_X0_cross (p0 : Int32) (p1 : Int32) (p2 : Int32) (p3 : Int32) : Int64 := (((p0).toInt64 * (p1).toInt64) - ((p2).toInt64 * (p3).toInt64))
abbrev rm_X0_cross : Room := { frames := 0, cells := 0, slots := 0, locals := 0 }
set_option maxHeartbeats 4000000 in
set_option maxRecDepth 100000 in
theorem cc_X0_cross (l : Launch) (H0 : Heap) (p0 : Int32) (p1 : Int32) (p2 : Int32) (p3 : Int32)   : Met l yX0_cross wsX0_cross rm_X0_cross (pPc [.int p0, .int p1, .int p2, .int p3] H0 (kN)) (pQl H0 (f_X0_cross p0 p1 p2 p3)) 0 0 (fun _ => False) := by
  refine pu_head (cc := cX0_cross) (maxL := 4) (ret := some .long) (by decide +kernel) rfl (Nat.le_of_ble_eq_true rfl) ?_
  intro p e s m below meth c ls hx hb hr hlocks hml hown hts hs hk hl
  have hown : s.vm.findClass RX0 = some m.cls := hown
  have hl : lv_has ls 4 [(0, .int p0), (1, .int p1), (2, .int p2), (3, .int p3)] := hl
  refine lv_iload_n hx hb dX0_cross_0 rfl (lv_at hl 0 rfl) ?_
  refine lv_i2l (v := (p0).toInt64) hx hb dX0_cross_1 rfl ?_
  refine lv_iload_n hx hb dX0_cross_2 rfl (lv_at hl 1 rfl) ?_
  refine lv_i2l (v := (p1).toInt64) hx hb dX0_cross_3 rfl ?_
  refine lv_lmul hx hb dX0_cross_4 ?_
  refine lv_iload_n hx hb dX0_cross_5 rfl (lv_at hl 2 rfl) ?_
  refine lv_i2l (v := (p2).toInt64) hx hb dX0_cross_6 rfl ?_
  refine lv_iload_n hx hb dX0_cross_7 rfl (lv_at hl 3 rfl) ?_
  refine lv_i2l (v := (p3).toInt64) hx hb dX0_cross_8 rfl ?_
  refine lv_lmul hx hb dX0_cross_9 ?_
  refine lv_lsub hx hb dX0_cross_10 ?_
  exact pu_lret hx hb hr hlocks hs dX0_cross_11 (by rw [f_X0_cross])
theorem hdS_J13_compare_74951 : yJ13_compare_74951.cls ≠ "java/lang/invoke/MethodHandle" ∧ yJ13_compare_74951.cls ≠ "java/lang/invoke/VarHandle" ∧ (parseMethodDescriptor yJ13_compare_74951.desc).map (fun d => d.parameters.length) = some 2 := by decide +kernel
def f_J13_compare_74951 (p0 : Int64) (p1 : Int64) : Int32 := if p0 < p1 then ((-1)) else (if p0 = p1 then (0) else (1))
abbrev rm_J13_compare_74951 : Room := { frames := 0, cells := 0, slots := 0, locals := 0 }
set_option maxHeartbeats 4000000 in
set_option maxRecDepth 100000 in
theorem cc_J13_compare_74951 (l : Launch) (H0 : Heap) (p0 : Int64) (p1 : Int64)   : Met l yJ13_compare_74951 wsJ13_compare_74951 rm_J13_compare_74951 (pPc [.long p0, .long p1] H0 (kN)) (pQi H0 (f_J13_compare_74951 p0 p1)) 0 0 (fun _ => False) := by
  refine pu_headF (cc := cJ13_compare_74951) (maxL := 4) (ret := some .int) (by decide +kernel) rfl (Nat.le_of_ble_eq_true rfl) ?_
  intro p e s m below meth c ls hx hb hr hlocks hml hown hts hs hk hl
  have hown : s.vm.findClass RJ13 = some m.cls := hown
  have hl : lv_has ls 4 [(0, .long p0), (2, .long p1)] := hl
  refine lv_lload_n hx hb dJ13_compare_74951_0 rfl (lv_at hl 0 rfl) ?_
  refine lv_lload_n hx hb dJ13_compare_74951_1 rfl (lv_at hl 1 rfl) ?_
  refine pl_ge (tgt := 10) hx hb dJ13_compare_74951_2 dJ13_compare_74951_3 (by decide) (fun c_1 => ?_) (fun c_1 => ?_)
  · skip
    refine lv_lload_n hx hb dJ13_compare_74951_10 rfl (lv_at hl 0 rfl) ?_
    refine lv_lload_n hx hb dJ13_compare_74951_11 rfl (lv_at hl 1 rfl) ?_
    refine pl_ne (tgt := 20) hx hb dJ13_compare_74951_12 dJ13_compare_74951_13 (by decide) (fun c_2 => ?_) (fun c_2 => ?_)
    · skip
      refine lv_iconst (v := 1) hx hb dJ13_compare_74951_20 (by decide) ?_
      exact pu_iret hx hb hr hlocks hs dJ13_compare_74951_21 (by rw [f_J13_compare_74951, if_neg c_1, if_neg c_2])
    · skip
      refine lv_iconst (v := 0) hx hb dJ13_compare_74951_16 (by decide) ?_
      refine lv_goto (tgt := 21) hx hb dJ13_compare_74951_17 (by decide) ?_
      exact pu_iret hx hb hr hlocks hs dJ13_compare_74951_21 (by rw [f_J13_compare_74951, if_neg c_1, if_pos c_2])
  · skip
    refine lv_iconst (v := (-1)) hx hb dJ13_compare_74951_6 (by decide) ?_
    refine lv_goto (tgt := 21) hx hb dJ13_compare_74951_7 (by decide) ?_
    exact pu_iret hx hb hr hlocks hs dJ13_compare_74951_21 (by rw [f_J13_compare_74951, if_pos c_1])
theorem hdS_J9_floorDiv_f86c9 : yJ9_floorDiv_f86c9.cls ≠ "java/lang/invoke/MethodHandle" ∧ yJ9_floorDiv_f86c9.cls ≠ "java/lang/invoke/VarHandle" ∧ (parseMethodDescriptor yJ9_floorDiv_f86c9.desc).map (fun d => d.parameters.length) = some 2 := by decide +kernel
def f_J9_floorDiv_f86c9 (p0 : Int64) (p1 : Int64) : Int64 := if (p0 ^^^ p1) < 0 then (if ((p0 / p1) * p1) = p0 then ((p0 / p1)) else (((p0 / p1) - 1))) else ((p0 / p1))
abbrev rm_J9_floorDiv_f86c9 : Room := { frames := 0, cells := 0, slots := 0, locals := 0 }
set_option maxHeartbeats 4000000 in
set_option maxRecDepth 100000 in
theorem cc_J9_floorDiv_f86c9 (l : Launch) (H0 : Heap) (p0 : Int64) (p1 : Int64)  (hb0 : ¬ p1 = 0) : Met l yJ9_floorDiv_f86c9 wsJ9_floorDiv_f86c9 rm_J9_floorDiv_f86c9 (pPc [.long p0, .long p1] H0 (kN)) (pQl H0 (f_J9_floorDiv_f86c9 p0 p1)) 0 0 (fun _ => False) := by
  refine pu_headF (cc := cJ9_floorDiv_f86c9) (maxL := 6) (ret := some .long) (by decide +kernel) rfl (Nat.le_of_ble_eq_true rfl) ?_
  intro p e s m below meth c ls hx hb hr hlocks hml hown hts hs hk hl
  have hown : s.vm.findClass RJ9 = some m.cls := hown
  have hl : lv_has ls 6 [(0, .long p0), (2, .long p1)] := hl
  refine lv_lload_n hx hb dJ9_floorDiv_f86c9_0 rfl (lv_at hl 0 rfl) ?_
  refine lv_lload_n hx hb dJ9_floorDiv_f86c9_1 rfl (lv_at hl 1 rfl) ?_
  refine lv_ldiv hx hb dJ9_floorDiv_f86c9_2 (hb0) ?_
  refine lv_lstore (lv' := [(4, .long (p0 / p1)), (0, .long p0), (2, .long p1)]) hx hb dJ9_floorDiv_f86c9_3 hl (by decide) rfl (fun ls hl => ?_)
  refine lv_lload_n hx hb dJ9_floorDiv_f86c9_5 rfl (lv_at hl 1 rfl) ?_
  refine lv_lload_n hx hb dJ9_floorDiv_f86c9_6 rfl (lv_at hl 2 rfl) ?_
  refine lv_lxor hx hb dJ9_floorDiv_f86c9_7 ?_
  refine lv_lconst (v := 0) hx hb dJ9_floorDiv_f86c9_8 (by decide) ?_
  refine pl_ge (tgt := 27) hx hb dJ9_floorDiv_f86c9_9 dJ9_floorDiv_f86c9_10 (by decide) (fun c_1 => ?_) (fun c_1 => ?_)
  · skip
    refine lv_lload hx hb dJ9_floorDiv_f86c9_27 (lv_at hl 0 rfl) ?_
    exact pu_lret hx hb hr hlocks hs dJ9_floorDiv_f86c9_29 (by rw [f_J9_floorDiv_f86c9, if_neg c_1])
  · skip
    refine lv_lload hx hb dJ9_floorDiv_f86c9_13 (lv_at hl 0 rfl) ?_
    refine lv_lload_n hx hb dJ9_floorDiv_f86c9_15 rfl (lv_at hl 2 rfl) ?_
    refine lv_lmul hx hb dJ9_floorDiv_f86c9_16 ?_
    refine lv_lload_n hx hb dJ9_floorDiv_f86c9_17 rfl (lv_at hl 1 rfl) ?_
    refine pl_eq (tgt := 27) hx hb dJ9_floorDiv_f86c9_18 dJ9_floorDiv_f86c9_19 (by decide) (fun c_2 => ?_) (fun c_2 => ?_)
    · skip
      refine lv_lload hx hb dJ9_floorDiv_f86c9_27 (lv_at hl 0 rfl) ?_
      exact pu_lret hx hb hr hlocks hs dJ9_floorDiv_f86c9_29 (by rw [f_J9_floorDiv_f86c9, if_pos c_1, if_pos c_2])
    · skip
      refine lv_lload hx hb dJ9_floorDiv_f86c9_22 (lv_at hl 0 rfl) ?_
      refine lv_lconst (v := 1) hx hb dJ9_floorDiv_f86c9_24 (by decide) ?_
      refine lv_lsub hx hb dJ9_floorDiv_f86c9_25 ?_
      exact pu_lret hx hb hr hlocks hs dJ9_floorDiv_f86c9_26 (by rw [f_J9_floorDiv_f86c9, if_pos c_1, if_neg c_2])
theorem hdS_J9_floorMod_f86c9 : yJ9_floorMod_f86c9.cls ≠ "java/lang/invoke/MethodHandle" ∧ yJ9_floorMod_f86c9.cls ≠ "java/lang/invoke/VarHandle" ∧ (parseMethodDescriptor yJ9_floorMod_f86c9.desc).map (fun d => d.parameters.length) = some 2 := by decide +kernel
def f_J9_floorMod_f86c9 (p0 : Int64) (p1 : Int64) : Int64 := if (p0 ^^^ p1) < 0 then (if (p0 - p0 / p1 * p1) = 0 then ((p0 - p0 / p1 * p1)) else (((p0 - p0 / p1 * p1) + p1))) else ((p0 - p0 / p1 * p1))
abbrev rm_J9_floorMod_f86c9 : Room := { frames := 0, cells := 0, slots := 0, locals := 0 }
set_option maxHeartbeats 4000000 in
set_option maxRecDepth 100000 in
theorem cc_J9_floorMod_f86c9 (l : Launch) (H0 : Heap) (p0 : Int64) (p1 : Int64)  (hb0 : ¬ p1 = 0) : Met l yJ9_floorMod_f86c9 wsJ9_floorMod_f86c9 rm_J9_floorMod_f86c9 (pPc [.long p0, .long p1] H0 (kN)) (pQl H0 (f_J9_floorMod_f86c9 p0 p1)) 0 0 (fun _ => False) := by
  refine pu_headF (cc := cJ9_floorMod_f86c9) (maxL := 6) (ret := some .long) (by decide +kernel) rfl (Nat.le_of_ble_eq_true rfl) ?_
  intro p e s m below meth c ls hx hb hr hlocks hml hown hts hs hk hl
  have hown : s.vm.findClass RJ9 = some m.cls := hown
  have hl : lv_has ls 6 [(0, .long p0), (2, .long p1)] := hl
  refine lv_lload_n hx hb dJ9_floorMod_f86c9_0 rfl (lv_at hl 0 rfl) ?_
  refine lv_lload_n hx hb dJ9_floorMod_f86c9_1 rfl (lv_at hl 1 rfl) ?_
  refine lv_lrem hx hb dJ9_floorMod_f86c9_2 (hb0) ?_
  refine lv_lstore (lv' := [(4, .long (p0 - p0 / p1 * p1)), (0, .long p0), (2, .long p1)]) hx hb dJ9_floorMod_f86c9_3 hl (by decide) rfl (fun ls hl => ?_)
  refine lv_lload_n hx hb dJ9_floorMod_f86c9_5 rfl (lv_at hl 1 rfl) ?_
  refine lv_lload_n hx hb dJ9_floorMod_f86c9_6 rfl (lv_at hl 2 rfl) ?_
  refine lv_lxor hx hb dJ9_floorMod_f86c9_7 ?_
  refine lv_lconst (v := 0) hx hb dJ9_floorMod_f86c9_8 (by decide) ?_
  refine pl_ge (tgt := 25) hx hb dJ9_floorMod_f86c9_9 dJ9_floorMod_f86c9_10 (by decide) (fun c_1 => ?_) (fun c_1 => ?_)
  · skip
    refine lv_lload hx hb dJ9_floorMod_f86c9_25 (lv_at hl 0 rfl) ?_
    exact pu_lret hx hb hr hlocks hs dJ9_floorMod_f86c9_27 (by rw [f_J9_floorMod_f86c9, if_neg c_1])
  · skip
    refine lv_lload hx hb dJ9_floorMod_f86c9_13 (lv_at hl 0 rfl) ?_
    refine lv_lconst (v := 0) hx hb dJ9_floorMod_f86c9_15 (by decide) ?_
    refine pl_eq (tgt := 25) hx hb dJ9_floorMod_f86c9_16 dJ9_floorMod_f86c9_17 (by decide) (fun c_2 => ?_) (fun c_2 => ?_)
    · skip
      refine lv_lload hx hb dJ9_floorMod_f86c9_25 (lv_at hl 0 rfl) ?_
      exact pu_lret hx hb hr hlocks hs dJ9_floorMod_f86c9_27 (by rw [f_J9_floorMod_f86c9, if_pos c_1, if_pos c_2])
    · skip
      refine lv_lload hx hb dJ9_floorMod_f86c9_20 (lv_at hl 0 rfl) ?_
      refine lv_lload_n hx hb dJ9_floorMod_f86c9_22 rfl (lv_at hl 2 rfl) ?_
      refine lv_ladd hx hb dJ9_floorMod_f86c9_23 ?_
      exact pu_lret hx hb hr hlocks hs dJ9_floorMod_f86c9_24 (by rw [f_J9_floorMod_f86c9, if_pos c_1, if_neg c_2])
theorem hdS_X1_isValue : yX1_isValue.cls ≠ "java/lang/invoke/MethodHandle" ∧ yX1_isValue.cls ≠ "java/lang/invoke/VarHandle" ∧ (parseMethodDescriptor yX1_isValue.desc).map (fun d => d.parameters.length) = some 2 := by decide +kernel
def f_X1_isValue (p0 : Int32) (p1 : Int32) : Int32 := if p0 = 1 then (1) else (if p0 = 2 then (if p1 = (-2147483648) then (0) else (1)) else (0))
abbrev rm_X1_isValue : Room := { frames := 0, cells := 0, slots := 0, locals := 0 }
set_option maxHeartbeats 4000000 in
set_option maxRecDepth 100000 in
theorem cc_X1_isValue (l : Launch) (H0 : Heap) (p0 : Int32) (p1 : Int32)   : Met l yX1_isValue wsX1_isValue rm_X1_isValue (pPc [.int p0, .int p1] H0 (kN)) (pQi H0 (f_X1_isValue p0 p1)) 0 0 (fun _ => False) := by
  refine pu_head (cc := cX1_isValue) (maxL := 2) (ret := some .boolean) (by decide +kernel) rfl (Nat.le_of_ble_eq_true rfl) ?_
  intro p e s m below meth c ls hx hb hr hlocks hml hown hts hs hk hl
  have hown : s.vm.findClass RX1 = some m.cls := hown
  have hl : lv_has ls 2 [(0, .int p0), (1, .int p1)] := hl
  refine lv_iload_n hx hb dX1_isValue_0 rfl (lv_at hl 0 rfl) ?_
  refine lv_iconst (v := 1) hx hb dX1_isValue_1 (by decide) ?_
  refine lv_icmp_eq (tgt := 16) hx hb dX1_isValue_2 (by decide) (fun c_1 => ?_) (fun c_1 => ?_)
  · skip
    refine lv_iconst (v := 1) hx hb dX1_isValue_16 (by decide) ?_
    refine lv_goto (tgt := 21) hx hb dX1_isValue_17 (by decide) ?_
    exact pu_zret hx hb hr hlocks hs dX1_isValue_21 rfl (by rw [f_X1_isValue, if_pos c_1])
  · skip
    refine lv_iload_n hx hb dX1_isValue_5 rfl (lv_at hl 0 rfl) ?_
    refine lv_iconst (v := 2) hx hb dX1_isValue_6 (by decide) ?_
    refine lv_icmp_ne (tgt := 20) hx hb dX1_isValue_7 (by decide) (fun c_2 => ?_) (fun c_2 => ?_)
    · skip
      refine lv_iconst (v := 0) hx hb dX1_isValue_20 (by decide) ?_
      exact pu_zret hx hb hr hlocks hs dX1_isValue_21 rfl (by rw [f_X1_isValue, if_neg c_1, if_neg c_2])
    · skip
      refine lv_iload_n hx hb dX1_isValue_10 rfl (lv_at hl 1 rfl) ?_
      refine lv_ldc (v := (-2147483648)) hx hb hown (hts (.constant RX1 22 (-2147483648)) (by decide +kernel)) dX1_isValue_11 ?_
      refine lv_icmp_eq (tgt := 20) hx hb dX1_isValue_13 (by decide) (fun c_3 => ?_) (fun c_3 => ?_)
      · skip
        refine lv_iconst (v := 0) hx hb dX1_isValue_20 (by decide) ?_
        exact pu_zret hx hb hr hlocks hs dX1_isValue_21 rfl (by rw [f_X1_isValue, if_neg c_1, if_pos c_2, if_pos c_3])
      · skip
        refine lv_iconst (v := 1) hx hb dX1_isValue_16 (by decide) ?_
        refine lv_goto (tgt := 21) hx hb dX1_isValue_17 (by decide) ?_
        exact pu_zret hx hb hr hlocks hs dX1_isValue_21 rfl (by rw [f_X1_isValue, if_neg c_1, if_pos c_2, if_neg c_3])
theorem hdS_X1_hasUnits : yX1_hasUnits.cls ≠ "java/lang/invoke/MethodHandle" ∧ yX1_hasUnits.cls ≠ "java/lang/invoke/VarHandle" ∧ (parseMethodDescriptor yX1_hasUnits.desc).map (fun d => d.parameters.length) = some 2 := by decide +kernel
def f_X1_hasUnits (p0 : Int32) (p1 : Int32) : Int32 := if p0 = 2 then (1) else (if p1 < (-32767) then (0) else (if 32767 < p1 then (0) else (1)))
abbrev rm_X1_hasUnits : Room := { frames := 0, cells := 0, slots := 0, locals := 0 }
set_option maxHeartbeats 4000000 in
set_option maxRecDepth 100000 in
theorem cc_X1_hasUnits (l : Launch) (H0 : Heap) (p0 : Int32) (p1 : Int32)   : Met l yX1_hasUnits wsX1_hasUnits rm_X1_hasUnits (pPc [.int p0, .int p1] H0 (kN)) (pQi H0 (f_X1_hasUnits p0 p1)) 0 0 (fun _ => False) := by
  refine pu_head (cc := cX1_hasUnits) (maxL := 2) (ret := some .boolean) (by decide +kernel) rfl (Nat.le_of_ble_eq_true rfl) ?_
  intro p e s m below meth c ls hx hb hr hlocks hml hown hts hs hk hl
  have hown : s.vm.findClass RX1 = some m.cls := hown
  have hl : lv_has ls 2 [(0, .int p0), (1, .int p1)] := hl
  refine lv_iload_n hx hb dX1_hasUnits_0 rfl (lv_at hl 0 rfl) ?_
  refine lv_iconst (v := 2) hx hb dX1_hasUnits_1 (by decide) ?_
  refine lv_icmp_eq (tgt := 19) hx hb dX1_hasUnits_2 (by decide) (fun c_1 => ?_) (fun c_1 => ?_)
  · skip
    refine lv_iconst (v := 1) hx hb dX1_hasUnits_19 (by decide) ?_
    refine lv_goto (tgt := 24) hx hb dX1_hasUnits_20 (by decide) ?_
    exact pu_zret hx hb hr hlocks hs dX1_hasUnits_24 rfl (by rw [f_X1_hasUnits, if_pos c_1])
  · skip
    refine lv_iload_n hx hb dX1_hasUnits_5 rfl (lv_at hl 1 rfl) ?_
    refine lv_sipush (v := (-32767)) hx hb dX1_hasUnits_6 (by decide) ?_
    refine lv_icmp_lt (tgt := 23) hx hb dX1_hasUnits_9 (by decide) (fun c_2 => ?_) (fun c_2 => ?_)
    · skip
      refine lv_iconst (v := 0) hx hb dX1_hasUnits_23 (by decide) ?_
      exact pu_zret hx hb hr hlocks hs dX1_hasUnits_24 rfl (by rw [f_X1_hasUnits, if_neg c_1, if_pos c_2])
    · skip
      refine lv_iload_n hx hb dX1_hasUnits_12 rfl (lv_at hl 1 rfl) ?_
      refine lv_sipush (v := 32767) hx hb dX1_hasUnits_13 (by decide) ?_
      refine pi_gt (tgt := 23) hx hb dX1_hasUnits_16 (by decide) (fun c_3 => ?_) (fun c_3 => ?_)
      · skip
        refine lv_iconst (v := 0) hx hb dX1_hasUnits_23 (by decide) ?_
        exact pu_zret hx hb hr hlocks hs dX1_hasUnits_24 rfl (by rw [f_X1_hasUnits, if_neg c_1, if_neg c_2, if_pos c_3])
      · skip
        refine lv_iconst (v := 1) hx hb dX1_hasUnits_19 (by decide) ?_
        refine lv_goto (tgt := 24) hx hb dX1_hasUnits_20 (by decide) ?_
        exact pu_zret hx hb hr hlocks hs dX1_hasUnits_24 rfl (by rw [f_X1_hasUnits, if_neg c_1, if_neg c_2, if_neg c_3])
theorem hdS_X1_units : yX1_units.cls ≠ "java/lang/invoke/MethodHandle" ∧ yX1_units.cls ≠ "java/lang/invoke/VarHandle" ∧ (parseMethodDescriptor yX1_units.desc).map (fun d => d.parameters.length) = some 2 := by decide +kernel
def f_X1_units (p0 : Int32) (p1 : Int32) : Int64 := if p0 = 2 then ((p1).toInt64) else ((65536 * (p1).toInt64))
abbrev rm_X1_units : Room := { frames := 0, cells := 0, slots := 0, locals := 0 }
set_option maxHeartbeats 4000000 in
set_option maxRecDepth 100000 in
theorem cc_X1_units (l : Launch) (H0 : Heap) (p0 : Int32) (p1 : Int32)   : Met l yX1_units wsX1_units rm_X1_units (pPc [.int p0, .int p1] H0 (kN)) (pQl H0 (f_X1_units p0 p1)) 0 0 (fun _ => False) := by
  refine pu_head (cc := cX1_units) (maxL := 2) (ret := some .long) (by decide +kernel) rfl (Nat.le_of_ble_eq_true rfl) ?_
  intro p e s m below meth c ls hx hb hr hlocks hml hown hts hs hk hl
  have hown : s.vm.findClass RX1 = some m.cls := hown
  have hl : lv_has ls 2 [(0, .int p0), (1, .int p1)] := hl
  refine lv_iload_n hx hb dX1_units_0 rfl (lv_at hl 0 rfl) ?_
  refine lv_iconst (v := 2) hx hb dX1_units_1 (by decide) ?_
  refine lv_icmp_ne (tgt := 10) hx hb dX1_units_2 (by decide) (fun c_1 => ?_) (fun c_1 => ?_)
  · skip
    refine lv_ldc2 (v := 65536) hx hb hown (hts (.constantLong RX1 23 (65536)) (by decide +kernel)) dX1_units_10 ?_
    refine lv_iload_n hx hb dX1_units_13 rfl (lv_at hl 1 rfl) ?_
    refine lv_i2l (v := (p1).toInt64) hx hb dX1_units_14 rfl ?_
    refine lv_lmul hx hb dX1_units_15 ?_
    exact pu_lret hx hb hr hlocks hs dX1_units_16 (by rw [f_X1_units, if_neg c_1])
  · skip
    refine lv_iload_n hx hb dX1_units_5 rfl (lv_at hl 1 rfl) ?_
    refine lv_i2l (v := (p1).toInt64) hx hb dX1_units_6 rfl ?_
    refine lv_goto (tgt := 16) hx hb dX1_units_7 (by decide) ?_
    exact pu_lret hx hb hr hlocks hs dX1_units_16 (by rw [f_X1_units, if_pos c_1])
theorem hdS_X1_isBad : yX1_isBad.cls ≠ "java/lang/invoke/MethodHandle" ∧ yX1_isBad.cls ≠ "java/lang/invoke/VarHandle" ∧ (parseMethodDescriptor yX1_isBad.desc).map (fun d => d.parameters.length) = some 1 := by decide +kernel
def f_X1_isBad (p0 : Int32) : Int32 := if p0 = (-2147483648) then (1) else (0)
abbrev rm_X1_isBad : Room := { frames := 0, cells := 0, slots := 0, locals := 0 }
set_option maxHeartbeats 4000000 in
set_option maxRecDepth 100000 in
theorem cc_X1_isBad (l : Launch) (H0 : Heap) (p0 : Int32)   : Met l yX1_isBad wsX1_isBad rm_X1_isBad (pPc [.int p0] H0 (kN)) (pQi H0 (f_X1_isBad p0)) 0 0 (fun _ => False) := by
  refine pu_head (cc := cX1_isBad) (maxL := 1) (ret := some .boolean) (by decide +kernel) rfl (Nat.le_of_ble_eq_true rfl) ?_
  intro p e s m below meth c ls hx hb hr hlocks hml hown hts hs hk hl
  have hown : s.vm.findClass RX1 = some m.cls := hown
  have hl : lv_has ls 1 [(0, .int p0)] := hl
  refine lv_iload_n hx hb dX1_isBad_0 rfl (lv_at hl 0 rfl) ?_
  refine lv_ldc (v := (-2147483648)) hx hb hown (hts (.constant RX1 22 (-2147483648)) (by decide +kernel)) dX1_isBad_1 ?_
  refine lv_icmp_ne (tgt := 10) hx hb dX1_isBad_3 (by decide) (fun c_1 => ?_) (fun c_1 => ?_)
  · skip
    refine lv_iconst (v := 0) hx hb dX1_isBad_10 (by decide) ?_
    exact pu_zret hx hb hr hlocks hs dX1_isBad_11 rfl (by rw [f_X1_isBad, if_neg c_1])
  · skip
    refine lv_iconst (v := 1) hx hb dX1_isBad_6 (by decide) ?_
    refine lv_goto (tgt := 11) hx hb dX1_isBad_7 (by decide) ?_
    exact pu_zret hx hb hr hlocks hs dX1_isBad_11 rfl (by rw [f_X1_isBad, if_pos c_1])
theorem hdS_X1_areBad : yX1_areBad.cls ≠ "java/lang/invoke/MethodHandle" ∧ yX1_areBad.cls ≠ "java/lang/invoke/VarHandle" ∧ (parseMethodDescriptor yX1_areBad.desc).map (fun d => d.parameters.length) = some 6 := by decide +kernel
def f_X1_areBad (p0 : Int32) (p1 : Int32) (p2 : Int32) (p3 : Int32) (p4 : Int32) (p5 : Int32) : Int32 := if (f_X1_isBad (p0)) = 0 then (if (f_X1_isBad (p1)) = 0 then (if (f_X1_isBad (p2)) = 0 then (if (f_X1_isBad (p3)) = 0 then (if (f_X1_isBad (p4)) = 0 then (if (f_X1_isBad (p5)) = 0 then (0) else (1)) else (1)) else (1)) else (1)) else (1)) else (1)
abbrev rm_X1_areBad : Room := { frames := 1, cells := 0, slots := 0, locals := 36 }
set_option maxHeartbeats 4000000 in
set_option maxRecDepth 100000 in
theorem cc_X1_areBad (l : Launch) (H0 : Heap) (p0 : Int32) (p1 : Int32) (p2 : Int32) (p3 : Int32) (p4 : Int32) (p5 : Int32)   : Met l yX1_areBad wsX1_areBad rm_X1_areBad (pPc [.int p0, .int p1, .int p2, .int p3, .int p4, .int p5] H0 (kN)) (pQi H0 (f_X1_areBad p0 p1 p2 p3 p4 p5)) 0 0 (fun _ => False) := by
  refine pu_head (cc := cX1_areBad) (maxL := 6) (ret := some .boolean) (by decide +kernel) rfl (Nat.le_of_ble_eq_true rfl) ?_
  intro p e s m below meth c ls hx hb hr hlocks hml hown hts hs hk hl
  have hown : s.vm.findClass RX1 = some m.cls := hown
  have hl : lv_has ls 6 [(0, .int p0), (1, .int p1), (2, .int p2), (3, .int p3), (4, .int p4), (5, .int p5)] := hl
  refine lv_iload_n hx hb dX1_areBad_0 rfl (lv_at hl 0 rfl) ?_
  refine pu_Si (As := [.int p0]) (rest := []) ⟨hx, hb, hml, hown, hts⟩ (cc_X1_isBad l H0 (p0)) 1 gX1_areBad_X1_isBad rfl rfl rfl hdS_X1_isBad ⟨Nat.le_of_ble_eq_true rfl, Nat.le_of_ble_eq_true rfl⟩ kN_ok kN_at rfl hl.1 rfl (Nat.le_of_ble_eq_true rfl) dX1_areBad_1 ⟨Nat.zero_le _, Nat.zero_le _⟩ ?_
  refine lv_if_ne (tgt := 44) hx hb dX1_areBad_4 (by decide) (fun c_1 => ?_) (fun c_1 => ?_)
  · skip
    refine lv_iconst (v := 1) hx hb dX1_areBad_44 (by decide) ?_
    refine lv_goto (tgt := 49) hx hb dX1_areBad_45 (by decide) ?_
    exact pu_zret hx hb hr hlocks hs dX1_areBad_49 rfl (by rw [f_X1_areBad, if_neg c_1])
  · skip
    refine lv_iload_n hx hb dX1_areBad_7 rfl (lv_at hl 1 rfl) ?_
    refine pu_Si (As := [.int p1]) (rest := []) ⟨hx, hb, hml, hown, hts⟩ (cc_X1_isBad l H0 (p1)) 1 gX1_areBad_X1_isBad rfl rfl rfl hdS_X1_isBad ⟨Nat.le_of_ble_eq_true rfl, Nat.le_of_ble_eq_true rfl⟩ kN_ok kN_at rfl hl.1 rfl (Nat.le_of_ble_eq_true rfl) dX1_areBad_8 ⟨Nat.zero_le _, Nat.zero_le _⟩ ?_
    refine lv_if_ne (tgt := 44) hx hb dX1_areBad_11 (by decide) (fun c_2 => ?_) (fun c_2 => ?_)
    · skip
      refine lv_iconst (v := 1) hx hb dX1_areBad_44 (by decide) ?_
      refine lv_goto (tgt := 49) hx hb dX1_areBad_45 (by decide) ?_
      exact pu_zret hx hb hr hlocks hs dX1_areBad_49 rfl (by rw [f_X1_areBad, if_pos c_1, if_neg c_2])
    · skip
      refine lv_iload_n hx hb dX1_areBad_14 rfl (lv_at hl 2 rfl) ?_
      refine pu_Si (As := [.int p2]) (rest := []) ⟨hx, hb, hml, hown, hts⟩ (cc_X1_isBad l H0 (p2)) 1 gX1_areBad_X1_isBad rfl rfl rfl hdS_X1_isBad ⟨Nat.le_of_ble_eq_true rfl, Nat.le_of_ble_eq_true rfl⟩ kN_ok kN_at rfl hl.1 rfl (Nat.le_of_ble_eq_true rfl) dX1_areBad_15 ⟨Nat.zero_le _, Nat.zero_le _⟩ ?_
      refine lv_if_ne (tgt := 44) hx hb dX1_areBad_18 (by decide) (fun c_3 => ?_) (fun c_3 => ?_)
      · skip
        refine lv_iconst (v := 1) hx hb dX1_areBad_44 (by decide) ?_
        refine lv_goto (tgt := 49) hx hb dX1_areBad_45 (by decide) ?_
        exact pu_zret hx hb hr hlocks hs dX1_areBad_49 rfl (by rw [f_X1_areBad, if_pos c_1, if_pos c_2, if_neg c_3])
      · skip
        refine lv_iload_n hx hb dX1_areBad_21 rfl (lv_at hl 3 rfl) ?_
        refine pu_Si (As := [.int p3]) (rest := []) ⟨hx, hb, hml, hown, hts⟩ (cc_X1_isBad l H0 (p3)) 1 gX1_areBad_X1_isBad rfl rfl rfl hdS_X1_isBad ⟨Nat.le_of_ble_eq_true rfl, Nat.le_of_ble_eq_true rfl⟩ kN_ok kN_at rfl hl.1 rfl (Nat.le_of_ble_eq_true rfl) dX1_areBad_22 ⟨Nat.zero_le _, Nat.zero_le _⟩ ?_
        refine lv_if_ne (tgt := 44) hx hb dX1_areBad_25 (by decide) (fun c_4 => ?_) (fun c_4 => ?_)
        · skip
          refine lv_iconst (v := 1) hx hb dX1_areBad_44 (by decide) ?_
          refine lv_goto (tgt := 49) hx hb dX1_areBad_45 (by decide) ?_
          exact pu_zret hx hb hr hlocks hs dX1_areBad_49 rfl (by rw [f_X1_areBad, if_pos c_1, if_pos c_2, if_pos c_3, if_neg c_4])
        · skip
          refine lv_iload hx hb dX1_areBad_28 (lv_at hl 4 rfl) ?_
          refine pu_Si (As := [.int p4]) (rest := []) ⟨hx, hb, hml, hown, hts⟩ (cc_X1_isBad l H0 (p4)) 1 gX1_areBad_X1_isBad rfl rfl rfl hdS_X1_isBad ⟨Nat.le_of_ble_eq_true rfl, Nat.le_of_ble_eq_true rfl⟩ kN_ok kN_at rfl hl.1 rfl (Nat.le_of_ble_eq_true rfl) dX1_areBad_30 ⟨Nat.zero_le _, Nat.zero_le _⟩ ?_
          refine lv_if_ne (tgt := 44) hx hb dX1_areBad_33 (by decide) (fun c_5 => ?_) (fun c_5 => ?_)
          · skip
            refine lv_iconst (v := 1) hx hb dX1_areBad_44 (by decide) ?_
            refine lv_goto (tgt := 49) hx hb dX1_areBad_45 (by decide) ?_
            exact pu_zret hx hb hr hlocks hs dX1_areBad_49 rfl (by rw [f_X1_areBad, if_pos c_1, if_pos c_2, if_pos c_3, if_pos c_4, if_neg c_5])
          · skip
            refine lv_iload hx hb dX1_areBad_36 (lv_at hl 5 rfl) ?_
            refine pu_Si (As := [.int p5]) (rest := []) ⟨hx, hb, hml, hown, hts⟩ (cc_X1_isBad l H0 (p5)) 1 gX1_areBad_X1_isBad rfl rfl rfl hdS_X1_isBad ⟨Nat.le_of_ble_eq_true rfl, Nat.le_of_ble_eq_true rfl⟩ kN_ok kN_at rfl hl.1 rfl (Nat.le_of_ble_eq_true rfl) dX1_areBad_38 ⟨Nat.zero_le _, Nat.zero_le _⟩ ?_
            refine lv_if_eq (tgt := 48) hx hb dX1_areBad_41 (by decide) (fun c_6 => ?_) (fun c_6 => ?_)
            · skip
              refine lv_iconst (v := 0) hx hb dX1_areBad_48 (by decide) ?_
              exact pu_zret hx hb hr hlocks hs dX1_areBad_49 rfl (by rw [f_X1_areBad, if_pos c_1, if_pos c_2, if_pos c_3, if_pos c_4, if_pos c_5, if_pos c_6])
            · skip
              refine lv_iconst (v := 1) hx hb dX1_areBad_44 (by decide) ?_
              refine lv_goto (tgt := 49) hx hb dX1_areBad_45 (by decide) ?_
              exact pu_zret hx hb hr hlocks hs dX1_areBad_49 rfl (by rw [f_X1_areBad, if_pos c_1, if_pos c_2, if_pos c_3, if_pos c_4, if_pos c_5, if_neg c_6])
theorem hdS_X1_down : yX1_down.cls ≠ "java/lang/invoke/MethodHandle" ∧ yX1_down.cls ≠ "java/lang/invoke/VarHandle" ∧ (parseMethodDescriptor yX1_down.desc).map (fun d => d.parameters.length) = some 2 := by decide +kernel
def f_X1_down (p0 : Int64) (p1 : Int64) : Int64 := if (p0 - p0 / p1 * p1) = 0 then ((p0 / p1)) else (if p0 < 0 then (if p1 < 0 then ((p0 / p1)) else (((p0 / p1) - 1))) else (if p1 < 0 then (((p0 / p1) - 1)) else ((p0 / p1))))
abbrev rm_X1_down : Room := { frames := 0, cells := 0, slots := 0, locals := 0 }
set_option maxHeartbeats 4000000 in
set_option maxRecDepth 100000 in
theorem cc_X1_down (l : Launch) (H0 : Heap) (p0 : Int64) (p1 : Int64)  (hb0 : ¬ p1 = 0) : Met l yX1_down wsX1_down rm_X1_down (pPc [.long p0, .long p1] H0 (kN)) (pQl H0 (f_X1_down p0 p1)) 0 0 (fun _ => False) := by
  refine pu_head (cc := cX1_down) (maxL := 6) (ret := some .long) (by decide +kernel) rfl (Nat.le_of_ble_eq_true rfl) ?_
  intro p e s m below meth c ls hx hb hr hlocks hml hown hts hs hk hl
  have hown : s.vm.findClass RX1 = some m.cls := hown
  have hl : lv_has ls 6 [(0, .long p0), (2, .long p1)] := hl
  refine lv_lload_n hx hb dX1_down_0 rfl (lv_at hl 0 rfl) ?_
  refine lv_lload_n hx hb dX1_down_1 rfl (lv_at hl 1 rfl) ?_
  refine lv_ldiv hx hb dX1_down_2 (hb0) ?_
  refine lv_lstore (lv' := [(4, .long (p0 / p1)), (0, .long p0), (2, .long p1)]) hx hb dX1_down_3 hl (by decide) rfl (fun ls hl => ?_)
  refine lv_lload_n hx hb dX1_down_5 rfl (lv_at hl 1 rfl) ?_
  refine lv_lload_n hx hb dX1_down_6 rfl (lv_at hl 2 rfl) ?_
  refine lv_lrem hx hb dX1_down_7 (hb0) ?_
  refine lv_lconst (v := 0) hx hb dX1_down_8 (by decide) ?_
  refine pl_eq (tgt := 45) hx hb dX1_down_9 dX1_down_10 (by decide) (fun c_1 => ?_) (fun c_1 => ?_)
  · skip
    refine lv_lload hx hb dX1_down_45 (lv_at hl 0 rfl) ?_
    exact pu_lret hx hb hr hlocks hs dX1_down_47 (by rw [f_X1_down, if_pos c_1])
  · skip
    refine lv_lload_n hx hb dX1_down_13 rfl (lv_at hl 1 rfl) ?_
    refine lv_lconst (v := 0) hx hb dX1_down_14 (by decide) ?_
    refine pl_ge (tgt := 23) hx hb dX1_down_15 dX1_down_16 (by decide) (fun c_2 => ?_) (fun c_2 => ?_)
    · skip
      refine lv_iconst (v := 0) hx hb dX1_down_23 (by decide) ?_
      refine lv_lload_n hx hb dX1_down_24 rfl (lv_at hl 2 rfl) ?_
      refine lv_lconst (v := 0) hx hb dX1_down_25 (by decide) ?_
      refine pl_ge (tgt := 34) hx hb dX1_down_26 dX1_down_27 (by decide) (fun c_3 => ?_) (fun c_3 => ?_)
      · skip
        refine lv_iconst (v := 0) hx hb dX1_down_34 (by decide) ?_
        refine lv_icmp_eq (tgt := 45) hx hb dX1_down_35 (by decide) (fun _ => ?_) (fun q => absurd (by decide) q)
        refine lv_lload hx hb dX1_down_45 (lv_at hl 0 rfl) ?_
        exact pu_lret hx hb hr hlocks hs dX1_down_47 (by rw [f_X1_down, if_neg c_1, if_neg c_2, if_neg c_3])
      · skip
        refine lv_iconst (v := 1) hx hb dX1_down_30 (by decide) ?_
        refine lv_goto (tgt := 35) hx hb dX1_down_31 (by decide) ?_
        refine lv_icmp_eq (tgt := 45) hx hb dX1_down_35 (by decide) (fun q => absurd q (by decide)) (fun _ => ?_)
        refine lv_lload hx hb dX1_down_38 (lv_at hl 0 rfl) ?_
        refine lv_lconst (v := 1) hx hb dX1_down_40 (by decide) ?_
        refine lv_lsub hx hb dX1_down_41 ?_
        refine lv_goto (tgt := 47) hx hb dX1_down_42 (by decide) ?_
        exact pu_lret hx hb hr hlocks hs dX1_down_47 (by rw [f_X1_down, if_neg c_1, if_neg c_2, if_pos c_3])
    · skip
      refine lv_iconst (v := 1) hx hb dX1_down_19 (by decide) ?_
      refine lv_goto (tgt := 24) hx hb dX1_down_20 (by decide) ?_
      refine lv_lload_n hx hb dX1_down_24 rfl (lv_at hl 2 rfl) ?_
      refine lv_lconst (v := 0) hx hb dX1_down_25 (by decide) ?_
      refine pl_ge (tgt := 34) hx hb dX1_down_26 dX1_down_27 (by decide) (fun c_6 => ?_) (fun c_6 => ?_)
      · skip
        refine lv_iconst (v := 0) hx hb dX1_down_34 (by decide) ?_
        refine lv_icmp_eq (tgt := 45) hx hb dX1_down_35 (by decide) (fun q => absurd q (by decide)) (fun _ => ?_)
        refine lv_lload hx hb dX1_down_38 (lv_at hl 0 rfl) ?_
        refine lv_lconst (v := 1) hx hb dX1_down_40 (by decide) ?_
        refine lv_lsub hx hb dX1_down_41 ?_
        refine lv_goto (tgt := 47) hx hb dX1_down_42 (by decide) ?_
        exact pu_lret hx hb hr hlocks hs dX1_down_47 (by rw [f_X1_down, if_neg c_1, if_pos c_2, if_neg c_6])
      · skip
        refine lv_iconst (v := 1) hx hb dX1_down_30 (by decide) ?_
        refine lv_goto (tgt := 35) hx hb dX1_down_31 (by decide) ?_
        refine lv_icmp_eq (tgt := 45) hx hb dX1_down_35 (by decide) (fun _ => ?_) (fun q => absurd (by decide) q)
        refine lv_lload hx hb dX1_down_45 (lv_at hl 0 rfl) ?_
        exact pu_lret hx hb hr hlocks hs dX1_down_47 (by rw [f_X1_down, if_neg c_1, if_pos c_2, if_pos c_6])
theorem hdS_X1_rounded : yX1_rounded.cls ≠ "java/lang/invoke/MethodHandle" ∧ yX1_rounded.cls ≠ "java/lang/invoke/VarHandle" ∧ (parseMethodDescriptor yX1_rounded.desc).map (fun d => d.parameters.length) = some 1 := by decide +kernel
def f_X1_rounded (p0 : Int64) : Int64 := (f_X1_down ((p0 + 32768)) (65536))
abbrev rm_X1_rounded : Room := { frames := 1, cells := 0, slots := 0, locals := 41 }
set_option maxHeartbeats 4000000 in
set_option maxRecDepth 100000 in
theorem cc_X1_rounded (l : Launch) (H0 : Heap) (p0 : Int64)   : Met l yX1_rounded wsX1_rounded rm_X1_rounded (pPc [.long p0] H0 (kN)) (pQl H0 (f_X1_rounded p0)) 0 0 (fun _ => False) := by
  refine pu_head (cc := cX1_rounded) (maxL := 2) (ret := some .long) (by decide +kernel) rfl (Nat.le_of_ble_eq_true rfl) ?_
  intro p e s m below meth c ls hx hb hr hlocks hml hown hts hs hk hl
  have hown : s.vm.findClass RX1 = some m.cls := hown
  have hl : lv_has ls 2 [(0, .long p0)] := hl
  refine lv_lload_n hx hb dX1_rounded_0 rfl (lv_at hl 0 rfl) ?_
  refine lv_ldc2 (v := 32768) hx hb hown (hts (.constantLong RX1 34 (32768)) (by decide +kernel)) dX1_rounded_1 ?_
  refine lv_ladd hx hb dX1_rounded_4 ?_
  refine lv_ldc2 (v := 65536) hx hb hown (hts (.constantLong RX1 23 (65536)) (by decide +kernel)) dX1_rounded_5 ?_
  refine pu_Sl (As := [.long (p0 + 32768), .long 65536]) (rest := []) ⟨hx, hb, hml, hown, hts⟩ (cc_X1_down l H0 ((p0 + 32768)) (65536) (by decide)) 2 gX1_rounded_X1_down rfl rfl rfl hdS_X1_down ⟨Nat.le_of_ble_eq_true rfl, Nat.le_of_ble_eq_true rfl⟩ kN_ok kN_at rfl hl.1 rfl (Nat.le_of_ble_eq_true rfl) dX1_rounded_8 ⟨Nat.zero_le _, Nat.zero_le _⟩ ?_
  exact pu_lret hx hb hr hlocks hs dX1_rounded_11 (by rw [f_X1_rounded])
end
section
/-! Numbers: longs as whole numbers, floors, counters, the table's places. -/
theorem rg (x : Int64) : -9223372036854775808 ≤ x.toInt ∧ x.toInt < 9223372036854775808 := by
  have h1 := Int64.le_toInt x
  have h2 := Int64.toInt_lt x
  omega
theorem rgI (x : Int32) : -2147483648 ≤ x.toInt ∧ x.toInt < 2147483648 := by
  have h1 := Int32.le_toInt x
  have h2 := Int32.toInt_lt x
  omega
theorem bm {z : Int} (h1 : -9223372036854775808 ≤ z) (h2 : z < 9223372036854775808) : z.bmod (2 ^ 64) = z := by
  rw [Int.bmod_eq_of_le (by omega) (by omega)]
theorem bmI {z : Int} (h1 : -2147483648 ≤ z) (h2 : z < 2147483648) : z.bmod (2 ^ 32) = z := by
  rw [Int.bmod_eq_of_le (by omega) (by omega)]
theorem tA {x y : Int64} (h1 : -9223372036854775808 ≤ x.toInt + y.toInt) (h2 : x.toInt + y.toInt < 9223372036854775808) : (x + y).toInt = x.toInt + y.toInt := by
  rw [Int64.toInt_add, bm h1 h2]
theorem tS {x y : Int64} (h1 : -9223372036854775808 ≤ x.toInt - y.toInt) (h2 : x.toInt - y.toInt < 9223372036854775808) : (x - y).toInt = x.toInt - y.toInt := by
  rw [Int64.toInt_sub, bm h1 h2]
theorem tM {x y : Int64} (h1 : -9223372036854775808 ≤ x.toInt * y.toInt) (h2 : x.toInt * y.toInt < 9223372036854775808) : (x * y).toInt = x.toInt * y.toInt := by
  rw [Int64.toInt_mul, bm h1 h2]
theorem tN {x : Int64} (h : x.toInt ≠ -9223372036854775808) : (-x).toInt = -x.toInt := by
  have := rg x
  rw [Int64.toInt_neg, bm (by omega) (by omega)]
theorem tI {x : Int64} (h1 : -2147483648 ≤ x.toInt) (h2 : x.toInt < 2147483648) : x.toInt32.toInt = x.toInt := by
  rw [Int64.toInt_toInt32, bmI h1 h2]
theorem tAI {x y : Int32} (h1 : -2147483648 ≤ x.toInt + y.toInt) (h2 : x.toInt + y.toInt < 2147483648) : (x + y).toInt = x.toInt + y.toInt := by
  rw [Int32.toInt_add, bmI h1 h2]
theorem tSI {x y : Int32} (h1 : -2147483648 ≤ x.toInt - y.toInt) (h2 : x.toInt - y.toInt < 2147483648) : (x - y).toInt = x.toInt - y.toInt := by
  rw [Int32.toInt_sub, bmI h1 h2]
theorem ltL {x y : Int64} : x < y ↔ x.toInt < y.toInt := Int64.lt_iff_toInt_lt
theorem eqL {x y : Int64} : x = y ↔ x.toInt = y.toInt := Int64.toInt_inj.symm
theorem ltI {x y : Int32} : x < y ↔ x.toInt < y.toInt := Int32.lt_iff_toInt_lt
theorem eqI {x y : Int32} : x = y ↔ x.toInt = y.toInt := Int32.toInt_inj.symm
theorem sh64r (a s : Int64) (k : Nat) (hs : (s.toBitVec.smod 64).toNat = k) : (a >>> s).toInt = a.toInt / 2 ^ k := by
  show (a.toBitVec.sshiftRight (s.toBitVec.smod 64).toNat).toInt = _
  rw [hs, BitVec.toInt_sshiftRight, Int.shiftRight_eq_div_pow]
  rfl
theorem sh16 (x : Int64) : (x >>> ((16 : Int32).toInt64 &&& 63)).toInt = x.toInt / 65536 := sh64r x _ 16 (by decide)
theorem flU {a b q : Int} (hb : 0 < b) (h1 : q * b ≤ a) (h2 : a < q * b + b) : a / b = q := by
  have k1 : q ≤ a / b := (Int.le_ediv_iff_mul_le hb).mpr h1
  have k2 : a / b < q + 1 := (Int.ediv_lt_iff_lt_mul hb).mpr (by rw [Int.add_mul, Int.one_mul]; exact h2)
  omega
/-- a division of longs towards 0, by a divisor above 0: nothing overflows -/
theorem dv {a b : Int64} (hb : 0 < b.toInt) : (a / b).toInt = a.toInt.tdiv b.toInt ∧ (a / b * b).toInt = a.toInt.tdiv b.toInt * b.toInt ∧ (a - a / b * b).toInt = a.toInt - a.toInt.tdiv b.toInt * b.toInt ∧
    (0 ≤ a.toInt → a.toInt.tdiv b.toInt = a.toInt / b.toInt ∧ a.toInt.tdiv b.toInt * b.toInt ≤ a.toInt ∧ a.toInt < a.toInt.tdiv b.toInt * b.toInt + b.toInt) ∧ (a.toInt < 0 → a.toInt.tdiv b.toInt * b.toInt - b.toInt < a.toInt ∧ a.toInt ≤ a.toInt.tdiv b.toInt * b.toInt ∧ a.toInt.tdiv b.toInt ≤ 0) := by
  have ra := rg a
  have rb := rg b
  have e1 : (a / b).toInt = a.toInt.tdiv b.toInt := Int64.toInt_div_of_ne_right a b (fun h => by rw [h] at hb; exact absurd hb (by decide))
  have m1 : a.toInt.tdiv b.toInt * b.toInt + a.toInt.tmod b.toInt = a.toInt := by rw [Int.mul_comm]; exact Int.mul_tdiv_add_tmod a.toInt b.toInt
  have p1 : 0 ≤ a.toInt → 0 ≤ a.toInt.tmod b.toInt ∧ a.toInt.tmod b.toInt < b.toInt := fun h => ⟨Int.tmod_nonneg _ h, Int.tmod_lt_of_pos _ hb⟩
  have p2 : a.toInt < 0 → -b.toInt < a.toInt.tmod b.toInt ∧ a.toInt.tmod b.toInt ≤ 0 := fun h => by
    have k := Int.tmod_nonneg b.toInt (show 0 ≤ -a.toInt by omega)
    have k2 := Int.tmod_lt_of_pos (-a.toInt) hb
    rw [Int.neg_tmod] at k k2
    omega
  have p3 : a.toInt < 0 → a.toInt.tdiv b.toInt ≤ 0 := fun h => by
    have k := Int.tdiv_nonneg (show 0 ≤ -a.toInt by omega) (show 0 ≤ b.toInt by omega)
    rw [Int.neg_tdiv] at k
    omega
  have p4 : 0 ≤ a.toInt → a.toInt.tdiv b.toInt = a.toInt / b.toInt := fun h => Int.tdiv_eq_ediv_of_nonneg h
  have e2 : (a / b * b).toInt = a.toInt.tdiv b.toInt * b.toInt := by
    rw [← e1]
    refine tM ?_ ?_ <;> rw [e1] <;> rcases Int.lt_or_le a.toInt 0 with h | h
    · have := p2 h; omega
    · have := p1 h; omega
    · have := p2 h; omega
    · have := p1 h; omega
  have e3 : (a - a / b * b).toInt = a.toInt - a.toInt.tdiv b.toInt * b.toInt := by
    rw [← e2]
    refine tS ?_ ?_ <;> rw [e2] <;> rcases Int.lt_or_le a.toInt 0 with h | h
    · have := p2 h; omega
    · have := p1 h; omega
    · have := p2 h; omega
    · have := p1 h; omega
  refine ⟨e1, e2, e3, fun h => ⟨p4 h, ?_, ?_⟩, fun h => ⟨?_, ?_, p3 h⟩⟩
  · have := p1 h; omega
  · have := p1 h; omega
  · have := p2 h; omega
  · have := p2 h; omega
theorem i0 : (0 : Int64).toInt = 0 := by decide
theorem i1 : (1 : Int64).toInt = 1 := by decide
/-- the floor that the reference reckons -/
theorem dn_s {a b : Int64} (hb : 0 < b.toInt) : (f_X1_down a b).toInt = a.toInt / b.toInt := by
  obtain ⟨e1, e2, e3, h1, h2⟩ := dv (a := a) hb
  have ra := rg a
  have rb := rg b
  have nb : ¬ b < 0 := by rw [ltL, i0]; omega
  unfold f_X1_down
  rw [if_neg nb, if_neg nb]
  by_cases c1 : a - a / b * b = 0
  · rw [if_pos c1, e1]
    rw [eqL, e3, i0] at c1
    exact (flU hb (by omega) (by omega)).symm
  · rw [if_neg c1]
    rw [eqL, e3, i0] at c1
    by_cases c2 : a < 0
    · rw [if_pos c2]
      rw [ltL, i0] at c2
      obtain ⟨q1, q2, q3⟩ := h2 c2
      have hq : -9223372036854775808 < (a / b).toInt := by
        rw [e1]
        rcases Int.lt_or_le 0 (a.toInt.tdiv b.toInt + 9223372036854775808) with h | h
        · omega
        · have hm : a.toInt.tdiv b.toInt * b.toInt ≤ a.toInt.tdiv b.toInt * 1 := Int.mul_le_mul_of_nonpos_left q3 (by omega)
          omega
      rw [tS (by rw [i1]; omega) (by rw [i1]; have := rg (a / b); omega), e1, i1]
      refine (flU hb ?_ ?_).symm <;> rw [Int.sub_mul, Int.one_mul] <;> omega
    · rw [if_neg c2, e1]
      rw [ltL, i0] at c2
      exact (h1 (by omega)).1
/-- signs by the exclusive or -/
theorem xs {a b : Int64} (hb : 0 < b.toInt) : (a ^^^ b) < 0 ↔ a < 0 := by
  have h0 : ∀ x : Int64, x < 0 ↔ x.toBitVec.msb = true := fun x => by
    rw [ltL, i0, ← Int64.toInt_toBitVec, BitVec.msb_eq_toInt]
    simp
  have hbm : b.toBitVec.msb = false := by
    rw [BitVec.msb_eq_toInt]
    simp
    omega
  rw [h0, h0, Int64.toBitVec_xor, BitVec.msb_xor, hbm, Bool.xor_false]
theorem fd_s {a b : Int64} (hb : 0 < b.toInt) : f_J9_floorDiv_f86c9 a b = f_X1_down a b := by
  obtain ⟨e1, e2, e3, h1, h2⟩ := dv (a := a) hb
  have nb : ¬ b < 0 := by rw [ltL, i0]; omega
  have hz : (a / b * b = a) ↔ (a - a / b * b = 0) := by rw [eqL, eqL, e2, e3, i0]; omega
  unfold f_J9_floorDiv_f86c9 f_X1_down
  simp only [xs hb, hz, if_neg nb]
  by_cases c1 : a - a / b * b = 0 <;> by_cases c2 : a < 0 <;> simp [c1, c2]
theorem fm_s {a b : Int64} (hb : 0 < b.toInt) : f_J9_floorMod_f86c9 a b = a - f_X1_down a b * b := by
  have nb : ¬ b < 0 := by rw [ltL, i0]; omega
  unfold f_J9_floorMod_f86c9 f_X1_down
  simp only [xs hb, if_neg nb]
  by_cases c1 : a - a / b * b = 0 <;> by_cases c2 : a < 0
  · rw [if_pos c2, if_pos c1, if_pos c1]
  · rw [if_neg c2, if_pos c1]
  · rw [if_pos c2, if_neg c1, if_neg c1, if_pos c2, Int64.sub_mul]
    grind
  · rw [if_neg c2, if_neg c1, if_neg c2]
theorem abs_s (x : Int64) (h : x.toInt ≠ -9223372036854775808) : ((if 0 < x then x else -x) : Int64).toInt = if 0 < x.toInt then x.toInt else -x.toInt := by
  by_cases c : 0 < x
  · rw [if_pos c]
    rw [ltL, i0] at c
    rw [if_pos c]
  · rw [if_neg c]
    rw [ltL, i0] at c
    rw [if_neg c, tN h]
theorem abs_ne0 {x : Int64} (h : ¬ x = 0) : ¬ (if 0 < x then x else -x) = 0 := by
  by_cases c : 0 < x
  · rw [if_pos c]; exact h
  · rw [if_neg c]
    intro q
    exact Int64.neg_ne_zero.mpr h q
theorem i64_0 {x : Int32} (h : ¬ x = 0) : ¬ x.toInt64 = 0 := by
  rw [eqL, Int32.toInt_toInt64, i0]
  rw [eqI, Int32.toInt_zero] at h
  exact h
/-- counters -/
theorem cn_lt {N n : Nat} {b : Int32} (hb : b = nI N) (hN : N < 2 ^ 31) (h : n + 1 ≤ N) : nI (N - (n + 1)) < b := by
  rw [hb]
  exact nI_lt (by omega) hN
theorem cn_st {N n : Nat} (h : n + 1 ≤ N) : nI (N - (n + 1)) + Int32.ofInt 1 = nI (N - n) := by
  rw [show N - n = (N - (n + 1)) + 1 by omega]
  exact (nI_succ _).symm
/-- the table's places -/
theorem sfq_ix {x : Int64} (h1 : 0 < x) (h2 : x < 5898240) : vp_in (x >>> ((16 : Int32).toInt64 &&& 63)).toInt32 91 := by
  rw [ltL, i0] at h1
  rw [ltL, show (5898240 : Int64).toInt = 5898240 by decide] at h2
  rw [vp_in_iff, tI (by rw [sh16]; omega) (by rw [sh16]; omega), sh16]
  omega
theorem sfq_ix1 {x : Int64} (h1 : 0 < x) (h2 : x < 5898240) : vp_in ((x >>> ((16 : Int32).toInt64 &&& 63)).toInt32 + 1) 91 := by
  rw [ltL, i0] at h1
  rw [ltL, show (5898240 : Int64).toInt = 5898240 by decide] at h2
  have e : (x >>> ((16 : Int32).toInt64 &&& 63)).toInt32.toInt = x.toInt / 65536 := by rw [tI (by rw [sh16]; omega) (by rw [sh16]; omega), sh16]
  have e1 : (1 : Int32).toInt = 1 := by decide
  rw [vp_in_iff, tAI (by rw [e, e1]; omega) (by rw [e, e1]; omega), e, e1]
  omega
theorem qd {x : Int64} (h : 0 ≤ x.toInt ∧ x.toInt ≤ 5898240) : (x / 65536).toInt32.toInt = x.toInt / 65536 := by
  have e := (dv (a := x) (b := 65536) (by decide)).1
  have e2 := ((dv (a := x) (b := 65536) (by decide)).2.2.2.1 h.1).1
  have e3 : (65536 : Int64).toInt = 65536 := by decide
  rw [e3] at e e2
  rw [tI (by omega) (by omega), e, e2]
theorem qt_ix {x : Int64} (h : 0 ≤ x.toInt ∧ x.toInt ≤ 5898240) : vp_in (x / 65536).toInt32 91 := by
  rw [vp_in_iff, qd h]
  omega
theorem qt_ix1 {x : Int64} (h : 0 ≤ x.toInt ∧ x.toInt ≤ 5898240) (hf : ¬ (x - (x / 65536).toInt32.toInt64 * 65536) = 0) : vp_in ((x / 65536).toInt32 + 1) 91 := by
  have hn : x.toInt ≠ 5898240 := by
    intro q
    have e : x = 5898240 := by rw [eqL, q]; decide
    subst e
    exact hf (by decide)
  have e1 : (1 : Int32).toInt = 1 := by decide
  rw [vp_in_iff, tAI (by rw [qd h, e1]; omega) (by rw [qd h, e1]; omega), qd h, e1]
  omega
/-- the halving of the reference's search -/
def frI (n : Nat) (lo hi : Int64) : Prop := 0 ≤ lo.toInt ∧ lo.toInt < hi.toInt ∧ hi.toInt ≤ 1099511627776 ∧ hi.toInt - lo.toInt ≤ 2 ^ n
theorem frI_z {lo hi : Int64} (h : frI 0 lo hi) : ¬ 1 < hi - lo := by
  obtain ⟨h1, h2, h3, h4⟩ := h
  rw [Int.pow_zero] at h4
  rw [ltL, i1, tS (by omega) (by omega)]
  omega
theorem frI_m {n : Nat} {lo hi : Int64} (h : frI n lo hi) : ((lo + hi) / 2).toInt = (lo.toInt + hi.toInt) / 2 := by
  obtain ⟨h1, h2, h3, h4⟩ := h
  have e : (lo + hi).toInt = lo.toInt + hi.toInt := tA (by omega) (by omega)
  obtain ⟨q1, -, -, q2, -⟩ := dv (a := lo + hi) (b := 2) (by decide)
  rw [q1, (q2 (by omega)).1, e]
  rfl
theorem frI_lo {n : Nat} {lo hi : Int64} (h : frI (n + 1) lo hi) (c : 1 < hi - lo) : frI n ((lo + hi) / 2) hi := by
  have m := frI_m h
  obtain ⟨h1, h2, h3, h4⟩ := h
  rw [ltL, i1, tS (by omega) (by omega)] at c
  rw [Int.pow_succ] at h4
  unfold frI
  rw [m]
  omega
theorem frI_hi {n : Nat} {lo hi : Int64} (h : frI (n + 1) lo hi) (c : 1 < hi - lo) : frI n lo ((lo + hi) / 2) := by
  have m := frI_m h
  obtain ⟨h1, h2, h3, h4⟩ := h
  rw [ltL, i1, tS (by omega) (by omega)] at c
  rw [Int.pow_succ] at h4
  unfold frI
  rw [m]
  omega
theorem nI64 {k : Nat} (h : k < 2 ^ 31) : (nI k).toInt64.toInt = (k : Int) := by
  rw [Int32.toInt_toInt64, nI_toInt h]
theorem k65 : (65536 : Int64).toInt = 65536 := by decide
theorem nI65 {k : Nat} (h : k ≤ 1000) : ((nI k).toInt64 * 65536).toInt = (k : Int) * 65536 := by
  have e := nI64 (k := k) (by omega)
  rw [tM (by rw [e, k65]; omega) (by rw [e, k65]; omega), e, k65]
theorem frI_0 (k : Nat) (h : k ≤ 90) : frI 16 ((nI k).toInt64 * 65536) ((nI k).toInt64 * 65536 + 65536) := by
  have e := nI65 (k := k) (by omega)
  have e2 : ((nI k).toInt64 * 65536 + 65536).toInt = (k : Int) * 65536 + 65536 := by rw [tA (by rw [e, k65]; omega) (by rw [e, k65]; omega), e, k65]
  unfold frI
  rw [e2, e]
  omega
/-- one turn -/
theorem k360 : (23592960 : Int64).toInt = 23592960 := by decide
theorem k180 : (11796480 : Int64).toInt = 11796480 := by decide
theorem k90 : (5898240 : Int64).toInt = 5898240 := by decide
theorem sn_m (n : Int64) : (n - f_X1_down n 23592960 * 23592960).toInt = n.toInt % 23592960 := by
  have rn := rg n
  have d := dn_s (a := n) (b := 23592960) (by decide)
  rw [k360] at d
  rw [Int64.toInt_sub, Int64.toInt_mul, d, k360, Int.sub_bmod_bmod, bm (by omega) (by omega)]
  omega
theorem sn_r (n : Int64) : 0 ≤ (n - f_X1_down n 23592960 * 23592960).toInt ∧ (n - f_X1_down n 23592960 * 23592960).toInt < 23592960 := by
  rw [sn_m]
  omega
theorem sn_tt {a : Int64} (h : 0 ≤ a.toInt ∧ a.toInt < 23592960) (c1 : a < 11796480) (c2 : 5898240 < a) : 0 ≤ (11796480 - a).toInt ∧ (11796480 - a).toInt ≤ 5898240 := by
  rw [ltL, k180] at c1
  rw [ltL, k90] at c2
  rw [tS (by rw [k180]; omega) (by rw [k180]; omega), k180]
  omega
theorem sn_tf {a : Int64} (h : 0 ≤ a.toInt ∧ a.toInt < 23592960) (c1 : a < 11796480) (c2 : ¬ 5898240 < a) : 0 ≤ a.toInt ∧ a.toInt ≤ 5898240 := by
  rw [ltL, k90] at c2
  omega
theorem sn_ff {a : Int64} (h : 0 ≤ a.toInt ∧ a.toInt < 23592960) (c1 : ¬ a < 11796480) (c2 : ¬ 5898240 < a - 11796480) : 0 ≤ (a - 11796480).toInt ∧ (a - 11796480).toInt ≤ 5898240 := by
  rw [ltL, k180] at c1
  have e : (a - 11796480).toInt = a.toInt - 11796480 := by rw [tS (by rw [k180]; omega) (by rw [k180]; omega), k180]
  rw [ltL, k90, e] at c2
  rw [e]
  omega
theorem sn_ft {a : Int64} (h : 0 ≤ a.toInt ∧ a.toInt < 23592960) (c1 : ¬ a < 11796480) (c2 : 5898240 < a - 11796480) : 0 ≤ (11796480 - (a - 11796480)).toInt ∧ (11796480 - (a - 11796480)).toInt ≤ 5898240 := by
  rw [ltL, k180] at c1
  have e : (a - 11796480).toInt = a.toInt - 11796480 := by rw [tS (by rw [k180]; omega) (by rw [k180]; omega), k180]
  rw [ltL, k90, e] at c2
  rw [tS (by rw [k180, e]; omega) (by rw [k180, e]; omega), k180, e]
  omega
/-- the reference's shift, place by place -/
theorem sh_e {b : Int32} (h1 : ¬ 31 < b) (h2 : ¬ b < -31) : b.toInt.toNat ≤ b.toInt.toNat ∧ b.toInt ≤ 31 ∧ -31 ≤ b.toInt := by
  rw [ltI, show (31 : Int32).toInt = 31 by decide] at h1
  rw [ltI, show (-31 : Int32).toInt = -31 by decide] at h2
  omega
theorem sh1_z {b : Int32} (h : 0 ≤ b.toInt.toNat ∧ b.toInt ≤ 31 ∧ -31 ≤ b.toInt) : ¬ nI (b.toInt.toNat - 0) < b := by
  rw [ltI, nI_toInt (by omega)]
  omega
theorem sh1_s {b : Int32} {n : Nat} (h : n + 1 ≤ b.toInt.toNat ∧ b.toInt ≤ 31 ∧ -31 ≤ b.toInt) : nI (b.toInt.toNat - (n + 1)) < b := by
  rw [ltI, nI_toInt (by omega)]
  omega
theorem nIn {k : Nat} (h : k < 1000) : (-(nI k)).toInt = -(k : Int) := by
  have e := nI_toInt (n := k) (by omega)
  rw [Int32.toInt_neg, e, bmI (by omega) (by omega)]
theorem sh2_z {b : Int32} (h : 0 ≤ (-b.toInt).toNat ∧ b.toInt ≤ 31 ∧ -31 ≤ b.toInt) : ¬ b < -(nI ((-b.toInt).toNat - 0)) := by
  rw [ltI, nIn (by omega)]
  omega
theorem sh2_s {b : Int32} {n : Nat} (h : n + 1 ≤ (-b.toInt).toNat ∧ b.toInt ≤ 31 ∧ -31 ≤ b.toInt) : b < -(nI ((-b.toInt).toNat - (n + 1))) := by
  rw [ltI, nIn (by omega)]
  omega
theorem sh2_i {b : Int32} {n : Nat} (h : n + 1 ≤ (-b.toInt).toNat ∧ b.toInt ≤ 31 ∧ -31 ≤ b.toInt) : -(nI ((-b.toInt).toNat - (n + 1))) + Int32.ofInt (-1) = -(nI ((-b.toInt).toNat - n)) := by
  have e1 := nIn (k := (-b.toInt).toNat - (n + 1)) (by omega)
  have e2 := nIn (k := (-b.toInt).toNat - n) (by omega)
  have e3 : (Int32.ofInt (-1)).toInt = -1 := by decide
  rw [eqI, tAI (by rw [e1, e3]; omega) (by rw [e1, e3]; omega), e1, e2, e3]
  omega
end
section
theorem hdS_X0_root : yX0_root.cls ≠ "java/lang/invoke/MethodHandle" ∧ yX0_root.cls ≠ "java/lang/invoke/VarHandle" ∧ (parseMethodDescriptor yX0_root.desc).map (fun d => d.parameters.length) = some 1 := by decide +kernel
def f_X0_root_L13 (p0 : Int64) : Nat → Int64 → Int64 → Int64
  | 0, sq, rt => rt
  | n + 1, sq, rt => if sq < ((rt + ((1 : Int64) <<< ((nI n).toInt64 &&& 63))) * (rt + ((1 : Int64) <<< ((nI n).toInt64 &&& 63)))) then (f_X0_root_L13 p0 n (sq) (rt)) else (f_X0_root_L13 p0 n (sq) ((rt + ((1 : Int64) <<< ((nI n).toInt64 &&& 63)))))
def f_X0_root (p0 : Int64) : Int64 := f_X0_root_L13 p0 (24) ((p0 * 65536)) (0)
abbrev rm_X0_root : Room := { frames := 0, cells := 0, slots := 0, locals := 0 }
set_option maxHeartbeats 4000000 in
set_option maxRecDepth 100000 in
theorem cc_X0_root (l : Launch) (H0 : Heap) (p0 : Int64)   : Met l yX0_root wsX0_root rm_X0_root (pPc [.long p0] H0 (kN)) (pQl H0 (f_X0_root p0)) 0 0 (fun _ => False) := by
  refine pu_head (cc := cX0_root) (maxL := 9) (ret := some .long) (by decide +kernel) rfl (Nat.le_of_ble_eq_true rfl) ?_
  intro p e s m below meth c ls hx hb hr hlocks hml hown hts hs hk hl
  have hown : s.vm.findClass RX0 = some m.cls := hown
  have hl : lv_has ls 9 [(0, .long p0)] := hl
  have hL13 : ∀ (n : Nat) (sq : Int64) (rt : Int64), n ≤ 25 → (f_X0_root p0 = f_X0_root_L13 p0 n sq rt) → ∀ (ls : Array Slot), lv_has ls 9 [(2, .long sq), (4, .long rt), (6, .int (nI n - 1))] → W p l e (headSpec wsX0_root rm_X0_root).room s m ([.long p0] : List Value).toArray below meth c H0 [] 0 0 (MQ below (pQl H0 (f_X0_root p0)) ([.long p0] : List Value).toArray s 0 0 (fun _ => False)) (F0 m 13 ls []) := by
    intro n
    induction n with
    | zero =>
      intro sq rt hI hF ls hl
      refine lv_iload hx hb dX0_root_13 (lv_at hl 2 rfl) ?_
      refine lv_if_lt (tgt := 47) hx hb dX0_root_15 (by decide) (fun _ => ?_) (fun q => absurd (by decide) q)
      refine lv_lload hx hb dX0_root_47 (lv_at hl 1 rfl) ?_
      exact pu_lret hx hb hr hlocks hs dX0_root_49 (by rw [hF, f_X0_root_L13])
    | succ n ih =>
      intro sq rt hI hF ls hl
      rw [nI_pred] at hl
      refine lv_iload hx hb dX0_root_13 (lv_at hl 2 rfl) ?_
      refine lv_if_lt (tgt := 47) hx hb dX0_root_15 (by decide) (fun q => absurd q (nI_pos (by omega))) (fun _ => ?_)
      refine lv_lload hx hb dX0_root_18 (lv_at hl 1 rfl) ?_
      refine lv_lconst (v := 1) hx hb dX0_root_20 (by decide) ?_
      refine lv_iload hx hb dX0_root_21 (lv_at hl 2 rfl) ?_
      refine lv_lshl (v := ((1 : Int64) <<< ((nI n).toInt64 &&& 63))) hx hb dX0_root_23 rfl ?_
      refine lv_ladd hx hb dX0_root_24 ?_
      refine lv_lstore (lv' := [(7, .long (rt + ((1 : Int64) <<< ((nI n).toInt64 &&& 63)))), (2, .long sq), (4, .long rt), (6, .int (nI n))]) hx hb dX0_root_25 hl (by decide) rfl (fun ls hl => ?_)
      refine lv_lload hx hb dX0_root_27 (lv_at hl 0 rfl) ?_
      refine lv_lload hx hb dX0_root_29 (lv_at hl 0 rfl) ?_
      refine lv_lmul hx hb dX0_root_31 ?_
      refine lv_lload_n hx hb dX0_root_32 rfl (lv_at hl 1 rfl) ?_
      refine pl_gt (tgt := 41) hx hb dX0_root_33 dX0_root_34 (by decide) (fun c_3 => ?_) (fun c_3 => ?_)
      · skip
        refine lv_iinc (v := (nI n - 1)) (lv' := [(6, .int (nI n - 1)), (7, .long (rt + ((1 : Int64) <<< ((nI n).toInt64 &&& 63)))), (2, .long sq), (4, .long rt)]) (k := 3) hx hb dX0_root_41 hl rfl (by rw [Int32.sub_eq_add_neg]; rfl) (by decide) rfl (fun ls hl => ?_)
        refine lv_goto (tgt := 13) hx hb dX0_root_44 (by decide) ?_
        exact ih (sq) (rt) (by omega) (hF.trans (by rw [f_X0_root_L13, if_pos c_3])) ls (lv_sub hl [2, 3, 0] rfl)
      · skip
        refine lv_lload hx hb dX0_root_37 (lv_at hl 0 rfl) ?_
        refine lv_lstore (lv' := [(4, .long (rt + ((1 : Int64) <<< ((nI n).toInt64 &&& 63)))), (7, .long (rt + ((1 : Int64) <<< ((nI n).toInt64 &&& 63)))), (2, .long sq), (6, .int (nI n))]) hx hb dX0_root_39 hl (by decide) rfl (fun ls hl => ?_)
        refine lv_iinc (v := (nI n - 1)) (lv' := [(6, .int (nI n - 1)), (4, .long (rt + ((1 : Int64) <<< ((nI n).toInt64 &&& 63)))), (7, .long (rt + ((1 : Int64) <<< ((nI n).toInt64 &&& 63)))), (2, .long sq)]) (k := 3) hx hb dX0_root_41 hl rfl (by rw [Int32.sub_eq_add_neg]; rfl) (by decide) rfl (fun ls hl => ?_)
        refine lv_goto (tgt := 13) hx hb dX0_root_44 (by decide) ?_
        exact ih (sq) ((rt + ((1 : Int64) <<< ((nI n).toInt64 &&& 63)))) (by omega) (hF.trans (by rw [f_X0_root_L13, if_neg c_3])) ls (lv_sub hl [3, 1, 0] rfl)
  refine lv_lload_n hx hb dX0_root_0 rfl (lv_at hl 0 rfl) ?_
  refine lv_ldc2 (v := 65536) hx hb hown (hts (.constantLong RX0 97 (65536)) (by decide +kernel)) dX0_root_1 ?_
  refine lv_lmul hx hb dX0_root_4 ?_
  refine lv_lstore_n (lv' := [(2, .long (p0 * 65536)), (0, .long p0)]) hx hb dX0_root_5 rfl hl (by decide) rfl (fun ls hl => ?_)
  refine lv_lconst (v := 0) hx hb dX0_root_6 (by decide) ?_
  refine lv_lstore (lv' := [(4, .long 0), (2, .long (p0 * 65536)), (0, .long p0)]) hx hb dX0_root_7 hl (by decide) rfl (fun ls hl => ?_)
  refine lv_bipush (v := 23) hx hb dX0_root_9 (by decide) ?_
  refine lv_istore (lv' := [(6, .int 23), (4, .long 0), (2, .long (p0 * 65536)), (0, .long p0)]) hx hb dX0_root_11 hl (by decide) rfl (fun ls hl => ?_)
  exact hL13 (24) ((p0 * 65536)) (0) (by omega) (by rw [f_X0_root]) ls (lv_sub hl [2, 1, 0] rfl)
theorem hdS_X0_quotient : yX0_quotient.cls ≠ "java/lang/invoke/MethodHandle" ∧ yX0_quotient.cls ≠ "java/lang/invoke/VarHandle" ∧ (parseMethodDescriptor yX0_quotient.desc).map (fun d => d.parameters.length) = some 2 := by decide +kernel
def f_X0_quotient_L64 (p0 : Int64) (p1 : Int64) : Nat → Int64 → Int64 → Int64 → Int64
  | 0, sz, q, r => if r < (sz - r) then (q) else ((q + 1))
  | n + 1, sz, q, r => if r < (sz - r) then (f_X0_quotient_L64 p0 p1 n (sz) (((2 * q) + 0)) ((r + r))) else (f_X0_quotient_L64 p0 p1 n (sz) (((2 * q) + 1)) ((r - (sz - r))))
def f_X0_quotient (p0 : Int64) (p1 : Int64) : Int64 := if p1 < 0 then (if (f_J9_floorDiv_f86c9 ((-p0)) ((if 0 < p1 then p1 else -p1))) < (-32768) then (2147483648) else (if (f_J9_floorDiv_f86c9 ((-p0)) ((if 0 < p1 then p1 else -p1))) < 32768 then (f_X0_quotient_L64 p0 p1 (16) ((if 0 < p1 then p1 else -p1)) ((f_J9_floorDiv_f86c9 ((-p0)) ((if 0 < p1 then p1 else -p1)))) (((-p0) - ((f_J9_floorDiv_f86c9 ((-p0)) ((if 0 < p1 then p1 else -p1))) * (if 0 < p1 then p1 else -p1))))) else (2147483648))) else (if (f_J9_floorDiv_f86c9 (p0) ((if 0 < p1 then p1 else -p1))) < (-32768) then (2147483648) else (if (f_J9_floorDiv_f86c9 (p0) ((if 0 < p1 then p1 else -p1))) < 32768 then (f_X0_quotient_L64 p0 p1 (16) ((if 0 < p1 then p1 else -p1)) ((f_J9_floorDiv_f86c9 (p0) ((if 0 < p1 then p1 else -p1)))) ((p0 - ((f_J9_floorDiv_f86c9 (p0) ((if 0 < p1 then p1 else -p1))) * (if 0 < p1 then p1 else -p1))))) else (2147483648)))
abbrev rm_X0_quotient : Room := { frames := 1, cells := 0, slots := 0, locals := 41 }
set_option maxHeartbeats 4000000 in
set_option maxRecDepth 100000 in
theorem cc_X0_quotient (l : Launch) (H0 : Heap) (p0 : Int64) (p1 : Int64)  (hb0 : ¬ p1 = 0) : Met l yX0_quotient wsX0_quotient rm_X0_quotient (pPc [.long p0, .long p1] H0 (kN)) (pQl H0 (f_X0_quotient p0 p1)) 0 0 (fun _ => False) := by
  refine pu_head (cc := cX0_quotient) (maxL := 16) (ret := some .long) (by decide +kernel) rfl (Nat.le_of_ble_eq_true rfl) ?_
  intro p e s m below meth c ls hx hb hr hlocks hml hown hts hs hk hl
  have hown : s.vm.findClass RX0 = some m.cls := hown
  have hl : lv_has ls 16 [(0, .long p0), (2, .long p1)] := hl
  have hL64 : ∀ (n : Nat) (sz : Int64) (q : Int64) (r : Int64), n ≤ 16 → (f_X0_quotient p0 p1 = f_X0_quotient_L64 p0 p1 n sz q r) → ∀ (ls : Array Slot), lv_has ls 16 [(4, .long sz), (8, .long q), (10, .long r), (12, .int (nI (16 - n)))] → W p l e (headSpec wsX0_quotient rm_X0_quotient).room s m ([.long p0, .long p1] : List Value).toArray below meth c H0 [] 0 0 (MQ below (pQl H0 (f_X0_quotient p0 p1)) ([.long p0, .long p1] : List Value).toArray s 0 0 (fun _ => False)) (F0 m 64 ls []) := by
    intro n
    induction n with
    | zero =>
      intro sz q r hI hF ls hl
      refine lv_iload hx hb dX0_quotient_64 (lv_at hl 3 rfl) ?_
      refine lv_bipush (v := 16) hx hb dX0_quotient_66 (by decide) ?_
      refine pi_ge (tgt := 139) hx hb dX0_quotient_68 (by decide) (fun _ => ?_) (fun q => absurd q (by decide))
      refine lv_lload hx hb dX0_quotient_139 (lv_at hl 2 rfl) ?_
      refine lv_lload hx hb dX0_quotient_141 (lv_at hl 0 rfl) ?_
      refine lv_lload hx hb dX0_quotient_143 (lv_at hl 2 rfl) ?_
      refine lv_lsub hx hb dX0_quotient_145 ?_
      refine pl_lt (tgt := 157) hx hb dX0_quotient_146 dX0_quotient_147 (by decide) (fun c_2 => ?_) (fun c_2 => ?_)
      · skip
        refine lv_lload hx hb dX0_quotient_157 (lv_at hl 1 rfl) ?_
        exact pu_lret hx hb hr hlocks hs dX0_quotient_159 (by rw [hF, f_X0_quotient_L64, if_pos c_2])
      · skip
        refine lv_lload hx hb dX0_quotient_150 (lv_at hl 1 rfl) ?_
        refine lv_lconst (v := 1) hx hb dX0_quotient_152 (by decide) ?_
        refine lv_ladd hx hb dX0_quotient_153 ?_
        refine lv_goto (tgt := 159) hx hb dX0_quotient_154 (by decide) ?_
        exact pu_lret hx hb hr hlocks hs dX0_quotient_159 (by rw [hF, f_X0_quotient_L64, if_neg c_2])
    | succ n ih =>
      intro sz q r hI hF ls hl
      refine lv_iload hx hb dX0_quotient_64 (lv_at hl 3 rfl) ?_
      refine lv_bipush (v := 16) hx hb dX0_quotient_66 (by decide) ?_
      refine pi_ge (tgt := 139) hx hb dX0_quotient_68 (by decide) (fun q => absurd (cn_lt (N := 16) rfl (by decide) hI) q) (fun _ => ?_)
      refine lv_lload hx hb dX0_quotient_71 (lv_at hl 0 rfl) ?_
      refine lv_lload hx hb dX0_quotient_73 (lv_at hl 2 rfl) ?_
      refine lv_lsub hx hb dX0_quotient_75 ?_
      refine lv_lstore (lv' := [(13, .long (sz - r)), (4, .long sz), (8, .long q), (10, .long r), (12, .int (nI (16 - (n + 1))))]) hx hb dX0_quotient_76 hl (by decide) rfl (fun ls hl => ?_)
      refine lv_lload hx hb dX0_quotient_78 (lv_at hl 3 rfl) ?_
      refine lv_lload hx hb dX0_quotient_80 (lv_at hl 0 rfl) ?_
      refine pl_lt (tgt := 90) hx hb dX0_quotient_82 dX0_quotient_83 (by decide) (fun c_4 => ?_) (fun c_4 => ?_)
      · skip
        refine lv_iconst (v := 0) hx hb dX0_quotient_90 (by decide) ?_
        refine lv_istore (lv' := [(15, .int 0), (13, .long (sz - r)), (4, .long sz), (8, .long q), (10, .long r), (12, .int (nI (16 - (n + 1))))]) hx hb dX0_quotient_91 hl (by decide) rfl (fun ls hl => ?_)
        refine lv_ldc2 (v := 2) hx hb hown (hts (.constantLong RX0 155 (2)) (by decide +kernel)) dX0_quotient_93 ?_
        refine lv_lload hx hb dX0_quotient_96 (lv_at hl 3 rfl) ?_
        refine lv_lmul hx hb dX0_quotient_98 ?_
        refine lv_iload hx hb dX0_quotient_99 (lv_at hl 0 rfl) ?_
        refine lv_if_eq (tgt := 108) hx hb dX0_quotient_101 (by decide) (fun _ => ?_) (fun q => absurd (by decide) q)
        refine lv_iconst (v := 0) hx hb dX0_quotient_108 (by decide) ?_
        refine lv_i2l (v := 0) hx hb dX0_quotient_109 (by decide) ?_
        refine lv_ladd hx hb dX0_quotient_110 ?_
        refine lv_lstore (lv' := [(8, .long ((2 * q) + 0)), (15, .int 0), (13, .long (sz - r)), (4, .long sz), (10, .long r), (12, .int (nI (16 - (n + 1))))]) hx hb dX0_quotient_111 hl (by decide) rfl (fun ls hl => ?_)
        refine lv_iload hx hb dX0_quotient_113 (lv_at hl 1 rfl) ?_
        refine lv_if_eq (tgt := 126) hx hb dX0_quotient_115 (by decide) (fun _ => ?_) (fun q => absurd (by decide) q)
        refine lv_lload hx hb dX0_quotient_126 (lv_at hl 4 rfl) ?_
        refine lv_lload hx hb dX0_quotient_128 (lv_at hl 4 rfl) ?_
        refine lv_ladd hx hb dX0_quotient_130 ?_
        refine lv_lstore (lv' := [(10, .long (r + r)), (8, .long ((2 * q) + 0)), (15, .int 0), (13, .long (sz - r)), (4, .long sz), (12, .int (nI (16 - (n + 1))))]) hx hb dX0_quotient_131 hl (by decide) rfl (fun ls hl => ?_)
        refine lv_iinc (v := (nI (16 - n))) (lv' := [(12, .int (nI (16 - n))), (10, .long (r + r)), (8, .long ((2 * q) + 0)), (15, .int 0), (13, .long (sz - r)), (4, .long sz)]) (k := 5) hx hb dX0_quotient_133 hl rfl (cn_st hI) (by decide) rfl (fun ls hl => ?_)
        refine lv_goto (tgt := 64) hx hb dX0_quotient_136 (by decide) ?_
        exact ih (sz) (((2 * q) + 0)) ((r + r)) (by omega) (hF.trans (by rw [f_X0_quotient_L64, if_pos c_4])) ls (lv_sub hl [5, 2, 1, 0] rfl)
      · skip
        refine lv_iconst (v := 1) hx hb dX0_quotient_86 (by decide) ?_
        refine lv_goto (tgt := 91) hx hb dX0_quotient_87 (by decide) ?_
        refine lv_istore (lv' := [(15, .int 1), (13, .long (sz - r)), (4, .long sz), (8, .long q), (10, .long r), (12, .int (nI (16 - (n + 1))))]) hx hb dX0_quotient_91 hl (by decide) rfl (fun ls hl => ?_)
        refine lv_ldc2 (v := 2) hx hb hown (hts (.constantLong RX0 155 (2)) (by decide +kernel)) dX0_quotient_93 ?_
        refine lv_lload hx hb dX0_quotient_96 (lv_at hl 3 rfl) ?_
        refine lv_lmul hx hb dX0_quotient_98 ?_
        refine lv_iload hx hb dX0_quotient_99 (lv_at hl 0 rfl) ?_
        refine lv_if_eq (tgt := 108) hx hb dX0_quotient_101 (by decide) (fun q => absurd q (by decide)) (fun _ => ?_)
        refine lv_iconst (v := 1) hx hb dX0_quotient_104 (by decide) ?_
        refine lv_goto (tgt := 109) hx hb dX0_quotient_105 (by decide) ?_
        refine lv_i2l (v := 1) hx hb dX0_quotient_109 (by decide) ?_
        refine lv_ladd hx hb dX0_quotient_110 ?_
        refine lv_lstore (lv' := [(8, .long ((2 * q) + 1)), (15, .int 1), (13, .long (sz - r)), (4, .long sz), (10, .long r), (12, .int (nI (16 - (n + 1))))]) hx hb dX0_quotient_111 hl (by decide) rfl (fun ls hl => ?_)
        refine lv_iload hx hb dX0_quotient_113 (lv_at hl 1 rfl) ?_
        refine lv_if_eq (tgt := 126) hx hb dX0_quotient_115 (by decide) (fun q => absurd q (by decide)) (fun _ => ?_)
        refine lv_lload hx hb dX0_quotient_118 (lv_at hl 4 rfl) ?_
        refine lv_lload hx hb dX0_quotient_120 (lv_at hl 2 rfl) ?_
        refine lv_lsub hx hb dX0_quotient_122 ?_
        refine lv_goto (tgt := 131) hx hb dX0_quotient_123 (by decide) ?_
        refine lv_lstore (lv' := [(10, .long (r - (sz - r))), (8, .long ((2 * q) + 1)), (15, .int 1), (13, .long (sz - r)), (4, .long sz), (12, .int (nI (16 - (n + 1))))]) hx hb dX0_quotient_131 hl (by decide) rfl (fun ls hl => ?_)
        refine lv_iinc (v := (nI (16 - n))) (lv' := [(12, .int (nI (16 - n))), (10, .long (r - (sz - r))), (8, .long ((2 * q) + 1)), (15, .int 1), (13, .long (sz - r)), (4, .long sz)]) (k := 5) hx hb dX0_quotient_133 hl rfl (cn_st hI) (by decide) rfl (fun ls hl => ?_)
        refine lv_goto (tgt := 64) hx hb dX0_quotient_136 (by decide) ?_
        exact ih (sz) (((2 * q) + 1)) ((r - (sz - r))) (by omega) (hF.trans (by rw [f_X0_quotient_L64, if_neg c_4])) ls (lv_sub hl [5, 2, 1, 0] rfl)
  refine lv_lload_n hx hb dX0_quotient_0 rfl (lv_at hl 1 rfl) ?_
  refine va_mabs_long (own := RX0) hx hb (hml.trans hl.1.symm) hown (hts (.methodLink RX0 124 Lib.MathLoose.abs_long.x) (by decide +kernel)) (hts (.static Lib.MathLoose.abs_long.x) (by decide +kernel)) (hts (.initialized "java/lang/Math") (by decide +kernel)) (hts (.code Lib.MathLoose.abs_long.x Lib.MathLoose.abs_long.code 2 (some .long)) (by decide +kernel)) (Nat.le_of_ble_eq_true rfl) (Nat.le_of_ble_eq_true rfl) (Nat.zero_le _) (Nat.zero_le _) dX0_quotient_1 ?_
  refine lv_lstore (lv' := [(4, .long (if 0 < p1 then p1 else -p1)), (0, .long p0), (2, .long p1)]) hx hb dX0_quotient_4 hl (by decide) rfl (fun ls hl => ?_)
  refine lv_lload_n hx hb dX0_quotient_6 rfl (lv_at hl 2 rfl) ?_
  refine lv_lconst (v := 0) hx hb dX0_quotient_7 (by decide) ?_
  refine pl_ge (tgt := 17) hx hb dX0_quotient_8 dX0_quotient_9 (by decide) (fun c_9 => ?_) (fun c_9 => ?_)
  · skip
    refine lv_lload_n hx hb dX0_quotient_17 rfl (lv_at hl 1 rfl) ?_
    refine lv_lstore (lv' := [(6, .long p0), (4, .long (if 0 < p1 then p1 else -p1)), (0, .long p0), (2, .long p1)]) hx hb dX0_quotient_18 hl (by decide) rfl (fun ls hl => ?_)
    refine lv_lload hx hb dX0_quotient_20 (lv_at hl 0 rfl) ?_
    refine lv_lload hx hb dX0_quotient_22 (lv_at hl 1 rfl) ?_
    refine pu_Sl (As := [.long p0, .long (if 0 < p1 then p1 else -p1)]) (rest := []) ⟨hx, hb, hml, hown, hts⟩ (cc_J9_floorDiv_f86c9 l H0 (p0) ((if 0 < p1 then p1 else -p1)) (abs_ne0 hb0)) 2 gX0_quotient_J9_floorDiv_f86c9 rfl rfl rfl hdS_J9_floorDiv_f86c9 ⟨Nat.le_of_ble_eq_true rfl, Nat.le_of_ble_eq_true rfl⟩ kN_ok kN_at rfl hl.1 rfl (Nat.le_of_ble_eq_true rfl) dX0_quotient_24 ⟨Nat.zero_le _, Nat.zero_le _⟩ ?_
    refine lv_lstore (lv' := [(8, .long (f_J9_floorDiv_f86c9 (p0) ((if 0 < p1 then p1 else -p1)))), (6, .long p0), (4, .long (if 0 < p1 then p1 else -p1)), (0, .long p0), (2, .long p1)]) hx hb dX0_quotient_27 hl (by decide) rfl (fun ls hl => ?_)
    refine lv_lload hx hb dX0_quotient_29 (lv_at hl 0 rfl) ?_
    refine lv_ldc2 (v := (-32768)) hx hb hown (hts (.constantLong RX0 151 (-32768)) (by decide +kernel)) dX0_quotient_31 ?_
    refine pl_lt (tgt := 47) hx hb dX0_quotient_34 dX0_quotient_35 (by decide) (fun c_10 => ?_) (fun c_10 => ?_)
    · skip
      refine lv_ldc2 (v := 2147483648) hx hb hown (hts (.constantLong RX0 153 (2147483648)) (by decide +kernel)) dX0_quotient_47 ?_
      exact pu_lret hx hb hr hlocks hs dX0_quotient_50 (by rw [f_X0_quotient, if_neg c_9, if_pos c_10])
    · skip
      refine lv_lload hx hb dX0_quotient_38 (lv_at hl 0 rfl) ?_
      refine lv_ldc2 (v := 32768) hx hb hown (hts (.constantLong RX0 146 (32768)) (by decide +kernel)) dX0_quotient_40 ?_
      refine pl_lt (tgt := 51) hx hb dX0_quotient_43 dX0_quotient_44 (by decide) (fun c_11 => ?_) (fun c_11 => ?_)
      · skip
        refine lv_lload hx hb dX0_quotient_51 (lv_at hl 1 rfl) ?_
        refine lv_lload hx hb dX0_quotient_53 (lv_at hl 0 rfl) ?_
        refine lv_lload hx hb dX0_quotient_55 (lv_at hl 2 rfl) ?_
        refine lv_lmul hx hb dX0_quotient_57 ?_
        refine lv_lsub hx hb dX0_quotient_58 ?_
        refine lv_lstore (lv' := [(10, .long (p0 - ((f_J9_floorDiv_f86c9 (p0) ((if 0 < p1 then p1 else -p1))) * (if 0 < p1 then p1 else -p1)))), (8, .long (f_J9_floorDiv_f86c9 (p0) ((if 0 < p1 then p1 else -p1)))), (6, .long p0), (4, .long (if 0 < p1 then p1 else -p1)), (0, .long p0), (2, .long p1)]) hx hb dX0_quotient_59 hl (by decide) rfl (fun ls hl => ?_)
        refine lv_iconst (v := 0) hx hb dX0_quotient_61 (by decide) ?_
        refine lv_istore (lv' := [(12, .int 0), (10, .long (p0 - ((f_J9_floorDiv_f86c9 (p0) ((if 0 < p1 then p1 else -p1))) * (if 0 < p1 then p1 else -p1)))), (8, .long (f_J9_floorDiv_f86c9 (p0) ((if 0 < p1 then p1 else -p1)))), (6, .long p0), (4, .long (if 0 < p1 then p1 else -p1)), (0, .long p0), (2, .long p1)]) hx hb dX0_quotient_62 hl (by decide) rfl (fun ls hl => ?_)
        exact hL64 (16) ((if 0 < p1 then p1 else -p1)) ((f_J9_floorDiv_f86c9 (p0) ((if 0 < p1 then p1 else -p1)))) ((p0 - ((f_J9_floorDiv_f86c9 (p0) ((if 0 < p1 then p1 else -p1))) * (if 0 < p1 then p1 else -p1)))) (by omega) (by rw [f_X0_quotient, if_neg c_9, if_neg c_10, if_pos c_11]) ls (lv_sub hl [4, 2, 1, 0] rfl)
      · skip
        refine lv_ldc2 (v := 2147483648) hx hb hown (hts (.constantLong RX0 153 (2147483648)) (by decide +kernel)) dX0_quotient_47 ?_
        exact pu_lret hx hb hr hlocks hs dX0_quotient_50 (by rw [f_X0_quotient, if_neg c_9, if_neg c_10, if_neg c_11])
  · skip
    refine lv_lload_n hx hb dX0_quotient_12 rfl (lv_at hl 1 rfl) ?_
    refine lv_lneg hx hb dX0_quotient_13 ?_
    refine lv_goto (tgt := 18) hx hb dX0_quotient_14 (by decide) ?_
    refine lv_lstore (lv' := [(6, .long (-p0)), (4, .long (if 0 < p1 then p1 else -p1)), (0, .long p0), (2, .long p1)]) hx hb dX0_quotient_18 hl (by decide) rfl (fun ls hl => ?_)
    refine lv_lload hx hb dX0_quotient_20 (lv_at hl 0 rfl) ?_
    refine lv_lload hx hb dX0_quotient_22 (lv_at hl 1 rfl) ?_
    refine pu_Sl (As := [.long (-p0), .long (if 0 < p1 then p1 else -p1)]) (rest := []) ⟨hx, hb, hml, hown, hts⟩ (cc_J9_floorDiv_f86c9 l H0 ((-p0)) ((if 0 < p1 then p1 else -p1)) (abs_ne0 hb0)) 2 gX0_quotient_J9_floorDiv_f86c9 rfl rfl rfl hdS_J9_floorDiv_f86c9 ⟨Nat.le_of_ble_eq_true rfl, Nat.le_of_ble_eq_true rfl⟩ kN_ok kN_at rfl hl.1 rfl (Nat.le_of_ble_eq_true rfl) dX0_quotient_24 ⟨Nat.zero_le _, Nat.zero_le _⟩ ?_
    refine lv_lstore (lv' := [(8, .long (f_J9_floorDiv_f86c9 ((-p0)) ((if 0 < p1 then p1 else -p1)))), (6, .long (-p0)), (4, .long (if 0 < p1 then p1 else -p1)), (0, .long p0), (2, .long p1)]) hx hb dX0_quotient_27 hl (by decide) rfl (fun ls hl => ?_)
    refine lv_lload hx hb dX0_quotient_29 (lv_at hl 0 rfl) ?_
    refine lv_ldc2 (v := (-32768)) hx hb hown (hts (.constantLong RX0 151 (-32768)) (by decide +kernel)) dX0_quotient_31 ?_
    refine pl_lt (tgt := 47) hx hb dX0_quotient_34 dX0_quotient_35 (by decide) (fun c_12 => ?_) (fun c_12 => ?_)
    · skip
      refine lv_ldc2 (v := 2147483648) hx hb hown (hts (.constantLong RX0 153 (2147483648)) (by decide +kernel)) dX0_quotient_47 ?_
      exact pu_lret hx hb hr hlocks hs dX0_quotient_50 (by rw [f_X0_quotient, if_pos c_9, if_pos c_12])
    · skip
      refine lv_lload hx hb dX0_quotient_38 (lv_at hl 0 rfl) ?_
      refine lv_ldc2 (v := 32768) hx hb hown (hts (.constantLong RX0 146 (32768)) (by decide +kernel)) dX0_quotient_40 ?_
      refine pl_lt (tgt := 51) hx hb dX0_quotient_43 dX0_quotient_44 (by decide) (fun c_13 => ?_) (fun c_13 => ?_)
      · skip
        refine lv_lload hx hb dX0_quotient_51 (lv_at hl 1 rfl) ?_
        refine lv_lload hx hb dX0_quotient_53 (lv_at hl 0 rfl) ?_
        refine lv_lload hx hb dX0_quotient_55 (lv_at hl 2 rfl) ?_
        refine lv_lmul hx hb dX0_quotient_57 ?_
        refine lv_lsub hx hb dX0_quotient_58 ?_
        refine lv_lstore (lv' := [(10, .long ((-p0) - ((f_J9_floorDiv_f86c9 ((-p0)) ((if 0 < p1 then p1 else -p1))) * (if 0 < p1 then p1 else -p1)))), (8, .long (f_J9_floorDiv_f86c9 ((-p0)) ((if 0 < p1 then p1 else -p1)))), (6, .long (-p0)), (4, .long (if 0 < p1 then p1 else -p1)), (0, .long p0), (2, .long p1)]) hx hb dX0_quotient_59 hl (by decide) rfl (fun ls hl => ?_)
        refine lv_iconst (v := 0) hx hb dX0_quotient_61 (by decide) ?_
        refine lv_istore (lv' := [(12, .int 0), (10, .long ((-p0) - ((f_J9_floorDiv_f86c9 ((-p0)) ((if 0 < p1 then p1 else -p1))) * (if 0 < p1 then p1 else -p1)))), (8, .long (f_J9_floorDiv_f86c9 ((-p0)) ((if 0 < p1 then p1 else -p1)))), (6, .long (-p0)), (4, .long (if 0 < p1 then p1 else -p1)), (0, .long p0), (2, .long p1)]) hx hb dX0_quotient_62 hl (by decide) rfl (fun ls hl => ?_)
        exact hL64 (16) ((if 0 < p1 then p1 else -p1)) ((f_J9_floorDiv_f86c9 ((-p0)) ((if 0 < p1 then p1 else -p1)))) (((-p0) - ((f_J9_floorDiv_f86c9 ((-p0)) ((if 0 < p1 then p1 else -p1))) * (if 0 < p1 then p1 else -p1)))) (by omega) (by rw [f_X0_quotient, if_pos c_9, if_neg c_12, if_pos c_13]) ls (lv_sub hl [4, 2, 1, 0] rfl)
      · skip
        refine lv_ldc2 (v := 2147483648) hx hb hown (hts (.constantLong RX0 153 (2147483648)) (by decide +kernel)) dX0_quotient_47 ?_
        exact pu_lret hx hb hr hlocks hs dX0_quotient_50 (by rw [f_X0_quotient, if_pos c_9, if_neg c_12, if_neg c_13])
theorem hdS_X0_sineOfFirstQuarter : yX0_sineOfFirstQuarter.cls ≠ "java/lang/invoke/MethodHandle" ∧ yX0_sineOfFirstQuarter.cls ≠ "java/lang/invoke/VarHandle" ∧ (parseMethodDescriptor yX0_sineOfFirstQuarter.desc).map (fun d => d.parameters.length) = some 1 := by decide +kernel
def f_X0_sineOfFirstQuarter (p0 : Int64) : Int64 := if 0 < p0 then (if p0 < 5898240 then ((((sinV (((p0 >>> ((16 : Int32).toInt64 &&& 63))).toInt32).toNatClampNeg)).toInt64 + (f_X0_withoutPlaces (((((sinV ((((p0 >>> ((16 : Int32).toInt64 &&& 63))).toInt32 + 1)).toNatClampNeg) - (sinV (((p0 >>> ((16 : Int32).toInt64 &&& 63))).toInt32).toNatClampNeg))).toInt64 * (p0 - ((((p0 >>> ((16 : Int32).toInt64 &&& 63))).toInt32).toInt64 * 65536))))))) else (65536)) else (0)
abbrev rm_X0_sineOfFirstQuarter : Room := { frames := 1, cells := 0, slots := 0, locals := 37 }
set_option maxHeartbeats 4000000 in
set_option maxRecDepth 100000 in
theorem cc_X0_sineOfFirstQuarter (l : Launch) (H0 : Heap) (p0 : Int64)   : Met l yX0_sineOfFirstQuarter wsX0_sineOfFirstQuarter rm_X0_sineOfFirstQuarter (pPc [.long p0] H0 (kT "FixedPlane")) (pQl H0 (f_X0_sineOfFirstQuarter p0)) 0 0 (fun _ => False) := by
  refine pu_head (cc := cX0_sineOfFirstQuarter) (maxL := 5) (ret := some .long) (by decide +kernel) rfl (Nat.le_of_ble_eq_true rfl) ?_
  intro p e s m below meth c ls hx hb hr hlocks hml hown hts hs hk hl
  have hown : s.vm.findClass RX0 = some m.cls := hown
  have hl : lv_has ls 5 [(0, .long p0)] := hl
  have hkat : ∀ U : State, U.heap = H0 → s.WarmedH U.vm → kT "FixedPlane" U := by rw [← hs]; exact kT_at hk
  have hSt : va_S (fun _ => False) s.heap H0 [] := by rw [hs]; exact va_S.rf
  obtain ⟨tt, hZ, hTt⟩ := hk
  refine lv_lload_n hx hb dX0_sineOfFirstQuarter_0 rfl (lv_at hl 0 rfl) ?_
  refine lv_lconst (v := 0) hx hb dX0_sineOfFirstQuarter_1 (by decide) ?_
  refine pl_gt (tgt := 8) hx hb dX0_sineOfFirstQuarter_2 dX0_sineOfFirstQuarter_3 (by decide) (fun c_1 => ?_) (fun c_1 => ?_)
  · skip
    refine lv_lload_n hx hb dX0_sineOfFirstQuarter_8 rfl (lv_at hl 0 rfl) ?_
    refine lv_ldc2 (v := 5898240) hx hb hown (hts (.constantLong RX0 139 (5898240)) (by decide +kernel)) dX0_sineOfFirstQuarter_9 ?_
    refine pl_lt (tgt := 20) hx hb dX0_sineOfFirstQuarter_12 dX0_sineOfFirstQuarter_13 (by decide) (fun c_2 => ?_) (fun c_2 => ?_)
    · skip
      refine lv_lload_n hx hb dX0_sineOfFirstQuarter_20 rfl (lv_at hl 0 rfl) ?_
      refine lv_bipush (v := 16) hx hb dX0_sineOfFirstQuarter_21 (by decide) ?_
      refine lv_lshr (v := (p0 >>> ((16 : Int32).toInt64 &&& 63))) hx hb dX0_sineOfFirstQuarter_23 rfl ?_
      refine lv_l2i (v := ((p0 >>> ((16 : Int32).toInt64 &&& 63))).toInt32) hx hb dX0_sineOfFirstQuarter_24 rfl ?_
      refine lv_istore_n (lv' := [(2, .int ((p0 >>> ((16 : Int32).toInt64 &&& 63))).toInt32), (0, .long p0)]) hx hb dX0_sineOfFirstQuarter_25 rfl hl (by decide) rfl (fun ls hl => ?_)
      refine lv_lload_n hx hb dX0_sineOfFirstQuarter_26 rfl (lv_at hl 1 rfl) ?_
      refine lv_iload_n hx hb dX0_sineOfFirstQuarter_27 rfl (lv_at hl 0 rfl) ?_
      refine lv_i2l (v := (((p0 >>> ((16 : Int32).toInt64 &&& 63))).toInt32).toInt64) hx hb dX0_sineOfFirstQuarter_28 rfl ?_
      refine lv_ldc2 (v := 65536) hx hb hown (hts (.constantLong RX0 97 (65536)) (by decide +kernel)) dX0_sineOfFirstQuarter_29 ?_
      refine lv_lmul hx hb dX0_sineOfFirstQuarter_32 ?_
      refine lv_lsub hx hb dX0_sineOfFirstQuarter_33 ?_
      refine lv_lstore_n (lv' := [(3, .long (p0 - ((((p0 >>> ((16 : Int32).toInt64 &&& 63))).toInt32).toInt64 * 65536))), (2, .int ((p0 >>> ((16 : Int32).toInt64 &&& 63))).toInt32), (0, .long p0)]) hx hb dX0_sineOfFirstQuarter_34 rfl hl (by decide) rfl (fun ls hl => ?_)
      refine va_gets (C := "FixedPlane") (ref := "FixedPlane") (own := RX0) hx hb hZ hSt hown (hts (.fieldLink RX0 170 "FixedPlane" "SINES" "[I") (by decide +kernel)) (fun _ h9 => h9) dX0_sineOfFirstQuarter_35 ?_
      refine lv_iload_n hx hb dX0_sineOfFirstQuarter_38 rfl (lv_at hl 1 rfl) ?_
      refine va_ti hx hb hTt hSt (v := .int (sinV (((p0 >>> ((16 : Int32).toInt64 &&& 63))).toInt32).toNatClampNeg)) (sfq_ix c_1 c_2) rfl dX0_sineOfFirstQuarter_39 ?_
      refine lv_i2l (v := ((sinV (((p0 >>> ((16 : Int32).toInt64 &&& 63))).toInt32).toNatClampNeg)).toInt64) hx hb dX0_sineOfFirstQuarter_40 rfl ?_
      refine va_gets (C := "FixedPlane") (ref := "FixedPlane") (own := RX0) hx hb hZ hSt hown (hts (.fieldLink RX0 170 "FixedPlane" "SINES" "[I") (by decide +kernel)) (fun _ h9 => h9) dX0_sineOfFirstQuarter_41 ?_
      refine lv_iload_n hx hb dX0_sineOfFirstQuarter_44 rfl (lv_at hl 1 rfl) ?_
      refine lv_iconst (v := 1) hx hb dX0_sineOfFirstQuarter_45 (by decide) ?_
      refine lv_iadd hx hb dX0_sineOfFirstQuarter_46 ?_
      refine va_ti hx hb hTt hSt (v := .int (sinV ((((p0 >>> ((16 : Int32).toInt64 &&& 63))).toInt32 + 1)).toNatClampNeg)) (sfq_ix1 c_1 c_2) rfl dX0_sineOfFirstQuarter_47 ?_
      refine va_gets (C := "FixedPlane") (ref := "FixedPlane") (own := RX0) hx hb hZ hSt hown (hts (.fieldLink RX0 170 "FixedPlane" "SINES" "[I") (by decide +kernel)) (fun _ h9 => h9) dX0_sineOfFirstQuarter_48 ?_
      refine lv_iload_n hx hb dX0_sineOfFirstQuarter_51 rfl (lv_at hl 1 rfl) ?_
      refine va_ti hx hb hTt hSt (v := .int (sinV (((p0 >>> ((16 : Int32).toInt64 &&& 63))).toInt32).toNatClampNeg)) (sfq_ix c_1 c_2) rfl dX0_sineOfFirstQuarter_52 ?_
      refine lv_isub hx hb dX0_sineOfFirstQuarter_53 ?_
      refine lv_i2l (v := (((sinV ((((p0 >>> ((16 : Int32).toInt64 &&& 63))).toInt32 + 1)).toNatClampNeg) - (sinV (((p0 >>> ((16 : Int32).toInt64 &&& 63))).toInt32).toNatClampNeg))).toInt64) hx hb dX0_sineOfFirstQuarter_54 rfl ?_
      refine lv_lload_n hx hb dX0_sineOfFirstQuarter_55 rfl (lv_at hl 0 rfl) ?_
      refine lv_lmul hx hb dX0_sineOfFirstQuarter_56 ?_
      refine pu_Sl (As := [.long ((((sinV ((((p0 >>> ((16 : Int32).toInt64 &&& 63))).toInt32 + 1)).toNatClampNeg) - (sinV (((p0 >>> ((16 : Int32).toInt64 &&& 63))).toInt32).toNatClampNeg))).toInt64 * (p0 - ((((p0 >>> ((16 : Int32).toInt64 &&& 63))).toInt32).toInt64 * 65536)))]) (rest := [.long ((sinV (((p0 >>> ((16 : Int32).toInt64 &&& 63))).toInt32).toNatClampNeg)).toInt64]) ⟨hx, hb, hml, hown, hts⟩ (cc_X0_withoutPlaces l H0 (((((sinV ((((p0 >>> ((16 : Int32).toInt64 &&& 63))).toInt32 + 1)).toNatClampNeg) - (sinV (((p0 >>> ((16 : Int32).toInt64 &&& 63))).toInt32).toNatClampNeg))).toInt64 * (p0 - ((((p0 >>> ((16 : Int32).toInt64 &&& 63))).toInt32).toInt64 * 65536))))) 1 gX0_sineOfFirstQuarter_X0_withoutPlaces rfl rfl rfl hdS_X0_withoutPlaces ⟨Nat.le_of_ble_eq_true rfl, Nat.le_of_ble_eq_true rfl⟩ kN_ok kN_at rfl hl.1 rfl (Nat.le_of_ble_eq_true rfl) dX0_sineOfFirstQuarter_57 ⟨Nat.zero_le _, Nat.zero_le _⟩ ?_
      refine lv_ladd hx hb dX0_sineOfFirstQuarter_60 ?_
      exact pu_lret hx hb hr hlocks hs dX0_sineOfFirstQuarter_61 (by rw [f_X0_sineOfFirstQuarter, if_pos c_1, if_pos c_2])
    · skip
      refine lv_ldc2 (v := 65536) hx hb hown (hts (.constantLong RX0 97 (65536)) (by decide +kernel)) dX0_sineOfFirstQuarter_16 ?_
      exact pu_lret hx hb hr hlocks hs dX0_sineOfFirstQuarter_19 (by rw [f_X0_sineOfFirstQuarter, if_pos c_1, if_neg c_2])
  · skip
    refine lv_lconst (v := 0) hx hb dX0_sineOfFirstQuarter_6 (by decide) ?_
    exact pu_lret hx hb hr hlocks hs dX0_sineOfFirstQuarter_7 (by rw [f_X0_sineOfFirstQuarter, if_neg c_1])
theorem hdS_X0_sine : yX0_sine.cls ≠ "java/lang/invoke/MethodHandle" ∧ yX0_sine.cls ≠ "java/lang/invoke/VarHandle" ∧ (parseMethodDescriptor yX0_sine.desc).map (fun d => d.parameters.length) = some 1 := by decide +kernel
def f_X0_sine (p0 : Int64) : Int64 := if (f_J9_floorMod_f86c9 (p0) (23592960)) < 11796480 then ((f_X0_sineOfFirstQuarter ((if (11796480 - (f_J9_floorMod_f86c9 (p0) (23592960))) < (f_J9_floorMod_f86c9 (p0) (23592960)) then (11796480 - (f_J9_floorMod_f86c9 (p0) (23592960))) else (f_J9_floorMod_f86c9 (p0) (23592960)))))) else ((-(f_X0_sineOfFirstQuarter ((if (11796480 - ((f_J9_floorMod_f86c9 (p0) (23592960)) - 11796480)) < ((f_J9_floorMod_f86c9 (p0) (23592960)) - 11796480) then (11796480 - ((f_J9_floorMod_f86c9 (p0) (23592960)) - 11796480)) else ((f_J9_floorMod_f86c9 (p0) (23592960)) - 11796480))))))
abbrev rm_X0_sine : Room := { frames := 2, cells := 0, slots := 0, locals := 77 }
set_option maxHeartbeats 4000000 in
set_option maxRecDepth 100000 in
theorem cc_X0_sine (l : Launch) (H0 : Heap) (p0 : Int64)   : Met l yX0_sine wsX0_sine rm_X0_sine (pPc [.long p0] H0 (kT "FixedPlane")) (pQl H0 (f_X0_sine p0)) 0 0 (fun _ => False) := by
  refine pu_head (cc := cX0_sine) (maxL := 8) (ret := some .long) (by decide +kernel) rfl (Nat.le_of_ble_eq_true rfl) ?_
  intro p e s m below meth c ls hx hb hr hlocks hml hown hts hs hk hl
  have hown : s.vm.findClass RX0 = some m.cls := hown
  have hl : lv_has ls 8 [(0, .long p0)] := hl
  have hkat : ∀ U : State, U.heap = H0 → s.WarmedH U.vm → kT "FixedPlane" U := by rw [← hs]; exact kT_at hk
  refine lv_lload_n hx hb dX0_sine_0 rfl (lv_at hl 0 rfl) ?_
  refine lv_ldc2 (v := 23592960) hx hb hown (hts (.constantLong RX0 157 (23592960)) (by decide +kernel)) dX0_sine_1 ?_
  refine pu_Sl (As := [.long p0, .long 23592960]) (rest := []) ⟨hx, hb, hml, hown, hts⟩ (cc_J9_floorMod_f86c9 l H0 (p0) (23592960) (by decide)) 2 gX0_sine_J9_floorMod_f86c9 rfl rfl rfl hdS_J9_floorMod_f86c9 ⟨Nat.le_of_ble_eq_true rfl, Nat.le_of_ble_eq_true rfl⟩ kN_ok kN_at rfl hl.1 rfl (Nat.le_of_ble_eq_true rfl) dX0_sine_4 ⟨Nat.zero_le _, Nat.zero_le _⟩ ?_
  refine lv_lstore_n (lv' := [(2, .long (f_J9_floorMod_f86c9 (p0) (23592960))), (0, .long p0)]) hx hb dX0_sine_7 rfl hl (by decide) rfl (fun ls hl => ?_)
  refine lv_lload_n hx hb dX0_sine_8 rfl (lv_at hl 0 rfl) ?_
  refine lv_ldc2 (v := 11796480) hx hb hown (hts (.constantLong RX0 162 (11796480)) (by decide +kernel)) dX0_sine_9 ?_
  refine pl_ge (tgt := 20) hx hb dX0_sine_12 dX0_sine_13 (by decide) (fun c_1 => ?_) (fun c_1 => ?_)
  · skip
    refine lv_lload_n hx hb dX0_sine_20 rfl (lv_at hl 0 rfl) ?_
    refine lv_ldc2 (v := 11796480) hx hb hown (hts (.constantLong RX0 162 (11796480)) (by decide +kernel)) dX0_sine_21 ?_
    refine lv_lsub hx hb dX0_sine_24 ?_
    refine lv_lstore (lv' := [(4, .long ((f_J9_floorMod_f86c9 (p0) (23592960)) - 11796480)), (2, .long (f_J9_floorMod_f86c9 (p0) (23592960))), (0, .long p0)]) hx hb dX0_sine_25 hl (by decide) rfl (fun ls hl => ?_)
    refine lv_lload hx hb dX0_sine_27 (lv_at hl 0 rfl) ?_
    refine lv_ldc2 (v := 11796480) hx hb hown (hts (.constantLong RX0 162 (11796480)) (by decide +kernel)) dX0_sine_29 ?_
    refine lv_lload hx hb dX0_sine_32 (lv_at hl 0 rfl) ?_
    refine lv_lsub hx hb dX0_sine_34 ?_
    refine va_mmin_long (own := RX0) hx hb (hml.trans hl.1.symm) hown (hts (.methodLink RX0 164 Lib.MathLoose.min_long.x) (by decide +kernel)) (hts (.static Lib.MathLoose.min_long.x) (by decide +kernel)) (hts (.initialized "java/lang/Math") (by decide +kernel)) (hts (.code Lib.MathLoose.min_long.x Lib.MathLoose.min_long.code 4 (some .long)) (by decide +kernel)) (Nat.le_of_ble_eq_true rfl) (Nat.le_of_ble_eq_true rfl) (Nat.zero_le _) (Nat.zero_le _) dX0_sine_35 ?_
    refine pu_Sl (As := [.long (if (11796480 - ((f_J9_floorMod_f86c9 (p0) (23592960)) - 11796480)) < ((f_J9_floorMod_f86c9 (p0) (23592960)) - 11796480) then (11796480 - ((f_J9_floorMod_f86c9 (p0) (23592960)) - 11796480)) else ((f_J9_floorMod_f86c9 (p0) (23592960)) - 11796480))]) (rest := []) ⟨hx, hb, hml, hown, hts⟩ (cc_X0_sineOfFirstQuarter l H0 ((if (11796480 - ((f_J9_floorMod_f86c9 (p0) (23592960)) - 11796480)) < ((f_J9_floorMod_f86c9 (p0) (23592960)) - 11796480) then (11796480 - ((f_J9_floorMod_f86c9 (p0) (23592960)) - 11796480)) else ((f_J9_floorMod_f86c9 (p0) (23592960)) - 11796480)))) 1 gX0_sine_X0_sineOfFirstQuarter rfl rfl rfl hdS_X0_sineOfFirstQuarter ⟨Nat.le_of_ble_eq_true rfl, Nat.le_of_ble_eq_true rfl⟩ (kT_ok _) (hkat) rfl hl.1 rfl (Nat.le_of_ble_eq_true rfl) dX0_sine_38 ⟨Nat.zero_le _, Nat.zero_le _⟩ ?_
    refine lv_lstore (lv' := [(6, .long (f_X0_sineOfFirstQuarter ((if (11796480 - ((f_J9_floorMod_f86c9 (p0) (23592960)) - 11796480)) < ((f_J9_floorMod_f86c9 (p0) (23592960)) - 11796480) then (11796480 - ((f_J9_floorMod_f86c9 (p0) (23592960)) - 11796480)) else ((f_J9_floorMod_f86c9 (p0) (23592960)) - 11796480))))), (4, .long ((f_J9_floorMod_f86c9 (p0) (23592960)) - 11796480)), (2, .long (f_J9_floorMod_f86c9 (p0) (23592960))), (0, .long p0)]) hx hb dX0_sine_41 hl (by decide) rfl (fun ls hl => ?_)
    refine lv_lload_n hx hb dX0_sine_43 rfl (lv_at hl 2 rfl) ?_
    refine lv_ldc2 (v := 11796480) hx hb hown (hts (.constantLong RX0 162 (11796480)) (by decide +kernel)) dX0_sine_44 ?_
    refine pl_ge (tgt := 56) hx hb dX0_sine_47 dX0_sine_48 (by decide) (fun _ => ?_) (fun q => absurd q (c_1))
    refine lv_lload hx hb dX0_sine_56 (lv_at hl 0 rfl) ?_
    refine lv_lneg hx hb dX0_sine_58 ?_
    exact pu_lret hx hb hr hlocks hs dX0_sine_59 (by rw [f_X0_sine, if_neg c_1])
  · skip
    refine lv_lload_n hx hb dX0_sine_16 rfl (lv_at hl 0 rfl) ?_
    refine lv_goto (tgt := 25) hx hb dX0_sine_17 (by decide) ?_
    refine lv_lstore (lv' := [(4, .long (f_J9_floorMod_f86c9 (p0) (23592960))), (2, .long (f_J9_floorMod_f86c9 (p0) (23592960))), (0, .long p0)]) hx hb dX0_sine_25 hl (by decide) rfl (fun ls hl => ?_)
    refine lv_lload hx hb dX0_sine_27 (lv_at hl 0 rfl) ?_
    refine lv_ldc2 (v := 11796480) hx hb hown (hts (.constantLong RX0 162 (11796480)) (by decide +kernel)) dX0_sine_29 ?_
    refine lv_lload hx hb dX0_sine_32 (lv_at hl 0 rfl) ?_
    refine lv_lsub hx hb dX0_sine_34 ?_
    refine va_mmin_long (own := RX0) hx hb (hml.trans hl.1.symm) hown (hts (.methodLink RX0 164 Lib.MathLoose.min_long.x) (by decide +kernel)) (hts (.static Lib.MathLoose.min_long.x) (by decide +kernel)) (hts (.initialized "java/lang/Math") (by decide +kernel)) (hts (.code Lib.MathLoose.min_long.x Lib.MathLoose.min_long.code 4 (some .long)) (by decide +kernel)) (Nat.le_of_ble_eq_true rfl) (Nat.le_of_ble_eq_true rfl) (Nat.zero_le _) (Nat.zero_le _) dX0_sine_35 ?_
    refine pu_Sl (As := [.long (if (11796480 - (f_J9_floorMod_f86c9 (p0) (23592960))) < (f_J9_floorMod_f86c9 (p0) (23592960)) then (11796480 - (f_J9_floorMod_f86c9 (p0) (23592960))) else (f_J9_floorMod_f86c9 (p0) (23592960)))]) (rest := []) ⟨hx, hb, hml, hown, hts⟩ (cc_X0_sineOfFirstQuarter l H0 ((if (11796480 - (f_J9_floorMod_f86c9 (p0) (23592960))) < (f_J9_floorMod_f86c9 (p0) (23592960)) then (11796480 - (f_J9_floorMod_f86c9 (p0) (23592960))) else (f_J9_floorMod_f86c9 (p0) (23592960))))) 1 gX0_sine_X0_sineOfFirstQuarter rfl rfl rfl hdS_X0_sineOfFirstQuarter ⟨Nat.le_of_ble_eq_true rfl, Nat.le_of_ble_eq_true rfl⟩ (kT_ok _) (hkat) rfl hl.1 rfl (Nat.le_of_ble_eq_true rfl) dX0_sine_38 ⟨Nat.zero_le _, Nat.zero_le _⟩ ?_
    refine lv_lstore (lv' := [(6, .long (f_X0_sineOfFirstQuarter ((if (11796480 - (f_J9_floorMod_f86c9 (p0) (23592960))) < (f_J9_floorMod_f86c9 (p0) (23592960)) then (11796480 - (f_J9_floorMod_f86c9 (p0) (23592960))) else (f_J9_floorMod_f86c9 (p0) (23592960)))))), (4, .long (f_J9_floorMod_f86c9 (p0) (23592960))), (2, .long (f_J9_floorMod_f86c9 (p0) (23592960))), (0, .long p0)]) hx hb dX0_sine_41 hl (by decide) rfl (fun ls hl => ?_)
    refine lv_lload_n hx hb dX0_sine_43 rfl (lv_at hl 2 rfl) ?_
    refine lv_ldc2 (v := 11796480) hx hb hown (hts (.constantLong RX0 162 (11796480)) (by decide +kernel)) dX0_sine_44 ?_
    refine pl_ge (tgt := 56) hx hb dX0_sine_47 dX0_sine_48 (by decide) (fun q => absurd (c_1) q) (fun _ => ?_)
    refine lv_lload hx hb dX0_sine_51 (lv_at hl 0 rfl) ?_
    refine lv_goto (tgt := 59) hx hb dX0_sine_53 (by decide) ?_
    exact pu_lret hx hb hr hlocks hs dX0_sine_59 (by rw [f_X0_sine, if_pos c_1])
theorem hdS_X0_greatestAngle : yX0_greatestAngle.cls ≠ "java/lang/invoke/MethodHandle" ∧ yX0_greatestAngle.cls ≠ "java/lang/invoke/VarHandle" ∧ (parseMethodDescriptor yX0_greatestAngle.desc).map (fun d => d.parameters.length) = some 3 := by decide +kernel
def f_X0_greatestAngle_L7 (p0 : Int64) (p1 : Int64) (p2 : Int64) : Nat → Int64 → Int64
  | 0, an => an
  | n + 1, an => if p2 < ((p0 * (f_X0_sineOfFirstQuarter ((if 5898240 < (an + ((1 : Int64) <<< ((nI n).toInt64 &&& 63))) then 5898240 else (an + ((1 : Int64) <<< ((nI n).toInt64 &&& 63))))))) - (p1 * (f_X0_sineOfFirstQuarter ((5898240 - (if 5898240 < (an + ((1 : Int64) <<< ((nI n).toInt64 &&& 63))) then 5898240 else (an + ((1 : Int64) <<< ((nI n).toInt64 &&& 63))))))))) then (f_X0_greatestAngle_L7 p0 p1 p2 n (an)) else (f_X0_greatestAngle_L7 p0 p1 p2 n ((if 5898240 < (an + ((1 : Int64) <<< ((nI n).toInt64 &&& 63))) then 5898240 else (an + ((1 : Int64) <<< ((nI n).toInt64 &&& 63))))))
def f_X0_greatestAngle (p0 : Int64) (p1 : Int64) (p2 : Int64) : Int64 := f_X0_greatestAngle_L7 p0 p1 p2 (23) (0)
abbrev rm_X0_greatestAngle : Room := { frames := 2, cells := 0, slots := 0, locals := 77 }
set_option maxHeartbeats 4000000 in
set_option maxRecDepth 100000 in
theorem cc_X0_greatestAngle (l : Launch) (H0 : Heap) (p0 : Int64) (p1 : Int64) (p2 : Int64)   : Met l yX0_greatestAngle wsX0_greatestAngle rm_X0_greatestAngle (pPc [.long p0, .long p1, .long p2] H0 (kT "FixedPlane")) (pQl H0 (f_X0_greatestAngle p0 p1 p2)) 0 0 (fun _ => False) := by
  refine pu_head (cc := cX0_greatestAngle) (maxL := 15) (ret := some .long) (by decide +kernel) rfl (Nat.le_of_ble_eq_true rfl) ?_
  intro p e s m below meth c ls hx hb hr hlocks hml hown hts hs hk hl
  have hown : s.vm.findClass RX0 = some m.cls := hown
  have hl : lv_has ls 15 [(0, .long p0), (2, .long p1), (4, .long p2)] := hl
  have hkat : ∀ U : State, U.heap = H0 → s.WarmedH U.vm → kT "FixedPlane" U := by rw [← hs]; exact kT_at hk
  have hL7 : ∀ (n : Nat) (an : Int64), n ≤ 25 → (f_X0_greatestAngle p0 p1 p2 = f_X0_greatestAngle_L7 p0 p1 p2 n an) → ∀ (ls : Array Slot), lv_has ls 15 [(0, .long p0), (2, .long p1), (4, .long p2), (6, .long an), (8, .int (nI n - 1))] → W p l e (headSpec wsX0_greatestAngle rm_X0_greatestAngle).room s m ([.long p0, .long p1, .long p2] : List Value).toArray below meth c H0 [] 0 0 (MQ below (pQl H0 (f_X0_greatestAngle p0 p1 p2)) ([.long p0, .long p1, .long p2] : List Value).toArray s 0 0 (fun _ => False)) (F0 m 7 ls []) := by
    intro n
    induction n with
    | zero =>
      intro an hI hF ls hl
      refine lv_iload hx hb dX0_greatestAngle_7 (lv_at hl 4 rfl) ?_
      refine lv_if_lt (tgt := 70) hx hb dX0_greatestAngle_9 (by decide) (fun _ => ?_) (fun q => absurd (by decide) q)
      refine lv_lload hx hb dX0_greatestAngle_70 (lv_at hl 3 rfl) ?_
      exact pu_lret hx hb hr hlocks hs dX0_greatestAngle_72 (by rw [hF, f_X0_greatestAngle_L7])
    | succ n ih =>
      intro an hI hF ls hl
      rw [nI_pred] at hl
      refine lv_iload hx hb dX0_greatestAngle_7 (lv_at hl 4 rfl) ?_
      refine lv_if_lt (tgt := 70) hx hb dX0_greatestAngle_9 (by decide) (fun q => absurd q (nI_pos (by omega))) (fun _ => ?_)
      refine lv_lload hx hb dX0_greatestAngle_12 (lv_at hl 3 rfl) ?_
      refine lv_lconst (v := 1) hx hb dX0_greatestAngle_14 (by decide) ?_
      refine lv_iload hx hb dX0_greatestAngle_15 (lv_at hl 4 rfl) ?_
      refine lv_lshl (v := ((1 : Int64) <<< ((nI n).toInt64 &&& 63))) hx hb dX0_greatestAngle_17 rfl ?_
      refine lv_ladd hx hb dX0_greatestAngle_18 ?_
      refine lv_ldc2 (v := 5898240) hx hb hown (hts (.constantLong RX0 139 (5898240)) (by decide +kernel)) dX0_greatestAngle_19 ?_
      refine va_mmin_long (own := RX0) hx hb (hml.trans hl.1.symm) hown (hts (.methodLink RX0 164 Lib.MathLoose.min_long.x) (by decide +kernel)) (hts (.static Lib.MathLoose.min_long.x) (by decide +kernel)) (hts (.initialized "java/lang/Math") (by decide +kernel)) (hts (.code Lib.MathLoose.min_long.x Lib.MathLoose.min_long.code 4 (some .long)) (by decide +kernel)) (Nat.le_of_ble_eq_true rfl) (Nat.le_of_ble_eq_true rfl) (Nat.zero_le _) (Nat.zero_le _) dX0_greatestAngle_22 ?_
      refine lv_lstore (lv' := [(9, .long (if 5898240 < (an + ((1 : Int64) <<< ((nI n).toInt64 &&& 63))) then 5898240 else (an + ((1 : Int64) <<< ((nI n).toInt64 &&& 63))))), (0, .long p0), (2, .long p1), (4, .long p2), (6, .long an), (8, .int (nI n))]) hx hb dX0_greatestAngle_25 hl (by decide) rfl (fun ls hl => ?_)
      refine lv_lload hx hb dX0_greatestAngle_27 (lv_at hl 0 rfl) ?_
      refine pu_Sl (As := [.long (if 5898240 < (an + ((1 : Int64) <<< ((nI n).toInt64 &&& 63))) then 5898240 else (an + ((1 : Int64) <<< ((nI n).toInt64 &&& 63))))]) (rest := []) ⟨hx, hb, hml, hown, hts⟩ (cc_X0_sineOfFirstQuarter l H0 ((if 5898240 < (an + ((1 : Int64) <<< ((nI n).toInt64 &&& 63))) then 5898240 else (an + ((1 : Int64) <<< ((nI n).toInt64 &&& 63)))))) 1 gX0_greatestAngle_X0_sineOfFirstQuarter rfl rfl rfl hdS_X0_sineOfFirstQuarter ⟨Nat.le_of_ble_eq_true rfl, Nat.le_of_ble_eq_true rfl⟩ (kT_ok _) (hkat) rfl hl.1 rfl (Nat.le_of_ble_eq_true rfl) dX0_greatestAngle_29 ⟨Nat.zero_le _, Nat.zero_le _⟩ ?_
      refine lv_lstore (lv' := [(11, .long (f_X0_sineOfFirstQuarter ((if 5898240 < (an + ((1 : Int64) <<< ((nI n).toInt64 &&& 63))) then 5898240 else (an + ((1 : Int64) <<< ((nI n).toInt64 &&& 63))))))), (9, .long (if 5898240 < (an + ((1 : Int64) <<< ((nI n).toInt64 &&& 63))) then 5898240 else (an + ((1 : Int64) <<< ((nI n).toInt64 &&& 63))))), (0, .long p0), (2, .long p1), (4, .long p2), (6, .long an), (8, .int (nI n))]) hx hb dX0_greatestAngle_32 hl (by decide) rfl (fun ls hl => ?_)
      refine lv_ldc2 (v := 5898240) hx hb hown (hts (.constantLong RX0 139 (5898240)) (by decide +kernel)) dX0_greatestAngle_34 ?_
      refine lv_lload hx hb dX0_greatestAngle_37 (lv_at hl 1 rfl) ?_
      refine lv_lsub hx hb dX0_greatestAngle_39 ?_
      refine pu_Sl (As := [.long (5898240 - (if 5898240 < (an + ((1 : Int64) <<< ((nI n).toInt64 &&& 63))) then 5898240 else (an + ((1 : Int64) <<< ((nI n).toInt64 &&& 63)))))]) (rest := []) ⟨hx, hb, hml, hown, hts⟩ (cc_X0_sineOfFirstQuarter l H0 ((5898240 - (if 5898240 < (an + ((1 : Int64) <<< ((nI n).toInt64 &&& 63))) then 5898240 else (an + ((1 : Int64) <<< ((nI n).toInt64 &&& 63))))))) 1 gX0_greatestAngle_X0_sineOfFirstQuarter rfl rfl rfl hdS_X0_sineOfFirstQuarter ⟨Nat.le_of_ble_eq_true rfl, Nat.le_of_ble_eq_true rfl⟩ (kT_ok _) (hkat) rfl hl.1 rfl (Nat.le_of_ble_eq_true rfl) dX0_greatestAngle_40 ⟨Nat.zero_le _, Nat.zero_le _⟩ ?_
      refine lv_lstore (lv' := [(13, .long (f_X0_sineOfFirstQuarter ((5898240 - (if 5898240 < (an + ((1 : Int64) <<< ((nI n).toInt64 &&& 63))) then 5898240 else (an + ((1 : Int64) <<< ((nI n).toInt64 &&& 63)))))))), (11, .long (f_X0_sineOfFirstQuarter ((if 5898240 < (an + ((1 : Int64) <<< ((nI n).toInt64 &&& 63))) then 5898240 else (an + ((1 : Int64) <<< ((nI n).toInt64 &&& 63))))))), (9, .long (if 5898240 < (an + ((1 : Int64) <<< ((nI n).toInt64 &&& 63))) then 5898240 else (an + ((1 : Int64) <<< ((nI n).toInt64 &&& 63))))), (0, .long p0), (2, .long p1), (4, .long p2), (6, .long an), (8, .int (nI n))]) hx hb dX0_greatestAngle_43 hl (by decide) rfl (fun ls hl => ?_)
      refine lv_lload_n hx hb dX0_greatestAngle_45 rfl (lv_at hl 3 rfl) ?_
      refine lv_lload hx hb dX0_greatestAngle_46 (lv_at hl 1 rfl) ?_
      refine lv_lmul hx hb dX0_greatestAngle_48 ?_
      refine lv_lload_n hx hb dX0_greatestAngle_49 rfl (lv_at hl 4 rfl) ?_
      refine lv_lload hx hb dX0_greatestAngle_50 (lv_at hl 0 rfl) ?_
      refine lv_lmul hx hb dX0_greatestAngle_52 ?_
      refine lv_lsub hx hb dX0_greatestAngle_53 ?_
      refine lv_lload hx hb dX0_greatestAngle_54 (lv_at hl 5 rfl) ?_
      refine pl_gt (tgt := 64) hx hb dX0_greatestAngle_56 dX0_greatestAngle_57 (by decide) (fun c_3 => ?_) (fun c_3 => ?_)
      · skip
        refine lv_iinc (v := (nI n - 1)) (lv' := [(8, .int (nI n - 1)), (13, .long (f_X0_sineOfFirstQuarter ((5898240 - (if 5898240 < (an + ((1 : Int64) <<< ((nI n).toInt64 &&& 63))) then 5898240 else (an + ((1 : Int64) <<< ((nI n).toInt64 &&& 63)))))))), (11, .long (f_X0_sineOfFirstQuarter ((if 5898240 < (an + ((1 : Int64) <<< ((nI n).toInt64 &&& 63))) then 5898240 else (an + ((1 : Int64) <<< ((nI n).toInt64 &&& 63))))))), (9, .long (if 5898240 < (an + ((1 : Int64) <<< ((nI n).toInt64 &&& 63))) then 5898240 else (an + ((1 : Int64) <<< ((nI n).toInt64 &&& 63))))), (0, .long p0), (2, .long p1), (4, .long p2), (6, .long an)]) (k := 7) hx hb dX0_greatestAngle_64 hl rfl (by rw [Int32.sub_eq_add_neg]; rfl) (by decide) rfl (fun ls hl => ?_)
        refine lv_goto (tgt := 7) hx hb dX0_greatestAngle_67 (by decide) ?_
        exact ih (an) (by omega) (hF.trans (by rw [f_X0_greatestAngle_L7, if_pos c_3])) ls (lv_sub hl [4, 5, 6, 7, 0] rfl)
      · skip
        refine lv_lload hx hb dX0_greatestAngle_60 (lv_at hl 2 rfl) ?_
        refine lv_lstore (lv' := [(6, .long (if 5898240 < (an + ((1 : Int64) <<< ((nI n).toInt64 &&& 63))) then 5898240 else (an + ((1 : Int64) <<< ((nI n).toInt64 &&& 63))))), (13, .long (f_X0_sineOfFirstQuarter ((5898240 - (if 5898240 < (an + ((1 : Int64) <<< ((nI n).toInt64 &&& 63))) then 5898240 else (an + ((1 : Int64) <<< ((nI n).toInt64 &&& 63)))))))), (11, .long (f_X0_sineOfFirstQuarter ((if 5898240 < (an + ((1 : Int64) <<< ((nI n).toInt64 &&& 63))) then 5898240 else (an + ((1 : Int64) <<< ((nI n).toInt64 &&& 63))))))), (9, .long (if 5898240 < (an + ((1 : Int64) <<< ((nI n).toInt64 &&& 63))) then 5898240 else (an + ((1 : Int64) <<< ((nI n).toInt64 &&& 63))))), (0, .long p0), (2, .long p1), (4, .long p2), (8, .int (nI n))]) hx hb dX0_greatestAngle_62 hl (by decide) rfl (fun ls hl => ?_)
        refine lv_iinc (v := (nI n - 1)) (lv' := [(8, .int (nI n - 1)), (6, .long (if 5898240 < (an + ((1 : Int64) <<< ((nI n).toInt64 &&& 63))) then 5898240 else (an + ((1 : Int64) <<< ((nI n).toInt64 &&& 63))))), (13, .long (f_X0_sineOfFirstQuarter ((5898240 - (if 5898240 < (an + ((1 : Int64) <<< ((nI n).toInt64 &&& 63))) then 5898240 else (an + ((1 : Int64) <<< ((nI n).toInt64 &&& 63)))))))), (11, .long (f_X0_sineOfFirstQuarter ((if 5898240 < (an + ((1 : Int64) <<< ((nI n).toInt64 &&& 63))) then 5898240 else (an + ((1 : Int64) <<< ((nI n).toInt64 &&& 63))))))), (9, .long (if 5898240 < (an + ((1 : Int64) <<< ((nI n).toInt64 &&& 63))) then 5898240 else (an + ((1 : Int64) <<< ((nI n).toInt64 &&& 63))))), (0, .long p0), (2, .long p1), (4, .long p2)]) (k := 7) hx hb dX0_greatestAngle_64 hl rfl (by rw [Int32.sub_eq_add_neg]; rfl) (by decide) rfl (fun ls hl => ?_)
        refine lv_goto (tgt := 7) hx hb dX0_greatestAngle_67 (by decide) ?_
        exact ih ((if 5898240 < (an + ((1 : Int64) <<< ((nI n).toInt64 &&& 63))) then 5898240 else (an + ((1 : Int64) <<< ((nI n).toInt64 &&& 63))))) (by omega) (hF.trans (by rw [f_X0_greatestAngle_L7, if_neg c_3])) ls (lv_sub hl [5, 6, 7, 1, 0] rfl)
  refine lv_lconst (v := 0) hx hb dX0_greatestAngle_0 (by decide) ?_
  refine lv_lstore (lv' := [(6, .long 0), (0, .long p0), (2, .long p1), (4, .long p2)]) hx hb dX0_greatestAngle_1 hl (by decide) rfl (fun ls hl => ?_)
  refine lv_bipush (v := 22) hx hb dX0_greatestAngle_3 (by decide) ?_
  refine lv_istore (lv' := [(8, .int 22), (6, .long 0), (0, .long p0), (2, .long p1), (4, .long p2)]) hx hb dX0_greatestAngle_5 hl (by decide) rfl (fun ls hl => ?_)
  exact hL7 (23) (0) (by omega) (by rw [f_X0_greatestAngle]) ls (lv_sub hl [2, 3, 4, 1, 0] rfl)
theorem hdS_X0_angleOfFirstQuarter : yX0_angleOfFirstQuarter.cls ≠ "java/lang/invoke/MethodHandle" ∧ yX0_angleOfFirstQuarter.cls ≠ "java/lang/invoke/VarHandle" ∧ (parseMethodDescriptor yX0_angleOfFirstQuarter.desc).map (fun d => d.parameters.length) = some 2 := by decide +kernel
def f_X0_angleOfFirstQuarter (p0 : Int64) (p1 : Int64) : Int64 := if p1 = 0 then (0) else (if p0 = 0 then (5898240) else (((((f_X0_greatestAngle (p0) (p1) ((-1))) + 1) + (f_X0_greatestAngle (p0) (p1) (0))) / 2)))
abbrev rm_X0_angleOfFirstQuarter : Room := { frames := 3, cells := 0, slots := 0, locals := 127 }
set_option maxHeartbeats 4000000 in
set_option maxRecDepth 100000 in
theorem cc_X0_angleOfFirstQuarter (l : Launch) (H0 : Heap) (p0 : Int64) (p1 : Int64)   : Met l yX0_angleOfFirstQuarter wsX0_angleOfFirstQuarter rm_X0_angleOfFirstQuarter (pPc [.long p0, .long p1] H0 (kT "FixedPlane")) (pQl H0 (f_X0_angleOfFirstQuarter p0 p1)) 0 0 (fun _ => False) := by
  refine pu_head (cc := cX0_angleOfFirstQuarter) (maxL := 8) (ret := some .long) (by decide +kernel) rfl (Nat.le_of_ble_eq_true rfl) ?_
  intro p e s m below meth c ls hx hb hr hlocks hml hown hts hs hk hl
  have hown : s.vm.findClass RX0 = some m.cls := hown
  have hl : lv_has ls 8 [(0, .long p0), (2, .long p1)] := hl
  have hkat : ∀ U : State, U.heap = H0 → s.WarmedH U.vm → kT "FixedPlane" U := by rw [← hs]; exact kT_at hk
  refine lv_lload_n hx hb dX0_angleOfFirstQuarter_0 rfl (lv_at hl 1 rfl) ?_
  refine lv_lconst (v := 0) hx hb dX0_angleOfFirstQuarter_1 (by decide) ?_
  refine pl_ne (tgt := 8) hx hb dX0_angleOfFirstQuarter_2 dX0_angleOfFirstQuarter_3 (by decide) (fun c_1 => ?_) (fun c_1 => ?_)
  · skip
    refine lv_lload_n hx hb dX0_angleOfFirstQuarter_8 rfl (lv_at hl 0 rfl) ?_
    refine lv_lconst (v := 0) hx hb dX0_angleOfFirstQuarter_9 (by decide) ?_
    refine pl_ne (tgt := 18) hx hb dX0_angleOfFirstQuarter_10 dX0_angleOfFirstQuarter_11 (by decide) (fun c_2 => ?_) (fun c_2 => ?_)
    · skip
      refine lv_lload_n hx hb dX0_angleOfFirstQuarter_18 rfl (lv_at hl 0 rfl) ?_
      refine lv_lload_n hx hb dX0_angleOfFirstQuarter_19 rfl (lv_at hl 1 rfl) ?_
      refine lv_ldc2 (v := (-1)) hx hb hown (hts (.constantLong RX0 177 (-1)) (by decide +kernel)) dX0_angleOfFirstQuarter_20 ?_
      refine pu_Sl (As := [.long p0, .long p1, .long (-1)]) (rest := []) ⟨hx, hb, hml, hown, hts⟩ (cc_X0_greatestAngle l H0 (p0) (p1) ((-1))) 3 gX0_angleOfFirstQuarter_X0_greatestAngle rfl rfl rfl hdS_X0_greatestAngle ⟨Nat.le_of_ble_eq_true rfl, Nat.le_of_ble_eq_true rfl⟩ (kT_ok _) (hkat) rfl hl.1 rfl (Nat.le_of_ble_eq_true rfl) dX0_angleOfFirstQuarter_23 ⟨Nat.zero_le _, Nat.zero_le _⟩ ?_
      refine lv_lconst (v := 1) hx hb dX0_angleOfFirstQuarter_26 (by decide) ?_
      refine lv_ladd hx hb dX0_angleOfFirstQuarter_27 ?_
      refine lv_lstore (lv' := [(4, .long ((f_X0_greatestAngle (p0) (p1) ((-1))) + 1)), (0, .long p0), (2, .long p1)]) hx hb dX0_angleOfFirstQuarter_28 hl (by decide) rfl (fun ls hl => ?_)
      refine lv_lload_n hx hb dX0_angleOfFirstQuarter_30 rfl (lv_at hl 1 rfl) ?_
      refine lv_lload_n hx hb dX0_angleOfFirstQuarter_31 rfl (lv_at hl 2 rfl) ?_
      refine lv_lconst (v := 0) hx hb dX0_angleOfFirstQuarter_32 (by decide) ?_
      refine pu_Sl (As := [.long p0, .long p1, .long 0]) (rest := []) ⟨hx, hb, hml, hown, hts⟩ (cc_X0_greatestAngle l H0 (p0) (p1) (0)) 3 gX0_angleOfFirstQuarter_X0_greatestAngle rfl rfl rfl hdS_X0_greatestAngle ⟨Nat.le_of_ble_eq_true rfl, Nat.le_of_ble_eq_true rfl⟩ (kT_ok _) (hkat) rfl hl.1 rfl (Nat.le_of_ble_eq_true rfl) dX0_angleOfFirstQuarter_33 ⟨Nat.zero_le _, Nat.zero_le _⟩ ?_
      refine lv_lstore (lv' := [(6, .long (f_X0_greatestAngle (p0) (p1) (0))), (4, .long ((f_X0_greatestAngle (p0) (p1) ((-1))) + 1)), (0, .long p0), (2, .long p1)]) hx hb dX0_angleOfFirstQuarter_36 hl (by decide) rfl (fun ls hl => ?_)
      refine lv_lload hx hb dX0_angleOfFirstQuarter_38 (lv_at hl 1 rfl) ?_
      refine lv_lload hx hb dX0_angleOfFirstQuarter_40 (lv_at hl 0 rfl) ?_
      refine lv_ladd hx hb dX0_angleOfFirstQuarter_42 ?_
      refine lv_ldc2 (v := 2) hx hb hown (hts (.constantLong RX0 155 (2)) (by decide +kernel)) dX0_angleOfFirstQuarter_43 ?_
      refine lv_ldiv hx hb dX0_angleOfFirstQuarter_46 (by decide) ?_
      exact pu_lret hx hb hr hlocks hs dX0_angleOfFirstQuarter_47 (by rw [f_X0_angleOfFirstQuarter, if_neg c_1, if_neg c_2])
    · skip
      refine lv_ldc2 (v := 5898240) hx hb hown (hts (.constantLong RX0 139 (5898240)) (by decide +kernel)) dX0_angleOfFirstQuarter_14 ?_
      exact pu_lret hx hb hr hlocks hs dX0_angleOfFirstQuarter_17 (by rw [f_X0_angleOfFirstQuarter, if_neg c_1, if_pos c_2])
  · skip
    refine lv_lconst (v := 0) hx hb dX0_angleOfFirstQuarter_6 (by decide) ?_
    exact pu_lret hx hb hr hlocks hs dX0_angleOfFirstQuarter_7 (by rw [f_X0_angleOfFirstQuarter, if_pos c_1])
theorem hdS_X0_angle : yX0_angle.cls ≠ "java/lang/invoke/MethodHandle" ∧ yX0_angle.cls ≠ "java/lang/invoke/VarHandle" ∧ (parseMethodDescriptor yX0_angle.desc).map (fun d => d.parameters.length) = some 2 := by decide +kernel
def f_X0_angle (p0 : Int64) (p1 : Int64) : Int64 := if p0 < 0 then (if p1 < 0 then (if (11796480 - (f_X0_angleOfFirstQuarter ((if 0 < p0 then p0 else -p0)) ((if 0 < p1 then p1 else -p1)))) = 0 then ((11796480 - (f_X0_angleOfFirstQuarter ((if 0 < p0 then p0 else -p0)) ((if 0 < p1 then p1 else -p1))))) else ((23592960 - (11796480 - (f_X0_angleOfFirstQuarter ((if 0 < p0 then p0 else -p0)) ((if 0 < p1 then p1 else -p1))))))) else ((11796480 - (f_X0_angleOfFirstQuarter ((if 0 < p0 then p0 else -p0)) ((if 0 < p1 then p1 else -p1)))))) else (if p1 < 0 then (if (f_X0_angleOfFirstQuarter ((if 0 < p0 then p0 else -p0)) ((if 0 < p1 then p1 else -p1))) = 0 then ((f_X0_angleOfFirstQuarter ((if 0 < p0 then p0 else -p0)) ((if 0 < p1 then p1 else -p1)))) else ((23592960 - (f_X0_angleOfFirstQuarter ((if 0 < p0 then p0 else -p0)) ((if 0 < p1 then p1 else -p1)))))) else ((f_X0_angleOfFirstQuarter ((if 0 < p0 then p0 else -p0)) ((if 0 < p1 then p1 else -p1)))))
abbrev rm_X0_angle : Room := { frames := 4, cells := 0, slots := 0, locals := 170 }
set_option maxHeartbeats 4000000 in
set_option maxRecDepth 100000 in
theorem cc_X0_angle (l : Launch) (H0 : Heap) (p0 : Int64) (p1 : Int64)   : Met l yX0_angle wsX0_angle rm_X0_angle (pPc [.long p0, .long p1] H0 (kT "FixedPlane")) (pQl H0 (f_X0_angle p0 p1)) 0 0 (fun _ => False) := by
  refine pu_head (cc := cX0_angle) (maxL := 8) (ret := some .long) (by decide +kernel) rfl (Nat.le_of_ble_eq_true rfl) ?_
  intro p e s m below meth c ls hx hb hr hlocks hml hown hts hs hk hl
  have hown : s.vm.findClass RX0 = some m.cls := hown
  have hl : lv_has ls 8 [(0, .long p0), (2, .long p1)] := hl
  have hkat : ∀ U : State, U.heap = H0 → s.WarmedH U.vm → kT "FixedPlane" U := by rw [← hs]; exact kT_at hk
  refine lv_lload_n hx hb dX0_angle_0 rfl (lv_at hl 0 rfl) ?_
  refine va_mabs_long (own := RX0) hx hb (hml.trans hl.1.symm) hown (hts (.methodLink RX0 124 Lib.MathLoose.abs_long.x) (by decide +kernel)) (hts (.static Lib.MathLoose.abs_long.x) (by decide +kernel)) (hts (.initialized "java/lang/Math") (by decide +kernel)) (hts (.code Lib.MathLoose.abs_long.x Lib.MathLoose.abs_long.code 2 (some .long)) (by decide +kernel)) (Nat.le_of_ble_eq_true rfl) (Nat.le_of_ble_eq_true rfl) (Nat.zero_le _) (Nat.zero_le _) dX0_angle_1 ?_
  refine lv_lload_n hx hb dX0_angle_4 rfl (lv_at hl 1 rfl) ?_
  refine va_mabs_long (own := RX0) hx hb (hml.trans hl.1.symm) hown (hts (.methodLink RX0 124 Lib.MathLoose.abs_long.x) (by decide +kernel)) (hts (.static Lib.MathLoose.abs_long.x) (by decide +kernel)) (hts (.initialized "java/lang/Math") (by decide +kernel)) (hts (.code Lib.MathLoose.abs_long.x Lib.MathLoose.abs_long.code 2 (some .long)) (by decide +kernel)) (Nat.le_of_ble_eq_true rfl) (Nat.le_of_ble_eq_true rfl) (Nat.zero_le _) (Nat.zero_le _) dX0_angle_5 ?_
  refine pu_Sl (As := [.long (if 0 < p0 then p0 else -p0), .long (if 0 < p1 then p1 else -p1)]) (rest := []) ⟨hx, hb, hml, hown, hts⟩ (cc_X0_angleOfFirstQuarter l H0 ((if 0 < p0 then p0 else -p0)) ((if 0 < p1 then p1 else -p1))) 2 gX0_angle_X0_angleOfFirstQuarter rfl rfl rfl hdS_X0_angleOfFirstQuarter ⟨Nat.le_of_ble_eq_true rfl, Nat.le_of_ble_eq_true rfl⟩ (kT_ok _) (hkat) rfl hl.1 rfl (Nat.le_of_ble_eq_true rfl) dX0_angle_8 ⟨Nat.zero_le _, Nat.zero_le _⟩ ?_
  refine lv_lstore (lv' := [(4, .long (f_X0_angleOfFirstQuarter ((if 0 < p0 then p0 else -p0)) ((if 0 < p1 then p1 else -p1)))), (0, .long p0), (2, .long p1)]) hx hb dX0_angle_11 hl (by decide) rfl (fun ls hl => ?_)
  refine lv_lload_n hx hb dX0_angle_13 rfl (lv_at hl 1 rfl) ?_
  refine lv_lconst (v := 0) hx hb dX0_angle_14 (by decide) ?_
  refine pl_ge (tgt := 28) hx hb dX0_angle_15 dX0_angle_16 (by decide) (fun c_1 => ?_) (fun c_1 => ?_)
  · skip
    refine lv_lload hx hb dX0_angle_28 (lv_at hl 0 rfl) ?_
    refine lv_lstore (lv' := [(6, .long (f_X0_angleOfFirstQuarter ((if 0 < p0 then p0 else -p0)) ((if 0 < p1 then p1 else -p1)))), (4, .long (f_X0_angleOfFirstQuarter ((if 0 < p0 then p0 else -p0)) ((if 0 < p1 then p1 else -p1)))), (0, .long p0), (2, .long p1)]) hx hb dX0_angle_30 hl (by decide) rfl (fun ls hl => ?_)
    refine lv_lload_n hx hb dX0_angle_32 rfl (lv_at hl 3 rfl) ?_
    refine lv_lconst (v := 0) hx hb dX0_angle_33 (by decide) ?_
    refine pl_ge (tgt := 54) hx hb dX0_angle_34 dX0_angle_35 (by decide) (fun c_2 => ?_) (fun c_2 => ?_)
    · skip
      refine lv_lload hx hb dX0_angle_54 (lv_at hl 0 rfl) ?_
      exact pu_lret hx hb hr hlocks hs dX0_angle_56 (by rw [f_X0_angle, if_neg c_1, if_neg c_2])
    · skip
      refine lv_lload hx hb dX0_angle_38 (lv_at hl 0 rfl) ?_
      refine lv_lconst (v := 0) hx hb dX0_angle_40 (by decide) ?_
      refine pl_eq (tgt := 54) hx hb dX0_angle_41 dX0_angle_42 (by decide) (fun c_3 => ?_) (fun c_3 => ?_)
      · skip
        refine lv_lload hx hb dX0_angle_54 (lv_at hl 0 rfl) ?_
        exact pu_lret hx hb hr hlocks hs dX0_angle_56 (by rw [f_X0_angle, if_neg c_1, if_pos c_2, if_pos c_3])
      · skip
        refine lv_ldc2 (v := 23592960) hx hb hown (hts (.constantLong RX0 157 (23592960)) (by decide +kernel)) dX0_angle_45 ?_
        refine lv_lload hx hb dX0_angle_48 (lv_at hl 0 rfl) ?_
        refine lv_lsub hx hb dX0_angle_50 ?_
        refine lv_goto (tgt := 56) hx hb dX0_angle_51 (by decide) ?_
        exact pu_lret hx hb hr hlocks hs dX0_angle_56 (by rw [f_X0_angle, if_neg c_1, if_pos c_2, if_neg c_3])
  · skip
    refine lv_ldc2 (v := 11796480) hx hb hown (hts (.constantLong RX0 162 (11796480)) (by decide +kernel)) dX0_angle_19 ?_
    refine lv_lload hx hb dX0_angle_22 (lv_at hl 0 rfl) ?_
    refine lv_lsub hx hb dX0_angle_24 ?_
    refine lv_goto (tgt := 30) hx hb dX0_angle_25 (by decide) ?_
    refine lv_lstore (lv' := [(6, .long (11796480 - (f_X0_angleOfFirstQuarter ((if 0 < p0 then p0 else -p0)) ((if 0 < p1 then p1 else -p1))))), (4, .long (f_X0_angleOfFirstQuarter ((if 0 < p0 then p0 else -p0)) ((if 0 < p1 then p1 else -p1)))), (0, .long p0), (2, .long p1)]) hx hb dX0_angle_30 hl (by decide) rfl (fun ls hl => ?_)
    refine lv_lload_n hx hb dX0_angle_32 rfl (lv_at hl 3 rfl) ?_
    refine lv_lconst (v := 0) hx hb dX0_angle_33 (by decide) ?_
    refine pl_ge (tgt := 54) hx hb dX0_angle_34 dX0_angle_35 (by decide) (fun c_4 => ?_) (fun c_4 => ?_)
    · skip
      refine lv_lload hx hb dX0_angle_54 (lv_at hl 0 rfl) ?_
      exact pu_lret hx hb hr hlocks hs dX0_angle_56 (by rw [f_X0_angle, if_pos c_1, if_neg c_4])
    · skip
      refine lv_lload hx hb dX0_angle_38 (lv_at hl 0 rfl) ?_
      refine lv_lconst (v := 0) hx hb dX0_angle_40 (by decide) ?_
      refine pl_eq (tgt := 54) hx hb dX0_angle_41 dX0_angle_42 (by decide) (fun c_5 => ?_) (fun c_5 => ?_)
      · skip
        refine lv_lload hx hb dX0_angle_54 (lv_at hl 0 rfl) ?_
        exact pu_lret hx hb hr hlocks hs dX0_angle_56 (by rw [f_X0_angle, if_pos c_1, if_pos c_4, if_pos c_5])
      · skip
        refine lv_ldc2 (v := 23592960) hx hb hown (hts (.constantLong RX0 157 (23592960)) (by decide +kernel)) dX0_angle_45 ?_
        refine lv_lload hx hb dX0_angle_48 (lv_at hl 0 rfl) ?_
        refine lv_lsub hx hb dX0_angle_50 ?_
        refine lv_goto (tgt := 56) hx hb dX0_angle_51 (by decide) ?_
        exact pu_lret hx hb hr hlocks hs dX0_angle_56 (by rw [f_X0_angle, if_pos c_1, if_pos c_4, if_neg c_5])
end
section
theorem hdS_X1_root : yX1_root.cls ≠ "java/lang/invoke/MethodHandle" ∧ yX1_root.cls ≠ "java/lang/invoke/VarHandle" ∧ (parseMethodDescriptor yX1_root.desc).map (fun d => d.parameters.length) = some 1 := by decide +kernel
def f_X1_root_L13 (p0 : Int64) : Nat → Int64 → Int64 → Int64
  | 0, sq, rt => rt
  | n + 1, sq, rt => if sq < ((rt + ((1 : Int64) <<< ((nI n).toInt64 &&& 63))) * (rt + ((1 : Int64) <<< ((nI n).toInt64 &&& 63)))) then (f_X1_root_L13 p0 n (sq) (rt)) else (f_X1_root_L13 p0 n (sq) ((rt + ((1 : Int64) <<< ((nI n).toInt64 &&& 63)))))
def f_X1_root (p0 : Int64) : Int64 := f_X1_root_L13 p0 (25) ((p0 * 65536)) (0)
abbrev rm_X1_root : Room := { frames := 0, cells := 0, slots := 0, locals := 0 }
set_option maxHeartbeats 4000000 in
set_option maxRecDepth 100000 in
theorem cc_X1_root (l : Launch) (H0 : Heap) (p0 : Int64)   : Met l yX1_root wsX1_root rm_X1_root (pPc [.long p0] H0 (kN)) (pQl H0 (f_X1_root p0)) 0 0 (fun _ => False) := by
  refine pu_head (cc := cX1_root) (maxL := 9) (ret := some .long) (by decide +kernel) rfl (Nat.le_of_ble_eq_true rfl) ?_
  intro p e s m below meth c ls hx hb hr hlocks hml hown hts hs hk hl
  have hown : s.vm.findClass RX1 = some m.cls := hown
  have hl : lv_has ls 9 [(0, .long p0)] := hl
  have hL13 : ∀ (n : Nat) (sq : Int64) (rt : Int64), n ≤ 25 → (f_X1_root p0 = f_X1_root_L13 p0 n sq rt) → ∀ (ls : Array Slot), lv_has ls 9 [(2, .long sq), (4, .long rt), (6, .int (nI n - 1))] → W p l e (headSpec wsX1_root rm_X1_root).room s m ([.long p0] : List Value).toArray below meth c H0 [] 0 0 (MQ below (pQl H0 (f_X1_root p0)) ([.long p0] : List Value).toArray s 0 0 (fun _ => False)) (F0 m 13 ls []) := by
    intro n
    induction n with
    | zero =>
      intro sq rt hI hF ls hl
      refine lv_iload hx hb dX1_root_13 (lv_at hl 2 rfl) ?_
      refine lv_if_lt (tgt := 47) hx hb dX1_root_15 (by decide) (fun _ => ?_) (fun q => absurd (by decide) q)
      refine lv_lload hx hb dX1_root_47 (lv_at hl 1 rfl) ?_
      exact pu_lret hx hb hr hlocks hs dX1_root_49 (by rw [hF, f_X1_root_L13])
    | succ n ih =>
      intro sq rt hI hF ls hl
      rw [nI_pred] at hl
      refine lv_iload hx hb dX1_root_13 (lv_at hl 2 rfl) ?_
      refine lv_if_lt (tgt := 47) hx hb dX1_root_15 (by decide) (fun q => absurd q (nI_pos (by omega))) (fun _ => ?_)
      refine lv_lload hx hb dX1_root_18 (lv_at hl 1 rfl) ?_
      refine lv_lconst (v := 1) hx hb dX1_root_20 (by decide) ?_
      refine lv_iload hx hb dX1_root_21 (lv_at hl 2 rfl) ?_
      refine lv_lshl (v := ((1 : Int64) <<< ((nI n).toInt64 &&& 63))) hx hb dX1_root_23 rfl ?_
      refine lv_ladd hx hb dX1_root_24 ?_
      refine lv_lstore (lv' := [(7, .long (rt + ((1 : Int64) <<< ((nI n).toInt64 &&& 63)))), (2, .long sq), (4, .long rt), (6, .int (nI n))]) hx hb dX1_root_25 hl (by decide) rfl (fun ls hl => ?_)
      refine lv_lload hx hb dX1_root_27 (lv_at hl 0 rfl) ?_
      refine lv_lload hx hb dX1_root_29 (lv_at hl 0 rfl) ?_
      refine lv_lmul hx hb dX1_root_31 ?_
      refine lv_lload_n hx hb dX1_root_32 rfl (lv_at hl 1 rfl) ?_
      refine pl_gt (tgt := 41) hx hb dX1_root_33 dX1_root_34 (by decide) (fun c_3 => ?_) (fun c_3 => ?_)
      · skip
        refine lv_iinc (v := (nI n - 1)) (lv' := [(6, .int (nI n - 1)), (7, .long (rt + ((1 : Int64) <<< ((nI n).toInt64 &&& 63)))), (2, .long sq), (4, .long rt)]) (k := 3) hx hb dX1_root_41 hl rfl (by rw [Int32.sub_eq_add_neg]; rfl) (by decide) rfl (fun ls hl => ?_)
        refine lv_goto (tgt := 13) hx hb dX1_root_44 (by decide) ?_
        exact ih (sq) (rt) (by omega) (hF.trans (by rw [f_X1_root_L13, if_pos c_3])) ls (lv_sub hl [2, 3, 0] rfl)
      · skip
        refine lv_lload hx hb dX1_root_37 (lv_at hl 0 rfl) ?_
        refine lv_lstore (lv' := [(4, .long (rt + ((1 : Int64) <<< ((nI n).toInt64 &&& 63)))), (7, .long (rt + ((1 : Int64) <<< ((nI n).toInt64 &&& 63)))), (2, .long sq), (6, .int (nI n))]) hx hb dX1_root_39 hl (by decide) rfl (fun ls hl => ?_)
        refine lv_iinc (v := (nI n - 1)) (lv' := [(6, .int (nI n - 1)), (4, .long (rt + ((1 : Int64) <<< ((nI n).toInt64 &&& 63)))), (7, .long (rt + ((1 : Int64) <<< ((nI n).toInt64 &&& 63)))), (2, .long sq)]) (k := 3) hx hb dX1_root_41 hl rfl (by rw [Int32.sub_eq_add_neg]; rfl) (by decide) rfl (fun ls hl => ?_)
        refine lv_goto (tgt := 13) hx hb dX1_root_44 (by decide) ?_
        exact ih (sq) ((rt + ((1 : Int64) <<< ((nI n).toInt64 &&& 63)))) (by omega) (hF.trans (by rw [f_X1_root_L13, if_neg c_3])) ls (lv_sub hl [3, 1, 0] rfl)
  refine lv_lload_n hx hb dX1_root_0 rfl (lv_at hl 0 rfl) ?_
  refine lv_ldc2 (v := 65536) hx hb hown (hts (.constantLong RX1 23 (65536)) (by decide +kernel)) dX1_root_1 ?_
  refine lv_lmul hx hb dX1_root_4 ?_
  refine lv_lstore_n (lv' := [(2, .long (p0 * 65536)), (0, .long p0)]) hx hb dX1_root_5 rfl hl (by decide) rfl (fun ls hl => ?_)
  refine lv_lconst (v := 0) hx hb dX1_root_6 (by decide) ?_
  refine lv_lstore (lv' := [(4, .long 0), (2, .long (p0 * 65536)), (0, .long p0)]) hx hb dX1_root_7 hl (by decide) rfl (fun ls hl => ?_)
  refine lv_bipush (v := 24) hx hb dX1_root_9 (by decide) ?_
  refine lv_istore (lv' := [(6, .int 24), (4, .long 0), (2, .long (p0 * 65536)), (0, .long p0)]) hx hb dX1_root_11 hl (by decide) rfl (fun ls hl => ?_)
  exact hL13 (25) ((p0 * 65536)) (0) (by omega) (by rw [f_X1_root]) ls (lv_sub hl [2, 1, 0] rfl)
theorem hdS_X1_quarter : yX1_quarter.cls ≠ "java/lang/invoke/MethodHandle" ∧ yX1_quarter.cls ≠ "java/lang/invoke/VarHandle" ∧ (parseMethodDescriptor yX1_quarter.desc).map (fun d => d.parameters.length) = some 1 := by decide +kernel
def f_X1_quarter (p0 : Int64) : Int64 := if (p0 - ((((p0 / 65536)).toInt32).toInt64 * 65536)) = 0 then (((sinV (((p0 / 65536)).toInt32).toNatClampNeg)).toInt64) else ((((sinV (((p0 / 65536)).toInt32).toNatClampNeg)).toInt64 + (f_X1_rounded (((((sinV ((((p0 / 65536)).toInt32 + 1)).toNatClampNeg) - (sinV (((p0 / 65536)).toInt32).toNatClampNeg))).toInt64 * (p0 - ((((p0 / 65536)).toInt32).toInt64 * 65536)))))))
abbrev rm_X1_quarter : Room := { frames := 2, cells := 0, slots := 0, locals := 78 }
set_option maxHeartbeats 4000000 in
set_option maxRecDepth 100000 in
theorem cc_X1_quarter (l : Launch) (H0 : Heap) (p0 : Int64)  (hq : 0 ≤ p0.toInt ∧ p0.toInt ≤ 5898240) : Met l yX1_quarter wsX1_quarter rm_X1_quarter (pPc [.long p0] H0 (kT "FixedPlaneModel")) (pQl H0 (f_X1_quarter p0)) 0 0 (fun _ => False) := by
  refine pu_head (cc := cX1_quarter) (maxL := 5) (ret := some .long) (by decide +kernel) rfl (Nat.le_of_ble_eq_true rfl) ?_
  intro p e s m below meth c ls hx hb hr hlocks hml hown hts hs hk hl
  have hown : s.vm.findClass RX1 = some m.cls := hown
  have hl : lv_has ls 5 [(0, .long p0)] := hl
  have hkat : ∀ U : State, U.heap = H0 → s.WarmedH U.vm → kT "FixedPlaneModel" U := by rw [← hs]; exact kT_at hk
  have hSt : va_S (fun _ => False) s.heap H0 [] := by rw [hs]; exact va_S.rf
  obtain ⟨tt, hZ, hTt⟩ := hk
  refine lv_lload_n hx hb dX1_quarter_0 rfl (lv_at hl 0 rfl) ?_
  refine lv_ldc2 (v := 65536) hx hb hown (hts (.constantLong RX1 23 (65536)) (by decide +kernel)) dX1_quarter_1 ?_
  refine lv_ldiv hx hb dX1_quarter_4 (by decide) ?_
  refine lv_l2i (v := ((p0 / 65536)).toInt32) hx hb dX1_quarter_5 rfl ?_
  refine lv_istore_n (lv' := [(2, .int ((p0 / 65536)).toInt32), (0, .long p0)]) hx hb dX1_quarter_6 rfl hl (by decide) rfl (fun ls hl => ?_)
  refine lv_lload_n hx hb dX1_quarter_7 rfl (lv_at hl 1 rfl) ?_
  refine lv_iload_n hx hb dX1_quarter_8 rfl (lv_at hl 0 rfl) ?_
  refine lv_i2l (v := (((p0 / 65536)).toInt32).toInt64) hx hb dX1_quarter_9 rfl ?_
  refine lv_ldc2 (v := 65536) hx hb hown (hts (.constantLong RX1 23 (65536)) (by decide +kernel)) dX1_quarter_10 ?_
  refine lv_lmul hx hb dX1_quarter_13 ?_
  refine lv_lsub hx hb dX1_quarter_14 ?_
  refine lv_lstore_n (lv' := [(3, .long (p0 - ((((p0 / 65536)).toInt32).toInt64 * 65536))), (2, .int ((p0 / 65536)).toInt32), (0, .long p0)]) hx hb dX1_quarter_15 rfl hl (by decide) rfl (fun ls hl => ?_)
  refine lv_lload_n hx hb dX1_quarter_16 rfl (lv_at hl 0 rfl) ?_
  refine lv_lconst (v := 0) hx hb dX1_quarter_17 (by decide) ?_
  refine pl_ne (tgt := 29) hx hb dX1_quarter_18 dX1_quarter_19 (by decide) (fun c_1 => ?_) (fun c_1 => ?_)
  · skip
    refine va_gets (C := "FixedPlaneModel") (ref := "FixedPlaneModel") (own := RX1) hx hb hZ hSt hown (hts (.fieldLink RX1 102 "FixedPlaneModel" "SINES" "[I") (by decide +kernel)) (fun _ h9 => h9) dX1_quarter_29 ?_
    refine lv_iload_n hx hb dX1_quarter_32 rfl (lv_at hl 1 rfl) ?_
    refine va_ti hx hb hTt hSt (v := .int (sinV (((p0 / 65536)).toInt32).toNatClampNeg)) (qt_ix hq) rfl dX1_quarter_33 ?_
    refine lv_i2l (v := ((sinV (((p0 / 65536)).toInt32).toNatClampNeg)).toInt64) hx hb dX1_quarter_34 rfl ?_
    refine va_gets (C := "FixedPlaneModel") (ref := "FixedPlaneModel") (own := RX1) hx hb hZ hSt hown (hts (.fieldLink RX1 102 "FixedPlaneModel" "SINES" "[I") (by decide +kernel)) (fun _ h9 => h9) dX1_quarter_35 ?_
    refine lv_iload_n hx hb dX1_quarter_38 rfl (lv_at hl 1 rfl) ?_
    refine lv_iconst (v := 1) hx hb dX1_quarter_39 (by decide) ?_
    refine lv_iadd hx hb dX1_quarter_40 ?_
    refine va_ti hx hb hTt hSt (v := .int (sinV ((((p0 / 65536)).toInt32 + 1)).toNatClampNeg)) (qt_ix1 hq c_1) rfl dX1_quarter_41 ?_
    refine va_gets (C := "FixedPlaneModel") (ref := "FixedPlaneModel") (own := RX1) hx hb hZ hSt hown (hts (.fieldLink RX1 102 "FixedPlaneModel" "SINES" "[I") (by decide +kernel)) (fun _ h9 => h9) dX1_quarter_42 ?_
    refine lv_iload_n hx hb dX1_quarter_45 rfl (lv_at hl 1 rfl) ?_
    refine va_ti hx hb hTt hSt (v := .int (sinV (((p0 / 65536)).toInt32).toNatClampNeg)) (qt_ix hq) rfl dX1_quarter_46 ?_
    refine lv_isub hx hb dX1_quarter_47 ?_
    refine lv_i2l (v := (((sinV ((((p0 / 65536)).toInt32 + 1)).toNatClampNeg) - (sinV (((p0 / 65536)).toInt32).toNatClampNeg))).toInt64) hx hb dX1_quarter_48 rfl ?_
    refine lv_lload_n hx hb dX1_quarter_49 rfl (lv_at hl 0 rfl) ?_
    refine lv_lmul hx hb dX1_quarter_50 ?_
    refine pu_Sl (As := [.long ((((sinV ((((p0 / 65536)).toInt32 + 1)).toNatClampNeg) - (sinV (((p0 / 65536)).toInt32).toNatClampNeg))).toInt64 * (p0 - ((((p0 / 65536)).toInt32).toInt64 * 65536)))]) (rest := [.long ((sinV (((p0 / 65536)).toInt32).toNatClampNeg)).toInt64]) ⟨hx, hb, hml, hown, hts⟩ (cc_X1_rounded l H0 (((((sinV ((((p0 / 65536)).toInt32 + 1)).toNatClampNeg) - (sinV (((p0 / 65536)).toInt32).toNatClampNeg))).toInt64 * (p0 - ((((p0 / 65536)).toInt32).toInt64 * 65536))))) 1 gX1_quarter_X1_rounded rfl rfl rfl hdS_X1_rounded ⟨Nat.le_of_ble_eq_true rfl, Nat.le_of_ble_eq_true rfl⟩ kN_ok kN_at rfl hl.1 rfl (Nat.le_of_ble_eq_true rfl) dX1_quarter_51 ⟨Nat.zero_le _, Nat.zero_le _⟩ ?_
    refine lv_ladd hx hb dX1_quarter_54 ?_
    exact pu_lret hx hb hr hlocks hs dX1_quarter_55 (by rw [f_X1_quarter, if_neg c_1])
  · skip
    refine va_gets (C := "FixedPlaneModel") (ref := "FixedPlaneModel") (own := RX1) hx hb hZ hSt hown (hts (.fieldLink RX1 102 "FixedPlaneModel" "SINES" "[I") (by decide +kernel)) (fun _ h9 => h9) dX1_quarter_22 ?_
    refine lv_iload_n hx hb dX1_quarter_25 rfl (lv_at hl 1 rfl) ?_
    refine va_ti hx hb hTt hSt (v := .int (sinV (((p0 / 65536)).toInt32).toNatClampNeg)) (qt_ix hq) rfl dX1_quarter_26 ?_
    refine lv_i2l (v := ((sinV (((p0 / 65536)).toInt32).toNatClampNeg)).toInt64) hx hb dX1_quarter_27 rfl ?_
    exact pu_lret hx hb hr hlocks hs dX1_quarter_28 (by rw [f_X1_quarter, if_pos c_1])
theorem hdS_X1_sine : yX1_sine.cls ≠ "java/lang/invoke/MethodHandle" ∧ yX1_sine.cls ≠ "java/lang/invoke/VarHandle" ∧ (parseMethodDescriptor yX1_sine.desc).map (fun d => d.parameters.length) = some 1 := by decide +kernel
def f_X1_sine (p0 : Int64) : Int64 := if (p0 - ((f_X1_down (p0) (23592960)) * 23592960)) < 11796480 then (if 5898240 < (p0 - ((f_X1_down (p0) (23592960)) * 23592960)) then ((f_X1_quarter ((11796480 - (p0 - ((f_X1_down (p0) (23592960)) * 23592960)))))) else ((f_X1_quarter ((p0 - ((f_X1_down (p0) (23592960)) * 23592960)))))) else (if 5898240 < ((p0 - ((f_X1_down (p0) (23592960)) * 23592960)) - 11796480) then ((-(f_X1_quarter ((11796480 - ((p0 - ((f_X1_down (p0) (23592960)) * 23592960)) - 11796480)))))) else ((-(f_X1_quarter (((p0 - ((f_X1_down (p0) (23592960)) * 23592960)) - 11796480))))))
abbrev rm_X1_sine : Room := { frames := 3, cells := 0, slots := 0, locals := 118 }
set_option maxHeartbeats 4000000 in
set_option maxRecDepth 100000 in
theorem cc_X1_sine (l : Launch) (H0 : Heap) (p0 : Int64)   : Met l yX1_sine wsX1_sine rm_X1_sine (pPc [.long p0] H0 (kT "FixedPlaneModel")) (pQl H0 (f_X1_sine p0)) 0 0 (fun _ => False) := by
  refine pu_head (cc := cX1_sine) (maxL := 9) (ret := some .long) (by decide +kernel) rfl (Nat.le_of_ble_eq_true rfl) ?_
  intro p e s m below meth c ls hx hb hr hlocks hml hown hts hs hk hl
  have hown : s.vm.findClass RX1 = some m.cls := hown
  have hl : lv_has ls 9 [(0, .long p0)] := hl
  have hkat : ∀ U : State, U.heap = H0 → s.WarmedH U.vm → kT "FixedPlaneModel" U := by rw [← hs]; exact kT_at hk
  refine lv_ldc2 (v := 23592960) hx hb hown (hts (.constantLong RX1 105 (23592960)) (by decide +kernel)) dX1_sine_0 ?_
  refine lv_lstore_n (lv' := [(2, .long 23592960), (0, .long p0)]) hx hb dX1_sine_3 rfl hl (by decide) rfl (fun ls hl => ?_)
  refine lv_lload_n hx hb dX1_sine_4 rfl (lv_at hl 1 rfl) ?_
  refine lv_lload_n hx hb dX1_sine_5 rfl (lv_at hl 1 rfl) ?_
  refine lv_lload_n hx hb dX1_sine_6 rfl (lv_at hl 0 rfl) ?_
  refine pu_Sl (As := [.long p0, .long 23592960]) (rest := [.long p0]) ⟨hx, hb, hml, hown, hts⟩ (cc_X1_down l H0 (p0) (23592960) (by decide)) 2 gX1_sine_X1_down rfl rfl rfl hdS_X1_down ⟨Nat.le_of_ble_eq_true rfl, Nat.le_of_ble_eq_true rfl⟩ kN_ok kN_at rfl hl.1 rfl (Nat.le_of_ble_eq_true rfl) dX1_sine_7 ⟨Nat.zero_le _, Nat.zero_le _⟩ ?_
  refine lv_lload_n hx hb dX1_sine_10 rfl (lv_at hl 0 rfl) ?_
  refine lv_lmul hx hb dX1_sine_11 ?_
  refine lv_lsub hx hb dX1_sine_12 ?_
  refine lv_lstore (lv' := [(4, .long (p0 - ((f_X1_down (p0) (23592960)) * 23592960))), (2, .long 23592960), (0, .long p0)]) hx hb dX1_sine_13 hl (by decide) rfl (fun ls hl => ?_)
  refine lv_lload hx hb dX1_sine_15 (lv_at hl 0 rfl) ?_
  refine lv_ldc2 (v := 11796480) hx hb hown (hts (.constantLong RX1 107 (11796480)) (by decide +kernel)) dX1_sine_17 ?_
  refine pl_lt (tgt := 28) hx hb dX1_sine_20 dX1_sine_21 (by decide) (fun c_1 => ?_) (fun c_1 => ?_)
  · skip
    refine lv_iconst (v := 0) hx hb dX1_sine_28 (by decide) ?_
    refine lv_istore (lv' := [(6, .int 0), (4, .long (p0 - ((f_X1_down (p0) (23592960)) * 23592960))), (2, .long 23592960), (0, .long p0)]) hx hb dX1_sine_29 hl (by decide) rfl (fun ls hl => ?_)
    refine lv_iload hx hb dX1_sine_31 (lv_at hl 0 rfl) ?_
    refine lv_if_eq (tgt := 45) hx hb dX1_sine_33 (by decide) (fun _ => ?_) (fun q => absurd (by decide) q)
    refine lv_lload hx hb dX1_sine_45 (lv_at hl 1 rfl) ?_
    refine lv_lstore (lv' := [(4, .long (p0 - ((f_X1_down (p0) (23592960)) * 23592960))), (6, .int 0), (2, .long 23592960), (0, .long p0)]) hx hb dX1_sine_47 hl (by decide) rfl (fun ls hl => ?_)
    refine lv_lload hx hb dX1_sine_49 (lv_at hl 0 rfl) ?_
    refine lv_ldc2 (v := 5898240) hx hb hown (hts (.constantLong RX1 100 (5898240)) (by decide +kernel)) dX1_sine_51 ?_
    refine pl_le (tgt := 67) hx hb dX1_sine_54 dX1_sine_55 (by decide) (fun c_3 => ?_) (fun c_3 => ?_)
    · skip
      refine lv_lload hx hb dX1_sine_67 (lv_at hl 0 rfl) ?_
      refine pu_Sl (As := [.long (p0 - ((f_X1_down (p0) (23592960)) * 23592960))]) (rest := []) ⟨hx, hb, hml, hown, hts⟩ (cc_X1_quarter l H0 ((p0 - ((f_X1_down (p0) (23592960)) * 23592960))) (sn_tf (sn_r p0) c_1 c_3)) 1 gX1_sine_X1_quarter rfl rfl rfl hdS_X1_quarter ⟨Nat.le_of_ble_eq_true rfl, Nat.le_of_ble_eq_true rfl⟩ (kT_ok _) (hkat) rfl hl.1 rfl (Nat.le_of_ble_eq_true rfl) dX1_sine_69 ⟨Nat.zero_le _, Nat.zero_le _⟩ ?_
      refine lv_lstore (lv' := [(7, .long (f_X1_quarter ((p0 - ((f_X1_down (p0) (23592960)) * 23592960))))), (4, .long (p0 - ((f_X1_down (p0) (23592960)) * 23592960))), (6, .int 0), (2, .long 23592960), (0, .long p0)]) hx hb dX1_sine_72 hl (by decide) rfl (fun ls hl => ?_)
      refine lv_iload hx hb dX1_sine_74 (lv_at hl 2 rfl) ?_
      refine lv_if_eq (tgt := 85) hx hb dX1_sine_76 (by decide) (fun _ => ?_) (fun q => absurd (by decide) q)
      refine lv_lload hx hb dX1_sine_85 (lv_at hl 0 rfl) ?_
      exact pu_lret hx hb hr hlocks hs dX1_sine_87 (by rw [f_X1_sine, if_pos c_1, if_neg c_3])
    · skip
      refine lv_ldc2 (v := 11796480) hx hb hown (hts (.constantLong RX1 107 (11796480)) (by decide +kernel)) dX1_sine_58 ?_
      refine lv_lload hx hb dX1_sine_61 (lv_at hl 0 rfl) ?_
      refine lv_lsub hx hb dX1_sine_63 ?_
      refine lv_goto (tgt := 69) hx hb dX1_sine_64 (by decide) ?_
      refine pu_Sl (As := [.long (11796480 - (p0 - ((f_X1_down (p0) (23592960)) * 23592960)))]) (rest := []) ⟨hx, hb, hml, hown, hts⟩ (cc_X1_quarter l H0 ((11796480 - (p0 - ((f_X1_down (p0) (23592960)) * 23592960)))) (sn_tt (sn_r p0) c_1 c_3)) 1 gX1_sine_X1_quarter rfl rfl rfl hdS_X1_quarter ⟨Nat.le_of_ble_eq_true rfl, Nat.le_of_ble_eq_true rfl⟩ (kT_ok _) (hkat) rfl hl.1 rfl (Nat.le_of_ble_eq_true rfl) dX1_sine_69 ⟨Nat.zero_le _, Nat.zero_le _⟩ ?_
      refine lv_lstore (lv' := [(7, .long (f_X1_quarter ((11796480 - (p0 - ((f_X1_down (p0) (23592960)) * 23592960)))))), (4, .long (p0 - ((f_X1_down (p0) (23592960)) * 23592960))), (6, .int 0), (2, .long 23592960), (0, .long p0)]) hx hb dX1_sine_72 hl (by decide) rfl (fun ls hl => ?_)
      refine lv_iload hx hb dX1_sine_74 (lv_at hl 2 rfl) ?_
      refine lv_if_eq (tgt := 85) hx hb dX1_sine_76 (by decide) (fun _ => ?_) (fun q => absurd (by decide) q)
      refine lv_lload hx hb dX1_sine_85 (lv_at hl 0 rfl) ?_
      exact pu_lret hx hb hr hlocks hs dX1_sine_87 (by rw [f_X1_sine, if_pos c_1, if_pos c_3])
  · skip
    refine lv_iconst (v := 1) hx hb dX1_sine_24 (by decide) ?_
    refine lv_goto (tgt := 29) hx hb dX1_sine_25 (by decide) ?_
    refine lv_istore (lv' := [(6, .int 1), (4, .long (p0 - ((f_X1_down (p0) (23592960)) * 23592960))), (2, .long 23592960), (0, .long p0)]) hx hb dX1_sine_29 hl (by decide) rfl (fun ls hl => ?_)
    refine lv_iload hx hb dX1_sine_31 (lv_at hl 0 rfl) ?_
    refine lv_if_eq (tgt := 45) hx hb dX1_sine_33 (by decide) (fun q => absurd q (by decide)) (fun _ => ?_)
    refine lv_lload hx hb dX1_sine_36 (lv_at hl 1 rfl) ?_
    refine lv_ldc2 (v := 11796480) hx hb hown (hts (.constantLong RX1 107 (11796480)) (by decide +kernel)) dX1_sine_38 ?_
    refine lv_lsub hx hb dX1_sine_41 ?_
    refine lv_goto (tgt := 47) hx hb dX1_sine_42 (by decide) ?_
    refine lv_lstore (lv' := [(4, .long ((p0 - ((f_X1_down (p0) (23592960)) * 23592960)) - 11796480)), (6, .int 1), (2, .long 23592960), (0, .long p0)]) hx hb dX1_sine_47 hl (by decide) rfl (fun ls hl => ?_)
    refine lv_lload hx hb dX1_sine_49 (lv_at hl 0 rfl) ?_
    refine lv_ldc2 (v := 5898240) hx hb hown (hts (.constantLong RX1 100 (5898240)) (by decide +kernel)) dX1_sine_51 ?_
    refine pl_le (tgt := 67) hx hb dX1_sine_54 dX1_sine_55 (by decide) (fun c_7 => ?_) (fun c_7 => ?_)
    · skip
      refine lv_lload hx hb dX1_sine_67 (lv_at hl 0 rfl) ?_
      refine pu_Sl (As := [.long ((p0 - ((f_X1_down (p0) (23592960)) * 23592960)) - 11796480)]) (rest := []) ⟨hx, hb, hml, hown, hts⟩ (cc_X1_quarter l H0 (((p0 - ((f_X1_down (p0) (23592960)) * 23592960)) - 11796480)) (sn_ff (sn_r p0) c_1 c_7)) 1 gX1_sine_X1_quarter rfl rfl rfl hdS_X1_quarter ⟨Nat.le_of_ble_eq_true rfl, Nat.le_of_ble_eq_true rfl⟩ (kT_ok _) (hkat) rfl hl.1 rfl (Nat.le_of_ble_eq_true rfl) dX1_sine_69 ⟨Nat.zero_le _, Nat.zero_le _⟩ ?_
      refine lv_lstore (lv' := [(7, .long (f_X1_quarter (((p0 - ((f_X1_down (p0) (23592960)) * 23592960)) - 11796480)))), (4, .long ((p0 - ((f_X1_down (p0) (23592960)) * 23592960)) - 11796480)), (6, .int 1), (2, .long 23592960), (0, .long p0)]) hx hb dX1_sine_72 hl (by decide) rfl (fun ls hl => ?_)
      refine lv_iload hx hb dX1_sine_74 (lv_at hl 2 rfl) ?_
      refine lv_if_eq (tgt := 85) hx hb dX1_sine_76 (by decide) (fun q => absurd q (by decide)) (fun _ => ?_)
      refine lv_lload hx hb dX1_sine_79 (lv_at hl 0 rfl) ?_
      refine lv_lneg hx hb dX1_sine_81 ?_
      refine lv_goto (tgt := 87) hx hb dX1_sine_82 (by decide) ?_
      exact pu_lret hx hb hr hlocks hs dX1_sine_87 (by rw [f_X1_sine, if_neg c_1, if_neg c_7])
    · skip
      refine lv_ldc2 (v := 11796480) hx hb hown (hts (.constantLong RX1 107 (11796480)) (by decide +kernel)) dX1_sine_58 ?_
      refine lv_lload hx hb dX1_sine_61 (lv_at hl 0 rfl) ?_
      refine lv_lsub hx hb dX1_sine_63 ?_
      refine lv_goto (tgt := 69) hx hb dX1_sine_64 (by decide) ?_
      refine pu_Sl (As := [.long (11796480 - ((p0 - ((f_X1_down (p0) (23592960)) * 23592960)) - 11796480))]) (rest := []) ⟨hx, hb, hml, hown, hts⟩ (cc_X1_quarter l H0 ((11796480 - ((p0 - ((f_X1_down (p0) (23592960)) * 23592960)) - 11796480))) (sn_ft (sn_r p0) c_1 c_7)) 1 gX1_sine_X1_quarter rfl rfl rfl hdS_X1_quarter ⟨Nat.le_of_ble_eq_true rfl, Nat.le_of_ble_eq_true rfl⟩ (kT_ok _) (hkat) rfl hl.1 rfl (Nat.le_of_ble_eq_true rfl) dX1_sine_69 ⟨Nat.zero_le _, Nat.zero_le _⟩ ?_
      refine lv_lstore (lv' := [(7, .long (f_X1_quarter ((11796480 - ((p0 - ((f_X1_down (p0) (23592960)) * 23592960)) - 11796480))))), (4, .long ((p0 - ((f_X1_down (p0) (23592960)) * 23592960)) - 11796480)), (6, .int 1), (2, .long 23592960), (0, .long p0)]) hx hb dX1_sine_72 hl (by decide) rfl (fun ls hl => ?_)
      refine lv_iload hx hb dX1_sine_74 (lv_at hl 2 rfl) ?_
      refine lv_if_eq (tgt := 85) hx hb dX1_sine_76 (by decide) (fun q => absurd q (by decide)) (fun _ => ?_)
      refine lv_lload hx hb dX1_sine_79 (lv_at hl 0 rfl) ?_
      refine lv_lneg hx hb dX1_sine_81 ?_
      refine lv_goto (tgt := 87) hx hb dX1_sine_82 (by decide) ?_
      exact pu_lret hx hb hr hlocks hs dX1_sine_87 (by rw [f_X1_sine, if_neg c_1, if_pos c_7])
theorem hdS_X1_against : yX1_against.cls ≠ "java/lang/invoke/MethodHandle" ∧ yX1_against.cls ≠ "java/lang/invoke/VarHandle" ∧ (parseMethodDescriptor yX1_against.desc).map (fun d => d.parameters.length) = some 3 := by decide +kernel
def f_X1_against (p0 : Int64) (p1 : Int64) (p2 : Int64) : Int32 := if (p0 * (f_X1_sine (p2))) < (p1 * (f_X1_sine ((p2 + 5898240)))) then ((-1)) else (if (p1 * (f_X1_sine ((p2 + 5898240)))) < (p0 * (f_X1_sine (p2))) then (1) else (0))
abbrev rm_X1_against : Room := { frames := 4, cells := 0, slots := 0, locals := 162 }
set_option maxHeartbeats 4000000 in
set_option maxRecDepth 100000 in
theorem cc_X1_against (l : Launch) (H0 : Heap) (p0 : Int64) (p1 : Int64) (p2 : Int64)   : Met l yX1_against wsX1_against rm_X1_against (pPc [.long p0, .long p1, .long p2] H0 (kT "FixedPlaneModel")) (pQi H0 (f_X1_against p0 p1 p2)) 0 0 (fun _ => False) := by
  refine pu_head (cc := cX1_against) (maxL := 10) (ret := some .int) (by decide +kernel) rfl (Nat.le_of_ble_eq_true rfl) ?_
  intro p e s m below meth c ls hx hb hr hlocks hml hown hts hs hk hl
  have hown : s.vm.findClass RX1 = some m.cls := hown
  have hl : lv_has ls 10 [(0, .long p0), (2, .long p1), (4, .long p2)] := hl
  have hkat : ∀ U : State, U.heap = H0 → s.WarmedH U.vm → kT "FixedPlaneModel" U := by rw [← hs]; exact kT_at hk
  refine lv_lload_n hx hb dX1_against_0 rfl (lv_at hl 0 rfl) ?_
  refine lv_lload hx hb dX1_against_1 (lv_at hl 2 rfl) ?_
  refine pu_Sl (As := [.long p2]) (rest := [.long p0]) ⟨hx, hb, hml, hown, hts⟩ (cc_X1_sine l H0 (p2)) 1 gX1_against_X1_sine rfl rfl rfl hdS_X1_sine ⟨Nat.le_of_ble_eq_true rfl, Nat.le_of_ble_eq_true rfl⟩ (kT_ok _) (hkat) rfl hl.1 rfl (Nat.le_of_ble_eq_true rfl) dX1_against_3 ⟨Nat.zero_le _, Nat.zero_le _⟩ ?_
  refine lv_lmul hx hb dX1_against_6 ?_
  refine lv_lstore (lv' := [(6, .long (p0 * (f_X1_sine (p2)))), (0, .long p0), (2, .long p1), (4, .long p2)]) hx hb dX1_against_7 hl (by decide) rfl (fun ls hl => ?_)
  refine lv_lload_n hx hb dX1_against_9 rfl (lv_at hl 2 rfl) ?_
  refine lv_lload hx hb dX1_against_10 (lv_at hl 3 rfl) ?_
  refine lv_ldc2 (v := 5898240) hx hb hown (hts (.constantLong RX1 100 (5898240)) (by decide +kernel)) dX1_against_12 ?_
  refine lv_ladd hx hb dX1_against_15 ?_
  refine pu_Sl (As := [.long (p2 + 5898240)]) (rest := [.long p1]) ⟨hx, hb, hml, hown, hts⟩ (cc_X1_sine l H0 ((p2 + 5898240))) 1 gX1_against_X1_sine rfl rfl rfl hdS_X1_sine ⟨Nat.le_of_ble_eq_true rfl, Nat.le_of_ble_eq_true rfl⟩ (kT_ok _) (hkat) rfl hl.1 rfl (Nat.le_of_ble_eq_true rfl) dX1_against_16 ⟨Nat.zero_le _, Nat.zero_le _⟩ ?_
  refine lv_lmul hx hb dX1_against_19 ?_
  refine lv_lstore (lv' := [(8, .long (p1 * (f_X1_sine ((p2 + 5898240))))), (6, .long (p0 * (f_X1_sine (p2)))), (0, .long p0), (2, .long p1), (4, .long p2)]) hx hb dX1_against_20 hl (by decide) rfl (fun ls hl => ?_)
  refine lv_lload hx hb dX1_against_22 (lv_at hl 1 rfl) ?_
  refine lv_lload hx hb dX1_against_24 (lv_at hl 0 rfl) ?_
  refine pl_ge (tgt := 34) hx hb dX1_against_26 dX1_against_27 (by decide) (fun c_1 => ?_) (fun c_1 => ?_)
  · skip
    refine lv_lload hx hb dX1_against_34 (lv_at hl 1 rfl) ?_
    refine lv_lload hx hb dX1_against_36 (lv_at hl 0 rfl) ?_
    refine pl_le (tgt := 46) hx hb dX1_against_38 dX1_against_39 (by decide) (fun c_2 => ?_) (fun c_2 => ?_)
    · skip
      refine lv_iconst (v := 0) hx hb dX1_against_46 (by decide) ?_
      exact pu_iret hx hb hr hlocks hs dX1_against_47 (by rw [f_X1_against, if_neg c_1, if_neg c_2])
    · skip
      refine lv_iconst (v := 1) hx hb dX1_against_42 (by decide) ?_
      refine lv_goto (tgt := 47) hx hb dX1_against_43 (by decide) ?_
      exact pu_iret hx hb hr hlocks hs dX1_against_47 (by rw [f_X1_against, if_neg c_1, if_pos c_2])
  · skip
    refine lv_iconst (v := (-1)) hx hb dX1_against_30 (by decide) ?_
    refine lv_goto (tgt := 47) hx hb dX1_against_31 (by decide) ?_
    exact pu_iret hx hb hr hlocks hs dX1_against_47 (by rw [f_X1_against, if_pos c_1])
theorem hdS_X1_first : yX1_first.cls ≠ "java/lang/invoke/MethodHandle" ∧ yX1_first.cls ≠ "java/lang/invoke/VarHandle" ∧ (parseMethodDescriptor yX1_first.desc).map (fun d => d.parameters.length) = some 3 := by decide +kernel
def f_X1_first_L67 (p0 : Int64) (p1 : Int64) (p2 : Int32) : Nat → Int64 → Int64 → Int64
  | 0, lo, hi => hi
  | n + 1, lo, hi => if 1 < (hi - lo) then (if (f_X1_against (p0) (p1) (((lo + hi) / 2))) < p2 then (f_X1_first_L67 p0 p1 p2 n (((lo + hi) / 2)) (hi)) else (f_X1_first_L67 p0 p1 p2 n (lo) (((lo + hi) / 2)))) else (hi)
def f_X1_first_L3 (p0 : Int64) (p1 : Int64) (p2 : Int32) : Nat → Int64
  | 0 => if (f_X1_against (p0) (p1) ((((nI (90 - 0))).toInt64 * 65536))) < p2 then (f_X1_first_L67 p0 p1 p2 (16) ((((nI (90 - 0))).toInt64 * 65536)) (((((nI (90 - 0))).toInt64 * 65536) + 65536))) else ((((nI (90 - 0))).toInt64 * 65536))
  | n + 1 => if (f_X1_against (p0) (p1) (((((nI (90 - (n + 1))) + 1)).toInt64 * 65536))) < p2 then (f_X1_first_L3 p0 p1 p2 n ) else (if (f_X1_against (p0) (p1) ((((nI (90 - (n + 1)))).toInt64 * 65536))) < p2 then (f_X1_first_L67 p0 p1 p2 (16) ((((nI (90 - (n + 1)))).toInt64 * 65536)) (((((nI (90 - (n + 1)))).toInt64 * 65536) + 65536))) else ((((nI (90 - (n + 1)))).toInt64 * 65536)))
def f_X1_first (p0 : Int64) (p1 : Int64) (p2 : Int32) : Int64 := f_X1_first_L3 p0 p1 p2 (90) 
abbrev rm_X1_first : Room := { frames := 5, cells := 0, slots := 0, locals := 207 }
set_option maxHeartbeats 4000000 in
set_option maxRecDepth 100000 in
theorem cc_X1_first (l : Launch) (H0 : Heap) (p0 : Int64) (p1 : Int64) (p2 : Int32)   : Met l yX1_first wsX1_first rm_X1_first (pPc [.long p0, .long p1, .int p2] H0 (kT "FixedPlaneModel")) (pQl H0 (f_X1_first p0 p1 p2)) 0 0 (fun _ => False) := by
  refine pu_head (cc := cX1_first) (maxL := 12) (ret := some .long) (by decide +kernel) rfl (Nat.le_of_ble_eq_true rfl) ?_
  intro p e s m below meth c ls hx hb hr hlocks hml hown hts hs hk hl
  have hown : s.vm.findClass RX1 = some m.cls := hown
  have hl : lv_has ls 12 [(0, .long p0), (2, .long p1), (4, .int p2)] := hl
  have hkat : ∀ U : State, U.heap = H0 → s.WarmedH U.vm → kT "FixedPlaneModel" U := by rw [← hs]; exact kT_at hk
  have hL67 : ∀ (n : Nat) (lo : Int64) (hi : Int64), frI n lo hi → (f_X1_first p0 p1 p2 = f_X1_first_L67 p0 p1 p2 n lo hi) → ∀ (ls : Array Slot), lv_has ls 12 [(0, .long p0), (2, .long p1), (4, .int p2), (6, .long lo), (8, .long hi)] → W p l e (headSpec wsX1_first rm_X1_first).room s m ([.long p0, .long p1, .int p2] : List Value).toArray below meth c H0 [] 0 0 (MQ below (pQl H0 (f_X1_first p0 p1 p2)) ([.long p0, .long p1, .int p2] : List Value).toArray s 0 0 (fun _ => False)) (F0 m 67 ls []) := by
    intro n
    induction n with
    | zero =>
      intro lo hi hI hF ls hl
      refine lv_lload hx hb dX1_first_67 (lv_at hl 4 rfl) ?_
      refine lv_lload hx hb dX1_first_69 (lv_at hl 3 rfl) ?_
      refine lv_lsub hx hb dX1_first_71 ?_
      refine lv_lconst (v := 1) hx hb dX1_first_72 (by decide) ?_
      refine pl_le (tgt := 114) hx hb dX1_first_73 dX1_first_74 (by decide) (fun _ => ?_) (fun q => absurd q (frI_z hI))
      refine lv_lload hx hb dX1_first_114 (lv_at hl 4 rfl) ?_
      exact pu_lret hx hb hr hlocks hs dX1_first_116 (by rw [hF, f_X1_first_L67])
    | succ n ih =>
      intro lo hi hI hF ls hl
      refine lv_lload hx hb dX1_first_67 (lv_at hl 4 rfl) ?_
      refine lv_lload hx hb dX1_first_69 (lv_at hl 3 rfl) ?_
      refine lv_lsub hx hb dX1_first_71 ?_
      refine lv_lconst (v := 1) hx hb dX1_first_72 (by decide) ?_
      refine pl_le (tgt := 114) hx hb dX1_first_73 dX1_first_74 (by decide) (fun c_2 => ?_) (fun c_2 => ?_)
      · skip
        refine lv_lload hx hb dX1_first_114 (lv_at hl 4 rfl) ?_
        exact pu_lret hx hb hr hlocks hs dX1_first_116 (by rw [hF, f_X1_first_L67, if_neg c_2])
      · skip
        refine lv_lload hx hb dX1_first_77 (lv_at hl 3 rfl) ?_
        refine lv_lload hx hb dX1_first_79 (lv_at hl 4 rfl) ?_
        refine lv_ladd hx hb dX1_first_81 ?_
        refine lv_ldc2 (v := 2) hx hb hown (hts (.constantLong RX1 48 (2)) (by decide +kernel)) dX1_first_82 ?_
        refine lv_ldiv hx hb dX1_first_85 (by decide) ?_
        refine lv_lstore (lv' := [(10, .long ((lo + hi) / 2)), (0, .long p0), (2, .long p1), (4, .int p2), (6, .long lo), (8, .long hi)]) hx hb dX1_first_86 hl (by decide) rfl (fun ls hl => ?_)
        refine lv_lload_n hx hb dX1_first_88 rfl (lv_at hl 1 rfl) ?_
        refine lv_lload_n hx hb dX1_first_89 rfl (lv_at hl 2 rfl) ?_
        refine lv_lload hx hb dX1_first_90 (lv_at hl 0 rfl) ?_
        refine pu_Si (As := [.long p0, .long p1, .long ((lo + hi) / 2)]) (rest := []) ⟨hx, hb, hml, hown, hts⟩ (cc_X1_against l H0 (p0) (p1) (((lo + hi) / 2))) 3 gX1_first_X1_against rfl rfl rfl hdS_X1_against ⟨Nat.le_of_ble_eq_true rfl, Nat.le_of_ble_eq_true rfl⟩ (kT_ok _) (hkat) rfl hl.1 rfl (Nat.le_of_ble_eq_true rfl) dX1_first_92 ⟨Nat.zero_le _, Nat.zero_le _⟩ ?_
        refine lv_iload hx hb dX1_first_95 (lv_at hl 3 rfl) ?_
        refine pi_ge (tgt := 107) hx hb dX1_first_97 (by decide) (fun c_3 => ?_) (fun c_3 => ?_)
        · skip
          refine lv_lload hx hb dX1_first_107 (lv_at hl 0 rfl) ?_
          refine lv_lstore (lv' := [(8, .long ((lo + hi) / 2)), (10, .long ((lo + hi) / 2)), (0, .long p0), (2, .long p1), (4, .int p2), (6, .long lo)]) hx hb dX1_first_109 hl (by decide) rfl (fun ls hl => ?_)
          refine lv_goto (tgt := 67) hx hb dX1_first_111 (by decide) ?_
          exact ih (lo) (((lo + hi) / 2)) (frI_hi hI c_2) (hF.trans (by rw [f_X1_first_L67, if_pos c_2, if_neg c_3])) ls (lv_sub hl [2, 3, 4, 5, 0] rfl)
        · skip
          refine lv_lload hx hb dX1_first_100 (lv_at hl 0 rfl) ?_
          refine lv_lstore (lv' := [(6, .long ((lo + hi) / 2)), (10, .long ((lo + hi) / 2)), (0, .long p0), (2, .long p1), (4, .int p2), (8, .long hi)]) hx hb dX1_first_102 hl (by decide) rfl (fun ls hl => ?_)
          refine lv_goto (tgt := 111) hx hb dX1_first_104 (by decide) ?_
          refine lv_goto (tgt := 67) hx hb dX1_first_111 (by decide) ?_
          exact ih (((lo + hi) / 2)) (hi) (frI_lo hI c_2) (hF.trans (by rw [f_X1_first_L67, if_pos c_2, if_pos c_3])) ls (lv_sub hl [2, 3, 4, 0, 5] rfl)
  have hL3 : ∀ (n : Nat) , n ≤ 90 → (f_X1_first p0 p1 p2 = f_X1_first_L3 p0 p1 p2 n ) → ∀ (ls : Array Slot), lv_has ls 12 [(0, .long p0), (2, .long p1), (4, .int p2), (5, .int (nI (90 - n)))] → W p l e (headSpec wsX1_first rm_X1_first).room s m ([.long p0, .long p1, .int p2] : List Value).toArray below meth c H0 [] 0 0 (MQ below (pQl H0 (f_X1_first p0 p1 p2)) ([.long p0, .long p1, .int p2] : List Value).toArray s 0 0 (fun _ => False)) (F0 m 3 ls []) := by
    intro n
    induction n with
    | zero =>
      intro  hI hF ls hl
      refine lv_iload hx hb dX1_first_3 (lv_at hl 3 rfl) ?_
      refine lv_bipush (v := 90) hx hb dX1_first_5 (by decide) ?_
      refine pi_ge (tgt := 35) hx hb dX1_first_7 (by decide) (fun _ => ?_) (fun q => absurd q (by decide))
      refine lv_iload hx hb dX1_first_35 (lv_at hl 3 rfl) ?_
      refine lv_i2l (v := ((nI (90 - 0))).toInt64) hx hb dX1_first_37 rfl ?_
      refine lv_ldc2 (v := 65536) hx hb hown (hts (.constantLong RX1 23 (65536)) (by decide +kernel)) dX1_first_38 ?_
      refine lv_lmul hx hb dX1_first_41 ?_
      refine lv_lstore (lv' := [(6, .long (((nI (90 - 0))).toInt64 * 65536)), (0, .long p0), (2, .long p1), (4, .int p2), (5, .int (nI (90 - 0)))]) hx hb dX1_first_42 hl (by decide) rfl (fun ls hl => ?_)
      refine lv_lload_n hx hb dX1_first_44 rfl (lv_at hl 1 rfl) ?_
      refine lv_lload_n hx hb dX1_first_45 rfl (lv_at hl 2 rfl) ?_
      refine lv_lload hx hb dX1_first_46 (lv_at hl 0 rfl) ?_
      refine pu_Si (As := [.long p0, .long p1, .long (((nI (90 - 0))).toInt64 * 65536)]) (rest := []) ⟨hx, hb, hml, hown, hts⟩ (cc_X1_against l H0 (p0) (p1) ((((nI (90 - 0))).toInt64 * 65536))) 3 gX1_first_X1_against rfl rfl rfl hdS_X1_against ⟨Nat.le_of_ble_eq_true rfl, Nat.le_of_ble_eq_true rfl⟩ (kT_ok _) (hkat) rfl hl.1 rfl (Nat.le_of_ble_eq_true rfl) dX1_first_48 ⟨Nat.zero_le _, Nat.zero_le _⟩ ?_
      refine lv_iload hx hb dX1_first_51 (lv_at hl 3 rfl) ?_
      refine lv_icmp_lt (tgt := 59) hx hb dX1_first_53 (by decide) (fun c_5 => ?_) (fun c_5 => ?_)
      · skip
        refine lv_lload hx hb dX1_first_59 (lv_at hl 0 rfl) ?_
        refine lv_ldc2 (v := 65536) hx hb hown (hts (.constantLong RX1 23 (65536)) (by decide +kernel)) dX1_first_61 ?_
        refine lv_ladd hx hb dX1_first_64 ?_
        refine lv_lstore (lv' := [(8, .long ((((nI (90 - 0))).toInt64 * 65536) + 65536)), (6, .long (((nI (90 - 0))).toInt64 * 65536)), (0, .long p0), (2, .long p1), (4, .int p2), (5, .int (nI (90 - 0)))]) hx hb dX1_first_65 hl (by decide) rfl (fun ls hl => ?_)
        exact hL67 (16) ((((nI (90 - 0))).toInt64 * 65536)) (((((nI (90 - 0))).toInt64 * 65536) + 65536)) (frI_0 (90 - 0) (by omega)) (hF.trans (by rw [f_X1_first_L3, if_pos c_5])) ls (lv_sub hl [2, 3, 4, 1, 0] rfl)
      · skip
        refine lv_lload hx hb dX1_first_56 (lv_at hl 0 rfl) ?_
        exact pu_lret hx hb hr hlocks hs dX1_first_58 (by rw [hF, f_X1_first_L3, if_neg c_5])
    | succ n ih =>
      intro  hI hF ls hl
      refine lv_iload hx hb dX1_first_3 (lv_at hl 3 rfl) ?_
      refine lv_bipush (v := 90) hx hb dX1_first_5 (by decide) ?_
      refine pi_ge (tgt := 35) hx hb dX1_first_7 (by decide) (fun q => absurd (cn_lt (N := 90) rfl (by decide) hI) q) (fun _ => ?_)
      refine lv_lload_n hx hb dX1_first_10 rfl (lv_at hl 0 rfl) ?_
      refine lv_lload_n hx hb dX1_first_11 rfl (lv_at hl 1 rfl) ?_
      refine lv_iload hx hb dX1_first_12 (lv_at hl 3 rfl) ?_
      refine lv_iconst (v := 1) hx hb dX1_first_14 (by decide) ?_
      refine lv_iadd hx hb dX1_first_15 ?_
      refine lv_i2l (v := (((nI (90 - (n + 1))) + 1)).toInt64) hx hb dX1_first_16 rfl ?_
      refine lv_ldc2 (v := 65536) hx hb hown (hts (.constantLong RX1 23 (65536)) (by decide +kernel)) dX1_first_17 ?_
      refine lv_lmul hx hb dX1_first_20 ?_
      refine pu_Si (As := [.long p0, .long p1, .long ((((nI (90 - (n + 1))) + 1)).toInt64 * 65536)]) (rest := []) ⟨hx, hb, hml, hown, hts⟩ (cc_X1_against l H0 (p0) (p1) (((((nI (90 - (n + 1))) + 1)).toInt64 * 65536))) 3 gX1_first_X1_against rfl rfl rfl hdS_X1_against ⟨Nat.le_of_ble_eq_true rfl, Nat.le_of_ble_eq_true rfl⟩ (kT_ok _) (hkat) rfl hl.1 rfl (Nat.le_of_ble_eq_true rfl) dX1_first_21 ⟨Nat.zero_le _, Nat.zero_le _⟩ ?_
      refine lv_iload hx hb dX1_first_24 (lv_at hl 2 rfl) ?_
      refine pi_ge (tgt := 35) hx hb dX1_first_26 (by decide) (fun c_7 => ?_) (fun c_7 => ?_)
      · skip
        refine lv_iload hx hb dX1_first_35 (lv_at hl 3 rfl) ?_
        refine lv_i2l (v := ((nI (90 - (n + 1)))).toInt64) hx hb dX1_first_37 rfl ?_
        refine lv_ldc2 (v := 65536) hx hb hown (hts (.constantLong RX1 23 (65536)) (by decide +kernel)) dX1_first_38 ?_
        refine lv_lmul hx hb dX1_first_41 ?_
        refine lv_lstore (lv' := [(6, .long (((nI (90 - (n + 1)))).toInt64 * 65536)), (0, .long p0), (2, .long p1), (4, .int p2), (5, .int (nI (90 - (n + 1))))]) hx hb dX1_first_42 hl (by decide) rfl (fun ls hl => ?_)
        refine lv_lload_n hx hb dX1_first_44 rfl (lv_at hl 1 rfl) ?_
        refine lv_lload_n hx hb dX1_first_45 rfl (lv_at hl 2 rfl) ?_
        refine lv_lload hx hb dX1_first_46 (lv_at hl 0 rfl) ?_
        refine pu_Si (As := [.long p0, .long p1, .long (((nI (90 - (n + 1)))).toInt64 * 65536)]) (rest := []) ⟨hx, hb, hml, hown, hts⟩ (cc_X1_against l H0 (p0) (p1) ((((nI (90 - (n + 1)))).toInt64 * 65536))) 3 gX1_first_X1_against rfl rfl rfl hdS_X1_against ⟨Nat.le_of_ble_eq_true rfl, Nat.le_of_ble_eq_true rfl⟩ (kT_ok _) (hkat) rfl hl.1 rfl (Nat.le_of_ble_eq_true rfl) dX1_first_48 ⟨Nat.zero_le _, Nat.zero_le _⟩ ?_
        refine lv_iload hx hb dX1_first_51 (lv_at hl 3 rfl) ?_
        refine lv_icmp_lt (tgt := 59) hx hb dX1_first_53 (by decide) (fun c_8 => ?_) (fun c_8 => ?_)
        · skip
          refine lv_lload hx hb dX1_first_59 (lv_at hl 0 rfl) ?_
          refine lv_ldc2 (v := 65536) hx hb hown (hts (.constantLong RX1 23 (65536)) (by decide +kernel)) dX1_first_61 ?_
          refine lv_ladd hx hb dX1_first_64 ?_
          refine lv_lstore (lv' := [(8, .long ((((nI (90 - (n + 1)))).toInt64 * 65536) + 65536)), (6, .long (((nI (90 - (n + 1)))).toInt64 * 65536)), (0, .long p0), (2, .long p1), (4, .int p2), (5, .int (nI (90 - (n + 1))))]) hx hb dX1_first_65 hl (by decide) rfl (fun ls hl => ?_)
          exact hL67 (16) ((((nI (90 - (n + 1)))).toInt64 * 65536)) (((((nI (90 - (n + 1)))).toInt64 * 65536) + 65536)) (frI_0 (90 - (n + 1)) (by omega)) (hF.trans (by rw [f_X1_first_L3, if_neg c_7, if_pos c_8])) ls (lv_sub hl [2, 3, 4, 1, 0] rfl)
        · skip
          refine lv_lload hx hb dX1_first_56 (lv_at hl 0 rfl) ?_
          exact pu_lret hx hb hr hlocks hs dX1_first_58 (by rw [hF, f_X1_first_L3, if_neg c_7, if_neg c_8])
      · skip
        refine lv_iinc (v := (nI (90 - n))) (lv' := [(5, .int (nI (90 - n))), (0, .long p0), (2, .long p1), (4, .int p2)]) (k := 3) hx hb dX1_first_29 hl rfl (cn_st hI) (by decide) rfl (fun ls hl => ?_)
        refine lv_goto (tgt := 3) hx hb dX1_first_32 (by decide) ?_
        exact ih  (by omega) (hF.trans (by rw [f_X1_first_L3, if_pos c_7])) ls (lv_sub hl [1, 2, 3, 0] rfl)
  refine lv_iconst (v := 0) hx hb dX1_first_0 (by decide) ?_
  refine lv_istore (lv' := [(5, .int 0), (0, .long p0), (2, .long p1), (4, .int p2)]) hx hb dX1_first_1 hl (by decide) rfl (fun ls hl => ?_)
  exact hL3 (90)  (by omega) (by rw [f_X1_first]) ls (lv_sub hl [1, 2, 3, 0] rfl)
theorem hdS_X1_angle : yX1_angle.cls ≠ "java/lang/invoke/MethodHandle" ∧ yX1_angle.cls ≠ "java/lang/invoke/VarHandle" ∧ (parseMethodDescriptor yX1_angle.desc).map (fun d => d.parameters.length) = some 2 := by decide +kernel
def f_X1_angle (p0 : Int64) (p1 : Int64) : Int64 := if p0 < 0 then (if p1 < 0 then (if (-p1) = 0 then (11796480) else (if (-p0) = 0 then (17694720) else (if (11796480 - (f_X1_down (((f_X1_first ((-p0)) ((-p1)) (0)) + ((f_X1_first ((-p0)) ((-p1)) (1)) - 1))) (2))) = 0 then ((11796480 - (f_X1_down (((f_X1_first ((-p0)) ((-p1)) (0)) + ((f_X1_first ((-p0)) ((-p1)) (1)) - 1))) (2)))) else ((23592960 - (11796480 - (f_X1_down (((f_X1_first ((-p0)) ((-p1)) (0)) + ((f_X1_first ((-p0)) ((-p1)) (1)) - 1))) (2)))))))) else (if p1 = 0 then (11796480) else (if (-p0) = 0 then (5898240) else ((11796480 - (f_X1_down (((f_X1_first ((-p0)) (p1) (0)) + ((f_X1_first ((-p0)) (p1) (1)) - 1))) (2))))))) else (if p1 < 0 then (if (-p1) = 0 then (0) else (if p0 = 0 then (17694720) else (if (f_X1_down (((f_X1_first (p0) ((-p1)) (0)) + ((f_X1_first (p0) ((-p1)) (1)) - 1))) (2)) = 0 then ((f_X1_down (((f_X1_first (p0) ((-p1)) (0)) + ((f_X1_first (p0) ((-p1)) (1)) - 1))) (2))) else ((23592960 - (f_X1_down (((f_X1_first (p0) ((-p1)) (0)) + ((f_X1_first (p0) ((-p1)) (1)) - 1))) (2))))))) else (if p1 = 0 then (0) else (if p0 = 0 then (5898240) else ((f_X1_down (((f_X1_first (p0) (p1) (0)) + ((f_X1_first (p0) (p1) (1)) - 1))) (2))))))
abbrev rm_X1_angle : Room := { frames := 6, cells := 0, slots := 0, locals := 254 }
set_option maxHeartbeats 4000000 in
set_option maxRecDepth 100000 in
theorem cc_X1_angle (l : Launch) (H0 : Heap) (p0 : Int64) (p1 : Int64)   : Met l yX1_angle wsX1_angle rm_X1_angle (pPc [.long p0, .long p1] H0 (kT "FixedPlaneModel")) (pQl H0 (f_X1_angle p0 p1)) 0 0 (fun _ => False) := by
  refine pu_head (cc := cX1_angle) (maxL := 14) (ret := some .long) (by decide +kernel) rfl (Nat.le_of_ble_eq_true rfl) ?_
  intro p e s m below meth c ls hx hb hr hlocks hml hown hts hs hk hl
  have hown : s.vm.findClass RX1 = some m.cls := hown
  have hl : lv_has ls 14 [(0, .long p0), (2, .long p1)] := hl
  have hkat : ∀ U : State, U.heap = H0 → s.WarmedH U.vm → kT "FixedPlaneModel" U := by rw [← hs]; exact kT_at hk
  refine lv_lload_n hx hb dX1_angle_0 rfl (lv_at hl 0 rfl) ?_
  refine lv_lconst (v := 0) hx hb dX1_angle_1 (by decide) ?_
  refine pl_ge (tgt := 11) hx hb dX1_angle_2 dX1_angle_3 (by decide) (fun c_1 => ?_) (fun c_1 => ?_)
  · skip
    refine lv_lload_n hx hb dX1_angle_11 rfl (lv_at hl 0 rfl) ?_
    refine lv_lstore (lv' := [(4, .long p0), (0, .long p0), (2, .long p1)]) hx hb dX1_angle_12 hl (by decide) rfl (fun ls hl => ?_)
    refine lv_lload_n hx hb dX1_angle_14 rfl (lv_at hl 2 rfl) ?_
    refine lv_lconst (v := 0) hx hb dX1_angle_15 (by decide) ?_
    refine pl_ge (tgt := 25) hx hb dX1_angle_16 dX1_angle_17 (by decide) (fun c_2 => ?_) (fun c_2 => ?_)
    · skip
      refine lv_lload_n hx hb dX1_angle_25 rfl (lv_at hl 2 rfl) ?_
      refine lv_lstore (lv' := [(6, .long p1), (4, .long p0), (0, .long p0), (2, .long p1)]) hx hb dX1_angle_26 hl (by decide) rfl (fun ls hl => ?_)
      refine lv_lconst (v := 0) hx hb dX1_angle_28 (by decide) ?_
      refine lv_lstore (lv' := [(8, .long 0), (6, .long p1), (4, .long p0), (0, .long p0), (2, .long p1)]) hx hb dX1_angle_29 hl (by decide) rfl (fun ls hl => ?_)
      refine lv_lload hx hb dX1_angle_31 (lv_at hl 1 rfl) ?_
      refine lv_lconst (v := 0) hx hb dX1_angle_33 (by decide) ?_
      refine pl_eq (tgt := 50) hx hb dX1_angle_34 dX1_angle_35 (by decide) (fun c_3 => ?_) (fun c_3 => ?_)
      · skip
        refine lv_lload hx hb dX1_angle_50 (lv_at hl 1 rfl) ?_
        refine lv_lconst (v := 0) hx hb dX1_angle_52 (by decide) ?_
        refine pl_eq (tgt := 99) hx hb dX1_angle_53 dX1_angle_54 (by decide) (fun _ => ?_) (fun q => absurd (c_3) q)
        refine lv_lload_n hx hb dX1_angle_99 rfl (lv_at hl 3 rfl) ?_
        refine lv_lconst (v := 0) hx hb dX1_angle_100 (by decide) ?_
        refine pl_ge (tgt := 114) hx hb dX1_angle_101 dX1_angle_102 (by decide) (fun _ => ?_) (fun q => absurd q (c_1))
        refine lv_lload hx hb dX1_angle_114 (lv_at hl 0 rfl) ?_
        refine lv_lstore (lv' := [(8, .long 0), (6, .long p1), (4, .long p0), (0, .long p0), (2, .long p1)]) hx hb dX1_angle_116 hl (by decide) rfl (fun ls hl => ?_)
        refine lv_lload_n hx hb dX1_angle_118 rfl (lv_at hl 4 rfl) ?_
        refine lv_lconst (v := 0) hx hb dX1_angle_119 (by decide) ?_
        refine pl_ge (tgt := 140) hx hb dX1_angle_120 dX1_angle_121 (by decide) (fun _ => ?_) (fun q => absurd q (c_2))
        refine lv_lload hx hb dX1_angle_140 (lv_at hl 0 rfl) ?_
        exact pu_lret hx hb hr hlocks hs dX1_angle_142 (by rw [f_X1_angle, if_neg c_1, if_neg c_2, if_pos c_3])
      · skip
        refine lv_lload hx hb dX1_angle_38 (lv_at hl 2 rfl) ?_
        refine lv_lconst (v := 0) hx hb dX1_angle_40 (by decide) ?_
        refine pl_ne (tgt := 50) hx hb dX1_angle_41 dX1_angle_42 (by decide) (fun c_7 => ?_) (fun c_7 => ?_)
        · skip
          refine lv_lload hx hb dX1_angle_50 (lv_at hl 1 rfl) ?_
          refine lv_lconst (v := 0) hx hb dX1_angle_52 (by decide) ?_
          refine pl_eq (tgt := 99) hx hb dX1_angle_53 dX1_angle_54 (by decide) (fun q => absurd q (c_3)) (fun _ => ?_)
          refine lv_lload hx hb dX1_angle_57 (lv_at hl 2 rfl) ?_
          refine lv_lconst (v := 0) hx hb dX1_angle_59 (by decide) ?_
          refine pl_eq (tgt := 99) hx hb dX1_angle_60 dX1_angle_61 (by decide) (fun q => absurd q (c_7)) (fun _ => ?_)
          refine lv_lload hx hb dX1_angle_64 (lv_at hl 2 rfl) ?_
          refine lv_lload hx hb dX1_angle_66 (lv_at hl 1 rfl) ?_
          refine lv_iconst (v := 0) hx hb dX1_angle_68 (by decide) ?_
          refine pu_Sl (As := [.long p0, .long p1, .int 0]) (rest := []) ⟨hx, hb, hml, hown, hts⟩ (cc_X1_first l H0 (p0) (p1) (0)) 3 gX1_angle_X1_first rfl rfl rfl hdS_X1_first ⟨Nat.le_of_ble_eq_true rfl, Nat.le_of_ble_eq_true rfl⟩ (kT_ok _) (hkat) rfl hl.1 rfl (Nat.le_of_ble_eq_true rfl) dX1_angle_69 ⟨Nat.zero_le _, Nat.zero_le _⟩ ?_
          refine lv_lstore (lv' := [(10, .long (f_X1_first (p0) (p1) (0))), (8, .long 0), (6, .long p1), (4, .long p0), (0, .long p0), (2, .long p1)]) hx hb dX1_angle_72 hl (by decide) rfl (fun ls hl => ?_)
          refine lv_lload hx hb dX1_angle_74 (lv_at hl 3 rfl) ?_
          refine lv_lload hx hb dX1_angle_76 (lv_at hl 2 rfl) ?_
          refine lv_iconst (v := 1) hx hb dX1_angle_78 (by decide) ?_
          refine pu_Sl (As := [.long p0, .long p1, .int 1]) (rest := []) ⟨hx, hb, hml, hown, hts⟩ (cc_X1_first l H0 (p0) (p1) (1)) 3 gX1_angle_X1_first rfl rfl rfl hdS_X1_first ⟨Nat.le_of_ble_eq_true rfl, Nat.le_of_ble_eq_true rfl⟩ (kT_ok _) (hkat) rfl hl.1 rfl (Nat.le_of_ble_eq_true rfl) dX1_angle_79 ⟨Nat.zero_le _, Nat.zero_le _⟩ ?_
          refine lv_lconst (v := 1) hx hb dX1_angle_82 (by decide) ?_
          refine lv_lsub hx hb dX1_angle_83 ?_
          refine lv_lstore (lv' := [(12, .long ((f_X1_first (p0) (p1) (1)) - 1)), (10, .long (f_X1_first (p0) (p1) (0))), (8, .long 0), (6, .long p1), (4, .long p0), (0, .long p0), (2, .long p1)]) hx hb dX1_angle_84 hl (by decide) rfl (fun ls hl => ?_)
          refine lv_lload hx hb dX1_angle_86 (lv_at hl 1 rfl) ?_
          refine lv_lload hx hb dX1_angle_88 (lv_at hl 0 rfl) ?_
          refine lv_ladd hx hb dX1_angle_90 ?_
          refine lv_ldc2 (v := 2) hx hb hown (hts (.constantLong RX1 48 (2)) (by decide +kernel)) dX1_angle_91 ?_
          refine pu_Sl (As := [.long ((f_X1_first (p0) (p1) (0)) + ((f_X1_first (p0) (p1) (1)) - 1)), .long 2]) (rest := []) ⟨hx, hb, hml, hown, hts⟩ (cc_X1_down l H0 (((f_X1_first (p0) (p1) (0)) + ((f_X1_first (p0) (p1) (1)) - 1))) (2) (by decide)) 2 gX1_angle_X1_down rfl rfl rfl hdS_X1_down ⟨Nat.le_of_ble_eq_true rfl, Nat.le_of_ble_eq_true rfl⟩ kN_ok kN_at rfl hl.1 rfl (Nat.le_of_ble_eq_true rfl) dX1_angle_94 ⟨Nat.zero_le _, Nat.zero_le _⟩ ?_
          refine lv_lstore (lv' := [(8, .long (f_X1_down (((f_X1_first (p0) (p1) (0)) + ((f_X1_first (p0) (p1) (1)) - 1))) (2))), (12, .long ((f_X1_first (p0) (p1) (1)) - 1)), (10, .long (f_X1_first (p0) (p1) (0))), (6, .long p1), (4, .long p0), (0, .long p0), (2, .long p1)]) hx hb dX1_angle_97 hl (by decide) rfl (fun ls hl => ?_)
          refine lv_lload_n hx hb dX1_angle_99 rfl (lv_at hl 5 rfl) ?_
          refine lv_lconst (v := 0) hx hb dX1_angle_100 (by decide) ?_
          refine pl_ge (tgt := 114) hx hb dX1_angle_101 dX1_angle_102 (by decide) (fun _ => ?_) (fun q => absurd q (c_1))
          refine lv_lload hx hb dX1_angle_114 (lv_at hl 0 rfl) ?_
          refine lv_lstore (lv' := [(8, .long (f_X1_down (((f_X1_first (p0) (p1) (0)) + ((f_X1_first (p0) (p1) (1)) - 1))) (2))), (12, .long ((f_X1_first (p0) (p1) (1)) - 1)), (10, .long (f_X1_first (p0) (p1) (0))), (6, .long p1), (4, .long p0), (0, .long p0), (2, .long p1)]) hx hb dX1_angle_116 hl (by decide) rfl (fun ls hl => ?_)
          refine lv_lload_n hx hb dX1_angle_118 rfl (lv_at hl 6 rfl) ?_
          refine lv_lconst (v := 0) hx hb dX1_angle_119 (by decide) ?_
          refine pl_ge (tgt := 140) hx hb dX1_angle_120 dX1_angle_121 (by decide) (fun _ => ?_) (fun q => absurd q (c_2))
          refine lv_lload hx hb dX1_angle_140 (lv_at hl 0 rfl) ?_
          exact pu_lret hx hb hr hlocks hs dX1_angle_142 (by rw [f_X1_angle, if_neg c_1, if_neg c_2, if_neg c_3, if_neg c_7])
        · skip
          refine lv_ldc2 (v := 5898240) hx hb hown (hts (.constantLong RX1 100 (5898240)) (by decide +kernel)) dX1_angle_45 ?_
          refine lv_lstore (lv' := [(8, .long 5898240), (6, .long p1), (4, .long p0), (0, .long p0), (2, .long p1)]) hx hb dX1_angle_48 hl (by decide) rfl (fun ls hl => ?_)
          refine lv_lload hx hb dX1_angle_50 (lv_at hl 1 rfl) ?_
          refine lv_lconst (v := 0) hx hb dX1_angle_52 (by decide) ?_
          refine pl_eq (tgt := 99) hx hb dX1_angle_53 dX1_angle_54 (by decide) (fun q => absurd q (c_3)) (fun _ => ?_)
          refine lv_lload hx hb dX1_angle_57 (lv_at hl 2 rfl) ?_
          refine lv_lconst (v := 0) hx hb dX1_angle_59 (by decide) ?_
          refine pl_eq (tgt := 99) hx hb dX1_angle_60 dX1_angle_61 (by decide) (fun _ => ?_) (fun q => absurd (c_7) q)
          refine lv_lload_n hx hb dX1_angle_99 rfl (lv_at hl 3 rfl) ?_
          refine lv_lconst (v := 0) hx hb dX1_angle_100 (by decide) ?_
          refine pl_ge (tgt := 114) hx hb dX1_angle_101 dX1_angle_102 (by decide) (fun _ => ?_) (fun q => absurd q (c_1))
          refine lv_lload hx hb dX1_angle_114 (lv_at hl 0 rfl) ?_
          refine lv_lstore (lv' := [(8, .long 5898240), (6, .long p1), (4, .long p0), (0, .long p0), (2, .long p1)]) hx hb dX1_angle_116 hl (by decide) rfl (fun ls hl => ?_)
          refine lv_lload_n hx hb dX1_angle_118 rfl (lv_at hl 4 rfl) ?_
          refine lv_lconst (v := 0) hx hb dX1_angle_119 (by decide) ?_
          refine pl_ge (tgt := 140) hx hb dX1_angle_120 dX1_angle_121 (by decide) (fun _ => ?_) (fun q => absurd q (c_2))
          refine lv_lload hx hb dX1_angle_140 (lv_at hl 0 rfl) ?_
          exact pu_lret hx hb hr hlocks hs dX1_angle_142 (by rw [f_X1_angle, if_neg c_1, if_neg c_2, if_neg c_3, if_pos c_7])
    · skip
      refine lv_lload_n hx hb dX1_angle_20 rfl (lv_at hl 2 rfl) ?_
      refine lv_lneg hx hb dX1_angle_21 ?_
      refine lv_goto (tgt := 26) hx hb dX1_angle_22 (by decide) ?_
      refine lv_lstore (lv' := [(6, .long (-p1)), (4, .long p0), (0, .long p0), (2, .long p1)]) hx hb dX1_angle_26 hl (by decide) rfl (fun ls hl => ?_)
      refine lv_lconst (v := 0) hx hb dX1_angle_28 (by decide) ?_
      refine lv_lstore (lv' := [(8, .long 0), (6, .long (-p1)), (4, .long p0), (0, .long p0), (2, .long p1)]) hx hb dX1_angle_29 hl (by decide) rfl (fun ls hl => ?_)
      refine lv_lload hx hb dX1_angle_31 (lv_at hl 1 rfl) ?_
      refine lv_lconst (v := 0) hx hb dX1_angle_33 (by decide) ?_
      refine pl_eq (tgt := 50) hx hb dX1_angle_34 dX1_angle_35 (by decide) (fun c_16 => ?_) (fun c_16 => ?_)
      · skip
        refine lv_lload hx hb dX1_angle_50 (lv_at hl 1 rfl) ?_
        refine lv_lconst (v := 0) hx hb dX1_angle_52 (by decide) ?_
        refine pl_eq (tgt := 99) hx hb dX1_angle_53 dX1_angle_54 (by decide) (fun _ => ?_) (fun q => absurd (c_16) q)
        refine lv_lload_n hx hb dX1_angle_99 rfl (lv_at hl 3 rfl) ?_
        refine lv_lconst (v := 0) hx hb dX1_angle_100 (by decide) ?_
        refine pl_ge (tgt := 114) hx hb dX1_angle_101 dX1_angle_102 (by decide) (fun _ => ?_) (fun q => absurd q (c_1))
        refine lv_lload hx hb dX1_angle_114 (lv_at hl 0 rfl) ?_
        refine lv_lstore (lv' := [(8, .long 0), (6, .long (-p1)), (4, .long p0), (0, .long p0), (2, .long p1)]) hx hb dX1_angle_116 hl (by decide) rfl (fun ls hl => ?_)
        refine lv_lload_n hx hb dX1_angle_118 rfl (lv_at hl 4 rfl) ?_
        refine lv_lconst (v := 0) hx hb dX1_angle_119 (by decide) ?_
        refine pl_ge (tgt := 140) hx hb dX1_angle_120 dX1_angle_121 (by decide) (fun q => absurd (c_2) q) (fun _ => ?_)
        refine lv_lload hx hb dX1_angle_124 (lv_at hl 0 rfl) ?_
        refine lv_lconst (v := 0) hx hb dX1_angle_126 (by decide) ?_
        refine pl_eq (tgt := 140) hx hb dX1_angle_127 dX1_angle_128 (by decide) (fun _ => ?_) (fun q => absurd (by decide) q)
        refine lv_lload hx hb dX1_angle_140 (lv_at hl 0 rfl) ?_
        exact pu_lret hx hb hr hlocks hs dX1_angle_142 (by rw [f_X1_angle, if_neg c_1, if_pos c_2, if_pos c_16])
      · skip
        refine lv_lload hx hb dX1_angle_38 (lv_at hl 2 rfl) ?_
        refine lv_lconst (v := 0) hx hb dX1_angle_40 (by decide) ?_
        refine pl_ne (tgt := 50) hx hb dX1_angle_41 dX1_angle_42 (by decide) (fun c_21 => ?_) (fun c_21 => ?_)
        · skip
          refine lv_lload hx hb dX1_angle_50 (lv_at hl 1 rfl) ?_
          refine lv_lconst (v := 0) hx hb dX1_angle_52 (by decide) ?_
          refine pl_eq (tgt := 99) hx hb dX1_angle_53 dX1_angle_54 (by decide) (fun q => absurd q (c_16)) (fun _ => ?_)
          refine lv_lload hx hb dX1_angle_57 (lv_at hl 2 rfl) ?_
          refine lv_lconst (v := 0) hx hb dX1_angle_59 (by decide) ?_
          refine pl_eq (tgt := 99) hx hb dX1_angle_60 dX1_angle_61 (by decide) (fun q => absurd q (c_21)) (fun _ => ?_)
          refine lv_lload hx hb dX1_angle_64 (lv_at hl 2 rfl) ?_
          refine lv_lload hx hb dX1_angle_66 (lv_at hl 1 rfl) ?_
          refine lv_iconst (v := 0) hx hb dX1_angle_68 (by decide) ?_
          refine pu_Sl (As := [.long p0, .long (-p1), .int 0]) (rest := []) ⟨hx, hb, hml, hown, hts⟩ (cc_X1_first l H0 (p0) ((-p1)) (0)) 3 gX1_angle_X1_first rfl rfl rfl hdS_X1_first ⟨Nat.le_of_ble_eq_true rfl, Nat.le_of_ble_eq_true rfl⟩ (kT_ok _) (hkat) rfl hl.1 rfl (Nat.le_of_ble_eq_true rfl) dX1_angle_69 ⟨Nat.zero_le _, Nat.zero_le _⟩ ?_
          refine lv_lstore (lv' := [(10, .long (f_X1_first (p0) ((-p1)) (0))), (8, .long 0), (6, .long (-p1)), (4, .long p0), (0, .long p0), (2, .long p1)]) hx hb dX1_angle_72 hl (by decide) rfl (fun ls hl => ?_)
          refine lv_lload hx hb dX1_angle_74 (lv_at hl 3 rfl) ?_
          refine lv_lload hx hb dX1_angle_76 (lv_at hl 2 rfl) ?_
          refine lv_iconst (v := 1) hx hb dX1_angle_78 (by decide) ?_
          refine pu_Sl (As := [.long p0, .long (-p1), .int 1]) (rest := []) ⟨hx, hb, hml, hown, hts⟩ (cc_X1_first l H0 (p0) ((-p1)) (1)) 3 gX1_angle_X1_first rfl rfl rfl hdS_X1_first ⟨Nat.le_of_ble_eq_true rfl, Nat.le_of_ble_eq_true rfl⟩ (kT_ok _) (hkat) rfl hl.1 rfl (Nat.le_of_ble_eq_true rfl) dX1_angle_79 ⟨Nat.zero_le _, Nat.zero_le _⟩ ?_
          refine lv_lconst (v := 1) hx hb dX1_angle_82 (by decide) ?_
          refine lv_lsub hx hb dX1_angle_83 ?_
          refine lv_lstore (lv' := [(12, .long ((f_X1_first (p0) ((-p1)) (1)) - 1)), (10, .long (f_X1_first (p0) ((-p1)) (0))), (8, .long 0), (6, .long (-p1)), (4, .long p0), (0, .long p0), (2, .long p1)]) hx hb dX1_angle_84 hl (by decide) rfl (fun ls hl => ?_)
          refine lv_lload hx hb dX1_angle_86 (lv_at hl 1 rfl) ?_
          refine lv_lload hx hb dX1_angle_88 (lv_at hl 0 rfl) ?_
          refine lv_ladd hx hb dX1_angle_90 ?_
          refine lv_ldc2 (v := 2) hx hb hown (hts (.constantLong RX1 48 (2)) (by decide +kernel)) dX1_angle_91 ?_
          refine pu_Sl (As := [.long ((f_X1_first (p0) ((-p1)) (0)) + ((f_X1_first (p0) ((-p1)) (1)) - 1)), .long 2]) (rest := []) ⟨hx, hb, hml, hown, hts⟩ (cc_X1_down l H0 (((f_X1_first (p0) ((-p1)) (0)) + ((f_X1_first (p0) ((-p1)) (1)) - 1))) (2) (by decide)) 2 gX1_angle_X1_down rfl rfl rfl hdS_X1_down ⟨Nat.le_of_ble_eq_true rfl, Nat.le_of_ble_eq_true rfl⟩ kN_ok kN_at rfl hl.1 rfl (Nat.le_of_ble_eq_true rfl) dX1_angle_94 ⟨Nat.zero_le _, Nat.zero_le _⟩ ?_
          refine lv_lstore (lv' := [(8, .long (f_X1_down (((f_X1_first (p0) ((-p1)) (0)) + ((f_X1_first (p0) ((-p1)) (1)) - 1))) (2))), (12, .long ((f_X1_first (p0) ((-p1)) (1)) - 1)), (10, .long (f_X1_first (p0) ((-p1)) (0))), (6, .long (-p1)), (4, .long p0), (0, .long p0), (2, .long p1)]) hx hb dX1_angle_97 hl (by decide) rfl (fun ls hl => ?_)
          refine lv_lload_n hx hb dX1_angle_99 rfl (lv_at hl 5 rfl) ?_
          refine lv_lconst (v := 0) hx hb dX1_angle_100 (by decide) ?_
          refine pl_ge (tgt := 114) hx hb dX1_angle_101 dX1_angle_102 (by decide) (fun _ => ?_) (fun q => absurd q (c_1))
          refine lv_lload hx hb dX1_angle_114 (lv_at hl 0 rfl) ?_
          refine lv_lstore (lv' := [(8, .long (f_X1_down (((f_X1_first (p0) ((-p1)) (0)) + ((f_X1_first (p0) ((-p1)) (1)) - 1))) (2))), (12, .long ((f_X1_first (p0) ((-p1)) (1)) - 1)), (10, .long (f_X1_first (p0) ((-p1)) (0))), (6, .long (-p1)), (4, .long p0), (0, .long p0), (2, .long p1)]) hx hb dX1_angle_116 hl (by decide) rfl (fun ls hl => ?_)
          refine lv_lload_n hx hb dX1_angle_118 rfl (lv_at hl 6 rfl) ?_
          refine lv_lconst (v := 0) hx hb dX1_angle_119 (by decide) ?_
          refine pl_ge (tgt := 140) hx hb dX1_angle_120 dX1_angle_121 (by decide) (fun q => absurd (c_2) q) (fun _ => ?_)
          refine lv_lload hx hb dX1_angle_124 (lv_at hl 0 rfl) ?_
          refine lv_lconst (v := 0) hx hb dX1_angle_126 (by decide) ?_
          refine pl_eq (tgt := 140) hx hb dX1_angle_127 dX1_angle_128 (by decide) (fun c_26 => ?_) (fun c_26 => ?_)
          · skip
            refine lv_lload hx hb dX1_angle_140 (lv_at hl 0 rfl) ?_
            exact pu_lret hx hb hr hlocks hs dX1_angle_142 (by rw [f_X1_angle, if_neg c_1, if_pos c_2, if_neg c_16, if_neg c_21, if_pos c_26])
          · skip
            refine lv_ldc2 (v := 23592960) hx hb hown (hts (.constantLong RX1 105 (23592960)) (by decide +kernel)) dX1_angle_131 ?_
            refine lv_lload hx hb dX1_angle_134 (lv_at hl 0 rfl) ?_
            refine lv_lsub hx hb dX1_angle_136 ?_
            refine lv_goto (tgt := 142) hx hb dX1_angle_137 (by decide) ?_
            exact pu_lret hx hb hr hlocks hs dX1_angle_142 (by rw [f_X1_angle, if_neg c_1, if_pos c_2, if_neg c_16, if_neg c_21, if_neg c_26])
        · skip
          refine lv_ldc2 (v := 5898240) hx hb hown (hts (.constantLong RX1 100 (5898240)) (by decide +kernel)) dX1_angle_45 ?_
          refine lv_lstore (lv' := [(8, .long 5898240), (6, .long (-p1)), (4, .long p0), (0, .long p0), (2, .long p1)]) hx hb dX1_angle_48 hl (by decide) rfl (fun ls hl => ?_)
          refine lv_lload hx hb dX1_angle_50 (lv_at hl 1 rfl) ?_
          refine lv_lconst (v := 0) hx hb dX1_angle_52 (by decide) ?_
          refine pl_eq (tgt := 99) hx hb dX1_angle_53 dX1_angle_54 (by decide) (fun q => absurd q (c_16)) (fun _ => ?_)
          refine lv_lload hx hb dX1_angle_57 (lv_at hl 2 rfl) ?_
          refine lv_lconst (v := 0) hx hb dX1_angle_59 (by decide) ?_
          refine pl_eq (tgt := 99) hx hb dX1_angle_60 dX1_angle_61 (by decide) (fun _ => ?_) (fun q => absurd (c_21) q)
          refine lv_lload_n hx hb dX1_angle_99 rfl (lv_at hl 3 rfl) ?_
          refine lv_lconst (v := 0) hx hb dX1_angle_100 (by decide) ?_
          refine pl_ge (tgt := 114) hx hb dX1_angle_101 dX1_angle_102 (by decide) (fun _ => ?_) (fun q => absurd q (c_1))
          refine lv_lload hx hb dX1_angle_114 (lv_at hl 0 rfl) ?_
          refine lv_lstore (lv' := [(8, .long 5898240), (6, .long (-p1)), (4, .long p0), (0, .long p0), (2, .long p1)]) hx hb dX1_angle_116 hl (by decide) rfl (fun ls hl => ?_)
          refine lv_lload_n hx hb dX1_angle_118 rfl (lv_at hl 4 rfl) ?_
          refine lv_lconst (v := 0) hx hb dX1_angle_119 (by decide) ?_
          refine pl_ge (tgt := 140) hx hb dX1_angle_120 dX1_angle_121 (by decide) (fun q => absurd (c_2) q) (fun _ => ?_)
          refine lv_lload hx hb dX1_angle_124 (lv_at hl 0 rfl) ?_
          refine lv_lconst (v := 0) hx hb dX1_angle_126 (by decide) ?_
          refine pl_eq (tgt := 140) hx hb dX1_angle_127 dX1_angle_128 (by decide) (fun q => absurd q (by decide)) (fun _ => ?_)
          refine lv_ldc2 (v := 23592960) hx hb hown (hts (.constantLong RX1 105 (23592960)) (by decide +kernel)) dX1_angle_131 ?_
          refine lv_lload hx hb dX1_angle_134 (lv_at hl 0 rfl) ?_
          refine lv_lsub hx hb dX1_angle_136 ?_
          refine lv_topl (fun v_32 e_33 => ?_)
          have e_33 : v_32 = (17694720 : Int64) := e_33.trans (by decide)
          subst e_33
          refine lv_goto (tgt := 142) hx hb dX1_angle_137 (by decide) ?_
          exact pu_lret hx hb hr hlocks hs dX1_angle_142 (by rw [f_X1_angle, if_neg c_1, if_pos c_2, if_neg c_16, if_pos c_21])
  · skip
    refine lv_lload_n hx hb dX1_angle_6 rfl (lv_at hl 0 rfl) ?_
    refine lv_lneg hx hb dX1_angle_7 ?_
    refine lv_goto (tgt := 12) hx hb dX1_angle_8 (by decide) ?_
    refine lv_lstore (lv' := [(4, .long (-p0)), (0, .long p0), (2, .long p1)]) hx hb dX1_angle_12 hl (by decide) rfl (fun ls hl => ?_)
    refine lv_lload_n hx hb dX1_angle_14 rfl (lv_at hl 2 rfl) ?_
    refine lv_lconst (v := 0) hx hb dX1_angle_15 (by decide) ?_
    refine pl_ge (tgt := 25) hx hb dX1_angle_16 dX1_angle_17 (by decide) (fun c_34 => ?_) (fun c_34 => ?_)
    · skip
      refine lv_lload_n hx hb dX1_angle_25 rfl (lv_at hl 2 rfl) ?_
      refine lv_lstore (lv' := [(6, .long p1), (4, .long (-p0)), (0, .long p0), (2, .long p1)]) hx hb dX1_angle_26 hl (by decide) rfl (fun ls hl => ?_)
      refine lv_lconst (v := 0) hx hb dX1_angle_28 (by decide) ?_
      refine lv_lstore (lv' := [(8, .long 0), (6, .long p1), (4, .long (-p0)), (0, .long p0), (2, .long p1)]) hx hb dX1_angle_29 hl (by decide) rfl (fun ls hl => ?_)
      refine lv_lload hx hb dX1_angle_31 (lv_at hl 1 rfl) ?_
      refine lv_lconst (v := 0) hx hb dX1_angle_33 (by decide) ?_
      refine pl_eq (tgt := 50) hx hb dX1_angle_34 dX1_angle_35 (by decide) (fun c_35 => ?_) (fun c_35 => ?_)
      · skip
        refine lv_lload hx hb dX1_angle_50 (lv_at hl 1 rfl) ?_
        refine lv_lconst (v := 0) hx hb dX1_angle_52 (by decide) ?_
        refine pl_eq (tgt := 99) hx hb dX1_angle_53 dX1_angle_54 (by decide) (fun _ => ?_) (fun q => absurd (c_35) q)
        refine lv_lload_n hx hb dX1_angle_99 rfl (lv_at hl 3 rfl) ?_
        refine lv_lconst (v := 0) hx hb dX1_angle_100 (by decide) ?_
        refine pl_ge (tgt := 114) hx hb dX1_angle_101 dX1_angle_102 (by decide) (fun q => absurd (c_1) q) (fun _ => ?_)
        refine lv_ldc2 (v := 11796480) hx hb hown (hts (.constantLong RX1 107 (11796480)) (by decide +kernel)) dX1_angle_105 ?_
        refine lv_lload hx hb dX1_angle_108 (lv_at hl 0 rfl) ?_
        refine lv_lsub hx hb dX1_angle_110 ?_
        refine lv_topl (fun v_38 e_39 => ?_)
        have e_39 : v_38 = (11796480 : Int64) := e_39.trans (by decide)
        subst e_39
        refine lv_goto (tgt := 116) hx hb dX1_angle_111 (by decide) ?_
        refine lv_lstore (lv' := [(8, .long 11796480), (6, .long p1), (4, .long (-p0)), (0, .long p0), (2, .long p1)]) hx hb dX1_angle_116 hl (by decide) rfl (fun ls hl => ?_)
        refine lv_lload_n hx hb dX1_angle_118 rfl (lv_at hl 4 rfl) ?_
        refine lv_lconst (v := 0) hx hb dX1_angle_119 (by decide) ?_
        refine pl_ge (tgt := 140) hx hb dX1_angle_120 dX1_angle_121 (by decide) (fun _ => ?_) (fun q => absurd q (c_34))
        refine lv_lload hx hb dX1_angle_140 (lv_at hl 0 rfl) ?_
        exact pu_lret hx hb hr hlocks hs dX1_angle_142 (by rw [f_X1_angle, if_pos c_1, if_neg c_34, if_pos c_35])
      · skip
        refine lv_lload hx hb dX1_angle_38 (lv_at hl 2 rfl) ?_
        refine lv_lconst (v := 0) hx hb dX1_angle_40 (by decide) ?_
        refine pl_ne (tgt := 50) hx hb dX1_angle_41 dX1_angle_42 (by decide) (fun c_41 => ?_) (fun c_41 => ?_)
        · skip
          refine lv_lload hx hb dX1_angle_50 (lv_at hl 1 rfl) ?_
          refine lv_lconst (v := 0) hx hb dX1_angle_52 (by decide) ?_
          refine pl_eq (tgt := 99) hx hb dX1_angle_53 dX1_angle_54 (by decide) (fun q => absurd q (c_35)) (fun _ => ?_)
          refine lv_lload hx hb dX1_angle_57 (lv_at hl 2 rfl) ?_
          refine lv_lconst (v := 0) hx hb dX1_angle_59 (by decide) ?_
          refine pl_eq (tgt := 99) hx hb dX1_angle_60 dX1_angle_61 (by decide) (fun q => absurd q (c_41)) (fun _ => ?_)
          refine lv_lload hx hb dX1_angle_64 (lv_at hl 2 rfl) ?_
          refine lv_lload hx hb dX1_angle_66 (lv_at hl 1 rfl) ?_
          refine lv_iconst (v := 0) hx hb dX1_angle_68 (by decide) ?_
          refine pu_Sl (As := [.long (-p0), .long p1, .int 0]) (rest := []) ⟨hx, hb, hml, hown, hts⟩ (cc_X1_first l H0 ((-p0)) (p1) (0)) 3 gX1_angle_X1_first rfl rfl rfl hdS_X1_first ⟨Nat.le_of_ble_eq_true rfl, Nat.le_of_ble_eq_true rfl⟩ (kT_ok _) (hkat) rfl hl.1 rfl (Nat.le_of_ble_eq_true rfl) dX1_angle_69 ⟨Nat.zero_le _, Nat.zero_le _⟩ ?_
          refine lv_lstore (lv' := [(10, .long (f_X1_first ((-p0)) (p1) (0))), (8, .long 0), (6, .long p1), (4, .long (-p0)), (0, .long p0), (2, .long p1)]) hx hb dX1_angle_72 hl (by decide) rfl (fun ls hl => ?_)
          refine lv_lload hx hb dX1_angle_74 (lv_at hl 3 rfl) ?_
          refine lv_lload hx hb dX1_angle_76 (lv_at hl 2 rfl) ?_
          refine lv_iconst (v := 1) hx hb dX1_angle_78 (by decide) ?_
          refine pu_Sl (As := [.long (-p0), .long p1, .int 1]) (rest := []) ⟨hx, hb, hml, hown, hts⟩ (cc_X1_first l H0 ((-p0)) (p1) (1)) 3 gX1_angle_X1_first rfl rfl rfl hdS_X1_first ⟨Nat.le_of_ble_eq_true rfl, Nat.le_of_ble_eq_true rfl⟩ (kT_ok _) (hkat) rfl hl.1 rfl (Nat.le_of_ble_eq_true rfl) dX1_angle_79 ⟨Nat.zero_le _, Nat.zero_le _⟩ ?_
          refine lv_lconst (v := 1) hx hb dX1_angle_82 (by decide) ?_
          refine lv_lsub hx hb dX1_angle_83 ?_
          refine lv_lstore (lv' := [(12, .long ((f_X1_first ((-p0)) (p1) (1)) - 1)), (10, .long (f_X1_first ((-p0)) (p1) (0))), (8, .long 0), (6, .long p1), (4, .long (-p0)), (0, .long p0), (2, .long p1)]) hx hb dX1_angle_84 hl (by decide) rfl (fun ls hl => ?_)
          refine lv_lload hx hb dX1_angle_86 (lv_at hl 1 rfl) ?_
          refine lv_lload hx hb dX1_angle_88 (lv_at hl 0 rfl) ?_
          refine lv_ladd hx hb dX1_angle_90 ?_
          refine lv_ldc2 (v := 2) hx hb hown (hts (.constantLong RX1 48 (2)) (by decide +kernel)) dX1_angle_91 ?_
          refine pu_Sl (As := [.long ((f_X1_first ((-p0)) (p1) (0)) + ((f_X1_first ((-p0)) (p1) (1)) - 1)), .long 2]) (rest := []) ⟨hx, hb, hml, hown, hts⟩ (cc_X1_down l H0 (((f_X1_first ((-p0)) (p1) (0)) + ((f_X1_first ((-p0)) (p1) (1)) - 1))) (2) (by decide)) 2 gX1_angle_X1_down rfl rfl rfl hdS_X1_down ⟨Nat.le_of_ble_eq_true rfl, Nat.le_of_ble_eq_true rfl⟩ kN_ok kN_at rfl hl.1 rfl (Nat.le_of_ble_eq_true rfl) dX1_angle_94 ⟨Nat.zero_le _, Nat.zero_le _⟩ ?_
          refine lv_lstore (lv' := [(8, .long (f_X1_down (((f_X1_first ((-p0)) (p1) (0)) + ((f_X1_first ((-p0)) (p1) (1)) - 1))) (2))), (12, .long ((f_X1_first ((-p0)) (p1) (1)) - 1)), (10, .long (f_X1_first ((-p0)) (p1) (0))), (6, .long p1), (4, .long (-p0)), (0, .long p0), (2, .long p1)]) hx hb dX1_angle_97 hl (by decide) rfl (fun ls hl => ?_)
          refine lv_lload_n hx hb dX1_angle_99 rfl (lv_at hl 5 rfl) ?_
          refine lv_lconst (v := 0) hx hb dX1_angle_100 (by decide) ?_
          refine pl_ge (tgt := 114) hx hb dX1_angle_101 dX1_angle_102 (by decide) (fun q => absurd (c_1) q) (fun _ => ?_)
          refine lv_ldc2 (v := 11796480) hx hb hown (hts (.constantLong RX1 107 (11796480)) (by decide +kernel)) dX1_angle_105 ?_
          refine lv_lload hx hb dX1_angle_108 (lv_at hl 0 rfl) ?_
          refine lv_lsub hx hb dX1_angle_110 ?_
          refine lv_goto (tgt := 116) hx hb dX1_angle_111 (by decide) ?_
          refine lv_lstore (lv' := [(8, .long (11796480 - (f_X1_down (((f_X1_first ((-p0)) (p1) (0)) + ((f_X1_first ((-p0)) (p1) (1)) - 1))) (2)))), (12, .long ((f_X1_first ((-p0)) (p1) (1)) - 1)), (10, .long (f_X1_first ((-p0)) (p1) (0))), (6, .long p1), (4, .long (-p0)), (0, .long p0), (2, .long p1)]) hx hb dX1_angle_116 hl (by decide) rfl (fun ls hl => ?_)
          refine lv_lload_n hx hb dX1_angle_118 rfl (lv_at hl 6 rfl) ?_
          refine lv_lconst (v := 0) hx hb dX1_angle_119 (by decide) ?_
          refine pl_ge (tgt := 140) hx hb dX1_angle_120 dX1_angle_121 (by decide) (fun _ => ?_) (fun q => absurd q (c_34))
          refine lv_lload hx hb dX1_angle_140 (lv_at hl 0 rfl) ?_
          exact pu_lret hx hb hr hlocks hs dX1_angle_142 (by rw [f_X1_angle, if_pos c_1, if_neg c_34, if_neg c_35, if_neg c_41])
        · skip
          refine lv_ldc2 (v := 5898240) hx hb hown (hts (.constantLong RX1 100 (5898240)) (by decide +kernel)) dX1_angle_45 ?_
          refine lv_lstore (lv' := [(8, .long 5898240), (6, .long p1), (4, .long (-p0)), (0, .long p0), (2, .long p1)]) hx hb dX1_angle_48 hl (by decide) rfl (fun ls hl => ?_)
          refine lv_lload hx hb dX1_angle_50 (lv_at hl 1 rfl) ?_
          refine lv_lconst (v := 0) hx hb dX1_angle_52 (by decide) ?_
          refine pl_eq (tgt := 99) hx hb dX1_angle_53 dX1_angle_54 (by decide) (fun q => absurd q (c_35)) (fun _ => ?_)
          refine lv_lload hx hb dX1_angle_57 (lv_at hl 2 rfl) ?_
          refine lv_lconst (v := 0) hx hb dX1_angle_59 (by decide) ?_
          refine pl_eq (tgt := 99) hx hb dX1_angle_60 dX1_angle_61 (by decide) (fun _ => ?_) (fun q => absurd (c_41) q)
          refine lv_lload_n hx hb dX1_angle_99 rfl (lv_at hl 3 rfl) ?_
          refine lv_lconst (v := 0) hx hb dX1_angle_100 (by decide) ?_
          refine pl_ge (tgt := 114) hx hb dX1_angle_101 dX1_angle_102 (by decide) (fun q => absurd (c_1) q) (fun _ => ?_)
          refine lv_ldc2 (v := 11796480) hx hb hown (hts (.constantLong RX1 107 (11796480)) (by decide +kernel)) dX1_angle_105 ?_
          refine lv_lload hx hb dX1_angle_108 (lv_at hl 0 rfl) ?_
          refine lv_lsub hx hb dX1_angle_110 ?_
          refine lv_topl (fun v_49 e_50 => ?_)
          have e_50 : v_49 = (5898240 : Int64) := e_50.trans (by decide)
          subst e_50
          refine lv_goto (tgt := 116) hx hb dX1_angle_111 (by decide) ?_
          refine lv_lstore (lv' := [(8, .long 5898240), (6, .long p1), (4, .long (-p0)), (0, .long p0), (2, .long p1)]) hx hb dX1_angle_116 hl (by decide) rfl (fun ls hl => ?_)
          refine lv_lload_n hx hb dX1_angle_118 rfl (lv_at hl 4 rfl) ?_
          refine lv_lconst (v := 0) hx hb dX1_angle_119 (by decide) ?_
          refine pl_ge (tgt := 140) hx hb dX1_angle_120 dX1_angle_121 (by decide) (fun _ => ?_) (fun q => absurd q (c_34))
          refine lv_lload hx hb dX1_angle_140 (lv_at hl 0 rfl) ?_
          exact pu_lret hx hb hr hlocks hs dX1_angle_142 (by rw [f_X1_angle, if_pos c_1, if_neg c_34, if_neg c_35, if_pos c_41])
    · skip
      refine lv_lload_n hx hb dX1_angle_20 rfl (lv_at hl 2 rfl) ?_
      refine lv_lneg hx hb dX1_angle_21 ?_
      refine lv_goto (tgt := 26) hx hb dX1_angle_22 (by decide) ?_
      refine lv_lstore (lv' := [(6, .long (-p1)), (4, .long (-p0)), (0, .long p0), (2, .long p1)]) hx hb dX1_angle_26 hl (by decide) rfl (fun ls hl => ?_)
      refine lv_lconst (v := 0) hx hb dX1_angle_28 (by decide) ?_
      refine lv_lstore (lv' := [(8, .long 0), (6, .long (-p1)), (4, .long (-p0)), (0, .long p0), (2, .long p1)]) hx hb dX1_angle_29 hl (by decide) rfl (fun ls hl => ?_)
      refine lv_lload hx hb dX1_angle_31 (lv_at hl 1 rfl) ?_
      refine lv_lconst (v := 0) hx hb dX1_angle_33 (by decide) ?_
      refine pl_eq (tgt := 50) hx hb dX1_angle_34 dX1_angle_35 (by decide) (fun c_52 => ?_) (fun c_52 => ?_)
      · skip
        refine lv_lload hx hb dX1_angle_50 (lv_at hl 1 rfl) ?_
        refine lv_lconst (v := 0) hx hb dX1_angle_52 (by decide) ?_
        refine pl_eq (tgt := 99) hx hb dX1_angle_53 dX1_angle_54 (by decide) (fun _ => ?_) (fun q => absurd (c_52) q)
        refine lv_lload_n hx hb dX1_angle_99 rfl (lv_at hl 3 rfl) ?_
        refine lv_lconst (v := 0) hx hb dX1_angle_100 (by decide) ?_
        refine pl_ge (tgt := 114) hx hb dX1_angle_101 dX1_angle_102 (by decide) (fun q => absurd (c_1) q) (fun _ => ?_)
        refine lv_ldc2 (v := 11796480) hx hb hown (hts (.constantLong RX1 107 (11796480)) (by decide +kernel)) dX1_angle_105 ?_
        refine lv_lload hx hb dX1_angle_108 (lv_at hl 0 rfl) ?_
        refine lv_lsub hx hb dX1_angle_110 ?_
        refine lv_topl (fun v_55 e_56 => ?_)
        have e_56 : v_55 = (11796480 : Int64) := e_56.trans (by decide)
        subst e_56
        refine lv_goto (tgt := 116) hx hb dX1_angle_111 (by decide) ?_
        refine lv_lstore (lv' := [(8, .long 11796480), (6, .long (-p1)), (4, .long (-p0)), (0, .long p0), (2, .long p1)]) hx hb dX1_angle_116 hl (by decide) rfl (fun ls hl => ?_)
        refine lv_lload_n hx hb dX1_angle_118 rfl (lv_at hl 4 rfl) ?_
        refine lv_lconst (v := 0) hx hb dX1_angle_119 (by decide) ?_
        refine pl_ge (tgt := 140) hx hb dX1_angle_120 dX1_angle_121 (by decide) (fun q => absurd (c_34) q) (fun _ => ?_)
        refine lv_lload hx hb dX1_angle_124 (lv_at hl 0 rfl) ?_
        refine lv_lconst (v := 0) hx hb dX1_angle_126 (by decide) ?_
        refine pl_eq (tgt := 140) hx hb dX1_angle_127 dX1_angle_128 (by decide) (fun q => absurd q (by decide)) (fun _ => ?_)
        refine lv_ldc2 (v := 23592960) hx hb hown (hts (.constantLong RX1 105 (23592960)) (by decide +kernel)) dX1_angle_131 ?_
        refine lv_lload hx hb dX1_angle_134 (lv_at hl 0 rfl) ?_
        refine lv_lsub hx hb dX1_angle_136 ?_
        refine lv_topl (fun v_59 e_60 => ?_)
        have e_60 : v_59 = (11796480 : Int64) := e_60.trans (by decide)
        subst e_60
        refine lv_goto (tgt := 142) hx hb dX1_angle_137 (by decide) ?_
        exact pu_lret hx hb hr hlocks hs dX1_angle_142 (by rw [f_X1_angle, if_pos c_1, if_pos c_34, if_pos c_52])
      · skip
        refine lv_lload hx hb dX1_angle_38 (lv_at hl 2 rfl) ?_
        refine lv_lconst (v := 0) hx hb dX1_angle_40 (by decide) ?_
        refine pl_ne (tgt := 50) hx hb dX1_angle_41 dX1_angle_42 (by decide) (fun c_61 => ?_) (fun c_61 => ?_)
        · skip
          refine lv_lload hx hb dX1_angle_50 (lv_at hl 1 rfl) ?_
          refine lv_lconst (v := 0) hx hb dX1_angle_52 (by decide) ?_
          refine pl_eq (tgt := 99) hx hb dX1_angle_53 dX1_angle_54 (by decide) (fun q => absurd q (c_52)) (fun _ => ?_)
          refine lv_lload hx hb dX1_angle_57 (lv_at hl 2 rfl) ?_
          refine lv_lconst (v := 0) hx hb dX1_angle_59 (by decide) ?_
          refine pl_eq (tgt := 99) hx hb dX1_angle_60 dX1_angle_61 (by decide) (fun q => absurd q (c_61)) (fun _ => ?_)
          refine lv_lload hx hb dX1_angle_64 (lv_at hl 2 rfl) ?_
          refine lv_lload hx hb dX1_angle_66 (lv_at hl 1 rfl) ?_
          refine lv_iconst (v := 0) hx hb dX1_angle_68 (by decide) ?_
          refine pu_Sl (As := [.long (-p0), .long (-p1), .int 0]) (rest := []) ⟨hx, hb, hml, hown, hts⟩ (cc_X1_first l H0 ((-p0)) ((-p1)) (0)) 3 gX1_angle_X1_first rfl rfl rfl hdS_X1_first ⟨Nat.le_of_ble_eq_true rfl, Nat.le_of_ble_eq_true rfl⟩ (kT_ok _) (hkat) rfl hl.1 rfl (Nat.le_of_ble_eq_true rfl) dX1_angle_69 ⟨Nat.zero_le _, Nat.zero_le _⟩ ?_
          refine lv_lstore (lv' := [(10, .long (f_X1_first ((-p0)) ((-p1)) (0))), (8, .long 0), (6, .long (-p1)), (4, .long (-p0)), (0, .long p0), (2, .long p1)]) hx hb dX1_angle_72 hl (by decide) rfl (fun ls hl => ?_)
          refine lv_lload hx hb dX1_angle_74 (lv_at hl 3 rfl) ?_
          refine lv_lload hx hb dX1_angle_76 (lv_at hl 2 rfl) ?_
          refine lv_iconst (v := 1) hx hb dX1_angle_78 (by decide) ?_
          refine pu_Sl (As := [.long (-p0), .long (-p1), .int 1]) (rest := []) ⟨hx, hb, hml, hown, hts⟩ (cc_X1_first l H0 ((-p0)) ((-p1)) (1)) 3 gX1_angle_X1_first rfl rfl rfl hdS_X1_first ⟨Nat.le_of_ble_eq_true rfl, Nat.le_of_ble_eq_true rfl⟩ (kT_ok _) (hkat) rfl hl.1 rfl (Nat.le_of_ble_eq_true rfl) dX1_angle_79 ⟨Nat.zero_le _, Nat.zero_le _⟩ ?_
          refine lv_lconst (v := 1) hx hb dX1_angle_82 (by decide) ?_
          refine lv_lsub hx hb dX1_angle_83 ?_
          refine lv_lstore (lv' := [(12, .long ((f_X1_first ((-p0)) ((-p1)) (1)) - 1)), (10, .long (f_X1_first ((-p0)) ((-p1)) (0))), (8, .long 0), (6, .long (-p1)), (4, .long (-p0)), (0, .long p0), (2, .long p1)]) hx hb dX1_angle_84 hl (by decide) rfl (fun ls hl => ?_)
          refine lv_lload hx hb dX1_angle_86 (lv_at hl 1 rfl) ?_
          refine lv_lload hx hb dX1_angle_88 (lv_at hl 0 rfl) ?_
          refine lv_ladd hx hb dX1_angle_90 ?_
          refine lv_ldc2 (v := 2) hx hb hown (hts (.constantLong RX1 48 (2)) (by decide +kernel)) dX1_angle_91 ?_
          refine pu_Sl (As := [.long ((f_X1_first ((-p0)) ((-p1)) (0)) + ((f_X1_first ((-p0)) ((-p1)) (1)) - 1)), .long 2]) (rest := []) ⟨hx, hb, hml, hown, hts⟩ (cc_X1_down l H0 (((f_X1_first ((-p0)) ((-p1)) (0)) + ((f_X1_first ((-p0)) ((-p1)) (1)) - 1))) (2) (by decide)) 2 gX1_angle_X1_down rfl rfl rfl hdS_X1_down ⟨Nat.le_of_ble_eq_true rfl, Nat.le_of_ble_eq_true rfl⟩ kN_ok kN_at rfl hl.1 rfl (Nat.le_of_ble_eq_true rfl) dX1_angle_94 ⟨Nat.zero_le _, Nat.zero_le _⟩ ?_
          refine lv_lstore (lv' := [(8, .long (f_X1_down (((f_X1_first ((-p0)) ((-p1)) (0)) + ((f_X1_first ((-p0)) ((-p1)) (1)) - 1))) (2))), (12, .long ((f_X1_first ((-p0)) ((-p1)) (1)) - 1)), (10, .long (f_X1_first ((-p0)) ((-p1)) (0))), (6, .long (-p1)), (4, .long (-p0)), (0, .long p0), (2, .long p1)]) hx hb dX1_angle_97 hl (by decide) rfl (fun ls hl => ?_)
          refine lv_lload_n hx hb dX1_angle_99 rfl (lv_at hl 5 rfl) ?_
          refine lv_lconst (v := 0) hx hb dX1_angle_100 (by decide) ?_
          refine pl_ge (tgt := 114) hx hb dX1_angle_101 dX1_angle_102 (by decide) (fun q => absurd (c_1) q) (fun _ => ?_)
          refine lv_ldc2 (v := 11796480) hx hb hown (hts (.constantLong RX1 107 (11796480)) (by decide +kernel)) dX1_angle_105 ?_
          refine lv_lload hx hb dX1_angle_108 (lv_at hl 0 rfl) ?_
          refine lv_lsub hx hb dX1_angle_110 ?_
          refine lv_goto (tgt := 116) hx hb dX1_angle_111 (by decide) ?_
          refine lv_lstore (lv' := [(8, .long (11796480 - (f_X1_down (((f_X1_first ((-p0)) ((-p1)) (0)) + ((f_X1_first ((-p0)) ((-p1)) (1)) - 1))) (2)))), (12, .long ((f_X1_first ((-p0)) ((-p1)) (1)) - 1)), (10, .long (f_X1_first ((-p0)) ((-p1)) (0))), (6, .long (-p1)), (4, .long (-p0)), (0, .long p0), (2, .long p1)]) hx hb dX1_angle_116 hl (by decide) rfl (fun ls hl => ?_)
          refine lv_lload_n hx hb dX1_angle_118 rfl (lv_at hl 6 rfl) ?_
          refine lv_lconst (v := 0) hx hb dX1_angle_119 (by decide) ?_
          refine pl_ge (tgt := 140) hx hb dX1_angle_120 dX1_angle_121 (by decide) (fun q => absurd (c_34) q) (fun _ => ?_)
          refine lv_lload hx hb dX1_angle_124 (lv_at hl 0 rfl) ?_
          refine lv_lconst (v := 0) hx hb dX1_angle_126 (by decide) ?_
          refine pl_eq (tgt := 140) hx hb dX1_angle_127 dX1_angle_128 (by decide) (fun c_66 => ?_) (fun c_66 => ?_)
          · skip
            refine lv_lload hx hb dX1_angle_140 (lv_at hl 0 rfl) ?_
            exact pu_lret hx hb hr hlocks hs dX1_angle_142 (by rw [f_X1_angle, if_pos c_1, if_pos c_34, if_neg c_52, if_neg c_61, if_pos c_66])
          · skip
            refine lv_ldc2 (v := 23592960) hx hb hown (hts (.constantLong RX1 105 (23592960)) (by decide +kernel)) dX1_angle_131 ?_
            refine lv_lload hx hb dX1_angle_134 (lv_at hl 0 rfl) ?_
            refine lv_lsub hx hb dX1_angle_136 ?_
            refine lv_goto (tgt := 142) hx hb dX1_angle_137 (by decide) ?_
            exact pu_lret hx hb hr hlocks hs dX1_angle_142 (by rw [f_X1_angle, if_pos c_1, if_pos c_34, if_neg c_52, if_neg c_61, if_neg c_66])
        · skip
          refine lv_ldc2 (v := 5898240) hx hb hown (hts (.constantLong RX1 100 (5898240)) (by decide +kernel)) dX1_angle_45 ?_
          refine lv_lstore (lv' := [(8, .long 5898240), (6, .long (-p1)), (4, .long (-p0)), (0, .long p0), (2, .long p1)]) hx hb dX1_angle_48 hl (by decide) rfl (fun ls hl => ?_)
          refine lv_lload hx hb dX1_angle_50 (lv_at hl 1 rfl) ?_
          refine lv_lconst (v := 0) hx hb dX1_angle_52 (by decide) ?_
          refine pl_eq (tgt := 99) hx hb dX1_angle_53 dX1_angle_54 (by decide) (fun q => absurd q (c_52)) (fun _ => ?_)
          refine lv_lload hx hb dX1_angle_57 (lv_at hl 2 rfl) ?_
          refine lv_lconst (v := 0) hx hb dX1_angle_59 (by decide) ?_
          refine pl_eq (tgt := 99) hx hb dX1_angle_60 dX1_angle_61 (by decide) (fun _ => ?_) (fun q => absurd (c_61) q)
          refine lv_lload_n hx hb dX1_angle_99 rfl (lv_at hl 3 rfl) ?_
          refine lv_lconst (v := 0) hx hb dX1_angle_100 (by decide) ?_
          refine pl_ge (tgt := 114) hx hb dX1_angle_101 dX1_angle_102 (by decide) (fun q => absurd (c_1) q) (fun _ => ?_)
          refine lv_ldc2 (v := 11796480) hx hb hown (hts (.constantLong RX1 107 (11796480)) (by decide +kernel)) dX1_angle_105 ?_
          refine lv_lload hx hb dX1_angle_108 (lv_at hl 0 rfl) ?_
          refine lv_lsub hx hb dX1_angle_110 ?_
          refine lv_topl (fun v_70 e_71 => ?_)
          have e_71 : v_70 = (5898240 : Int64) := e_71.trans (by decide)
          subst e_71
          refine lv_goto (tgt := 116) hx hb dX1_angle_111 (by decide) ?_
          refine lv_lstore (lv' := [(8, .long 5898240), (6, .long (-p1)), (4, .long (-p0)), (0, .long p0), (2, .long p1)]) hx hb dX1_angle_116 hl (by decide) rfl (fun ls hl => ?_)
          refine lv_lload_n hx hb dX1_angle_118 rfl (lv_at hl 4 rfl) ?_
          refine lv_lconst (v := 0) hx hb dX1_angle_119 (by decide) ?_
          refine pl_ge (tgt := 140) hx hb dX1_angle_120 dX1_angle_121 (by decide) (fun q => absurd (c_34) q) (fun _ => ?_)
          refine lv_lload hx hb dX1_angle_124 (lv_at hl 0 rfl) ?_
          refine lv_lconst (v := 0) hx hb dX1_angle_126 (by decide) ?_
          refine pl_eq (tgt := 140) hx hb dX1_angle_127 dX1_angle_128 (by decide) (fun q => absurd q (by decide)) (fun _ => ?_)
          refine lv_ldc2 (v := 23592960) hx hb hown (hts (.constantLong RX1 105 (23592960)) (by decide +kernel)) dX1_angle_131 ?_
          refine lv_lload hx hb dX1_angle_134 (lv_at hl 0 rfl) ?_
          refine lv_lsub hx hb dX1_angle_136 ?_
          refine lv_topl (fun v_74 e_75 => ?_)
          have e_75 : v_74 = (17694720 : Int64) := e_75.trans (by decide)
          subst e_75
          refine lv_goto (tgt := 142) hx hb dX1_angle_137 (by decide) ?_
          exact pu_lret hx hb hr hlocks hs dX1_angle_142 (by rw [f_X1_angle, if_pos c_1, if_pos c_34, if_neg c_52, if_pos c_61])
theorem hdS_X1_shifted : yX1_shifted.cls ≠ "java/lang/invoke/MethodHandle" ∧ yX1_shifted.cls ≠ "java/lang/invoke/VarHandle" ∧ (parseMethodDescriptor yX1_shifted.desc).map (fun d => d.parameters.length) = some 2 := by decide +kernel
def f_X1_shifted_L35 (p0 : Int32) (p1 : Int32) : Nat → Int32 → Int32
  | 0, v => v
  | n + 1, v => f_X1_shifted_L35 p0 p1 n (((v).toUInt32 >>> (((1 : Int32)).toUInt32 &&& Int32.toUInt32 31)).toInt32)
def f_X1_shifted_L18 (p0 : Int32) (p1 : Int32) : Nat → Int32 → Int32
  | 0, v => f_X1_shifted_L35 p0 p1 ((-p1.toInt).toNat) (v)
  | n + 1, v => f_X1_shifted_L18 p0 p1 n ((v + v))
def f_X1_shifted (p0 : Int32) (p1 : Int32) : Int32 := if 31 < p1 then (0) else (if p1 < (-31) then (0) else (f_X1_shifted_L18 p0 p1 (p1.toInt.toNat) (p0)))
abbrev rm_X1_shifted : Room := { frames := 0, cells := 0, slots := 0, locals := 0 }
set_option maxHeartbeats 4000000 in
set_option maxRecDepth 100000 in
theorem cc_X1_shifted (l : Launch) (H0 : Heap) (p0 : Int32) (p1 : Int32)   : Met l yX1_shifted wsX1_shifted rm_X1_shifted (pPc [.int p0, .int p1] H0 (kN)) (pQi H0 (f_X1_shifted p0 p1)) 0 0 (fun _ => False) := by
  refine pu_head (cc := cX1_shifted) (maxL := 4) (ret := some .int) (by decide +kernel) rfl (Nat.le_of_ble_eq_true rfl) ?_
  intro p e s m below meth c ls hx hb hr hlocks hml hown hts hs hk hl
  have hown : s.vm.findClass RX1 = some m.cls := hown
  have hl : lv_has ls 4 [(0, .int p0), (1, .int p1)] := hl
  have hL35 : ∀ (n : Nat) (v : Int32), n ≤ (-p1.toInt).toNat ∧ p1.toInt ≤ 31 ∧ -31 ≤ p1.toInt → (f_X1_shifted p0 p1 = f_X1_shifted_L35 p0 p1 n v) → ∀ (ls : Array Slot), lv_has ls 4 [(1, .int p1), (2, .int v), (3, .int (-(nI ((-p1.toInt).toNat - n))))] → W p l e (headSpec wsX1_shifted rm_X1_shifted).room s m ([.int p0, .int p1] : List Value).toArray below meth c H0 [] 0 0 (MQ below (pQi H0 (f_X1_shifted p0 p1)) ([.int p0, .int p1] : List Value).toArray s 0 0 (fun _ => False)) (F0 m 35 ls []) := by
    intro n
    induction n with
    | zero =>
      intro v hI hF ls hl
      refine lv_iload_n hx hb dX1_shifted_35 rfl (lv_at hl 2 rfl) ?_
      refine lv_iload_n hx hb dX1_shifted_36 rfl (lv_at hl 0 rfl) ?_
      refine pi_le (tgt := 50) hx hb dX1_shifted_37 (by decide) (fun _ => ?_) (fun q => absurd q (sh2_z hI))
      refine lv_iload_n hx hb dX1_shifted_50 rfl (lv_at hl 1 rfl) ?_
      exact pu_iret hx hb hr hlocks hs dX1_shifted_51 (by rw [hF, f_X1_shifted_L35])
    | succ n ih =>
      intro v hI hF ls hl
      refine lv_iload_n hx hb dX1_shifted_35 rfl (lv_at hl 2 rfl) ?_
      refine lv_iload_n hx hb dX1_shifted_36 rfl (lv_at hl 0 rfl) ?_
      refine pi_le (tgt := 50) hx hb dX1_shifted_37 (by decide) (fun q => absurd (sh2_s hI) q) (fun _ => ?_)
      refine lv_iload_n hx hb dX1_shifted_40 rfl (lv_at hl 1 rfl) ?_
      refine lv_iconst (v := 1) hx hb dX1_shifted_41 (by decide) ?_
      refine lv_iushr (v := ((v).toUInt32 >>> (((1 : Int32)).toUInt32 &&& Int32.toUInt32 31)).toInt32) hx hb dX1_shifted_42 rfl ?_
      refine lv_istore_n (lv' := [(2, .int ((v).toUInt32 >>> (((1 : Int32)).toUInt32 &&& Int32.toUInt32 31)).toInt32), (1, .int p1), (3, .int (-(nI ((-p1.toInt).toNat - (n + 1)))))]) hx hb dX1_shifted_43 rfl hl (by decide) rfl (fun ls hl => ?_)
      refine lv_iinc (v := (-(nI ((-p1.toInt).toNat - n)))) (lv' := [(3, .int (-(nI ((-p1.toInt).toNat - n)))), (2, .int ((v).toUInt32 >>> (((1 : Int32)).toUInt32 &&& Int32.toUInt32 31)).toInt32), (1, .int p1)]) (k := 2) hx hb dX1_shifted_44 hl rfl (sh2_i hI) (by decide) rfl (fun ls hl => ?_)
      refine lv_goto (tgt := 35) hx hb dX1_shifted_47 (by decide) ?_
      exact ih (((v).toUInt32 >>> (((1 : Int32)).toUInt32 &&& Int32.toUInt32 31)).toInt32) (⟨by omega, hI.2⟩) (hF.trans (by rw [f_X1_shifted_L35])) ls (lv_sub hl [2, 1, 0] rfl)
  have hL18 : ∀ (n : Nat) (v : Int32), n ≤ p1.toInt.toNat ∧ p1.toInt ≤ 31 ∧ -31 ≤ p1.toInt → (f_X1_shifted p0 p1 = f_X1_shifted_L18 p0 p1 n v) → ∀ (ls : Array Slot), lv_has ls 4 [(1, .int p1), (2, .int v), (3, .int (nI (p1.toInt.toNat - n)))] → W p l e (headSpec wsX1_shifted rm_X1_shifted).room s m ([.int p0, .int p1] : List Value).toArray below meth c H0 [] 0 0 (MQ below (pQi H0 (f_X1_shifted p0 p1)) ([.int p0, .int p1] : List Value).toArray s 0 0 (fun _ => False)) (F0 m 18 ls []) := by
    intro n
    induction n with
    | zero =>
      intro v hI hF ls hl
      refine lv_iload_n hx hb dX1_shifted_18 rfl (lv_at hl 2 rfl) ?_
      refine lv_iload_n hx hb dX1_shifted_19 rfl (lv_at hl 0 rfl) ?_
      refine pi_ge (tgt := 33) hx hb dX1_shifted_20 (by decide) (fun _ => ?_) (fun q => absurd q (sh1_z hI))
      refine lv_iconst (v := 0) hx hb dX1_shifted_33 (by decide) ?_
      refine lv_istore_n (lv' := [(3, .int 0), (1, .int p1), (2, .int v)]) hx hb dX1_shifted_34 rfl hl (by decide) rfl (fun ls hl => ?_)
      exact hL35 ((-p1.toInt).toNat) (v) (⟨Nat.le_refl _, hI.2⟩) (hF.trans (by rw [f_X1_shifted_L18])) ls (lv_sub hl [1, 2, 0] (by rw [Nat.sub_self]; rfl))
    | succ n ih =>
      intro v hI hF ls hl
      refine lv_iload_n hx hb dX1_shifted_18 rfl (lv_at hl 2 rfl) ?_
      refine lv_iload_n hx hb dX1_shifted_19 rfl (lv_at hl 0 rfl) ?_
      refine pi_ge (tgt := 33) hx hb dX1_shifted_20 (by decide) (fun q => absurd (sh1_s hI) q) (fun _ => ?_)
      refine lv_iload_n hx hb dX1_shifted_23 rfl (lv_at hl 1 rfl) ?_
      refine lv_iload_n hx hb dX1_shifted_24 rfl (lv_at hl 1 rfl) ?_
      refine lv_iadd hx hb dX1_shifted_25 ?_
      refine lv_istore_n (lv' := [(2, .int (v + v)), (1, .int p1), (3, .int (nI (p1.toInt.toNat - (n + 1))))]) hx hb dX1_shifted_26 rfl hl (by decide) rfl (fun ls hl => ?_)
      refine lv_iinc (v := (nI (p1.toInt.toNat - n))) (lv' := [(3, .int (nI (p1.toInt.toNat - n))), (2, .int (v + v)), (1, .int p1)]) (k := 2) hx hb dX1_shifted_27 hl rfl (cn_st hI.1) (by decide) rfl (fun ls hl => ?_)
      refine lv_goto (tgt := 18) hx hb dX1_shifted_30 (by decide) ?_
      exact ih ((v + v)) (⟨by omega, hI.2⟩) (hF.trans (by rw [f_X1_shifted_L18])) ls (lv_sub hl [2, 1, 0] rfl)
  refine lv_iload_n hx hb dX1_shifted_0 rfl (lv_at hl 0 rfl) ?_
  refine lv_istore_n (lv' := [(2, .int p0), (0, .int p0), (1, .int p1)]) hx hb dX1_shifted_1 rfl hl (by decide) rfl (fun ls hl => ?_)
  refine lv_iload_n hx hb dX1_shifted_2 rfl (lv_at hl 2 rfl) ?_
  refine lv_bipush (v := 31) hx hb dX1_shifted_3 (by decide) ?_
  refine pi_gt (tgt := 14) hx hb dX1_shifted_5 (by decide) (fun c_5 => ?_) (fun c_5 => ?_)
  · skip
    refine lv_iconst (v := 0) hx hb dX1_shifted_14 (by decide) ?_
    exact pu_iret hx hb hr hlocks hs dX1_shifted_15 (by rw [f_X1_shifted, if_pos c_5])
  · skip
    refine lv_iload_n hx hb dX1_shifted_8 rfl (lv_at hl 2 rfl) ?_
    refine lv_bipush (v := (-31)) hx hb dX1_shifted_9 (by decide) ?_
    refine pi_ge (tgt := 16) hx hb dX1_shifted_11 (by decide) (fun c_6 => ?_) (fun c_6 => ?_)
    · skip
      refine lv_iconst (v := 0) hx hb dX1_shifted_16 (by decide) ?_
      refine lv_istore_n (lv' := [(3, .int 0), (2, .int p0), (0, .int p0), (1, .int p1)]) hx hb dX1_shifted_17 rfl hl (by decide) rfl (fun ls hl => ?_)
      exact hL18 (p1.toInt.toNat) (p0) (sh_e c_5 c_6) (by rw [f_X1_shifted, if_neg c_5, if_neg c_6]) ls (lv_sub hl [3, 1, 0] (by rw [Nat.sub_self]; rfl))
    · skip
      refine lv_iconst (v := 0) hx hb dX1_shifted_14 (by decide) ?_
      exact pu_iret hx hb hr hlocks hs dX1_shifted_15 (by rw [f_X1_shifted, if_neg c_5, if_pos c_6])
end
section
theorem hdV_X0_keep : yX0_keep.cls = RX0 ∧ yX0_keep.cls ≠ "java/lang/invoke/MethodHandle" ∧ yX0_keep.cls ≠ "java/lang/invoke/VarHandle" ∧ (parseMethodDescriptor yX0_keep.desc).map (fun d => d.parameters.length) = some 2 := by decide +kernel
theorem fi_X0_keep : ∀ w ∈ wsX00, w ∈ wsX0_keep := fun _ h => List.mem_cons_of_mem _ (List.mem_append_right _ h)
def f_X0_keep (rk : Int32) (rn : Int32) (p0 : Int32) (p1 : Int64) : Int32 × Int32 × Int32 := if p0 = 1 then (if p1 = ((p1).toInt32).toInt64 then ((p0, p0, (p1).toInt32)) else (((-2), rk, rn))) else (if (f_X0_isReal (p1)) = 0 then (((-2), rk, rn)) else ((p0, p0, (p1).toInt32)))
abbrev rm_X0_keep : Room := { frames := 1, cells := 0, slots := 0, locals := 37 }
set_option maxHeartbeats 4000000 in
set_option maxRecDepth 100000 in
theorem cc_X0_keep (l : Launch) (dC : Nat → ClassId) (dI : Nat → Nat → Nat) (h0 sz : Nat) (rk rn ma mb mc md me mf mx my : Int32) (p0 : Int32) (p1 : Int64)   : Met l yX0_keep wsX0_keep rm_X0_keep (va_Pc [.ref h0, .int p0, .long p1] (xPre dC dI h0 sz (rk, rn, ma, mb, mc, md, me, mf, mx, my))) (xQi dC dI h0 (va_A (xW h0 (rk, rn, ma, mb, mc, md, me, mf, mx, my)) sz) ((f_X0_keep rk rn p0 p1).1) ((f_X0_keep rk rn p0 p1).2.1, (f_X0_keep rk rn p0 p1).2.2, ma, mb, mc, md, me, mf, mx, my)) 0 0 (va_A (xW h0 (rk, rn, ma, mb, mc, md, me, mf, mx, my)) sz) := by
  refine x_headi (cc := cX0_keep) (maxL := 5) (ret := some .int) (by decide) rfl rfl (Nat.le_of_ble_eq_true rfl) ?_
  intro p e s m below meth c ls A hx hb hr hlocks hml hown hts hA hP hD hK htb hS hl
  have hl : lv_has ls 5 [(0, .ref h0), (1, .int p0), (2, .long p1)] := hl
  refine lv_iload_n hx hb dX0_keep_0 rfl (lv_at hl 1 rfl) ?_
  refine lv_iconst (v := 1) hx hb dX0_keep_1 (by decide) ?_
  refine lv_icmp_ne (tgt := 21) hx hb dX0_keep_2 (by decide) (fun c_1 => ?_) (fun c_1 => ?_)
  · skip
    refine lv_lload_n hx hb dX0_keep_21 rfl (lv_at hl 2 rfl) ?_
    refine pu_Si (As := [.long p1]) (rest := []) ⟨hx, hb, hml, hown, hts⟩ (cc_X0_isReal l _ (p1)) 1 gX0_keep_X0_isReal rfl rfl rfl hdS_X0_isReal ⟨Nat.le_of_ble_eq_true rfl, Nat.le_of_ble_eq_true rfl⟩ kN_ok kN_at rfl hl.1 rfl (Nat.le_of_ble_eq_true rfl) dX0_keep_22 ⟨Nat.zero_le _, Nat.zero_le _⟩ ?_
    refine lv_istore (lv' := [(4, .int (f_X0_isReal (p1))), (0, .ref h0), (1, .int p0), (2, .long p1)]) hx hb dX0_keep_25 hl (by decide) rfl (fun ls hl => ?_)
    refine lv_iload hx hb dX0_keep_27 (lv_at hl 0 rfl) ?_
    refine lv_if_ne (tgt := 35) hx hb dX0_keep_29 (by decide) (fun c_2 => ?_) (fun c_2 => ?_)
    · skip
      refine lv_aload_n hx hb dX0_keep_35 rfl (lv_at hl 1 rfl) ?_
      refine lv_iload_n hx hb dX0_keep_36 rfl (lv_at hl 2 rfl) ?_
      refine va_put (D := (dC, dI)) (ci := 0) (v := .int p0) (ty := .int) (C := RX0) (T := TX0) (N := 10) hx hb hts fi_X0_keep tyX0 tyX0_ok nmX0 hown hK hP hD hS 0 rfl rfl 0 (by decide) (hts (.fieldLink RX0 11 "FixedPlane" "resultKind" "I") (by decide +kernel)) (fun _ h9 => h9) rfl (by decide +kernel) rfl rfl (Nat.le_of_ble_eq_true rfl) dX0_keep_37 (fun H locs hP hD hS => ?_)
      have hP : va_P (dC, dI) vwCl (xW h0 (p0, rn, ma, mb, mc, md, me, mf, mx, my)) H := hP
      have hD : va_D A (xW h0 (p0, rn, ma, mb, mc, md, me, mf, mx, my)) := hD
      refine lv_aload_n hx hb dX0_keep_40 rfl (lv_at hl 1 rfl) ?_
      refine lv_lload_n hx hb dX0_keep_41 rfl (lv_at hl 3 rfl) ?_
      refine lv_l2i (v := (p1).toInt32) hx hb dX0_keep_42 rfl ?_
      refine va_put (D := (dC, dI)) (ci := 0) (v := .int (p1).toInt32) (ty := .int) (C := RX0) (T := TX0) (N := 10) hx hb hts fi_X0_keep tyX0 tyX0_ok nmX0 hown hK hP hD hS 0 rfl rfl 1 (by decide) (hts (.fieldLink RX0 59 "FixedPlane" "resultNumber" "I") (by decide +kernel)) (fun _ h9 => h9) rfl (by decide +kernel) rfl rfl (Nat.le_of_ble_eq_true rfl) dX0_keep_43 (fun H locs hP hD hS => ?_)
      have hP : va_P (dC, dI) vwCl (xW h0 (p0, (p1).toInt32, ma, mb, mc, md, me, mf, mx, my)) H := hP
      have hD : va_D A (xW h0 (p0, (p1).toInt32, ma, mb, mc, md, me, mf, mx, my)) := hD
      refine lv_iload_n hx hb dX0_keep_46 rfl (lv_at hl 2 rfl) ?_
      have hE : f_X0_keep rk rn p0 p1 = (p0, p0, (p1).toInt32) := (by rw [f_X0_keep, if_neg c_1, if_neg c_2])
      exact x_iret hx hb hr hlocks hP hD hK hS dX0_keep_47 ⟨by rw [hE], by rw [hE]⟩
    · skip
      refine lv_bipush (v := (-2)) hx hb dX0_keep_32 (by decide) ?_
      have hE : f_X0_keep rk rn p0 p1 = ((-2), rk, rn) := (by rw [f_X0_keep, if_neg c_1, if_pos c_2])
      exact x_iret hx hb hr hlocks hP hD hK hS dX0_keep_34 ⟨by rw [hE], by rw [hE]⟩
  · skip
    refine lv_lload_n hx hb dX0_keep_5 rfl (lv_at hl 2 rfl) ?_
    refine lv_lload_n hx hb dX0_keep_6 rfl (lv_at hl 2 rfl) ?_
    refine lv_l2i (v := (p1).toInt32) hx hb dX0_keep_7 rfl ?_
    refine lv_i2l (v := ((p1).toInt32).toInt64) hx hb dX0_keep_8 rfl ?_
    refine pl_ne (tgt := 17) hx hb dX0_keep_9 dX0_keep_10 (by decide) (fun c_3 => ?_) (fun c_3 => ?_)
    · skip
      refine lv_iconst (v := 0) hx hb dX0_keep_17 (by decide) ?_
      refine lv_goto (tgt := 25) hx hb dX0_keep_18 (by decide) ?_
      refine lv_istore (lv' := [(4, .int 0), (0, .ref h0), (1, .int p0), (2, .long p1)]) hx hb dX0_keep_25 hl (by decide) rfl (fun ls hl => ?_)
      refine lv_iload hx hb dX0_keep_27 (lv_at hl 0 rfl) ?_
      refine lv_if_ne (tgt := 35) hx hb dX0_keep_29 (by decide) (fun q => absurd (by decide) q) (fun _ => ?_)
      refine lv_bipush (v := (-2)) hx hb dX0_keep_32 (by decide) ?_
      have hE : f_X0_keep rk rn p0 p1 = ((-2), rk, rn) := (by rw [f_X0_keep, if_pos c_1, if_neg c_3])
      exact x_iret hx hb hr hlocks hP hD hK hS dX0_keep_34 ⟨by rw [hE], by rw [hE]⟩
    · skip
      refine lv_iconst (v := 1) hx hb dX0_keep_13 (by decide) ?_
      refine lv_goto (tgt := 25) hx hb dX0_keep_14 (by decide) ?_
      refine lv_istore (lv' := [(4, .int 1), (0, .ref h0), (1, .int p0), (2, .long p1)]) hx hb dX0_keep_25 hl (by decide) rfl (fun ls hl => ?_)
      refine lv_iload hx hb dX0_keep_27 (lv_at hl 0 rfl) ?_
      refine lv_if_ne (tgt := 35) hx hb dX0_keep_29 (by decide) (fun _ => ?_) (fun q => absurd q (by decide))
      refine lv_aload_n hx hb dX0_keep_35 rfl (lv_at hl 1 rfl) ?_
      refine lv_iload_n hx hb dX0_keep_36 rfl (lv_at hl 2 rfl) ?_
      refine va_put (D := (dC, dI)) (ci := 0) (v := .int p0) (ty := .int) (C := RX0) (T := TX0) (N := 10) hx hb hts fi_X0_keep tyX0 tyX0_ok nmX0 hown hK hP hD hS 0 rfl rfl 0 (by decide) (hts (.fieldLink RX0 11 "FixedPlane" "resultKind" "I") (by decide +kernel)) (fun _ h9 => h9) rfl (by decide +kernel) rfl rfl (Nat.le_of_ble_eq_true rfl) dX0_keep_37 (fun H locs hP hD hS => ?_)
      have hP : va_P (dC, dI) vwCl (xW h0 (p0, rn, ma, mb, mc, md, me, mf, mx, my)) H := hP
      have hD : va_D A (xW h0 (p0, rn, ma, mb, mc, md, me, mf, mx, my)) := hD
      refine lv_aload_n hx hb dX0_keep_40 rfl (lv_at hl 1 rfl) ?_
      refine lv_lload_n hx hb dX0_keep_41 rfl (lv_at hl 3 rfl) ?_
      refine lv_l2i (v := (p1).toInt32) hx hb dX0_keep_42 rfl ?_
      refine va_put (D := (dC, dI)) (ci := 0) (v := .int (p1).toInt32) (ty := .int) (C := RX0) (T := TX0) (N := 10) hx hb hts fi_X0_keep tyX0 tyX0_ok nmX0 hown hK hP hD hS 0 rfl rfl 1 (by decide) (hts (.fieldLink RX0 59 "FixedPlane" "resultNumber" "I") (by decide +kernel)) (fun _ h9 => h9) rfl (by decide +kernel) rfl rfl (Nat.le_of_ble_eq_true rfl) dX0_keep_43 (fun H locs hP hD hS => ?_)
      have hP : va_P (dC, dI) vwCl (xW h0 (p0, (p1).toInt32, ma, mb, mc, md, me, mf, mx, my)) H := hP
      have hD : va_D A (xW h0 (p0, (p1).toInt32, ma, mb, mc, md, me, mf, mx, my)) := hD
      refine lv_iload_n hx hb dX0_keep_46 rfl (lv_at hl 2 rfl) ?_
      have hE : f_X0_keep rk rn p0 p1 = (p0, p0, (p1).toInt32) := (by rw [f_X0_keep, if_pos c_1, if_pos c_3])
      exact x_iret hx hb hr hlocks hP hD hK hS dX0_keep_47 ⟨by rw [hE], by rw [hE]⟩
theorem hdV_X0_ofWholes : yX0_ofWholes.cls = RX0 ∧ yX0_ofWholes.cls ≠ "java/lang/invoke/MethodHandle" ∧ yX0_ofWholes.cls ≠ "java/lang/invoke/VarHandle" ∧ (parseMethodDescriptor yX0_ofWholes.desc).map (fun d => d.parameters.length) = some 3 := by decide +kernel
theorem fi_X0_ofWholes : ∀ w ∈ wsX00, w ∈ wsX0_ofWholes := fun _ h => List.mem_cons_of_mem _ (List.mem_append_right _ h)
def f_X0_ofWholes (rk : Int32) (rn : Int32) (p0 : Int32) (p1 : Int32) (p2 : Int32) : Int32 × Int32 × Int32 := if p0 = 0 then ((f_X0_keep (rk) (rn) (1) (((p1).toInt64 + (p2).toInt64)))) else (if p0 = 1 then ((f_X0_keep (rk) (rn) (1) (((p1).toInt64 - (p2).toInt64)))) else (if p0 = 2 then ((f_X0_keep (rk) (rn) (1) (((p1).toInt64 * (p2).toInt64)))) else (if p0 = 4 then (if p2 = 0 then (((-3), rk, rn)) else ((f_X0_keep (rk) (rn) (1) (((p1).toInt64 / (p2).toInt64))))) else (if p0 = 5 then (if p2 = 0 then (((-3), rk, rn)) else ((f_X0_keep (rk) (rn) (1) (((p1).toInt64 - (p1).toInt64 / (p2).toInt64 * (p2).toInt64))))) else (if p0 = 7 then ((f_X0_keep (rk) (rn) (1) (((p1 &&& p2)).toInt64))) else (if p0 = 8 then ((f_X0_keep (rk) (rn) (1) (((p1 ||| p2)).toInt64))) else (if p0 = 9 then ((f_X0_keep (rk) (rn) (1) (((p1 ^^^ p2)).toInt64))) else ((f_X0_keep (rk) (rn) (1) (((f_X0_shifted (p1) (p2))).toInt64))))))))))
abbrev rm_X0_ofWholes : Room := { frames := 2, cells := 0, slots := 0, locals := 77 }
set_option maxHeartbeats 4000000 in
set_option maxRecDepth 100000 in
theorem cc_X0_ofWholes (l : Launch) (dC : Nat → ClassId) (dI : Nat → Nat → Nat) (h0 sz : Nat) (rk rn ma mb mc md me mf mx my : Int32) (p0 : Int32) (p1 : Int32) (p2 : Int32)   : Met l yX0_ofWholes wsX0_ofWholes rm_X0_ofWholes (va_Pc [.ref h0, .int p0, .int p1, .int p2] (xPre dC dI h0 sz (rk, rn, ma, mb, mc, md, me, mf, mx, my))) (xQi dC dI h0 (va_A (xW h0 (rk, rn, ma, mb, mc, md, me, mf, mx, my)) sz) ((f_X0_ofWholes rk rn p0 p1 p2).1) ((f_X0_ofWholes rk rn p0 p1 p2).2.1, (f_X0_ofWholes rk rn p0 p1 p2).2.2, ma, mb, mc, md, me, mf, mx, my)) 0 0 (va_A (xW h0 (rk, rn, ma, mb, mc, md, me, mf, mx, my)) sz) := by
  refine x_headi (cc := cX0_ofWholes) (maxL := 4) (ret := some .int) (by decide) rfl rfl (Nat.le_of_ble_eq_true rfl) ?_
  intro p e s m below meth c ls A hx hb hr hlocks hml hown hts hA hP hD hK htb hS hl
  have hl : lv_has ls 4 [(0, .ref h0), (1, .int p0), (2, .int p1), (3, .int p2)] := hl
  refine lv_iload_n hx hb dX0_ofWholes_0 rfl (lv_at hl 1 rfl) ?_
  by_cases c_1 : p0 = 0
  · skip
    refine lv_tableIn (tgt := 56) (off := 55) hx hb dX0_ofWholes_1 (by rw [c_1]; decide) (by rw [c_1]; decide) (by rw [c_1]; decide) (by decide) ?_
    refine lv_aload_n hx hb dX0_ofWholes_56 rfl (lv_at hl 0 rfl) ?_
    refine lv_iconst (v := 1) hx hb dX0_ofWholes_57 (by decide) ?_
    refine lv_iload_n hx hb dX0_ofWholes_58 rfl (lv_at hl 2 rfl) ?_
    refine lv_i2l (v := (p1).toInt64) hx hb dX0_ofWholes_59 rfl ?_
    refine lv_iload_n hx hb dX0_ofWholes_60 rfl (lv_at hl 3 rfl) ?_
    refine lv_i2l (v := (p2).toInt64) hx hb dX0_ofWholes_61 rfl ?_
    refine lv_ladd hx hb dX0_ofWholes_62 ?_
    refine xc_i (As := [.int 1, .long ((p1).toInt64 + (p2).toInt64)]) (rest := []) ⟨hx, hb, hml, hown, hts⟩ (cc_X0_keep l dC dI h0 _ (rk) (rn) (ma) (mb) (mc) (md) (me) (mf) (mx) (my) (1) (((p1).toInt64 + (p2).toInt64))) 2 gX0_ofWholes_X0_keep rfl rfl rfl hdV_X0_keep ⟨Nat.le_of_ble_eq_true rfl, Nat.le_of_ble_eq_true rfl⟩ hP hD hK hS hA htb rfl hl.1 rfl (Nat.le_of_ble_eq_true rfl) dX0_ofWholes_63 ⟨Nat.zero_le _, Nat.zero_le _⟩ (fun H locs hP hD hS => ?_)
    have hP : va_P (dC, dI) vwCl (xW h0 ((f_X0_keep (rk) (rn) (1) (((p1).toInt64 + (p2).toInt64))).2.1, (f_X0_keep (rk) (rn) (1) (((p1).toInt64 + (p2).toInt64))).2.2, ma, mb, mc, md, me, mf, mx, my)) H := hP
    have hD : va_D A (xW h0 ((f_X0_keep (rk) (rn) (1) (((p1).toInt64 + (p2).toInt64))).2.1, (f_X0_keep (rk) (rn) (1) (((p1).toInt64 + (p2).toInt64))).2.2, ma, mb, mc, md, me, mf, mx, my)) := hD
    have hE : f_X0_ofWholes rk rn p0 p1 p2 = (f_X0_keep (rk) (rn) (1) (((p1).toInt64 + (p2).toInt64))) := (by rw [f_X0_ofWholes, if_pos c_1])
    exact x_iret hx hb hr hlocks hP hD hK hS dX0_ofWholes_66 ⟨by rw [hE], by rw [hE]⟩
  by_cases c_2 : p0 = 1
  · skip
    refine lv_tableIn (tgt := 67) (off := 66) hx hb dX0_ofWholes_1 (by rw [c_2]; decide) (by rw [c_2]; decide) (by rw [c_2]; decide) (by decide) ?_
    refine lv_aload_n hx hb dX0_ofWholes_67 rfl (lv_at hl 0 rfl) ?_
    refine lv_iconst (v := 1) hx hb dX0_ofWholes_68 (by decide) ?_
    refine lv_iload_n hx hb dX0_ofWholes_69 rfl (lv_at hl 2 rfl) ?_
    refine lv_i2l (v := (p1).toInt64) hx hb dX0_ofWholes_70 rfl ?_
    refine lv_iload_n hx hb dX0_ofWholes_71 rfl (lv_at hl 3 rfl) ?_
    refine lv_i2l (v := (p2).toInt64) hx hb dX0_ofWholes_72 rfl ?_
    refine lv_lsub hx hb dX0_ofWholes_73 ?_
    refine xc_i (As := [.int 1, .long ((p1).toInt64 - (p2).toInt64)]) (rest := []) ⟨hx, hb, hml, hown, hts⟩ (cc_X0_keep l dC dI h0 _ (rk) (rn) (ma) (mb) (mc) (md) (me) (mf) (mx) (my) (1) (((p1).toInt64 - (p2).toInt64))) 2 gX0_ofWholes_X0_keep rfl rfl rfl hdV_X0_keep ⟨Nat.le_of_ble_eq_true rfl, Nat.le_of_ble_eq_true rfl⟩ hP hD hK hS hA htb rfl hl.1 rfl (Nat.le_of_ble_eq_true rfl) dX0_ofWholes_74 ⟨Nat.zero_le _, Nat.zero_le _⟩ (fun H locs hP hD hS => ?_)
    have hP : va_P (dC, dI) vwCl (xW h0 ((f_X0_keep (rk) (rn) (1) (((p1).toInt64 - (p2).toInt64))).2.1, (f_X0_keep (rk) (rn) (1) (((p1).toInt64 - (p2).toInt64))).2.2, ma, mb, mc, md, me, mf, mx, my)) H := hP
    have hD : va_D A (xW h0 ((f_X0_keep (rk) (rn) (1) (((p1).toInt64 - (p2).toInt64))).2.1, (f_X0_keep (rk) (rn) (1) (((p1).toInt64 - (p2).toInt64))).2.2, ma, mb, mc, md, me, mf, mx, my)) := hD
    have hE : f_X0_ofWholes rk rn p0 p1 p2 = (f_X0_keep (rk) (rn) (1) (((p1).toInt64 - (p2).toInt64))) := (by rw [f_X0_ofWholes, if_neg c_1, if_pos c_2])
    exact x_iret hx hb hr hlocks hP hD hK hS dX0_ofWholes_77 ⟨by rw [hE], by rw [hE]⟩
  by_cases c_3 : p0 = 2
  · skip
    refine lv_tableIn (tgt := 78) (off := 77) hx hb dX0_ofWholes_1 (by rw [c_3]; decide) (by rw [c_3]; decide) (by rw [c_3]; decide) (by decide) ?_
    refine lv_aload_n hx hb dX0_ofWholes_78 rfl (lv_at hl 0 rfl) ?_
    refine lv_iconst (v := 1) hx hb dX0_ofWholes_79 (by decide) ?_
    refine lv_iload_n hx hb dX0_ofWholes_80 rfl (lv_at hl 2 rfl) ?_
    refine lv_i2l (v := (p1).toInt64) hx hb dX0_ofWholes_81 rfl ?_
    refine lv_iload_n hx hb dX0_ofWholes_82 rfl (lv_at hl 3 rfl) ?_
    refine lv_i2l (v := (p2).toInt64) hx hb dX0_ofWholes_83 rfl ?_
    refine lv_lmul hx hb dX0_ofWholes_84 ?_
    refine xc_i (As := [.int 1, .long ((p1).toInt64 * (p2).toInt64)]) (rest := []) ⟨hx, hb, hml, hown, hts⟩ (cc_X0_keep l dC dI h0 _ (rk) (rn) (ma) (mb) (mc) (md) (me) (mf) (mx) (my) (1) (((p1).toInt64 * (p2).toInt64))) 2 gX0_ofWholes_X0_keep rfl rfl rfl hdV_X0_keep ⟨Nat.le_of_ble_eq_true rfl, Nat.le_of_ble_eq_true rfl⟩ hP hD hK hS hA htb rfl hl.1 rfl (Nat.le_of_ble_eq_true rfl) dX0_ofWholes_85 ⟨Nat.zero_le _, Nat.zero_le _⟩ (fun H locs hP hD hS => ?_)
    have hP : va_P (dC, dI) vwCl (xW h0 ((f_X0_keep (rk) (rn) (1) (((p1).toInt64 * (p2).toInt64))).2.1, (f_X0_keep (rk) (rn) (1) (((p1).toInt64 * (p2).toInt64))).2.2, ma, mb, mc, md, me, mf, mx, my)) H := hP
    have hD : va_D A (xW h0 ((f_X0_keep (rk) (rn) (1) (((p1).toInt64 * (p2).toInt64))).2.1, (f_X0_keep (rk) (rn) (1) (((p1).toInt64 * (p2).toInt64))).2.2, ma, mb, mc, md, me, mf, mx, my)) := hD
    have hE : f_X0_ofWholes rk rn p0 p1 p2 = (f_X0_keep (rk) (rn) (1) (((p1).toInt64 * (p2).toInt64))) := (by rw [f_X0_ofWholes, if_neg c_1, if_neg c_2, if_pos c_3])
    exact x_iret hx hb hr hlocks hP hD hK hS dX0_ofWholes_88 ⟨by rw [hE], by rw [hE]⟩
  by_cases c_4 : p0 = 4
  · skip
    refine lv_tableIn (tgt := 89) (off := 88) hx hb dX0_ofWholes_1 (by rw [c_4]; decide) (by rw [c_4]; decide) (by rw [c_4]; decide) (by decide) ?_
    refine lv_iload_n hx hb dX0_ofWholes_89 rfl (lv_at hl 3 rfl) ?_
    refine lv_if_ne (tgt := 98) hx hb dX0_ofWholes_90 (by decide) (fun c_5 => ?_) (fun c_5 => ?_)
    · skip
      refine lv_aload_n hx hb dX0_ofWholes_98 rfl (lv_at hl 0 rfl) ?_
      refine lv_iconst (v := 1) hx hb dX0_ofWholes_99 (by decide) ?_
      refine lv_iload_n hx hb dX0_ofWholes_100 rfl (lv_at hl 2 rfl) ?_
      refine lv_i2l (v := (p1).toInt64) hx hb dX0_ofWholes_101 rfl ?_
      refine lv_iload_n hx hb dX0_ofWholes_102 rfl (lv_at hl 3 rfl) ?_
      refine lv_i2l (v := (p2).toInt64) hx hb dX0_ofWholes_103 rfl ?_
      refine lv_ldiv hx hb dX0_ofWholes_104 (i64_0 c_5) ?_
      refine xc_i (As := [.int 1, .long ((p1).toInt64 / (p2).toInt64)]) (rest := []) ⟨hx, hb, hml, hown, hts⟩ (cc_X0_keep l dC dI h0 _ (rk) (rn) (ma) (mb) (mc) (md) (me) (mf) (mx) (my) (1) (((p1).toInt64 / (p2).toInt64))) 2 gX0_ofWholes_X0_keep rfl rfl rfl hdV_X0_keep ⟨Nat.le_of_ble_eq_true rfl, Nat.le_of_ble_eq_true rfl⟩ hP hD hK hS hA htb rfl hl.1 rfl (Nat.le_of_ble_eq_true rfl) dX0_ofWholes_105 ⟨Nat.zero_le _, Nat.zero_le _⟩ (fun H locs hP hD hS => ?_)
      have hP : va_P (dC, dI) vwCl (xW h0 ((f_X0_keep (rk) (rn) (1) (((p1).toInt64 / (p2).toInt64))).2.1, (f_X0_keep (rk) (rn) (1) (((p1).toInt64 / (p2).toInt64))).2.2, ma, mb, mc, md, me, mf, mx, my)) H := hP
      have hD : va_D A (xW h0 ((f_X0_keep (rk) (rn) (1) (((p1).toInt64 / (p2).toInt64))).2.1, (f_X0_keep (rk) (rn) (1) (((p1).toInt64 / (p2).toInt64))).2.2, ma, mb, mc, md, me, mf, mx, my)) := hD
      have hE : f_X0_ofWholes rk rn p0 p1 p2 = (f_X0_keep (rk) (rn) (1) (((p1).toInt64 / (p2).toInt64))) := (by rw [f_X0_ofWholes, if_neg c_1, if_neg c_2, if_neg c_3, if_pos c_4, if_neg c_5])
      exact x_iret hx hb hr hlocks hP hD hK hS dX0_ofWholes_108 ⟨by rw [hE], by rw [hE]⟩
    · skip
      refine lv_bipush (v := (-3)) hx hb dX0_ofWholes_93 (by decide) ?_
      refine lv_goto (tgt := 108) hx hb dX0_ofWholes_95 (by decide) ?_
      have hE : f_X0_ofWholes rk rn p0 p1 p2 = ((-3), rk, rn) := (by rw [f_X0_ofWholes, if_neg c_1, if_neg c_2, if_neg c_3, if_pos c_4, if_pos c_5])
      exact x_iret hx hb hr hlocks hP hD hK hS dX0_ofWholes_108 ⟨by rw [hE], by rw [hE]⟩
  by_cases c_6 : p0 = 5
  · skip
    refine lv_tableIn (tgt := 109) (off := 108) hx hb dX0_ofWholes_1 (by rw [c_6]; decide) (by rw [c_6]; decide) (by rw [c_6]; decide) (by decide) ?_
    refine lv_iload_n hx hb dX0_ofWholes_109 rfl (lv_at hl 3 rfl) ?_
    refine lv_if_ne (tgt := 118) hx hb dX0_ofWholes_110 (by decide) (fun c_7 => ?_) (fun c_7 => ?_)
    · skip
      refine lv_aload_n hx hb dX0_ofWholes_118 rfl (lv_at hl 0 rfl) ?_
      refine lv_iconst (v := 1) hx hb dX0_ofWholes_119 (by decide) ?_
      refine lv_iload_n hx hb dX0_ofWholes_120 rfl (lv_at hl 2 rfl) ?_
      refine lv_i2l (v := (p1).toInt64) hx hb dX0_ofWholes_121 rfl ?_
      refine lv_iload_n hx hb dX0_ofWholes_122 rfl (lv_at hl 3 rfl) ?_
      refine lv_i2l (v := (p2).toInt64) hx hb dX0_ofWholes_123 rfl ?_
      refine lv_lrem hx hb dX0_ofWholes_124 (i64_0 c_7) ?_
      refine xc_i (As := [.int 1, .long ((p1).toInt64 - (p1).toInt64 / (p2).toInt64 * (p2).toInt64)]) (rest := []) ⟨hx, hb, hml, hown, hts⟩ (cc_X0_keep l dC dI h0 _ (rk) (rn) (ma) (mb) (mc) (md) (me) (mf) (mx) (my) (1) (((p1).toInt64 - (p1).toInt64 / (p2).toInt64 * (p2).toInt64))) 2 gX0_ofWholes_X0_keep rfl rfl rfl hdV_X0_keep ⟨Nat.le_of_ble_eq_true rfl, Nat.le_of_ble_eq_true rfl⟩ hP hD hK hS hA htb rfl hl.1 rfl (Nat.le_of_ble_eq_true rfl) dX0_ofWholes_125 ⟨Nat.zero_le _, Nat.zero_le _⟩ (fun H locs hP hD hS => ?_)
      have hP : va_P (dC, dI) vwCl (xW h0 ((f_X0_keep (rk) (rn) (1) (((p1).toInt64 - (p1).toInt64 / (p2).toInt64 * (p2).toInt64))).2.1, (f_X0_keep (rk) (rn) (1) (((p1).toInt64 - (p1).toInt64 / (p2).toInt64 * (p2).toInt64))).2.2, ma, mb, mc, md, me, mf, mx, my)) H := hP
      have hD : va_D A (xW h0 ((f_X0_keep (rk) (rn) (1) (((p1).toInt64 - (p1).toInt64 / (p2).toInt64 * (p2).toInt64))).2.1, (f_X0_keep (rk) (rn) (1) (((p1).toInt64 - (p1).toInt64 / (p2).toInt64 * (p2).toInt64))).2.2, ma, mb, mc, md, me, mf, mx, my)) := hD
      have hE : f_X0_ofWholes rk rn p0 p1 p2 = (f_X0_keep (rk) (rn) (1) (((p1).toInt64 - (p1).toInt64 / (p2).toInt64 * (p2).toInt64))) := (by rw [f_X0_ofWholes, if_neg c_1, if_neg c_2, if_neg c_3, if_neg c_4, if_pos c_6, if_neg c_7])
      exact x_iret hx hb hr hlocks hP hD hK hS dX0_ofWholes_128 ⟨by rw [hE], by rw [hE]⟩
    · skip
      refine lv_bipush (v := (-3)) hx hb dX0_ofWholes_113 (by decide) ?_
      refine lv_goto (tgt := 128) hx hb dX0_ofWholes_115 (by decide) ?_
      have hE : f_X0_ofWholes rk rn p0 p1 p2 = ((-3), rk, rn) := (by rw [f_X0_ofWholes, if_neg c_1, if_neg c_2, if_neg c_3, if_neg c_4, if_pos c_6, if_pos c_7])
      exact x_iret hx hb hr hlocks hP hD hK hS dX0_ofWholes_128 ⟨by rw [hE], by rw [hE]⟩
  by_cases c_8 : p0 = 7
  · skip
    refine lv_tableIn (tgt := 129) (off := 128) hx hb dX0_ofWholes_1 (by rw [c_8]; decide) (by rw [c_8]; decide) (by rw [c_8]; decide) (by decide) ?_
    refine lv_aload_n hx hb dX0_ofWholes_129 rfl (lv_at hl 0 rfl) ?_
    refine lv_iconst (v := 1) hx hb dX0_ofWholes_130 (by decide) ?_
    refine lv_iload_n hx hb dX0_ofWholes_131 rfl (lv_at hl 2 rfl) ?_
    refine lv_iload_n hx hb dX0_ofWholes_132 rfl (lv_at hl 3 rfl) ?_
    refine lv_iand hx hb dX0_ofWholes_133 ?_
    refine lv_i2l (v := ((p1 &&& p2)).toInt64) hx hb dX0_ofWholes_134 rfl ?_
    refine xc_i (As := [.int 1, .long ((p1 &&& p2)).toInt64]) (rest := []) ⟨hx, hb, hml, hown, hts⟩ (cc_X0_keep l dC dI h0 _ (rk) (rn) (ma) (mb) (mc) (md) (me) (mf) (mx) (my) (1) (((p1 &&& p2)).toInt64)) 2 gX0_ofWholes_X0_keep rfl rfl rfl hdV_X0_keep ⟨Nat.le_of_ble_eq_true rfl, Nat.le_of_ble_eq_true rfl⟩ hP hD hK hS hA htb rfl hl.1 rfl (Nat.le_of_ble_eq_true rfl) dX0_ofWholes_135 ⟨Nat.zero_le _, Nat.zero_le _⟩ (fun H locs hP hD hS => ?_)
    have hP : va_P (dC, dI) vwCl (xW h0 ((f_X0_keep (rk) (rn) (1) (((p1 &&& p2)).toInt64)).2.1, (f_X0_keep (rk) (rn) (1) (((p1 &&& p2)).toInt64)).2.2, ma, mb, mc, md, me, mf, mx, my)) H := hP
    have hD : va_D A (xW h0 ((f_X0_keep (rk) (rn) (1) (((p1 &&& p2)).toInt64)).2.1, (f_X0_keep (rk) (rn) (1) (((p1 &&& p2)).toInt64)).2.2, ma, mb, mc, md, me, mf, mx, my)) := hD
    have hE : f_X0_ofWholes rk rn p0 p1 p2 = (f_X0_keep (rk) (rn) (1) (((p1 &&& p2)).toInt64)) := (by rw [f_X0_ofWholes, if_neg c_1, if_neg c_2, if_neg c_3, if_neg c_4, if_neg c_6, if_pos c_8])
    exact x_iret hx hb hr hlocks hP hD hK hS dX0_ofWholes_138 ⟨by rw [hE], by rw [hE]⟩
  by_cases c_9 : p0 = 8
  · skip
    refine lv_tableIn (tgt := 139) (off := 138) hx hb dX0_ofWholes_1 (by rw [c_9]; decide) (by rw [c_9]; decide) (by rw [c_9]; decide) (by decide) ?_
    refine lv_aload_n hx hb dX0_ofWholes_139 rfl (lv_at hl 0 rfl) ?_
    refine lv_iconst (v := 1) hx hb dX0_ofWholes_140 (by decide) ?_
    refine lv_iload_n hx hb dX0_ofWholes_141 rfl (lv_at hl 2 rfl) ?_
    refine lv_iload_n hx hb dX0_ofWholes_142 rfl (lv_at hl 3 rfl) ?_
    refine lv_ior hx hb dX0_ofWholes_143 ?_
    refine lv_i2l (v := ((p1 ||| p2)).toInt64) hx hb dX0_ofWholes_144 rfl ?_
    refine xc_i (As := [.int 1, .long ((p1 ||| p2)).toInt64]) (rest := []) ⟨hx, hb, hml, hown, hts⟩ (cc_X0_keep l dC dI h0 _ (rk) (rn) (ma) (mb) (mc) (md) (me) (mf) (mx) (my) (1) (((p1 ||| p2)).toInt64)) 2 gX0_ofWholes_X0_keep rfl rfl rfl hdV_X0_keep ⟨Nat.le_of_ble_eq_true rfl, Nat.le_of_ble_eq_true rfl⟩ hP hD hK hS hA htb rfl hl.1 rfl (Nat.le_of_ble_eq_true rfl) dX0_ofWholes_145 ⟨Nat.zero_le _, Nat.zero_le _⟩ (fun H locs hP hD hS => ?_)
    have hP : va_P (dC, dI) vwCl (xW h0 ((f_X0_keep (rk) (rn) (1) (((p1 ||| p2)).toInt64)).2.1, (f_X0_keep (rk) (rn) (1) (((p1 ||| p2)).toInt64)).2.2, ma, mb, mc, md, me, mf, mx, my)) H := hP
    have hD : va_D A (xW h0 ((f_X0_keep (rk) (rn) (1) (((p1 ||| p2)).toInt64)).2.1, (f_X0_keep (rk) (rn) (1) (((p1 ||| p2)).toInt64)).2.2, ma, mb, mc, md, me, mf, mx, my)) := hD
    have hE : f_X0_ofWholes rk rn p0 p1 p2 = (f_X0_keep (rk) (rn) (1) (((p1 ||| p2)).toInt64)) := (by rw [f_X0_ofWholes, if_neg c_1, if_neg c_2, if_neg c_3, if_neg c_4, if_neg c_6, if_neg c_8, if_pos c_9])
    exact x_iret hx hb hr hlocks hP hD hK hS dX0_ofWholes_148 ⟨by rw [hE], by rw [hE]⟩
  by_cases c_10 : p0 = 9
  · skip
    refine lv_tableIn (tgt := 149) (off := 148) hx hb dX0_ofWholes_1 (by rw [c_10]; decide) (by rw [c_10]; decide) (by rw [c_10]; decide) (by decide) ?_
    refine lv_aload_n hx hb dX0_ofWholes_149 rfl (lv_at hl 0 rfl) ?_
    refine lv_iconst (v := 1) hx hb dX0_ofWholes_150 (by decide) ?_
    refine lv_iload_n hx hb dX0_ofWholes_151 rfl (lv_at hl 2 rfl) ?_
    refine lv_iload_n hx hb dX0_ofWholes_152 rfl (lv_at hl 3 rfl) ?_
    refine lv_ixor hx hb dX0_ofWholes_153 ?_
    refine lv_i2l (v := ((p1 ^^^ p2)).toInt64) hx hb dX0_ofWholes_154 rfl ?_
    refine xc_i (As := [.int 1, .long ((p1 ^^^ p2)).toInt64]) (rest := []) ⟨hx, hb, hml, hown, hts⟩ (cc_X0_keep l dC dI h0 _ (rk) (rn) (ma) (mb) (mc) (md) (me) (mf) (mx) (my) (1) (((p1 ^^^ p2)).toInt64)) 2 gX0_ofWholes_X0_keep rfl rfl rfl hdV_X0_keep ⟨Nat.le_of_ble_eq_true rfl, Nat.le_of_ble_eq_true rfl⟩ hP hD hK hS hA htb rfl hl.1 rfl (Nat.le_of_ble_eq_true rfl) dX0_ofWholes_155 ⟨Nat.zero_le _, Nat.zero_le _⟩ (fun H locs hP hD hS => ?_)
    have hP : va_P (dC, dI) vwCl (xW h0 ((f_X0_keep (rk) (rn) (1) (((p1 ^^^ p2)).toInt64)).2.1, (f_X0_keep (rk) (rn) (1) (((p1 ^^^ p2)).toInt64)).2.2, ma, mb, mc, md, me, mf, mx, my)) H := hP
    have hD : va_D A (xW h0 ((f_X0_keep (rk) (rn) (1) (((p1 ^^^ p2)).toInt64)).2.1, (f_X0_keep (rk) (rn) (1) (((p1 ^^^ p2)).toInt64)).2.2, ma, mb, mc, md, me, mf, mx, my)) := hD
    have hE : f_X0_ofWholes rk rn p0 p1 p2 = (f_X0_keep (rk) (rn) (1) (((p1 ^^^ p2)).toInt64)) := (by rw [f_X0_ofWholes, if_neg c_1, if_neg c_2, if_neg c_3, if_neg c_4, if_neg c_6, if_neg c_8, if_neg c_9, if_pos c_10])
    exact x_iret hx hb hr hlocks hP hD hK hS dX0_ofWholes_158 ⟨by rw [hE], by rw [hE]⟩
  have hsw : p0.toInt < 0 ∨ 9 < p0.toInt ∨ p0 = 3 ∨ p0 = 6 := by
    have q0 : p0.toInt ≠ 0 := fun q => c_1 (Int32.toInt_inj.mp (q.trans (by decide)))
    have q1 : p0.toInt ≠ 1 := fun q => c_2 (Int32.toInt_inj.mp (q.trans (by decide)))
    have q2 : p0.toInt ≠ 2 := fun q => c_3 (Int32.toInt_inj.mp (q.trans (by decide)))
    have q4 : p0.toInt ≠ 4 := fun q => c_4 (Int32.toInt_inj.mp (q.trans (by decide)))
    have q5 : p0.toInt ≠ 5 := fun q => c_6 (Int32.toInt_inj.mp (q.trans (by decide)))
    have q7 : p0.toInt ≠ 7 := fun q => c_8 (Int32.toInt_inj.mp (q.trans (by decide)))
    have q8 : p0.toInt ≠ 8 := fun q => c_9 (Int32.toInt_inj.mp (q.trans (by decide)))
    have q9 : p0.toInt ≠ 9 := fun q => c_10 (Int32.toInt_inj.mp (q.trans (by decide)))
    by_cases z3 : p0 = 3
    · simp [z3]
    by_cases z6 : p0 = 6
    · simp [z6]
    have w3 : p0.toInt ≠ 3 := fun q => z3 (Int32.toInt_inj.mp (q.trans (by decide)))
    have w6 : p0.toInt ≠ 6 := fun q => z6 (Int32.toInt_inj.mp (q.trans (by decide)))
    omega
  have hgo : ∀ {W1 : Prop}, W1 → W1 := fun h => h
  have hdf : W p l e (headSpec wsX0_ofWholes rm_X0_ofWholes).room s m ([.ref h0, .int p0, .int p1, .int p2] : List Value).toArray below meth c s.heap [] 0 0 (MQ below (xQi dC dI h0 A ((f_X0_ofWholes rk rn p0 p1 p2).1) ((f_X0_ofWholes rk rn p0 p1 p2).2.1, (f_X0_ofWholes rk rn p0 p1 p2).2.2, ma, mb, mc, md, me, mf, mx, my)) ([.ref h0, .int p0, .int p1, .int p2] : List Value).toArray s 0 0 A) (F0 m 159 ls []) := by
    refine lv_aload_n hx hb dX0_ofWholes_159 rfl (lv_at hl 0 rfl) ?_
    refine lv_iconst (v := 1) hx hb dX0_ofWholes_160 (by decide) ?_
    refine lv_iload_n hx hb dX0_ofWholes_161 rfl (lv_at hl 2 rfl) ?_
    refine lv_iload_n hx hb dX0_ofWholes_162 rfl (lv_at hl 3 rfl) ?_
    refine pu_Si (As := [.int p1, .int p2]) (rest := [.int 1, .ref h0]) ⟨hx, hb, hml, hown, hts⟩ (cc_X0_shifted l _ (p1) (p2)) 2 gX0_ofWholes_X0_shifted rfl rfl rfl hdS_X0_shifted ⟨Nat.le_of_ble_eq_true rfl, Nat.le_of_ble_eq_true rfl⟩ kN_ok kN_at rfl hl.1 rfl (Nat.le_of_ble_eq_true rfl) dX0_ofWholes_163 ⟨Nat.zero_le _, Nat.zero_le _⟩ ?_
    refine lv_i2l (v := ((f_X0_shifted (p1) (p2))).toInt64) hx hb dX0_ofWholes_166 rfl ?_
    refine xc_i (As := [.int 1, .long ((f_X0_shifted (p1) (p2))).toInt64]) (rest := []) ⟨hx, hb, hml, hown, hts⟩ (cc_X0_keep l dC dI h0 _ (rk) (rn) (ma) (mb) (mc) (md) (me) (mf) (mx) (my) (1) (((f_X0_shifted (p1) (p2))).toInt64)) 2 gX0_ofWholes_X0_keep rfl rfl rfl hdV_X0_keep ⟨Nat.le_of_ble_eq_true rfl, Nat.le_of_ble_eq_true rfl⟩ hP hD hK hS hA htb rfl hl.1 rfl (Nat.le_of_ble_eq_true rfl) dX0_ofWholes_167 ⟨Nat.zero_le _, Nat.zero_le _⟩ (fun H locs hP hD hS => ?_)
    have hP : va_P (dC, dI) vwCl (xW h0 ((f_X0_keep (rk) (rn) (1) (((f_X0_shifted (p1) (p2))).toInt64)).2.1, (f_X0_keep (rk) (rn) (1) (((f_X0_shifted (p1) (p2))).toInt64)).2.2, ma, mb, mc, md, me, mf, mx, my)) H := hP
    have hD : va_D A (xW h0 ((f_X0_keep (rk) (rn) (1) (((f_X0_shifted (p1) (p2))).toInt64)).2.1, (f_X0_keep (rk) (rn) (1) (((f_X0_shifted (p1) (p2))).toInt64)).2.2, ma, mb, mc, md, me, mf, mx, my)) := hD
    have hE : f_X0_ofWholes rk rn p0 p1 p2 = (f_X0_keep (rk) (rn) (1) (((f_X0_shifted (p1) (p2))).toInt64)) := (by rw [f_X0_ofWholes, if_neg c_1, if_neg c_2, if_neg c_3, if_neg c_4, if_neg c_6, if_neg c_8, if_neg c_9, if_neg c_10])
    exact x_iret hx hb hr hlocks hP hD hK hS dX0_ofWholes_170 ⟨by rw [hE], by rw [hE]⟩
  rcases hsw with hsw | hsw | hsw | hsw
  · exact lv_tableOut (tgt := 159) hx hb dX0_ofWholes_1 (Or.inl hsw) (by decide) hdf
  · exact lv_tableOut (tgt := 159) hx hb dX0_ofWholes_1 (Or.inr hsw) (by decide) hdf
  · exact lv_tableIn (tgt := 159) (off := 158) hx hb dX0_ofWholes_1 (by rw [hsw]; decide) (by rw [hsw]; decide) (by rw [hsw]; decide) (by decide) hdf
  · exact lv_tableIn (tgt := 159) (off := 158) hx hb dX0_ofWholes_1 (by rw [hsw]; decide) (by rw [hsw]; decide) (by rw [hsw]; decide) (by decide) hdf
theorem hdV_X0_ofReals : yX0_ofReals.cls = RX0 ∧ yX0_ofReals.cls ≠ "java/lang/invoke/MethodHandle" ∧ yX0_ofReals.cls ≠ "java/lang/invoke/VarHandle" ∧ (parseMethodDescriptor yX0_ofReals.desc).map (fun d => d.parameters.length) = some 3 := by decide +kernel
theorem fi_X0_ofReals : ∀ w ∈ wsX00, w ∈ wsX0_ofReals := fun _ h => List.mem_cons_of_mem _ (List.mem_append_right _ h)
def f_X0_ofReals (rk : Int32) (rn : Int32) (p0 : Int32) (p1 : Int64) (p2 : Int64) : Int32 × Int32 × Int32 := if p0 = 0 then ((f_X0_keep (rk) (rn) (2) ((p1 + p2)))) else (if p0 = 1 then ((f_X0_keep (rk) (rn) (2) ((p1 - p2)))) else (if p0 = 2 then ((f_X0_keep (rk) (rn) (2) ((f_X0_withoutPlaces ((p1 * p2)))))) else (if p0 = 3 then (if p2 = 0 then (((-3), rk, rn)) else ((f_X0_keep (rk) (rn) (2) ((f_X0_quotient (p1) (p2)))))) else (if p1 = 0 then (if p2 = 0 then (((-3), rk, rn)) else ((f_X0_keep (rk) (rn) (2) ((f_X0_angle (p2) (p1)))))) else ((f_X0_keep (rk) (rn) (2) ((f_X0_angle (p2) (p1)))))))))
abbrev rm_X0_ofReals : Room := { frames := 5, cells := 0, slots := 0, locals := 213 }
set_option maxHeartbeats 4000000 in
set_option maxRecDepth 100000 in
theorem cc_X0_ofReals (l : Launch) (dC : Nat → ClassId) (dI : Nat → Nat → Nat) (h0 sz : Nat) (rk rn ma mb mc md me mf mx my : Int32) (p0 : Int32) (p1 : Int64) (p2 : Int64)   : Met l yX0_ofReals wsX0_ofReals rm_X0_ofReals (va_Pc [.ref h0, .int p0, .long p1, .long p2] (xPre dC dI h0 sz (rk, rn, ma, mb, mc, md, me, mf, mx, my))) (xQi dC dI h0 (va_A (xW h0 (rk, rn, ma, mb, mc, md, me, mf, mx, my)) sz) ((f_X0_ofReals rk rn p0 p1 p2).1) ((f_X0_ofReals rk rn p0 p1 p2).2.1, (f_X0_ofReals rk rn p0 p1 p2).2.2, ma, mb, mc, md, me, mf, mx, my)) 0 0 (va_A (xW h0 (rk, rn, ma, mb, mc, md, me, mf, mx, my)) sz) := by
  refine x_headi (cc := cX0_ofReals) (maxL := 6) (ret := some .int) (by decide) rfl rfl (Nat.le_of_ble_eq_true rfl) ?_
  intro p e s m below meth c ls A hx hb hr hlocks hml hown hts hA hP hD hK htb hS hl
  have hl : lv_has ls 6 [(0, .ref h0), (1, .int p0), (2, .long p1), (4, .long p2)] := hl
  refine lv_iload_n hx hb dX0_ofReals_0 rfl (lv_at hl 1 rfl) ?_
  by_cases c_1 : p0 = 0
  · skip
    refine lv_tableIn (tgt := 32) (off := 31) hx hb dX0_ofReals_1 (by rw [c_1]; decide) (by rw [c_1]; decide) (by rw [c_1]; decide) (by decide) ?_
    refine lv_aload_n hx hb dX0_ofReals_32 rfl (lv_at hl 0 rfl) ?_
    refine lv_iconst (v := 2) hx hb dX0_ofReals_33 (by decide) ?_
    refine lv_lload_n hx hb dX0_ofReals_34 rfl (lv_at hl 2 rfl) ?_
    refine lv_lload hx hb dX0_ofReals_35 (lv_at hl 3 rfl) ?_
    refine lv_ladd hx hb dX0_ofReals_37 ?_
    refine xc_i (As := [.int 2, .long (p1 + p2)]) (rest := []) ⟨hx, hb, hml, hown, hts⟩ (cc_X0_keep l dC dI h0 _ (rk) (rn) (ma) (mb) (mc) (md) (me) (mf) (mx) (my) (2) ((p1 + p2))) 2 gX0_ofReals_X0_keep rfl rfl rfl hdV_X0_keep ⟨Nat.le_of_ble_eq_true rfl, Nat.le_of_ble_eq_true rfl⟩ hP hD hK hS hA htb rfl hl.1 rfl (Nat.le_of_ble_eq_true rfl) dX0_ofReals_38 ⟨Nat.zero_le _, Nat.zero_le _⟩ (fun H locs hP hD hS => ?_)
    have hP : va_P (dC, dI) vwCl (xW h0 ((f_X0_keep (rk) (rn) (2) ((p1 + p2))).2.1, (f_X0_keep (rk) (rn) (2) ((p1 + p2))).2.2, ma, mb, mc, md, me, mf, mx, my)) H := hP
    have hD : va_D A (xW h0 ((f_X0_keep (rk) (rn) (2) ((p1 + p2))).2.1, (f_X0_keep (rk) (rn) (2) ((p1 + p2))).2.2, ma, mb, mc, md, me, mf, mx, my)) := hD
    have hE : f_X0_ofReals rk rn p0 p1 p2 = (f_X0_keep (rk) (rn) (2) ((p1 + p2))) := (by rw [f_X0_ofReals, if_pos c_1])
    exact x_iret hx hb hr hlocks hP hD hK hS dX0_ofReals_41 ⟨by rw [hE], by rw [hE]⟩
  by_cases c_2 : p0 = 1
  · skip
    refine lv_tableIn (tgt := 42) (off := 41) hx hb dX0_ofReals_1 (by rw [c_2]; decide) (by rw [c_2]; decide) (by rw [c_2]; decide) (by decide) ?_
    refine lv_aload_n hx hb dX0_ofReals_42 rfl (lv_at hl 0 rfl) ?_
    refine lv_iconst (v := 2) hx hb dX0_ofReals_43 (by decide) ?_
    refine lv_lload_n hx hb dX0_ofReals_44 rfl (lv_at hl 2 rfl) ?_
    refine lv_lload hx hb dX0_ofReals_45 (lv_at hl 3 rfl) ?_
    refine lv_lsub hx hb dX0_ofReals_47 ?_
    refine xc_i (As := [.int 2, .long (p1 - p2)]) (rest := []) ⟨hx, hb, hml, hown, hts⟩ (cc_X0_keep l dC dI h0 _ (rk) (rn) (ma) (mb) (mc) (md) (me) (mf) (mx) (my) (2) ((p1 - p2))) 2 gX0_ofReals_X0_keep rfl rfl rfl hdV_X0_keep ⟨Nat.le_of_ble_eq_true rfl, Nat.le_of_ble_eq_true rfl⟩ hP hD hK hS hA htb rfl hl.1 rfl (Nat.le_of_ble_eq_true rfl) dX0_ofReals_48 ⟨Nat.zero_le _, Nat.zero_le _⟩ (fun H locs hP hD hS => ?_)
    have hP : va_P (dC, dI) vwCl (xW h0 ((f_X0_keep (rk) (rn) (2) ((p1 - p2))).2.1, (f_X0_keep (rk) (rn) (2) ((p1 - p2))).2.2, ma, mb, mc, md, me, mf, mx, my)) H := hP
    have hD : va_D A (xW h0 ((f_X0_keep (rk) (rn) (2) ((p1 - p2))).2.1, (f_X0_keep (rk) (rn) (2) ((p1 - p2))).2.2, ma, mb, mc, md, me, mf, mx, my)) := hD
    have hE : f_X0_ofReals rk rn p0 p1 p2 = (f_X0_keep (rk) (rn) (2) ((p1 - p2))) := (by rw [f_X0_ofReals, if_neg c_1, if_pos c_2])
    exact x_iret hx hb hr hlocks hP hD hK hS dX0_ofReals_51 ⟨by rw [hE], by rw [hE]⟩
  by_cases c_3 : p0 = 2
  · skip
    refine lv_tableIn (tgt := 52) (off := 51) hx hb dX0_ofReals_1 (by rw [c_3]; decide) (by rw [c_3]; decide) (by rw [c_3]; decide) (by decide) ?_
    refine lv_aload_n hx hb dX0_ofReals_52 rfl (lv_at hl 0 rfl) ?_
    refine lv_iconst (v := 2) hx hb dX0_ofReals_53 (by decide) ?_
    refine lv_lload_n hx hb dX0_ofReals_54 rfl (lv_at hl 2 rfl) ?_
    refine lv_lload hx hb dX0_ofReals_55 (lv_at hl 3 rfl) ?_
    refine lv_lmul hx hb dX0_ofReals_57 ?_
    refine pu_Sl (As := [.long (p1 * p2)]) (rest := [.int 2, .ref h0]) ⟨hx, hb, hml, hown, hts⟩ (cc_X0_withoutPlaces l _ ((p1 * p2))) 1 gX0_ofReals_X0_withoutPlaces rfl rfl rfl hdS_X0_withoutPlaces ⟨Nat.le_of_ble_eq_true rfl, Nat.le_of_ble_eq_true rfl⟩ kN_ok kN_at rfl hl.1 rfl (Nat.le_of_ble_eq_true rfl) dX0_ofReals_58 ⟨Nat.zero_le _, Nat.zero_le _⟩ ?_
    refine xc_i (As := [.int 2, .long (f_X0_withoutPlaces ((p1 * p2)))]) (rest := []) ⟨hx, hb, hml, hown, hts⟩ (cc_X0_keep l dC dI h0 _ (rk) (rn) (ma) (mb) (mc) (md) (me) (mf) (mx) (my) (2) ((f_X0_withoutPlaces ((p1 * p2))))) 2 gX0_ofReals_X0_keep rfl rfl rfl hdV_X0_keep ⟨Nat.le_of_ble_eq_true rfl, Nat.le_of_ble_eq_true rfl⟩ hP hD hK hS hA htb rfl hl.1 rfl (Nat.le_of_ble_eq_true rfl) dX0_ofReals_61 ⟨Nat.zero_le _, Nat.zero_le _⟩ (fun H locs hP hD hS => ?_)
    have hP : va_P (dC, dI) vwCl (xW h0 ((f_X0_keep (rk) (rn) (2) ((f_X0_withoutPlaces ((p1 * p2))))).2.1, (f_X0_keep (rk) (rn) (2) ((f_X0_withoutPlaces ((p1 * p2))))).2.2, ma, mb, mc, md, me, mf, mx, my)) H := hP
    have hD : va_D A (xW h0 ((f_X0_keep (rk) (rn) (2) ((f_X0_withoutPlaces ((p1 * p2))))).2.1, (f_X0_keep (rk) (rn) (2) ((f_X0_withoutPlaces ((p1 * p2))))).2.2, ma, mb, mc, md, me, mf, mx, my)) := hD
    have hE : f_X0_ofReals rk rn p0 p1 p2 = (f_X0_keep (rk) (rn) (2) ((f_X0_withoutPlaces ((p1 * p2))))) := (by rw [f_X0_ofReals, if_neg c_1, if_neg c_2, if_pos c_3])
    exact x_iret hx hb hr hlocks hP hD hK hS dX0_ofReals_64 ⟨by rw [hE], by rw [hE]⟩
  by_cases c_4 : p0 = 3
  · skip
    refine lv_tableIn (tgt := 65) (off := 64) hx hb dX0_ofReals_1 (by rw [c_4]; decide) (by rw [c_4]; decide) (by rw [c_4]; decide) (by decide) ?_
    refine lv_lload hx hb dX0_ofReals_65 (lv_at hl 3 rfl) ?_
    refine lv_lconst (v := 0) hx hb dX0_ofReals_67 (by decide) ?_
    refine pl_ne (tgt := 77) hx hb dX0_ofReals_68 dX0_ofReals_69 (by decide) (fun c_5 => ?_) (fun c_5 => ?_)
    · skip
      refine lv_aload_n hx hb dX0_ofReals_77 rfl (lv_at hl 0 rfl) ?_
      refine lv_iconst (v := 2) hx hb dX0_ofReals_78 (by decide) ?_
      refine lv_lload_n hx hb dX0_ofReals_79 rfl (lv_at hl 2 rfl) ?_
      refine lv_lload hx hb dX0_ofReals_80 (lv_at hl 3 rfl) ?_
      refine pu_Sl (As := [.long p1, .long p2]) (rest := [.int 2, .ref h0]) ⟨hx, hb, hml, hown, hts⟩ (cc_X0_quotient l _ (p1) (p2) (c_5)) 2 gX0_ofReals_X0_quotient rfl rfl rfl hdS_X0_quotient ⟨Nat.le_of_ble_eq_true rfl, Nat.le_of_ble_eq_true rfl⟩ kN_ok kN_at rfl hl.1 rfl (Nat.le_of_ble_eq_true rfl) dX0_ofReals_82 ⟨Nat.zero_le _, Nat.zero_le _⟩ ?_
      refine xc_i (As := [.int 2, .long (f_X0_quotient (p1) (p2))]) (rest := []) ⟨hx, hb, hml, hown, hts⟩ (cc_X0_keep l dC dI h0 _ (rk) (rn) (ma) (mb) (mc) (md) (me) (mf) (mx) (my) (2) ((f_X0_quotient (p1) (p2)))) 2 gX0_ofReals_X0_keep rfl rfl rfl hdV_X0_keep ⟨Nat.le_of_ble_eq_true rfl, Nat.le_of_ble_eq_true rfl⟩ hP hD hK hS hA htb rfl hl.1 rfl (Nat.le_of_ble_eq_true rfl) dX0_ofReals_85 ⟨Nat.zero_le _, Nat.zero_le _⟩ (fun H locs hP hD hS => ?_)
      have hP : va_P (dC, dI) vwCl (xW h0 ((f_X0_keep (rk) (rn) (2) ((f_X0_quotient (p1) (p2)))).2.1, (f_X0_keep (rk) (rn) (2) ((f_X0_quotient (p1) (p2)))).2.2, ma, mb, mc, md, me, mf, mx, my)) H := hP
      have hD : va_D A (xW h0 ((f_X0_keep (rk) (rn) (2) ((f_X0_quotient (p1) (p2)))).2.1, (f_X0_keep (rk) (rn) (2) ((f_X0_quotient (p1) (p2)))).2.2, ma, mb, mc, md, me, mf, mx, my)) := hD
      have hE : f_X0_ofReals rk rn p0 p1 p2 = (f_X0_keep (rk) (rn) (2) ((f_X0_quotient (p1) (p2)))) := (by rw [f_X0_ofReals, if_neg c_1, if_neg c_2, if_neg c_3, if_pos c_4, if_neg c_5])
      exact x_iret hx hb hr hlocks hP hD hK hS dX0_ofReals_88 ⟨by rw [hE], by rw [hE]⟩
    · skip
      refine lv_bipush (v := (-3)) hx hb dX0_ofReals_72 (by decide) ?_
      refine lv_goto (tgt := 88) hx hb dX0_ofReals_74 (by decide) ?_
      have hE : f_X0_ofReals rk rn p0 p1 p2 = ((-3), rk, rn) := (by rw [f_X0_ofReals, if_neg c_1, if_neg c_2, if_neg c_3, if_pos c_4, if_pos c_5])
      exact x_iret hx hb hr hlocks hP hD hK hS dX0_ofReals_88 ⟨by rw [hE], by rw [hE]⟩
  refine lv_tableOut (tgt := 89) hx hb dX0_ofReals_1 (by have q0 : p0.toInt ≠ 0 := fun q => c_1 (Int32.toInt_inj.mp (q.trans (by decide))); have q1 : p0.toInt ≠ 1 := fun q => c_2 (Int32.toInt_inj.mp (q.trans (by decide))); have q2 : p0.toInt ≠ 2 := fun q => c_3 (Int32.toInt_inj.mp (q.trans (by decide))); have q3 : p0.toInt ≠ 3 := fun q => c_4 (Int32.toInt_inj.mp (q.trans (by decide))); omega) (by decide) ?_
  refine lv_lload_n hx hb dX0_ofReals_89 rfl (lv_at hl 2 rfl) ?_
  refine lv_lconst (v := 0) hx hb dX0_ofReals_90 (by decide) ?_
  refine pl_ne (tgt := 107) hx hb dX0_ofReals_91 dX0_ofReals_92 (by decide) (fun c_6 => ?_) (fun c_6 => ?_)
  · skip
    refine lv_aload_n hx hb dX0_ofReals_107 rfl (lv_at hl 0 rfl) ?_
    refine lv_iconst (v := 2) hx hb dX0_ofReals_108 (by decide) ?_
    refine lv_lload hx hb dX0_ofReals_109 (lv_at hl 3 rfl) ?_
    refine lv_lload_n hx hb dX0_ofReals_111 rfl (lv_at hl 2 rfl) ?_
    refine pu_Sl (As := [.long p2, .long p1]) (rest := [.int 2, .ref h0]) ⟨hx, hb, hml, hown, hts⟩ (cc_X0_angle l _ (p2) (p1)) 2 gX0_ofReals_X0_angle rfl rfl rfl hdS_X0_angle ⟨Nat.le_of_ble_eq_true rfl, Nat.le_of_ble_eq_true rfl⟩ (kT_ok _) (kT_of htb hS) rfl hl.1 rfl (Nat.le_of_ble_eq_true rfl) dX0_ofReals_112 ⟨Nat.zero_le _, Nat.zero_le _⟩ ?_
    refine xc_i (As := [.int 2, .long (f_X0_angle (p2) (p1))]) (rest := []) ⟨hx, hb, hml, hown, hts⟩ (cc_X0_keep l dC dI h0 _ (rk) (rn) (ma) (mb) (mc) (md) (me) (mf) (mx) (my) (2) ((f_X0_angle (p2) (p1)))) 2 gX0_ofReals_X0_keep rfl rfl rfl hdV_X0_keep ⟨Nat.le_of_ble_eq_true rfl, Nat.le_of_ble_eq_true rfl⟩ hP hD hK hS hA htb rfl hl.1 rfl (Nat.le_of_ble_eq_true rfl) dX0_ofReals_115 ⟨Nat.zero_le _, Nat.zero_le _⟩ (fun H locs hP hD hS => ?_)
    have hP : va_P (dC, dI) vwCl (xW h0 ((f_X0_keep (rk) (rn) (2) ((f_X0_angle (p2) (p1)))).2.1, (f_X0_keep (rk) (rn) (2) ((f_X0_angle (p2) (p1)))).2.2, ma, mb, mc, md, me, mf, mx, my)) H := hP
    have hD : va_D A (xW h0 ((f_X0_keep (rk) (rn) (2) ((f_X0_angle (p2) (p1)))).2.1, (f_X0_keep (rk) (rn) (2) ((f_X0_angle (p2) (p1)))).2.2, ma, mb, mc, md, me, mf, mx, my)) := hD
    have hE : f_X0_ofReals rk rn p0 p1 p2 = (f_X0_keep (rk) (rn) (2) ((f_X0_angle (p2) (p1)))) := (by rw [f_X0_ofReals, if_neg c_1, if_neg c_2, if_neg c_3, if_neg c_4, if_neg c_6])
    exact x_iret hx hb hr hlocks hP hD hK hS dX0_ofReals_118 ⟨by rw [hE], by rw [hE]⟩
  · skip
    refine lv_lload hx hb dX0_ofReals_95 (lv_at hl 3 rfl) ?_
    refine lv_lconst (v := 0) hx hb dX0_ofReals_97 (by decide) ?_
    refine pl_ne (tgt := 107) hx hb dX0_ofReals_98 dX0_ofReals_99 (by decide) (fun c_7 => ?_) (fun c_7 => ?_)
    · skip
      refine lv_aload_n hx hb dX0_ofReals_107 rfl (lv_at hl 0 rfl) ?_
      refine lv_iconst (v := 2) hx hb dX0_ofReals_108 (by decide) ?_
      refine lv_lload hx hb dX0_ofReals_109 (lv_at hl 3 rfl) ?_
      refine lv_lload_n hx hb dX0_ofReals_111 rfl (lv_at hl 2 rfl) ?_
      refine pu_Sl (As := [.long p2, .long p1]) (rest := [.int 2, .ref h0]) ⟨hx, hb, hml, hown, hts⟩ (cc_X0_angle l _ (p2) (p1)) 2 gX0_ofReals_X0_angle rfl rfl rfl hdS_X0_angle ⟨Nat.le_of_ble_eq_true rfl, Nat.le_of_ble_eq_true rfl⟩ (kT_ok _) (kT_of htb hS) rfl hl.1 rfl (Nat.le_of_ble_eq_true rfl) dX0_ofReals_112 ⟨Nat.zero_le _, Nat.zero_le _⟩ ?_
      refine xc_i (As := [.int 2, .long (f_X0_angle (p2) (p1))]) (rest := []) ⟨hx, hb, hml, hown, hts⟩ (cc_X0_keep l dC dI h0 _ (rk) (rn) (ma) (mb) (mc) (md) (me) (mf) (mx) (my) (2) ((f_X0_angle (p2) (p1)))) 2 gX0_ofReals_X0_keep rfl rfl rfl hdV_X0_keep ⟨Nat.le_of_ble_eq_true rfl, Nat.le_of_ble_eq_true rfl⟩ hP hD hK hS hA htb rfl hl.1 rfl (Nat.le_of_ble_eq_true rfl) dX0_ofReals_115 ⟨Nat.zero_le _, Nat.zero_le _⟩ (fun H locs hP hD hS => ?_)
      have hP : va_P (dC, dI) vwCl (xW h0 ((f_X0_keep (rk) (rn) (2) ((f_X0_angle (p2) (p1)))).2.1, (f_X0_keep (rk) (rn) (2) ((f_X0_angle (p2) (p1)))).2.2, ma, mb, mc, md, me, mf, mx, my)) H := hP
      have hD : va_D A (xW h0 ((f_X0_keep (rk) (rn) (2) ((f_X0_angle (p2) (p1)))).2.1, (f_X0_keep (rk) (rn) (2) ((f_X0_angle (p2) (p1)))).2.2, ma, mb, mc, md, me, mf, mx, my)) := hD
      have hE : f_X0_ofReals rk rn p0 p1 p2 = (f_X0_keep (rk) (rn) (2) ((f_X0_angle (p2) (p1)))) := (by rw [f_X0_ofReals, if_neg c_1, if_neg c_2, if_neg c_3, if_neg c_4, if_pos c_6, if_neg c_7])
      exact x_iret hx hb hr hlocks hP hD hK hS dX0_ofReals_118 ⟨by rw [hE], by rw [hE]⟩
    · skip
      refine lv_bipush (v := (-3)) hx hb dX0_ofReals_102 (by decide) ?_
      refine lv_goto (tgt := 118) hx hb dX0_ofReals_104 (by decide) ?_
      have hE : f_X0_ofReals rk rn p0 p1 p2 = ((-3), rk, rn) := (by rw [f_X0_ofReals, if_neg c_1, if_neg c_2, if_neg c_3, if_neg c_4, if_pos c_6, if_pos c_7])
      exact x_iret hx hb hr hlocks hP hD hK hS dX0_ofReals_118 ⟨by rw [hE], by rw [hE]⟩
theorem hdV_X0_ofOne : yX0_ofOne.cls = RX0 ∧ yX0_ofOne.cls ≠ "java/lang/invoke/MethodHandle" ∧ yX0_ofOne.cls ≠ "java/lang/invoke/VarHandle" ∧ (parseMethodDescriptor yX0_ofOne.desc).map (fun d => d.parameters.length) = some 3 := by decide +kernel
theorem fi_X0_ofOne : ∀ w ∈ wsX00, w ∈ wsX0_ofOne := fun _ h => List.mem_cons_of_mem _ (List.mem_append_right _ h)
def f_X0_ofOne (rk : Int32) (rn : Int32) (p0 : Int32) (p1 : Int32) (p2 : Int32) : Int32 × Int32 × Int32 := if p0 = 0 then ((f_X0_keep (rk) (rn) (p1) ((-(p2).toInt64)))) else (if p0 = 1 then ((f_X0_keep (rk) (rn) (p1) ((if 0 < (p2).toInt64 then (p2).toInt64 else -(p2).toInt64)))) else (if p0 = 9 then (if p1 = 1 then ((f_X0_keep (rk) (rn) (1) ((p2).toInt64))) else ((f_X0_keep (rk) (rn) (1) (((p2 / 65536)).toInt64)))) else (if p1 = 1 then ((f_X0_keep (rk) (rn) (p1) ((p2).toInt64))) else ((f_X0_keep (rk) (rn) (p1) ((f_X0_cut (p0) ((p2).toInt64))))))))
abbrev rm_X0_ofOne : Room := { frames := 2, cells := 0, slots := 0, locals := 77 }
set_option maxHeartbeats 4000000 in
set_option maxRecDepth 100000 in
theorem cc_X0_ofOne (l : Launch) (dC : Nat → ClassId) (dI : Nat → Nat → Nat) (h0 sz : Nat) (rk rn ma mb mc md me mf mx my : Int32) (p0 : Int32) (p1 : Int32) (p2 : Int32)   : Met l yX0_ofOne wsX0_ofOne rm_X0_ofOne (va_Pc [.ref h0, .int p0, .int p1, .int p2] (xPre dC dI h0 sz (rk, rn, ma, mb, mc, md, me, mf, mx, my))) (xQi dC dI h0 (va_A (xW h0 (rk, rn, ma, mb, mc, md, me, mf, mx, my)) sz) ((f_X0_ofOne rk rn p0 p1 p2).1) ((f_X0_ofOne rk rn p0 p1 p2).2.1, (f_X0_ofOne rk rn p0 p1 p2).2.2, ma, mb, mc, md, me, mf, mx, my)) 0 0 (va_A (xW h0 (rk, rn, ma, mb, mc, md, me, mf, mx, my)) sz) := by
  refine x_headi (cc := cX0_ofOne) (maxL := 4) (ret := some .int) (by decide) rfl rfl (Nat.le_of_ble_eq_true rfl) ?_
  intro p e s m below meth c ls A hx hb hr hlocks hml hown hts hA hP hD hK htb hS hl
  have hl : lv_has ls 4 [(0, .ref h0), (1, .int p0), (2, .int p1), (3, .int p2)] := hl
  refine lv_iload_n hx hb dX0_ofOne_0 rfl (lv_at hl 1 rfl) ?_
  by_cases c_1 : p0 = 0
  · skip
    refine lv_lookup (tgt := 36) (off := 35) hx hb dX0_ofOne_1 (by decide) (by rw [c_1]; decide) (by decide) ?_
    refine lv_aload_n hx hb dX0_ofOne_36 rfl (lv_at hl 0 rfl) ?_
    refine lv_iload_n hx hb dX0_ofOne_37 rfl (lv_at hl 2 rfl) ?_
    refine lv_iload_n hx hb dX0_ofOne_38 rfl (lv_at hl 3 rfl) ?_
    refine lv_i2l (v := (p2).toInt64) hx hb dX0_ofOne_39 rfl ?_
    refine lv_lneg hx hb dX0_ofOne_40 ?_
    refine xc_i (As := [.int p1, .long (-(p2).toInt64)]) (rest := []) ⟨hx, hb, hml, hown, hts⟩ (cc_X0_keep l dC dI h0 _ (rk) (rn) (ma) (mb) (mc) (md) (me) (mf) (mx) (my) (p1) ((-(p2).toInt64))) 2 gX0_ofOne_X0_keep rfl rfl rfl hdV_X0_keep ⟨Nat.le_of_ble_eq_true rfl, Nat.le_of_ble_eq_true rfl⟩ hP hD hK hS hA htb rfl hl.1 rfl (Nat.le_of_ble_eq_true rfl) dX0_ofOne_41 ⟨Nat.zero_le _, Nat.zero_le _⟩ (fun H locs hP hD hS => ?_)
    have hP : va_P (dC, dI) vwCl (xW h0 ((f_X0_keep (rk) (rn) (p1) ((-(p2).toInt64))).2.1, (f_X0_keep (rk) (rn) (p1) ((-(p2).toInt64))).2.2, ma, mb, mc, md, me, mf, mx, my)) H := hP
    have hD : va_D A (xW h0 ((f_X0_keep (rk) (rn) (p1) ((-(p2).toInt64))).2.1, (f_X0_keep (rk) (rn) (p1) ((-(p2).toInt64))).2.2, ma, mb, mc, md, me, mf, mx, my)) := hD
    have hE : f_X0_ofOne rk rn p0 p1 p2 = (f_X0_keep (rk) (rn) (p1) ((-(p2).toInt64))) := (by rw [f_X0_ofOne, if_pos c_1])
    exact x_iret hx hb hr hlocks hP hD hK hS dX0_ofOne_44 ⟨by rw [hE], by rw [hE]⟩
  by_cases c_2 : p0 = 1
  · skip
    refine lv_lookup (tgt := 45) (off := 44) hx hb dX0_ofOne_1 (by decide) (by rw [c_2]; decide) (by decide) ?_
    refine lv_aload_n hx hb dX0_ofOne_45 rfl (lv_at hl 0 rfl) ?_
    refine lv_iload_n hx hb dX0_ofOne_46 rfl (lv_at hl 2 rfl) ?_
    refine lv_iload_n hx hb dX0_ofOne_47 rfl (lv_at hl 3 rfl) ?_
    refine lv_i2l (v := (p2).toInt64) hx hb dX0_ofOne_48 rfl ?_
    refine va_mabs_long (own := RX0) hx hb (hml.trans hl.1.symm) hown (hts (.methodLink RX0 124 Lib.MathLoose.abs_long.x) (by decide +kernel)) (hts (.static Lib.MathLoose.abs_long.x) (by decide +kernel)) (hts (.initialized "java/lang/Math") (by decide +kernel)) (hts (.code Lib.MathLoose.abs_long.x Lib.MathLoose.abs_long.code 2 (some .long)) (by decide +kernel)) (Nat.le_of_ble_eq_true rfl) (Nat.le_of_ble_eq_true rfl) (Nat.zero_le _) (Nat.zero_le _) dX0_ofOne_49 ?_
    refine xc_i (As := [.int p1, .long (if 0 < (p2).toInt64 then (p2).toInt64 else -(p2).toInt64)]) (rest := []) ⟨hx, hb, hml, hown, hts⟩ (cc_X0_keep l dC dI h0 _ (rk) (rn) (ma) (mb) (mc) (md) (me) (mf) (mx) (my) (p1) ((if 0 < (p2).toInt64 then (p2).toInt64 else -(p2).toInt64))) 2 gX0_ofOne_X0_keep rfl rfl rfl hdV_X0_keep ⟨Nat.le_of_ble_eq_true rfl, Nat.le_of_ble_eq_true rfl⟩ hP hD hK hS hA htb rfl hl.1 rfl (Nat.le_of_ble_eq_true rfl) dX0_ofOne_52 ⟨Nat.zero_le _, Nat.zero_le _⟩ (fun H locs hP hD hS => ?_)
    have hP : va_P (dC, dI) vwCl (xW h0 ((f_X0_keep (rk) (rn) (p1) ((if 0 < (p2).toInt64 then (p2).toInt64 else -(p2).toInt64))).2.1, (f_X0_keep (rk) (rn) (p1) ((if 0 < (p2).toInt64 then (p2).toInt64 else -(p2).toInt64))).2.2, ma, mb, mc, md, me, mf, mx, my)) H := hP
    have hD : va_D A (xW h0 ((f_X0_keep (rk) (rn) (p1) ((if 0 < (p2).toInt64 then (p2).toInt64 else -(p2).toInt64))).2.1, (f_X0_keep (rk) (rn) (p1) ((if 0 < (p2).toInt64 then (p2).toInt64 else -(p2).toInt64))).2.2, ma, mb, mc, md, me, mf, mx, my)) := hD
    have hE : f_X0_ofOne rk rn p0 p1 p2 = (f_X0_keep (rk) (rn) (p1) ((if 0 < (p2).toInt64 then (p2).toInt64 else -(p2).toInt64))) := (by rw [f_X0_ofOne, if_neg c_1, if_pos c_2])
    exact x_iret hx hb hr hlocks hP hD hK hS dX0_ofOne_55 ⟨by rw [hE], by rw [hE]⟩
  by_cases c_3 : p0 = 9
  · skip
    refine lv_lookup (tgt := 56) (off := 55) hx hb dX0_ofOne_1 (by decide) (by rw [c_3]; decide) (by decide) ?_
    refine lv_aload_n hx hb dX0_ofOne_56 rfl (lv_at hl 0 rfl) ?_
    refine lv_iconst (v := 1) hx hb dX0_ofOne_57 (by decide) ?_
    refine lv_iload_n hx hb dX0_ofOne_58 rfl (lv_at hl 2 rfl) ?_
    refine lv_iconst (v := 1) hx hb dX0_ofOne_59 (by decide) ?_
    refine lv_icmp_ne (tgt := 68) hx hb dX0_ofOne_60 (by decide) (fun c_4 => ?_) (fun c_4 => ?_)
    · skip
      refine lv_iload_n hx hb dX0_ofOne_68 rfl (lv_at hl 3 rfl) ?_
      refine lv_ldc (v := 65536) hx hb hown (hts (.constant RX0 15 (65536)) (by decide +kernel)) dX0_ofOne_69 ?_
      refine lv_idiv hx hb dX0_ofOne_71 (by decide) ?_
      refine lv_i2l (v := ((p2 / 65536)).toInt64) hx hb dX0_ofOne_72 rfl ?_
      refine xc_i (As := [.int 1, .long ((p2 / 65536)).toInt64]) (rest := []) ⟨hx, hb, hml, hown, hts⟩ (cc_X0_keep l dC dI h0 _ (rk) (rn) (ma) (mb) (mc) (md) (me) (mf) (mx) (my) (1) (((p2 / 65536)).toInt64)) 2 gX0_ofOne_X0_keep rfl rfl rfl hdV_X0_keep ⟨Nat.le_of_ble_eq_true rfl, Nat.le_of_ble_eq_true rfl⟩ hP hD hK hS hA htb rfl hl.1 rfl (Nat.le_of_ble_eq_true rfl) dX0_ofOne_73 ⟨Nat.zero_le _, Nat.zero_le _⟩ (fun H locs hP hD hS => ?_)
      have hP : va_P (dC, dI) vwCl (xW h0 ((f_X0_keep (rk) (rn) (1) (((p2 / 65536)).toInt64)).2.1, (f_X0_keep (rk) (rn) (1) (((p2 / 65536)).toInt64)).2.2, ma, mb, mc, md, me, mf, mx, my)) H := hP
      have hD : va_D A (xW h0 ((f_X0_keep (rk) (rn) (1) (((p2 / 65536)).toInt64)).2.1, (f_X0_keep (rk) (rn) (1) (((p2 / 65536)).toInt64)).2.2, ma, mb, mc, md, me, mf, mx, my)) := hD
      have hE : f_X0_ofOne rk rn p0 p1 p2 = (f_X0_keep (rk) (rn) (1) (((p2 / 65536)).toInt64)) := (by rw [f_X0_ofOne, if_neg c_1, if_neg c_2, if_pos c_3, if_neg c_4])
      exact x_iret hx hb hr hlocks hP hD hK hS dX0_ofOne_76 ⟨by rw [hE], by rw [hE]⟩
    · skip
      refine lv_iload_n hx hb dX0_ofOne_63 rfl (lv_at hl 3 rfl) ?_
      refine lv_i2l (v := (p2).toInt64) hx hb dX0_ofOne_64 rfl ?_
      refine lv_goto (tgt := 73) hx hb dX0_ofOne_65 (by decide) ?_
      refine xc_i (As := [.int 1, .long (p2).toInt64]) (rest := []) ⟨hx, hb, hml, hown, hts⟩ (cc_X0_keep l dC dI h0 _ (rk) (rn) (ma) (mb) (mc) (md) (me) (mf) (mx) (my) (1) ((p2).toInt64)) 2 gX0_ofOne_X0_keep rfl rfl rfl hdV_X0_keep ⟨Nat.le_of_ble_eq_true rfl, Nat.le_of_ble_eq_true rfl⟩ hP hD hK hS hA htb rfl hl.1 rfl (Nat.le_of_ble_eq_true rfl) dX0_ofOne_73 ⟨Nat.zero_le _, Nat.zero_le _⟩ (fun H locs hP hD hS => ?_)
      have hP : va_P (dC, dI) vwCl (xW h0 ((f_X0_keep (rk) (rn) (1) ((p2).toInt64)).2.1, (f_X0_keep (rk) (rn) (1) ((p2).toInt64)).2.2, ma, mb, mc, md, me, mf, mx, my)) H := hP
      have hD : va_D A (xW h0 ((f_X0_keep (rk) (rn) (1) ((p2).toInt64)).2.1, (f_X0_keep (rk) (rn) (1) ((p2).toInt64)).2.2, ma, mb, mc, md, me, mf, mx, my)) := hD
      have hE : f_X0_ofOne rk rn p0 p1 p2 = (f_X0_keep (rk) (rn) (1) ((p2).toInt64)) := (by rw [f_X0_ofOne, if_neg c_1, if_neg c_2, if_pos c_3, if_pos c_4])
      exact x_iret hx hb hr hlocks hP hD hK hS dX0_ofOne_76 ⟨by rw [hE], by rw [hE]⟩
  refine lv_lookup (tgt := 77) (off := 76) hx hb dX0_ofOne_1 (by decide) (by show Op.lookupswitch.offset [(0, 35), (1, 44), (9, 55)] 76 p0.toInt = 76; rw [lv_osw (k := 0) c_1 (by decide), lv_osw (k := 1) c_2 (by decide), lv_osw (k := 9) c_3 (by decide)]; rfl) (by decide) ?_
  refine lv_aload_n hx hb dX0_ofOne_77 rfl (lv_at hl 0 rfl) ?_
  refine lv_iload_n hx hb dX0_ofOne_78 rfl (lv_at hl 2 rfl) ?_
  refine lv_iload_n hx hb dX0_ofOne_79 rfl (lv_at hl 2 rfl) ?_
  refine lv_iconst (v := 1) hx hb dX0_ofOne_80 (by decide) ?_
  refine lv_icmp_ne (tgt := 89) hx hb dX0_ofOne_81 (by decide) (fun c_5 => ?_) (fun c_5 => ?_)
  · skip
    refine lv_iload_n hx hb dX0_ofOne_89 rfl (lv_at hl 1 rfl) ?_
    refine lv_iload_n hx hb dX0_ofOne_90 rfl (lv_at hl 3 rfl) ?_
    refine lv_i2l (v := (p2).toInt64) hx hb dX0_ofOne_91 rfl ?_
    refine pu_Sl (As := [.int p0, .long (p2).toInt64]) (rest := [.int p1, .ref h0]) ⟨hx, hb, hml, hown, hts⟩ (cc_X0_cut l _ (p0) ((p2).toInt64)) 2 gX0_ofOne_X0_cut rfl rfl rfl hdS_X0_cut ⟨Nat.le_of_ble_eq_true rfl, Nat.le_of_ble_eq_true rfl⟩ kN_ok kN_at rfl hl.1 rfl (Nat.le_of_ble_eq_true rfl) dX0_ofOne_92 ⟨Nat.zero_le _, Nat.zero_le _⟩ ?_
    refine xc_i (As := [.int p1, .long (f_X0_cut (p0) ((p2).toInt64))]) (rest := []) ⟨hx, hb, hml, hown, hts⟩ (cc_X0_keep l dC dI h0 _ (rk) (rn) (ma) (mb) (mc) (md) (me) (mf) (mx) (my) (p1) ((f_X0_cut (p0) ((p2).toInt64)))) 2 gX0_ofOne_X0_keep rfl rfl rfl hdV_X0_keep ⟨Nat.le_of_ble_eq_true rfl, Nat.le_of_ble_eq_true rfl⟩ hP hD hK hS hA htb rfl hl.1 rfl (Nat.le_of_ble_eq_true rfl) dX0_ofOne_95 ⟨Nat.zero_le _, Nat.zero_le _⟩ (fun H locs hP hD hS => ?_)
    have hP : va_P (dC, dI) vwCl (xW h0 ((f_X0_keep (rk) (rn) (p1) ((f_X0_cut (p0) ((p2).toInt64)))).2.1, (f_X0_keep (rk) (rn) (p1) ((f_X0_cut (p0) ((p2).toInt64)))).2.2, ma, mb, mc, md, me, mf, mx, my)) H := hP
    have hD : va_D A (xW h0 ((f_X0_keep (rk) (rn) (p1) ((f_X0_cut (p0) ((p2).toInt64)))).2.1, (f_X0_keep (rk) (rn) (p1) ((f_X0_cut (p0) ((p2).toInt64)))).2.2, ma, mb, mc, md, me, mf, mx, my)) := hD
    have hE : f_X0_ofOne rk rn p0 p1 p2 = (f_X0_keep (rk) (rn) (p1) ((f_X0_cut (p0) ((p2).toInt64)))) := (by rw [f_X0_ofOne, if_neg c_1, if_neg c_2, if_neg c_3, if_neg c_5])
    exact x_iret hx hb hr hlocks hP hD hK hS dX0_ofOne_98 ⟨by rw [hE], by rw [hE]⟩
  · skip
    refine lv_iload_n hx hb dX0_ofOne_84 rfl (lv_at hl 3 rfl) ?_
    refine lv_i2l (v := (p2).toInt64) hx hb dX0_ofOne_85 rfl ?_
    refine lv_goto (tgt := 95) hx hb dX0_ofOne_86 (by decide) ?_
    refine xc_i (As := [.int p1, .long (p2).toInt64]) (rest := []) ⟨hx, hb, hml, hown, hts⟩ (cc_X0_keep l dC dI h0 _ (rk) (rn) (ma) (mb) (mc) (md) (me) (mf) (mx) (my) (p1) ((p2).toInt64)) 2 gX0_ofOne_X0_keep rfl rfl rfl hdV_X0_keep ⟨Nat.le_of_ble_eq_true rfl, Nat.le_of_ble_eq_true rfl⟩ hP hD hK hS hA htb rfl hl.1 rfl (Nat.le_of_ble_eq_true rfl) dX0_ofOne_95 ⟨Nat.zero_le _, Nat.zero_le _⟩ (fun H locs hP hD hS => ?_)
    have hP : va_P (dC, dI) vwCl (xW h0 ((f_X0_keep (rk) (rn) (p1) ((p2).toInt64)).2.1, (f_X0_keep (rk) (rn) (p1) ((p2).toInt64)).2.2, ma, mb, mc, md, me, mf, mx, my)) H := hP
    have hD : va_D A (xW h0 ((f_X0_keep (rk) (rn) (p1) ((p2).toInt64)).2.1, (f_X0_keep (rk) (rn) (p1) ((p2).toInt64)).2.2, ma, mb, mc, md, me, mf, mx, my)) := hD
    have hE : f_X0_ofOne rk rn p0 p1 p2 = (f_X0_keep (rk) (rn) (p1) ((p2).toInt64)) := (by rw [f_X0_ofOne, if_neg c_1, if_neg c_2, if_neg c_3, if_pos c_5])
    exact x_iret hx hb hr hlocks hP hD hK hS dX0_ofOne_98 ⟨by rw [hE], by rw [hE]⟩
theorem hdV_X0_ofReal : yX0_ofReal.cls = RX0 ∧ yX0_ofReal.cls ≠ "java/lang/invoke/MethodHandle" ∧ yX0_ofReal.cls ≠ "java/lang/invoke/VarHandle" ∧ (parseMethodDescriptor yX0_ofReal.desc).map (fun d => d.parameters.length) = some 2 := by decide +kernel
theorem fi_X0_ofReal : ∀ w ∈ wsX00, w ∈ wsX0_ofReal := fun _ h => List.mem_cons_of_mem _ (List.mem_append_right _ h)
def f_X0_ofReal (rk : Int32) (rn : Int32) (p0 : Int32) (p1 : Int64) : Int32 × Int32 × Int32 := if p0 = 6 then (if p1 < 0 then (((-3), rk, rn)) else ((f_X0_keep (rk) (rn) (2) ((f_X0_root (p1)))))) else (if p0 = 7 then ((f_X0_keep (rk) (rn) (2) ((f_X0_sine (p1))))) else (if p0 = 8 then ((f_X0_keep (rk) (rn) (2) ((f_X0_sine ((p1 + 5898240)))))) else ((f_X0_keep (rk) (rn) (2) (p1)))))
abbrev rm_X0_ofReal : Room := { frames := 3, cells := 0, slots := 0, locals := 120 }
set_option maxHeartbeats 4000000 in
set_option maxRecDepth 100000 in
theorem cc_X0_ofReal (l : Launch) (dC : Nat → ClassId) (dI : Nat → Nat → Nat) (h0 sz : Nat) (rk rn ma mb mc md me mf mx my : Int32) (p0 : Int32) (p1 : Int64)   : Met l yX0_ofReal wsX0_ofReal rm_X0_ofReal (va_Pc [.ref h0, .int p0, .long p1] (xPre dC dI h0 sz (rk, rn, ma, mb, mc, md, me, mf, mx, my))) (xQi dC dI h0 (va_A (xW h0 (rk, rn, ma, mb, mc, md, me, mf, mx, my)) sz) ((f_X0_ofReal rk rn p0 p1).1) ((f_X0_ofReal rk rn p0 p1).2.1, (f_X0_ofReal rk rn p0 p1).2.2, ma, mb, mc, md, me, mf, mx, my)) 0 0 (va_A (xW h0 (rk, rn, ma, mb, mc, md, me, mf, mx, my)) sz) := by
  refine x_headi (cc := cX0_ofReal) (maxL := 4) (ret := some .int) (by decide) rfl rfl (Nat.le_of_ble_eq_true rfl) ?_
  intro p e s m below meth c ls A hx hb hr hlocks hml hown hts hA hP hD hK htb hS hl
  have hl : lv_has ls 4 [(0, .ref h0), (1, .int p0), (2, .long p1)] := hl
  refine lv_iload_n hx hb dX0_ofReal_0 rfl (lv_at hl 1 rfl) ?_
  by_cases c_1 : p0 = 6
  · skip
    refine lv_tableIn (tgt := 28) (off := 27) hx hb dX0_ofReal_1 (by rw [c_1]; decide) (by rw [c_1]; decide) (by rw [c_1]; decide) (by decide) ?_
    refine lv_lload_n hx hb dX0_ofReal_28 rfl (lv_at hl 2 rfl) ?_
    refine lv_lconst (v := 0) hx hb dX0_ofReal_29 (by decide) ?_
    refine pl_ge (tgt := 39) hx hb dX0_ofReal_30 dX0_ofReal_31 (by decide) (fun c_2 => ?_) (fun c_2 => ?_)
    · skip
      refine lv_aload_n hx hb dX0_ofReal_39 rfl (lv_at hl 0 rfl) ?_
      refine lv_iconst (v := 2) hx hb dX0_ofReal_40 (by decide) ?_
      refine lv_lload_n hx hb dX0_ofReal_41 rfl (lv_at hl 2 rfl) ?_
      refine pu_Sl (As := [.long p1]) (rest := [.int 2, .ref h0]) ⟨hx, hb, hml, hown, hts⟩ (cc_X0_root l _ (p1)) 1 gX0_ofReal_X0_root rfl rfl rfl hdS_X0_root ⟨Nat.le_of_ble_eq_true rfl, Nat.le_of_ble_eq_true rfl⟩ kN_ok kN_at rfl hl.1 rfl (Nat.le_of_ble_eq_true rfl) dX0_ofReal_42 ⟨Nat.zero_le _, Nat.zero_le _⟩ ?_
      refine xc_i (As := [.int 2, .long (f_X0_root (p1))]) (rest := []) ⟨hx, hb, hml, hown, hts⟩ (cc_X0_keep l dC dI h0 _ (rk) (rn) (ma) (mb) (mc) (md) (me) (mf) (mx) (my) (2) ((f_X0_root (p1)))) 2 gX0_ofReal_X0_keep rfl rfl rfl hdV_X0_keep ⟨Nat.le_of_ble_eq_true rfl, Nat.le_of_ble_eq_true rfl⟩ hP hD hK hS hA htb rfl hl.1 rfl (Nat.le_of_ble_eq_true rfl) dX0_ofReal_45 ⟨Nat.zero_le _, Nat.zero_le _⟩ (fun H locs hP hD hS => ?_)
      have hP : va_P (dC, dI) vwCl (xW h0 ((f_X0_keep (rk) (rn) (2) ((f_X0_root (p1)))).2.1, (f_X0_keep (rk) (rn) (2) ((f_X0_root (p1)))).2.2, ma, mb, mc, md, me, mf, mx, my)) H := hP
      have hD : va_D A (xW h0 ((f_X0_keep (rk) (rn) (2) ((f_X0_root (p1)))).2.1, (f_X0_keep (rk) (rn) (2) ((f_X0_root (p1)))).2.2, ma, mb, mc, md, me, mf, mx, my)) := hD
      have hE : f_X0_ofReal rk rn p0 p1 = (f_X0_keep (rk) (rn) (2) ((f_X0_root (p1)))) := (by rw [f_X0_ofReal, if_pos c_1, if_neg c_2])
      exact x_iret hx hb hr hlocks hP hD hK hS dX0_ofReal_48 ⟨by rw [hE], by rw [hE]⟩
    · skip
      refine lv_bipush (v := (-3)) hx hb dX0_ofReal_34 (by decide) ?_
      refine lv_goto (tgt := 48) hx hb dX0_ofReal_36 (by decide) ?_
      have hE : f_X0_ofReal rk rn p0 p1 = ((-3), rk, rn) := (by rw [f_X0_ofReal, if_pos c_1, if_pos c_2])
      exact x_iret hx hb hr hlocks hP hD hK hS dX0_ofReal_48 ⟨by rw [hE], by rw [hE]⟩
  by_cases c_3 : p0 = 7
  · skip
    refine lv_tableIn (tgt := 49) (off := 48) hx hb dX0_ofReal_1 (by rw [c_3]; decide) (by rw [c_3]; decide) (by rw [c_3]; decide) (by decide) ?_
    refine lv_aload_n hx hb dX0_ofReal_49 rfl (lv_at hl 0 rfl) ?_
    refine lv_iconst (v := 2) hx hb dX0_ofReal_50 (by decide) ?_
    refine lv_lload_n hx hb dX0_ofReal_51 rfl (lv_at hl 2 rfl) ?_
    refine pu_Sl (As := [.long p1]) (rest := [.int 2, .ref h0]) ⟨hx, hb, hml, hown, hts⟩ (cc_X0_sine l _ (p1)) 1 gX0_ofReal_X0_sine rfl rfl rfl hdS_X0_sine ⟨Nat.le_of_ble_eq_true rfl, Nat.le_of_ble_eq_true rfl⟩ (kT_ok _) (kT_of htb hS) rfl hl.1 rfl (Nat.le_of_ble_eq_true rfl) dX0_ofReal_52 ⟨Nat.zero_le _, Nat.zero_le _⟩ ?_
    refine xc_i (As := [.int 2, .long (f_X0_sine (p1))]) (rest := []) ⟨hx, hb, hml, hown, hts⟩ (cc_X0_keep l dC dI h0 _ (rk) (rn) (ma) (mb) (mc) (md) (me) (mf) (mx) (my) (2) ((f_X0_sine (p1)))) 2 gX0_ofReal_X0_keep rfl rfl rfl hdV_X0_keep ⟨Nat.le_of_ble_eq_true rfl, Nat.le_of_ble_eq_true rfl⟩ hP hD hK hS hA htb rfl hl.1 rfl (Nat.le_of_ble_eq_true rfl) dX0_ofReal_55 ⟨Nat.zero_le _, Nat.zero_le _⟩ (fun H locs hP hD hS => ?_)
    have hP : va_P (dC, dI) vwCl (xW h0 ((f_X0_keep (rk) (rn) (2) ((f_X0_sine (p1)))).2.1, (f_X0_keep (rk) (rn) (2) ((f_X0_sine (p1)))).2.2, ma, mb, mc, md, me, mf, mx, my)) H := hP
    have hD : va_D A (xW h0 ((f_X0_keep (rk) (rn) (2) ((f_X0_sine (p1)))).2.1, (f_X0_keep (rk) (rn) (2) ((f_X0_sine (p1)))).2.2, ma, mb, mc, md, me, mf, mx, my)) := hD
    have hE : f_X0_ofReal rk rn p0 p1 = (f_X0_keep (rk) (rn) (2) ((f_X0_sine (p1)))) := (by rw [f_X0_ofReal, if_neg c_1, if_pos c_3])
    exact x_iret hx hb hr hlocks hP hD hK hS dX0_ofReal_58 ⟨by rw [hE], by rw [hE]⟩
  by_cases c_4 : p0 = 8
  · skip
    refine lv_tableIn (tgt := 59) (off := 58) hx hb dX0_ofReal_1 (by rw [c_4]; decide) (by rw [c_4]; decide) (by rw [c_4]; decide) (by decide) ?_
    refine lv_aload_n hx hb dX0_ofReal_59 rfl (lv_at hl 0 rfl) ?_
    refine lv_iconst (v := 2) hx hb dX0_ofReal_60 (by decide) ?_
    refine lv_lload_n hx hb dX0_ofReal_61 rfl (lv_at hl 2 rfl) ?_
    refine lv_ldc2 (v := 5898240) hx hb hown (hts (.constantLong RX0 139 (5898240)) (by decide +kernel)) dX0_ofReal_62 ?_
    refine lv_ladd hx hb dX0_ofReal_65 ?_
    refine pu_Sl (As := [.long (p1 + 5898240)]) (rest := [.int 2, .ref h0]) ⟨hx, hb, hml, hown, hts⟩ (cc_X0_sine l _ ((p1 + 5898240))) 1 gX0_ofReal_X0_sine rfl rfl rfl hdS_X0_sine ⟨Nat.le_of_ble_eq_true rfl, Nat.le_of_ble_eq_true rfl⟩ (kT_ok _) (kT_of htb hS) rfl hl.1 rfl (Nat.le_of_ble_eq_true rfl) dX0_ofReal_66 ⟨Nat.zero_le _, Nat.zero_le _⟩ ?_
    refine xc_i (As := [.int 2, .long (f_X0_sine ((p1 + 5898240)))]) (rest := []) ⟨hx, hb, hml, hown, hts⟩ (cc_X0_keep l dC dI h0 _ (rk) (rn) (ma) (mb) (mc) (md) (me) (mf) (mx) (my) (2) ((f_X0_sine ((p1 + 5898240))))) 2 gX0_ofReal_X0_keep rfl rfl rfl hdV_X0_keep ⟨Nat.le_of_ble_eq_true rfl, Nat.le_of_ble_eq_true rfl⟩ hP hD hK hS hA htb rfl hl.1 rfl (Nat.le_of_ble_eq_true rfl) dX0_ofReal_69 ⟨Nat.zero_le _, Nat.zero_le _⟩ (fun H locs hP hD hS => ?_)
    have hP : va_P (dC, dI) vwCl (xW h0 ((f_X0_keep (rk) (rn) (2) ((f_X0_sine ((p1 + 5898240))))).2.1, (f_X0_keep (rk) (rn) (2) ((f_X0_sine ((p1 + 5898240))))).2.2, ma, mb, mc, md, me, mf, mx, my)) H := hP
    have hD : va_D A (xW h0 ((f_X0_keep (rk) (rn) (2) ((f_X0_sine ((p1 + 5898240))))).2.1, (f_X0_keep (rk) (rn) (2) ((f_X0_sine ((p1 + 5898240))))).2.2, ma, mb, mc, md, me, mf, mx, my)) := hD
    have hE : f_X0_ofReal rk rn p0 p1 = (f_X0_keep (rk) (rn) (2) ((f_X0_sine ((p1 + 5898240))))) := (by rw [f_X0_ofReal, if_neg c_1, if_neg c_3, if_pos c_4])
    exact x_iret hx hb hr hlocks hP hD hK hS dX0_ofReal_72 ⟨by rw [hE], by rw [hE]⟩
  refine lv_tableOut (tgt := 73) hx hb dX0_ofReal_1 (by have q6 : p0.toInt ≠ 6 := fun q => c_1 (Int32.toInt_inj.mp (q.trans (by decide))); have q7 : p0.toInt ≠ 7 := fun q => c_3 (Int32.toInt_inj.mp (q.trans (by decide))); have q8 : p0.toInt ≠ 8 := fun q => c_4 (Int32.toInt_inj.mp (q.trans (by decide))); omega) (by decide) ?_
  refine lv_aload_n hx hb dX0_ofReal_73 rfl (lv_at hl 0 rfl) ?_
  refine lv_iconst (v := 2) hx hb dX0_ofReal_74 (by decide) ?_
  refine lv_lload_n hx hb dX0_ofReal_75 rfl (lv_at hl 2 rfl) ?_
  refine xc_i (As := [.int 2, .long p1]) (rest := []) ⟨hx, hb, hml, hown, hts⟩ (cc_X0_keep l dC dI h0 _ (rk) (rn) (ma) (mb) (mc) (md) (me) (mf) (mx) (my) (2) (p1)) 2 gX0_ofReal_X0_keep rfl rfl rfl hdV_X0_keep ⟨Nat.le_of_ble_eq_true rfl, Nat.le_of_ble_eq_true rfl⟩ hP hD hK hS hA htb rfl hl.1 rfl (Nat.le_of_ble_eq_true rfl) dX0_ofReal_76 ⟨Nat.zero_le _, Nat.zero_le _⟩ (fun H locs hP hD hS => ?_)
  have hP : va_P (dC, dI) vwCl (xW h0 ((f_X0_keep (rk) (rn) (2) (p1)).2.1, (f_X0_keep (rk) (rn) (2) (p1)).2.2, ma, mb, mc, md, me, mf, mx, my)) H := hP
  have hD : va_D A (xW h0 ((f_X0_keep (rk) (rn) (2) (p1)).2.1, (f_X0_keep (rk) (rn) (2) (p1)).2.2, ma, mb, mc, md, me, mf, mx, my)) := hD
  have hE : f_X0_ofReal rk rn p0 p1 = (f_X0_keep (rk) (rn) (2) (p1)) := (by rw [f_X0_ofReal, if_neg c_1, if_neg c_3, if_neg c_4])
  exact x_iret hx hb hr hlocks hP hD hK hS dX0_ofReal_79 ⟨by rw [hE], by rw [hE]⟩
theorem hdV_X0_two : yX0_two.cls = RX0 ∧ yX0_two.cls ≠ "java/lang/invoke/MethodHandle" ∧ yX0_two.cls ≠ "java/lang/invoke/VarHandle" ∧ (parseMethodDescriptor yX0_two.desc).map (fun d => d.parameters.length) = some 5 := by decide +kernel
theorem fi_X0_two : ∀ w ∈ wsX00, w ∈ wsX0_two := fun _ h => List.mem_cons_of_mem _ (List.mem_append_right _ h)
def f_X0_two (rk : Int32) (rn : Int32) (p0 : Int32) (p1 : Int32) (p2 : Int32) (p3 : Int32) (p4 : Int32) : Int32 × Int32 × Int32 := if p0 < 0 then (((-1), rk, rn)) else (if 10 < p0 then (((-1), rk, rn)) else (if (f_X0_isValue (p1) (p2)) = 0 then (((-1), rk, rn)) else (if (f_X0_isValue (p3) (p4)) = 0 then (((-1), rk, rn)) else (if p1 = 1 then (if p3 = 1 then (if p0 = 3 then (if (f_X0_isReal ((f_X0_units (p1) (p2)))) = 0 then (((-2), rk, rn)) else (if (f_X0_isReal ((f_X0_units (p3) (p4)))) = 0 then (((-2), rk, rn)) else ((f_X0_ofReals (rk) (rn) (p0) ((f_X0_units (p1) (p2))) ((f_X0_units (p3) (p4))))))) else (if p0 = 6 then (if (f_X0_isReal ((f_X0_units (p1) (p2)))) = 0 then (((-2), rk, rn)) else (if (f_X0_isReal ((f_X0_units (p3) (p4)))) = 0 then (((-2), rk, rn)) else ((f_X0_ofReals (rk) (rn) (p0) ((f_X0_units (p1) (p2))) ((f_X0_units (p3) (p4))))))) else ((f_X0_ofWholes (rk) (rn) (p0) (p2) (p4))))) else (if (f_X0_isForWholesAlone (p0)) = 0 then (if (f_X0_isReal ((f_X0_units (p1) (p2)))) = 0 then (((-2), rk, rn)) else (if (f_X0_isReal ((f_X0_units (p3) (p4)))) = 0 then (((-2), rk, rn)) else ((f_X0_ofReals (rk) (rn) (p0) ((f_X0_units (p1) (p2))) ((f_X0_units (p3) (p4))))))) else (((-4), rk, rn)))) else (if (f_X0_isForWholesAlone (p0)) = 0 then (if (f_X0_isReal ((f_X0_units (p1) (p2)))) = 0 then (((-2), rk, rn)) else (if (f_X0_isReal ((f_X0_units (p3) (p4)))) = 0 then (((-2), rk, rn)) else ((f_X0_ofReals (rk) (rn) (p0) ((f_X0_units (p1) (p2))) ((f_X0_units (p3) (p4))))))) else (((-4), rk, rn)))))))
abbrev rm_X0_two : Room := { frames := 6, cells := 0, slots := 0, locals := 254 }
set_option maxHeartbeats 4000000 in
set_option maxRecDepth 100000 in
theorem cc_X0_two (l : Launch) (dC : Nat → ClassId) (dI : Nat → Nat → Nat) (h0 sz : Nat) (rk rn ma mb mc md me mf mx my : Int32) (p0 : Int32) (p1 : Int32) (p2 : Int32) (p3 : Int32) (p4 : Int32)   : Met l yX0_two wsX0_two rm_X0_two (va_Pc [.ref h0, .int p0, .int p1, .int p2, .int p3, .int p4] (xPre dC dI h0 sz (rk, rn, ma, mb, mc, md, me, mf, mx, my))) (xQi dC dI h0 (va_A (xW h0 (rk, rn, ma, mb, mc, md, me, mf, mx, my)) sz) ((f_X0_two rk rn p0 p1 p2 p3 p4).1) ((f_X0_two rk rn p0 p1 p2 p3 p4).2.1, (f_X0_two rk rn p0 p1 p2 p3 p4).2.2, ma, mb, mc, md, me, mf, mx, my)) 0 0 (va_A (xW h0 (rk, rn, ma, mb, mc, md, me, mf, mx, my)) sz) := by
  refine x_headi (cc := cX0_two) (maxL := 11) (ret := some .int) (by decide) rfl rfl (Nat.le_of_ble_eq_true rfl) ?_
  intro p e s m below meth c ls A hx hb hr hlocks hml hown hts hA hP hD hK htb hS hl
  have hl : lv_has ls 11 [(0, .ref h0), (1, .int p0), (2, .int p1), (3, .int p2), (4, .int p3), (5, .int p4)] := hl
  refine lv_iload_n hx hb dX0_two_0 rfl (lv_at hl 1 rfl) ?_
  refine lv_if_lt (tgt := 28) hx hb dX0_two_1 (by decide) (fun c_1 => ?_) (fun c_1 => ?_)
  · skip
    refine lv_iconst (v := (-1)) hx hb dX0_two_28 (by decide) ?_
    have hE : f_X0_two rk rn p0 p1 p2 p3 p4 = ((-1), rk, rn) := (by rw [f_X0_two, if_pos c_1])
    exact x_iret hx hb hr hlocks hP hD hK hS dX0_two_29 ⟨by rw [hE], by rw [hE]⟩
  · skip
    refine lv_iload_n hx hb dX0_two_4 rfl (lv_at hl 1 rfl) ?_
    refine lv_bipush (v := 10) hx hb dX0_two_5 (by decide) ?_
    refine pi_gt (tgt := 28) hx hb dX0_two_7 (by decide) (fun c_2 => ?_) (fun c_2 => ?_)
    · skip
      refine lv_iconst (v := (-1)) hx hb dX0_two_28 (by decide) ?_
      have hE : f_X0_two rk rn p0 p1 p2 p3 p4 = ((-1), rk, rn) := (by rw [f_X0_two, if_neg c_1, if_pos c_2])
      exact x_iret hx hb hr hlocks hP hD hK hS dX0_two_29 ⟨by rw [hE], by rw [hE]⟩
    · skip
      refine lv_iload_n hx hb dX0_two_10 rfl (lv_at hl 2 rfl) ?_
      refine lv_iload_n hx hb dX0_two_11 rfl (lv_at hl 3 rfl) ?_
      refine pu_Si (As := [.int p1, .int p2]) (rest := []) ⟨hx, hb, hml, hown, hts⟩ (cc_X0_isValue l _ (p1) (p2)) 2 gX0_two_X0_isValue rfl rfl rfl hdS_X0_isValue ⟨Nat.le_of_ble_eq_true rfl, Nat.le_of_ble_eq_true rfl⟩ kN_ok kN_at rfl hl.1 rfl (Nat.le_of_ble_eq_true rfl) dX0_two_12 ⟨Nat.zero_le _, Nat.zero_le _⟩ ?_
      refine lv_if_eq (tgt := 28) hx hb dX0_two_15 (by decide) (fun c_3 => ?_) (fun c_3 => ?_)
      · skip
        refine lv_iconst (v := (-1)) hx hb dX0_two_28 (by decide) ?_
        have hE : f_X0_two rk rn p0 p1 p2 p3 p4 = ((-1), rk, rn) := (by rw [f_X0_two, if_neg c_1, if_neg c_2, if_pos c_3])
        exact x_iret hx hb hr hlocks hP hD hK hS dX0_two_29 ⟨by rw [hE], by rw [hE]⟩
      · skip
        refine lv_iload hx hb dX0_two_18 (lv_at hl 4 rfl) ?_
        refine lv_iload hx hb dX0_two_20 (lv_at hl 5 rfl) ?_
        refine pu_Si (As := [.int p3, .int p4]) (rest := []) ⟨hx, hb, hml, hown, hts⟩ (cc_X0_isValue l _ (p3) (p4)) 2 gX0_two_X0_isValue rfl rfl rfl hdS_X0_isValue ⟨Nat.le_of_ble_eq_true rfl, Nat.le_of_ble_eq_true rfl⟩ kN_ok kN_at rfl hl.1 rfl (Nat.le_of_ble_eq_true rfl) dX0_two_22 ⟨Nat.zero_le _, Nat.zero_le _⟩ ?_
        refine lv_if_ne (tgt := 30) hx hb dX0_two_25 (by decide) (fun c_4 => ?_) (fun c_4 => ?_)
        · skip
          refine lv_iload_n hx hb dX0_two_30 rfl (lv_at hl 2 rfl) ?_
          refine lv_iconst (v := 1) hx hb dX0_two_31 (by decide) ?_
          refine lv_icmp_ne (tgt := 45) hx hb dX0_two_32 (by decide) (fun c_5 => ?_) (fun c_5 => ?_)
          · skip
            refine lv_iconst (v := 0) hx hb dX0_two_45 (by decide) ?_
            refine lv_istore (lv' := [(6, .int 0), (0, .ref h0), (1, .int p0), (2, .int p1), (3, .int p2), (4, .int p3), (5, .int p4)]) hx hb dX0_two_46 hl (by decide) rfl (fun ls hl => ?_)
            refine lv_iload hx hb dX0_two_48 (lv_at hl 0 rfl) ?_
            refine lv_if_ne (tgt := 63) hx hb dX0_two_50 (by decide) (fun q => absurd (by decide) q) (fun _ => ?_)
            refine lv_iload_n hx hb dX0_two_53 rfl (lv_at hl 2 rfl) ?_
            refine pu_Si (As := [.int p0]) (rest := []) ⟨hx, hb, hml, hown, hts⟩ (cc_X0_isForWholesAlone l _ (p0)) 1 gX0_two_X0_isForWholesAlone rfl rfl rfl hdS_X0_isForWholesAlone ⟨Nat.le_of_ble_eq_true rfl, Nat.le_of_ble_eq_true rfl⟩ kN_ok kN_at rfl hl.1 rfl (Nat.le_of_ble_eq_true rfl) dX0_two_54 ⟨Nat.zero_le _, Nat.zero_le _⟩ ?_
            refine lv_if_eq (tgt := 63) hx hb dX0_two_57 (by decide) (fun c_7 => ?_) (fun c_7 => ?_)
            · skip
              refine lv_iload hx hb dX0_two_63 (lv_at hl 0 rfl) ?_
              refine lv_if_eq (tgt := 88) hx hb dX0_two_65 (by decide) (fun _ => ?_) (fun q => absurd (by decide) q)
              refine lv_iload_n hx hb dX0_two_88 rfl (lv_at hl 3 rfl) ?_
              refine lv_iload_n hx hb dX0_two_89 rfl (lv_at hl 4 rfl) ?_
              refine pu_Sl (As := [.int p1, .int p2]) (rest := []) ⟨hx, hb, hml, hown, hts⟩ (cc_X0_units l _ (p1) (p2)) 2 gX0_two_X0_units rfl rfl rfl hdS_X0_units ⟨Nat.le_of_ble_eq_true rfl, Nat.le_of_ble_eq_true rfl⟩ kN_ok kN_at rfl hl.1 rfl (Nat.le_of_ble_eq_true rfl) dX0_two_90 ⟨Nat.zero_le _, Nat.zero_le _⟩ ?_
              refine lv_lstore (lv' := [(7, .long (f_X0_units (p1) (p2))), (6, .int 0), (0, .ref h0), (1, .int p0), (2, .int p1), (3, .int p2), (4, .int p3), (5, .int p4)]) hx hb dX0_two_93 hl (by decide) rfl (fun ls hl => ?_)
              refine lv_iload hx hb dX0_two_95 (lv_at hl 6 rfl) ?_
              refine lv_iload hx hb dX0_two_97 (lv_at hl 7 rfl) ?_
              refine pu_Sl (As := [.int p3, .int p4]) (rest := []) ⟨hx, hb, hml, hown, hts⟩ (cc_X0_units l _ (p3) (p4)) 2 gX0_two_X0_units rfl rfl rfl hdS_X0_units ⟨Nat.le_of_ble_eq_true rfl, Nat.le_of_ble_eq_true rfl⟩ kN_ok kN_at rfl hl.1 rfl (Nat.le_of_ble_eq_true rfl) dX0_two_99 ⟨Nat.zero_le _, Nat.zero_le _⟩ ?_
              refine lv_lstore (lv' := [(9, .long (f_X0_units (p3) (p4))), (7, .long (f_X0_units (p1) (p2))), (6, .int 0), (0, .ref h0), (1, .int p0), (2, .int p1), (3, .int p2), (4, .int p3), (5, .int p4)]) hx hb dX0_two_102 hl (by decide) rfl (fun ls hl => ?_)
              refine lv_lload hx hb dX0_two_104 (lv_at hl 1 rfl) ?_
              refine pu_Si (As := [.long (f_X0_units (p1) (p2))]) (rest := []) ⟨hx, hb, hml, hown, hts⟩ (cc_X0_isReal l _ ((f_X0_units (p1) (p2)))) 1 gX0_two_X0_isReal rfl rfl rfl hdS_X0_isReal ⟨Nat.le_of_ble_eq_true rfl, Nat.le_of_ble_eq_true rfl⟩ kN_ok kN_at rfl hl.1 rfl (Nat.le_of_ble_eq_true rfl) dX0_two_106 ⟨Nat.zero_le _, Nat.zero_le _⟩ ?_
              refine lv_if_eq (tgt := 120) hx hb dX0_two_109 (by decide) (fun c_9 => ?_) (fun c_9 => ?_)
              · skip
                refine lv_bipush (v := (-2)) hx hb dX0_two_120 (by decide) ?_
                have hE : f_X0_two rk rn p0 p1 p2 p3 p4 = ((-2), rk, rn) := (by rw [f_X0_two, if_neg c_1, if_neg c_2, if_neg c_3, if_neg c_4, if_neg c_5, if_pos c_7, if_pos c_9])
                exact x_iret hx hb hr hlocks hP hD hK hS dX0_two_122 ⟨by rw [hE], by rw [hE]⟩
              · skip
                refine lv_lload hx hb dX0_two_112 (lv_at hl 0 rfl) ?_
                refine pu_Si (As := [.long (f_X0_units (p3) (p4))]) (rest := []) ⟨hx, hb, hml, hown, hts⟩ (cc_X0_isReal l _ ((f_X0_units (p3) (p4)))) 1 gX0_two_X0_isReal rfl rfl rfl hdS_X0_isReal ⟨Nat.le_of_ble_eq_true rfl, Nat.le_of_ble_eq_true rfl⟩ kN_ok kN_at rfl hl.1 rfl (Nat.le_of_ble_eq_true rfl) dX0_two_114 ⟨Nat.zero_le _, Nat.zero_le _⟩ ?_
                refine lv_if_ne (tgt := 123) hx hb dX0_two_117 (by decide) (fun c_10 => ?_) (fun c_10 => ?_)
                · skip
                  refine lv_aload_n hx hb dX0_two_123 rfl (lv_at hl 3 rfl) ?_
                  refine lv_iload_n hx hb dX0_two_124 rfl (lv_at hl 4 rfl) ?_
                  refine lv_lload hx hb dX0_two_125 (lv_at hl 1 rfl) ?_
                  refine lv_lload hx hb dX0_two_127 (lv_at hl 0 rfl) ?_
                  refine xc_i (As := [.int p0, .long (f_X0_units (p1) (p2)), .long (f_X0_units (p3) (p4))]) (rest := []) ⟨hx, hb, hml, hown, hts⟩ (cc_X0_ofReals l dC dI h0 _ (rk) (rn) (ma) (mb) (mc) (md) (me) (mf) (mx) (my) (p0) ((f_X0_units (p1) (p2))) ((f_X0_units (p3) (p4)))) 3 gX0_two_X0_ofReals rfl rfl rfl hdV_X0_ofReals ⟨Nat.le_of_ble_eq_true rfl, Nat.le_of_ble_eq_true rfl⟩ hP hD hK hS hA htb rfl hl.1 rfl (Nat.le_of_ble_eq_true rfl) dX0_two_129 ⟨Nat.zero_le _, Nat.zero_le _⟩ (fun H locs hP hD hS => ?_)
                  have hP : va_P (dC, dI) vwCl (xW h0 ((f_X0_ofReals (rk) (rn) (p0) ((f_X0_units (p1) (p2))) ((f_X0_units (p3) (p4)))).2.1, (f_X0_ofReals (rk) (rn) (p0) ((f_X0_units (p1) (p2))) ((f_X0_units (p3) (p4)))).2.2, ma, mb, mc, md, me, mf, mx, my)) H := hP
                  have hD : va_D A (xW h0 ((f_X0_ofReals (rk) (rn) (p0) ((f_X0_units (p1) (p2))) ((f_X0_units (p3) (p4)))).2.1, (f_X0_ofReals (rk) (rn) (p0) ((f_X0_units (p1) (p2))) ((f_X0_units (p3) (p4)))).2.2, ma, mb, mc, md, me, mf, mx, my)) := hD
                  have hE : f_X0_two rk rn p0 p1 p2 p3 p4 = (f_X0_ofReals (rk) (rn) (p0) ((f_X0_units (p1) (p2))) ((f_X0_units (p3) (p4)))) := (by rw [f_X0_two, if_neg c_1, if_neg c_2, if_neg c_3, if_neg c_4, if_neg c_5, if_pos c_7, if_neg c_9, if_neg c_10])
                  exact x_iret hx hb hr hlocks hP hD hK hS dX0_two_132 ⟨by rw [hE], by rw [hE]⟩
                · skip
                  refine lv_bipush (v := (-2)) hx hb dX0_two_120 (by decide) ?_
                  have hE : f_X0_two rk rn p0 p1 p2 p3 p4 = ((-2), rk, rn) := (by rw [f_X0_two, if_neg c_1, if_neg c_2, if_neg c_3, if_neg c_4, if_neg c_5, if_pos c_7, if_neg c_9, if_pos c_10])
                  exact x_iret hx hb hr hlocks hP hD hK hS dX0_two_122 ⟨by rw [hE], by rw [hE]⟩
            · skip
              refine lv_bipush (v := (-4)) hx hb dX0_two_60 (by decide) ?_
              have hE : f_X0_two rk rn p0 p1 p2 p3 p4 = ((-4), rk, rn) := (by rw [f_X0_two, if_neg c_1, if_neg c_2, if_neg c_3, if_neg c_4, if_neg c_5, if_neg c_7])
              exact x_iret hx hb hr hlocks hP hD hK hS dX0_two_62 ⟨by rw [hE], by rw [hE]⟩
          · skip
            refine lv_iload hx hb dX0_two_35 (lv_at hl 4 rfl) ?_
            refine lv_iconst (v := 1) hx hb dX0_two_37 (by decide) ?_
            refine lv_icmp_ne (tgt := 45) hx hb dX0_two_38 (by decide) (fun c_11 => ?_) (fun c_11 => ?_)
            · skip
              refine lv_iconst (v := 0) hx hb dX0_two_45 (by decide) ?_
              refine lv_istore (lv' := [(6, .int 0), (0, .ref h0), (1, .int p0), (2, .int p1), (3, .int p2), (4, .int p3), (5, .int p4)]) hx hb dX0_two_46 hl (by decide) rfl (fun ls hl => ?_)
              refine lv_iload hx hb dX0_two_48 (lv_at hl 0 rfl) ?_
              refine lv_if_ne (tgt := 63) hx hb dX0_two_50 (by decide) (fun q => absurd (by decide) q) (fun _ => ?_)
              refine lv_iload_n hx hb dX0_two_53 rfl (lv_at hl 2 rfl) ?_
              refine pu_Si (As := [.int p0]) (rest := []) ⟨hx, hb, hml, hown, hts⟩ (cc_X0_isForWholesAlone l _ (p0)) 1 gX0_two_X0_isForWholesAlone rfl rfl rfl hdS_X0_isForWholesAlone ⟨Nat.le_of_ble_eq_true rfl, Nat.le_of_ble_eq_true rfl⟩ kN_ok kN_at rfl hl.1 rfl (Nat.le_of_ble_eq_true rfl) dX0_two_54 ⟨Nat.zero_le _, Nat.zero_le _⟩ ?_
              refine lv_if_eq (tgt := 63) hx hb dX0_two_57 (by decide) (fun c_13 => ?_) (fun c_13 => ?_)
              · skip
                refine lv_iload hx hb dX0_two_63 (lv_at hl 0 rfl) ?_
                refine lv_if_eq (tgt := 88) hx hb dX0_two_65 (by decide) (fun _ => ?_) (fun q => absurd (by decide) q)
                refine lv_iload_n hx hb dX0_two_88 rfl (lv_at hl 3 rfl) ?_
                refine lv_iload_n hx hb dX0_two_89 rfl (lv_at hl 4 rfl) ?_
                refine pu_Sl (As := [.int p1, .int p2]) (rest := []) ⟨hx, hb, hml, hown, hts⟩ (cc_X0_units l _ (p1) (p2)) 2 gX0_two_X0_units rfl rfl rfl hdS_X0_units ⟨Nat.le_of_ble_eq_true rfl, Nat.le_of_ble_eq_true rfl⟩ kN_ok kN_at rfl hl.1 rfl (Nat.le_of_ble_eq_true rfl) dX0_two_90 ⟨Nat.zero_le _, Nat.zero_le _⟩ ?_
                refine lv_lstore (lv' := [(7, .long (f_X0_units (p1) (p2))), (6, .int 0), (0, .ref h0), (1, .int p0), (2, .int p1), (3, .int p2), (4, .int p3), (5, .int p4)]) hx hb dX0_two_93 hl (by decide) rfl (fun ls hl => ?_)
                refine lv_iload hx hb dX0_two_95 (lv_at hl 6 rfl) ?_
                refine lv_iload hx hb dX0_two_97 (lv_at hl 7 rfl) ?_
                refine pu_Sl (As := [.int p3, .int p4]) (rest := []) ⟨hx, hb, hml, hown, hts⟩ (cc_X0_units l _ (p3) (p4)) 2 gX0_two_X0_units rfl rfl rfl hdS_X0_units ⟨Nat.le_of_ble_eq_true rfl, Nat.le_of_ble_eq_true rfl⟩ kN_ok kN_at rfl hl.1 rfl (Nat.le_of_ble_eq_true rfl) dX0_two_99 ⟨Nat.zero_le _, Nat.zero_le _⟩ ?_
                refine lv_lstore (lv' := [(9, .long (f_X0_units (p3) (p4))), (7, .long (f_X0_units (p1) (p2))), (6, .int 0), (0, .ref h0), (1, .int p0), (2, .int p1), (3, .int p2), (4, .int p3), (5, .int p4)]) hx hb dX0_two_102 hl (by decide) rfl (fun ls hl => ?_)
                refine lv_lload hx hb dX0_two_104 (lv_at hl 1 rfl) ?_
                refine pu_Si (As := [.long (f_X0_units (p1) (p2))]) (rest := []) ⟨hx, hb, hml, hown, hts⟩ (cc_X0_isReal l _ ((f_X0_units (p1) (p2)))) 1 gX0_two_X0_isReal rfl rfl rfl hdS_X0_isReal ⟨Nat.le_of_ble_eq_true rfl, Nat.le_of_ble_eq_true rfl⟩ kN_ok kN_at rfl hl.1 rfl (Nat.le_of_ble_eq_true rfl) dX0_two_106 ⟨Nat.zero_le _, Nat.zero_le _⟩ ?_
                refine lv_if_eq (tgt := 120) hx hb dX0_two_109 (by decide) (fun c_15 => ?_) (fun c_15 => ?_)
                · skip
                  refine lv_bipush (v := (-2)) hx hb dX0_two_120 (by decide) ?_
                  have hE : f_X0_two rk rn p0 p1 p2 p3 p4 = ((-2), rk, rn) := (by rw [f_X0_two, if_neg c_1, if_neg c_2, if_neg c_3, if_neg c_4, if_pos c_5, if_neg c_11, if_pos c_13, if_pos c_15])
                  exact x_iret hx hb hr hlocks hP hD hK hS dX0_two_122 ⟨by rw [hE], by rw [hE]⟩
                · skip
                  refine lv_lload hx hb dX0_two_112 (lv_at hl 0 rfl) ?_
                  refine pu_Si (As := [.long (f_X0_units (p3) (p4))]) (rest := []) ⟨hx, hb, hml, hown, hts⟩ (cc_X0_isReal l _ ((f_X0_units (p3) (p4)))) 1 gX0_two_X0_isReal rfl rfl rfl hdS_X0_isReal ⟨Nat.le_of_ble_eq_true rfl, Nat.le_of_ble_eq_true rfl⟩ kN_ok kN_at rfl hl.1 rfl (Nat.le_of_ble_eq_true rfl) dX0_two_114 ⟨Nat.zero_le _, Nat.zero_le _⟩ ?_
                  refine lv_if_ne (tgt := 123) hx hb dX0_two_117 (by decide) (fun c_16 => ?_) (fun c_16 => ?_)
                  · skip
                    refine lv_aload_n hx hb dX0_two_123 rfl (lv_at hl 3 rfl) ?_
                    refine lv_iload_n hx hb dX0_two_124 rfl (lv_at hl 4 rfl) ?_
                    refine lv_lload hx hb dX0_two_125 (lv_at hl 1 rfl) ?_
                    refine lv_lload hx hb dX0_two_127 (lv_at hl 0 rfl) ?_
                    refine xc_i (As := [.int p0, .long (f_X0_units (p1) (p2)), .long (f_X0_units (p3) (p4))]) (rest := []) ⟨hx, hb, hml, hown, hts⟩ (cc_X0_ofReals l dC dI h0 _ (rk) (rn) (ma) (mb) (mc) (md) (me) (mf) (mx) (my) (p0) ((f_X0_units (p1) (p2))) ((f_X0_units (p3) (p4)))) 3 gX0_two_X0_ofReals rfl rfl rfl hdV_X0_ofReals ⟨Nat.le_of_ble_eq_true rfl, Nat.le_of_ble_eq_true rfl⟩ hP hD hK hS hA htb rfl hl.1 rfl (Nat.le_of_ble_eq_true rfl) dX0_two_129 ⟨Nat.zero_le _, Nat.zero_le _⟩ (fun H locs hP hD hS => ?_)
                    have hP : va_P (dC, dI) vwCl (xW h0 ((f_X0_ofReals (rk) (rn) (p0) ((f_X0_units (p1) (p2))) ((f_X0_units (p3) (p4)))).2.1, (f_X0_ofReals (rk) (rn) (p0) ((f_X0_units (p1) (p2))) ((f_X0_units (p3) (p4)))).2.2, ma, mb, mc, md, me, mf, mx, my)) H := hP
                    have hD : va_D A (xW h0 ((f_X0_ofReals (rk) (rn) (p0) ((f_X0_units (p1) (p2))) ((f_X0_units (p3) (p4)))).2.1, (f_X0_ofReals (rk) (rn) (p0) ((f_X0_units (p1) (p2))) ((f_X0_units (p3) (p4)))).2.2, ma, mb, mc, md, me, mf, mx, my)) := hD
                    have hE : f_X0_two rk rn p0 p1 p2 p3 p4 = (f_X0_ofReals (rk) (rn) (p0) ((f_X0_units (p1) (p2))) ((f_X0_units (p3) (p4)))) := (by rw [f_X0_two, if_neg c_1, if_neg c_2, if_neg c_3, if_neg c_4, if_pos c_5, if_neg c_11, if_pos c_13, if_neg c_15, if_neg c_16])
                    exact x_iret hx hb hr hlocks hP hD hK hS dX0_two_132 ⟨by rw [hE], by rw [hE]⟩
                  · skip
                    refine lv_bipush (v := (-2)) hx hb dX0_two_120 (by decide) ?_
                    have hE : f_X0_two rk rn p0 p1 p2 p3 p4 = ((-2), rk, rn) := (by rw [f_X0_two, if_neg c_1, if_neg c_2, if_neg c_3, if_neg c_4, if_pos c_5, if_neg c_11, if_pos c_13, if_neg c_15, if_pos c_16])
                    exact x_iret hx hb hr hlocks hP hD hK hS dX0_two_122 ⟨by rw [hE], by rw [hE]⟩
              · skip
                refine lv_bipush (v := (-4)) hx hb dX0_two_60 (by decide) ?_
                have hE : f_X0_two rk rn p0 p1 p2 p3 p4 = ((-4), rk, rn) := (by rw [f_X0_two, if_neg c_1, if_neg c_2, if_neg c_3, if_neg c_4, if_pos c_5, if_neg c_11, if_neg c_13])
                exact x_iret hx hb hr hlocks hP hD hK hS dX0_two_62 ⟨by rw [hE], by rw [hE]⟩
            · skip
              refine lv_iconst (v := 1) hx hb dX0_two_41 (by decide) ?_
              refine lv_goto (tgt := 46) hx hb dX0_two_42 (by decide) ?_
              refine lv_istore (lv' := [(6, .int 1), (0, .ref h0), (1, .int p0), (2, .int p1), (3, .int p2), (4, .int p3), (5, .int p4)]) hx hb dX0_two_46 hl (by decide) rfl (fun ls hl => ?_)
              refine lv_iload hx hb dX0_two_48 (lv_at hl 0 rfl) ?_
              refine lv_if_ne (tgt := 63) hx hb dX0_two_50 (by decide) (fun _ => ?_) (fun q => absurd q (by decide))
              refine lv_iload hx hb dX0_two_63 (lv_at hl 0 rfl) ?_
              refine lv_if_eq (tgt := 88) hx hb dX0_two_65 (by decide) (fun q => absurd q (by decide)) (fun _ => ?_)
              refine lv_iload_n hx hb dX0_two_68 rfl (lv_at hl 2 rfl) ?_
              refine lv_iconst (v := 3) hx hb dX0_two_69 (by decide) ?_
              refine lv_icmp_eq (tgt := 88) hx hb dX0_two_70 (by decide) (fun c_19 => ?_) (fun c_19 => ?_)
              · skip
                refine lv_iload_n hx hb dX0_two_88 rfl (lv_at hl 3 rfl) ?_
                refine lv_iload_n hx hb dX0_two_89 rfl (lv_at hl 4 rfl) ?_
                refine pu_Sl (As := [.int p1, .int p2]) (rest := []) ⟨hx, hb, hml, hown, hts⟩ (cc_X0_units l _ (p1) (p2)) 2 gX0_two_X0_units rfl rfl rfl hdS_X0_units ⟨Nat.le_of_ble_eq_true rfl, Nat.le_of_ble_eq_true rfl⟩ kN_ok kN_at rfl hl.1 rfl (Nat.le_of_ble_eq_true rfl) dX0_two_90 ⟨Nat.zero_le _, Nat.zero_le _⟩ ?_
                refine lv_lstore (lv' := [(7, .long (f_X0_units (p1) (p2))), (6, .int 1), (0, .ref h0), (1, .int p0), (2, .int p1), (3, .int p2), (4, .int p3), (5, .int p4)]) hx hb dX0_two_93 hl (by decide) rfl (fun ls hl => ?_)
                refine lv_iload hx hb dX0_two_95 (lv_at hl 6 rfl) ?_
                refine lv_iload hx hb dX0_two_97 (lv_at hl 7 rfl) ?_
                refine pu_Sl (As := [.int p3, .int p4]) (rest := []) ⟨hx, hb, hml, hown, hts⟩ (cc_X0_units l _ (p3) (p4)) 2 gX0_two_X0_units rfl rfl rfl hdS_X0_units ⟨Nat.le_of_ble_eq_true rfl, Nat.le_of_ble_eq_true rfl⟩ kN_ok kN_at rfl hl.1 rfl (Nat.le_of_ble_eq_true rfl) dX0_two_99 ⟨Nat.zero_le _, Nat.zero_le _⟩ ?_
                refine lv_lstore (lv' := [(9, .long (f_X0_units (p3) (p4))), (7, .long (f_X0_units (p1) (p2))), (6, .int 1), (0, .ref h0), (1, .int p0), (2, .int p1), (3, .int p2), (4, .int p3), (5, .int p4)]) hx hb dX0_two_102 hl (by decide) rfl (fun ls hl => ?_)
                refine lv_lload hx hb dX0_two_104 (lv_at hl 1 rfl) ?_
                refine pu_Si (As := [.long (f_X0_units (p1) (p2))]) (rest := []) ⟨hx, hb, hml, hown, hts⟩ (cc_X0_isReal l _ ((f_X0_units (p1) (p2)))) 1 gX0_two_X0_isReal rfl rfl rfl hdS_X0_isReal ⟨Nat.le_of_ble_eq_true rfl, Nat.le_of_ble_eq_true rfl⟩ kN_ok kN_at rfl hl.1 rfl (Nat.le_of_ble_eq_true rfl) dX0_two_106 ⟨Nat.zero_le _, Nat.zero_le _⟩ ?_
                refine lv_if_eq (tgt := 120) hx hb dX0_two_109 (by decide) (fun c_20 => ?_) (fun c_20 => ?_)
                · skip
                  refine lv_bipush (v := (-2)) hx hb dX0_two_120 (by decide) ?_
                  have hE : f_X0_two rk rn p0 p1 p2 p3 p4 = ((-2), rk, rn) := (by rw [f_X0_two, if_neg c_1, if_neg c_2, if_neg c_3, if_neg c_4, if_pos c_5, if_pos c_11, if_pos c_19, if_pos c_20])
                  exact x_iret hx hb hr hlocks hP hD hK hS dX0_two_122 ⟨by rw [hE], by rw [hE]⟩
                · skip
                  refine lv_lload hx hb dX0_two_112 (lv_at hl 0 rfl) ?_
                  refine pu_Si (As := [.long (f_X0_units (p3) (p4))]) (rest := []) ⟨hx, hb, hml, hown, hts⟩ (cc_X0_isReal l _ ((f_X0_units (p3) (p4)))) 1 gX0_two_X0_isReal rfl rfl rfl hdS_X0_isReal ⟨Nat.le_of_ble_eq_true rfl, Nat.le_of_ble_eq_true rfl⟩ kN_ok kN_at rfl hl.1 rfl (Nat.le_of_ble_eq_true rfl) dX0_two_114 ⟨Nat.zero_le _, Nat.zero_le _⟩ ?_
                  refine lv_if_ne (tgt := 123) hx hb dX0_two_117 (by decide) (fun c_21 => ?_) (fun c_21 => ?_)
                  · skip
                    refine lv_aload_n hx hb dX0_two_123 rfl (lv_at hl 3 rfl) ?_
                    refine lv_iload_n hx hb dX0_two_124 rfl (lv_at hl 4 rfl) ?_
                    refine lv_lload hx hb dX0_two_125 (lv_at hl 1 rfl) ?_
                    refine lv_lload hx hb dX0_two_127 (lv_at hl 0 rfl) ?_
                    refine xc_i (As := [.int p0, .long (f_X0_units (p1) (p2)), .long (f_X0_units (p3) (p4))]) (rest := []) ⟨hx, hb, hml, hown, hts⟩ (cc_X0_ofReals l dC dI h0 _ (rk) (rn) (ma) (mb) (mc) (md) (me) (mf) (mx) (my) (p0) ((f_X0_units (p1) (p2))) ((f_X0_units (p3) (p4)))) 3 gX0_two_X0_ofReals rfl rfl rfl hdV_X0_ofReals ⟨Nat.le_of_ble_eq_true rfl, Nat.le_of_ble_eq_true rfl⟩ hP hD hK hS hA htb rfl hl.1 rfl (Nat.le_of_ble_eq_true rfl) dX0_two_129 ⟨Nat.zero_le _, Nat.zero_le _⟩ (fun H locs hP hD hS => ?_)
                    have hP : va_P (dC, dI) vwCl (xW h0 ((f_X0_ofReals (rk) (rn) (p0) ((f_X0_units (p1) (p2))) ((f_X0_units (p3) (p4)))).2.1, (f_X0_ofReals (rk) (rn) (p0) ((f_X0_units (p1) (p2))) ((f_X0_units (p3) (p4)))).2.2, ma, mb, mc, md, me, mf, mx, my)) H := hP
                    have hD : va_D A (xW h0 ((f_X0_ofReals (rk) (rn) (p0) ((f_X0_units (p1) (p2))) ((f_X0_units (p3) (p4)))).2.1, (f_X0_ofReals (rk) (rn) (p0) ((f_X0_units (p1) (p2))) ((f_X0_units (p3) (p4)))).2.2, ma, mb, mc, md, me, mf, mx, my)) := hD
                    have hE : f_X0_two rk rn p0 p1 p2 p3 p4 = (f_X0_ofReals (rk) (rn) (p0) ((f_X0_units (p1) (p2))) ((f_X0_units (p3) (p4)))) := (by rw [f_X0_two, if_neg c_1, if_neg c_2, if_neg c_3, if_neg c_4, if_pos c_5, if_pos c_11, if_pos c_19, if_neg c_20, if_neg c_21])
                    exact x_iret hx hb hr hlocks hP hD hK hS dX0_two_132 ⟨by rw [hE], by rw [hE]⟩
                  · skip
                    refine lv_bipush (v := (-2)) hx hb dX0_two_120 (by decide) ?_
                    have hE : f_X0_two rk rn p0 p1 p2 p3 p4 = ((-2), rk, rn) := (by rw [f_X0_two, if_neg c_1, if_neg c_2, if_neg c_3, if_neg c_4, if_pos c_5, if_pos c_11, if_pos c_19, if_neg c_20, if_pos c_21])
                    exact x_iret hx hb hr hlocks hP hD hK hS dX0_two_122 ⟨by rw [hE], by rw [hE]⟩
              · skip
                refine lv_iload_n hx hb dX0_two_73 rfl (lv_at hl 2 rfl) ?_
                refine lv_bipush (v := 6) hx hb dX0_two_74 (by decide) ?_
                refine lv_icmp_eq (tgt := 88) hx hb dX0_two_76 (by decide) (fun c_22 => ?_) (fun c_22 => ?_)
                · skip
                  refine lv_iload_n hx hb dX0_two_88 rfl (lv_at hl 3 rfl) ?_
                  refine lv_iload_n hx hb dX0_two_89 rfl (lv_at hl 4 rfl) ?_
                  refine pu_Sl (As := [.int p1, .int p2]) (rest := []) ⟨hx, hb, hml, hown, hts⟩ (cc_X0_units l _ (p1) (p2)) 2 gX0_two_X0_units rfl rfl rfl hdS_X0_units ⟨Nat.le_of_ble_eq_true rfl, Nat.le_of_ble_eq_true rfl⟩ kN_ok kN_at rfl hl.1 rfl (Nat.le_of_ble_eq_true rfl) dX0_two_90 ⟨Nat.zero_le _, Nat.zero_le _⟩ ?_
                  refine lv_lstore (lv' := [(7, .long (f_X0_units (p1) (p2))), (6, .int 1), (0, .ref h0), (1, .int p0), (2, .int p1), (3, .int p2), (4, .int p3), (5, .int p4)]) hx hb dX0_two_93 hl (by decide) rfl (fun ls hl => ?_)
                  refine lv_iload hx hb dX0_two_95 (lv_at hl 6 rfl) ?_
                  refine lv_iload hx hb dX0_two_97 (lv_at hl 7 rfl) ?_
                  refine pu_Sl (As := [.int p3, .int p4]) (rest := []) ⟨hx, hb, hml, hown, hts⟩ (cc_X0_units l _ (p3) (p4)) 2 gX0_two_X0_units rfl rfl rfl hdS_X0_units ⟨Nat.le_of_ble_eq_true rfl, Nat.le_of_ble_eq_true rfl⟩ kN_ok kN_at rfl hl.1 rfl (Nat.le_of_ble_eq_true rfl) dX0_two_99 ⟨Nat.zero_le _, Nat.zero_le _⟩ ?_
                  refine lv_lstore (lv' := [(9, .long (f_X0_units (p3) (p4))), (7, .long (f_X0_units (p1) (p2))), (6, .int 1), (0, .ref h0), (1, .int p0), (2, .int p1), (3, .int p2), (4, .int p3), (5, .int p4)]) hx hb dX0_two_102 hl (by decide) rfl (fun ls hl => ?_)
                  refine lv_lload hx hb dX0_two_104 (lv_at hl 1 rfl) ?_
                  refine pu_Si (As := [.long (f_X0_units (p1) (p2))]) (rest := []) ⟨hx, hb, hml, hown, hts⟩ (cc_X0_isReal l _ ((f_X0_units (p1) (p2)))) 1 gX0_two_X0_isReal rfl rfl rfl hdS_X0_isReal ⟨Nat.le_of_ble_eq_true rfl, Nat.le_of_ble_eq_true rfl⟩ kN_ok kN_at rfl hl.1 rfl (Nat.le_of_ble_eq_true rfl) dX0_two_106 ⟨Nat.zero_le _, Nat.zero_le _⟩ ?_
                  refine lv_if_eq (tgt := 120) hx hb dX0_two_109 (by decide) (fun c_23 => ?_) (fun c_23 => ?_)
                  · skip
                    refine lv_bipush (v := (-2)) hx hb dX0_two_120 (by decide) ?_
                    have hE : f_X0_two rk rn p0 p1 p2 p3 p4 = ((-2), rk, rn) := (by rw [f_X0_two, if_neg c_1, if_neg c_2, if_neg c_3, if_neg c_4, if_pos c_5, if_pos c_11, if_neg c_19, if_pos c_22, if_pos c_23])
                    exact x_iret hx hb hr hlocks hP hD hK hS dX0_two_122 ⟨by rw [hE], by rw [hE]⟩
                  · skip
                    refine lv_lload hx hb dX0_two_112 (lv_at hl 0 rfl) ?_
                    refine pu_Si (As := [.long (f_X0_units (p3) (p4))]) (rest := []) ⟨hx, hb, hml, hown, hts⟩ (cc_X0_isReal l _ ((f_X0_units (p3) (p4)))) 1 gX0_two_X0_isReal rfl rfl rfl hdS_X0_isReal ⟨Nat.le_of_ble_eq_true rfl, Nat.le_of_ble_eq_true rfl⟩ kN_ok kN_at rfl hl.1 rfl (Nat.le_of_ble_eq_true rfl) dX0_two_114 ⟨Nat.zero_le _, Nat.zero_le _⟩ ?_
                    refine lv_if_ne (tgt := 123) hx hb dX0_two_117 (by decide) (fun c_24 => ?_) (fun c_24 => ?_)
                    · skip
                      refine lv_aload_n hx hb dX0_two_123 rfl (lv_at hl 3 rfl) ?_
                      refine lv_iload_n hx hb dX0_two_124 rfl (lv_at hl 4 rfl) ?_
                      refine lv_lload hx hb dX0_two_125 (lv_at hl 1 rfl) ?_
                      refine lv_lload hx hb dX0_two_127 (lv_at hl 0 rfl) ?_
                      refine xc_i (As := [.int p0, .long (f_X0_units (p1) (p2)), .long (f_X0_units (p3) (p4))]) (rest := []) ⟨hx, hb, hml, hown, hts⟩ (cc_X0_ofReals l dC dI h0 _ (rk) (rn) (ma) (mb) (mc) (md) (me) (mf) (mx) (my) (p0) ((f_X0_units (p1) (p2))) ((f_X0_units (p3) (p4)))) 3 gX0_two_X0_ofReals rfl rfl rfl hdV_X0_ofReals ⟨Nat.le_of_ble_eq_true rfl, Nat.le_of_ble_eq_true rfl⟩ hP hD hK hS hA htb rfl hl.1 rfl (Nat.le_of_ble_eq_true rfl) dX0_two_129 ⟨Nat.zero_le _, Nat.zero_le _⟩ (fun H locs hP hD hS => ?_)
                      have hP : va_P (dC, dI) vwCl (xW h0 ((f_X0_ofReals (rk) (rn) (p0) ((f_X0_units (p1) (p2))) ((f_X0_units (p3) (p4)))).2.1, (f_X0_ofReals (rk) (rn) (p0) ((f_X0_units (p1) (p2))) ((f_X0_units (p3) (p4)))).2.2, ma, mb, mc, md, me, mf, mx, my)) H := hP
                      have hD : va_D A (xW h0 ((f_X0_ofReals (rk) (rn) (p0) ((f_X0_units (p1) (p2))) ((f_X0_units (p3) (p4)))).2.1, (f_X0_ofReals (rk) (rn) (p0) ((f_X0_units (p1) (p2))) ((f_X0_units (p3) (p4)))).2.2, ma, mb, mc, md, me, mf, mx, my)) := hD
                      have hE : f_X0_two rk rn p0 p1 p2 p3 p4 = (f_X0_ofReals (rk) (rn) (p0) ((f_X0_units (p1) (p2))) ((f_X0_units (p3) (p4)))) := (by rw [f_X0_two, if_neg c_1, if_neg c_2, if_neg c_3, if_neg c_4, if_pos c_5, if_pos c_11, if_neg c_19, if_pos c_22, if_neg c_23, if_neg c_24])
                      exact x_iret hx hb hr hlocks hP hD hK hS dX0_two_132 ⟨by rw [hE], by rw [hE]⟩
                    · skip
                      refine lv_bipush (v := (-2)) hx hb dX0_two_120 (by decide) ?_
                      have hE : f_X0_two rk rn p0 p1 p2 p3 p4 = ((-2), rk, rn) := (by rw [f_X0_two, if_neg c_1, if_neg c_2, if_neg c_3, if_neg c_4, if_pos c_5, if_pos c_11, if_neg c_19, if_pos c_22, if_neg c_23, if_pos c_24])
                      exact x_iret hx hb hr hlocks hP hD hK hS dX0_two_122 ⟨by rw [hE], by rw [hE]⟩
                · skip
                  refine lv_aload_n hx hb dX0_two_79 rfl (lv_at hl 1 rfl) ?_
                  refine lv_iload_n hx hb dX0_two_80 rfl (lv_at hl 2 rfl) ?_
                  refine lv_iload_n hx hb dX0_two_81 rfl (lv_at hl 4 rfl) ?_
                  refine lv_iload hx hb dX0_two_82 (lv_at hl 6 rfl) ?_
                  refine xc_i (As := [.int p0, .int p2, .int p4]) (rest := []) ⟨hx, hb, hml, hown, hts⟩ (cc_X0_ofWholes l dC dI h0 _ (rk) (rn) (ma) (mb) (mc) (md) (me) (mf) (mx) (my) (p0) (p2) (p4)) 3 gX0_two_X0_ofWholes rfl rfl rfl hdV_X0_ofWholes ⟨Nat.le_of_ble_eq_true rfl, Nat.le_of_ble_eq_true rfl⟩ hP hD hK hS hA htb rfl hl.1 rfl (Nat.le_of_ble_eq_true rfl) dX0_two_84 ⟨Nat.zero_le _, Nat.zero_le _⟩ (fun H locs hP hD hS => ?_)
                  have hP : va_P (dC, dI) vwCl (xW h0 ((f_X0_ofWholes (rk) (rn) (p0) (p2) (p4)).2.1, (f_X0_ofWholes (rk) (rn) (p0) (p2) (p4)).2.2, ma, mb, mc, md, me, mf, mx, my)) H := hP
                  have hD : va_D A (xW h0 ((f_X0_ofWholes (rk) (rn) (p0) (p2) (p4)).2.1, (f_X0_ofWholes (rk) (rn) (p0) (p2) (p4)).2.2, ma, mb, mc, md, me, mf, mx, my)) := hD
                  have hE : f_X0_two rk rn p0 p1 p2 p3 p4 = (f_X0_ofWholes (rk) (rn) (p0) (p2) (p4)) := (by rw [f_X0_two, if_neg c_1, if_neg c_2, if_neg c_3, if_neg c_4, if_pos c_5, if_pos c_11, if_neg c_19, if_neg c_22])
                  exact x_iret hx hb hr hlocks hP hD hK hS dX0_two_87 ⟨by rw [hE], by rw [hE]⟩
        · skip
          refine lv_iconst (v := (-1)) hx hb dX0_two_28 (by decide) ?_
          have hE : f_X0_two rk rn p0 p1 p2 p3 p4 = ((-1), rk, rn) := (by rw [f_X0_two, if_neg c_1, if_neg c_2, if_neg c_3, if_pos c_4])
          exact x_iret hx hb hr hlocks hP hD hK hS dX0_two_29 ⟨by rw [hE], by rw [hE]⟩
theorem hdV_X0_one : yX0_one.cls = RX0 ∧ yX0_one.cls ≠ "java/lang/invoke/MethodHandle" ∧ yX0_one.cls ≠ "java/lang/invoke/VarHandle" ∧ (parseMethodDescriptor yX0_one.desc).map (fun d => d.parameters.length) = some 3 := by decide +kernel
theorem fi_X0_one : ∀ w ∈ wsX00, w ∈ wsX0_one := fun _ h => List.mem_cons_of_mem _ (List.mem_append_right _ h)
def f_X0_one (rk : Int32) (rn : Int32) (p0 : Int32) (p1 : Int32) (p2 : Int32) : Int32 × Int32 × Int32 := if p0 < 0 then (((-1), rk, rn)) else (if 11 < p0 then (((-1), rk, rn)) else (if (f_X0_isValue (p1) (p2)) = 0 then (((-1), rk, rn)) else (if p0 = 11 then (if p1 = 1 then ((f_X0_keep (rk) (rn) (1) (((p2 ^^^ (-1))).toInt64))) else (((-4), rk, rn))) else (if (f_X0_isAsAReal (p0)) = 0 then ((f_X0_ofOne (rk) (rn) (p0) (p1) (p2))) else (if (f_X0_isReal ((f_X0_units (p1) (p2)))) = 0 then (((-2), rk, rn)) else ((f_X0_ofReal (rk) (rn) (p0) ((f_X0_units (p1) (p2))))))))))
abbrev rm_X0_one : Room := { frames := 4, cells := 0, slots := 0, locals := 159 }
set_option maxHeartbeats 4000000 in
set_option maxRecDepth 100000 in
theorem cc_X0_one (l : Launch) (dC : Nat → ClassId) (dI : Nat → Nat → Nat) (h0 sz : Nat) (rk rn ma mb mc md me mf mx my : Int32) (p0 : Int32) (p1 : Int32) (p2 : Int32)   : Met l yX0_one wsX0_one rm_X0_one (va_Pc [.ref h0, .int p0, .int p1, .int p2] (xPre dC dI h0 sz (rk, rn, ma, mb, mc, md, me, mf, mx, my))) (xQi dC dI h0 (va_A (xW h0 (rk, rn, ma, mb, mc, md, me, mf, mx, my)) sz) ((f_X0_one rk rn p0 p1 p2).1) ((f_X0_one rk rn p0 p1 p2).2.1, (f_X0_one rk rn p0 p1 p2).2.2, ma, mb, mc, md, me, mf, mx, my)) 0 0 (va_A (xW h0 (rk, rn, ma, mb, mc, md, me, mf, mx, my)) sz) := by
  refine x_headi (cc := cX0_one) (maxL := 6) (ret := some .int) (by decide) rfl rfl (Nat.le_of_ble_eq_true rfl) ?_
  intro p e s m below meth c ls A hx hb hr hlocks hml hown hts hA hP hD hK htb hS hl
  have hl : lv_has ls 6 [(0, .ref h0), (1, .int p0), (2, .int p1), (3, .int p2)] := hl
  refine lv_iload_n hx hb dX0_one_0 rfl (lv_at hl 1 rfl) ?_
  refine lv_if_lt (tgt := 18) hx hb dX0_one_1 (by decide) (fun c_1 => ?_) (fun c_1 => ?_)
  · skip
    refine lv_iconst (v := (-1)) hx hb dX0_one_18 (by decide) ?_
    have hE : f_X0_one rk rn p0 p1 p2 = ((-1), rk, rn) := (by rw [f_X0_one, if_pos c_1])
    exact x_iret hx hb hr hlocks hP hD hK hS dX0_one_19 ⟨by rw [hE], by rw [hE]⟩
  · skip
    refine lv_iload_n hx hb dX0_one_4 rfl (lv_at hl 1 rfl) ?_
    refine lv_bipush (v := 11) hx hb dX0_one_5 (by decide) ?_
    refine pi_gt (tgt := 18) hx hb dX0_one_7 (by decide) (fun c_2 => ?_) (fun c_2 => ?_)
    · skip
      refine lv_iconst (v := (-1)) hx hb dX0_one_18 (by decide) ?_
      have hE : f_X0_one rk rn p0 p1 p2 = ((-1), rk, rn) := (by rw [f_X0_one, if_neg c_1, if_pos c_2])
      exact x_iret hx hb hr hlocks hP hD hK hS dX0_one_19 ⟨by rw [hE], by rw [hE]⟩
    · skip
      refine lv_iload_n hx hb dX0_one_10 rfl (lv_at hl 2 rfl) ?_
      refine lv_iload_n hx hb dX0_one_11 rfl (lv_at hl 3 rfl) ?_
      refine pu_Si (As := [.int p1, .int p2]) (rest := []) ⟨hx, hb, hml, hown, hts⟩ (cc_X0_isValue l _ (p1) (p2)) 2 gX0_one_X0_isValue rfl rfl rfl hdS_X0_isValue ⟨Nat.le_of_ble_eq_true rfl, Nat.le_of_ble_eq_true rfl⟩ kN_ok kN_at rfl hl.1 rfl (Nat.le_of_ble_eq_true rfl) dX0_one_12 ⟨Nat.zero_le _, Nat.zero_le _⟩ ?_
      refine lv_if_ne (tgt := 20) hx hb dX0_one_15 (by decide) (fun c_3 => ?_) (fun c_3 => ?_)
      · skip
        refine lv_iload_n hx hb dX0_one_20 rfl (lv_at hl 1 rfl) ?_
        refine lv_bipush (v := 11) hx hb dX0_one_21 (by decide) ?_
        refine lv_icmp_ne (tgt := 46) hx hb dX0_one_23 (by decide) (fun c_4 => ?_) (fun c_4 => ?_)
        · skip
          refine lv_iload_n hx hb dX0_one_46 rfl (lv_at hl 1 rfl) ?_
          refine pu_Si (As := [.int p0]) (rest := []) ⟨hx, hb, hml, hown, hts⟩ (cc_X0_isAsAReal l _ (p0)) 1 gX0_one_X0_isAsAReal rfl rfl rfl hdS_X0_isAsAReal ⟨Nat.le_of_ble_eq_true rfl, Nat.le_of_ble_eq_true rfl⟩ kN_ok kN_at rfl hl.1 rfl (Nat.le_of_ble_eq_true rfl) dX0_one_47 ⟨Nat.zero_le _, Nat.zero_le _⟩ ?_
          refine lv_if_ne (tgt := 61) hx hb dX0_one_50 (by decide) (fun c_5 => ?_) (fun c_5 => ?_)
          · skip
            refine lv_iload_n hx hb dX0_one_61 rfl (lv_at hl 2 rfl) ?_
            refine lv_iload_n hx hb dX0_one_62 rfl (lv_at hl 3 rfl) ?_
            refine pu_Sl (As := [.int p1, .int p2]) (rest := []) ⟨hx, hb, hml, hown, hts⟩ (cc_X0_units l _ (p1) (p2)) 2 gX0_one_X0_units rfl rfl rfl hdS_X0_units ⟨Nat.le_of_ble_eq_true rfl, Nat.le_of_ble_eq_true rfl⟩ kN_ok kN_at rfl hl.1 rfl (Nat.le_of_ble_eq_true rfl) dX0_one_63 ⟨Nat.zero_le _, Nat.zero_le _⟩ ?_
            refine lv_lstore (lv' := [(4, .long (f_X0_units (p1) (p2))), (0, .ref h0), (1, .int p0), (2, .int p1), (3, .int p2)]) hx hb dX0_one_66 hl (by decide) rfl (fun ls hl => ?_)
            refine lv_lload hx hb dX0_one_68 (lv_at hl 0 rfl) ?_
            refine pu_Si (As := [.long (f_X0_units (p1) (p2))]) (rest := []) ⟨hx, hb, hml, hown, hts⟩ (cc_X0_isReal l _ ((f_X0_units (p1) (p2)))) 1 gX0_one_X0_isReal rfl rfl rfl hdS_X0_isReal ⟨Nat.le_of_ble_eq_true rfl, Nat.le_of_ble_eq_true rfl⟩ kN_ok kN_at rfl hl.1 rfl (Nat.le_of_ble_eq_true rfl) dX0_one_70 ⟨Nat.zero_le _, Nat.zero_le _⟩ ?_
            refine lv_if_eq (tgt := 86) hx hb dX0_one_73 (by decide) (fun c_6 => ?_) (fun c_6 => ?_)
            · skip
              refine lv_bipush (v := (-2)) hx hb dX0_one_86 (by decide) ?_
              have hE : f_X0_one rk rn p0 p1 p2 = ((-2), rk, rn) := (by rw [f_X0_one, if_neg c_1, if_neg c_2, if_neg c_3, if_neg c_4, if_neg c_5, if_pos c_6])
              exact x_iret hx hb hr hlocks hP hD hK hS dX0_one_88 ⟨by rw [hE], by rw [hE]⟩
            · skip
              refine lv_aload_n hx hb dX0_one_76 rfl (lv_at hl 1 rfl) ?_
              refine lv_iload_n hx hb dX0_one_77 rfl (lv_at hl 2 rfl) ?_
              refine lv_lload hx hb dX0_one_78 (lv_at hl 0 rfl) ?_
              refine xc_i (As := [.int p0, .long (f_X0_units (p1) (p2))]) (rest := []) ⟨hx, hb, hml, hown, hts⟩ (cc_X0_ofReal l dC dI h0 _ (rk) (rn) (ma) (mb) (mc) (md) (me) (mf) (mx) (my) (p0) ((f_X0_units (p1) (p2)))) 2 gX0_one_X0_ofReal rfl rfl rfl hdV_X0_ofReal ⟨Nat.le_of_ble_eq_true rfl, Nat.le_of_ble_eq_true rfl⟩ hP hD hK hS hA htb rfl hl.1 rfl (Nat.le_of_ble_eq_true rfl) dX0_one_80 ⟨Nat.zero_le _, Nat.zero_le _⟩ (fun H locs hP hD hS => ?_)
              have hP : va_P (dC, dI) vwCl (xW h0 ((f_X0_ofReal (rk) (rn) (p0) ((f_X0_units (p1) (p2)))).2.1, (f_X0_ofReal (rk) (rn) (p0) ((f_X0_units (p1) (p2)))).2.2, ma, mb, mc, md, me, mf, mx, my)) H := hP
              have hD : va_D A (xW h0 ((f_X0_ofReal (rk) (rn) (p0) ((f_X0_units (p1) (p2)))).2.1, (f_X0_ofReal (rk) (rn) (p0) ((f_X0_units (p1) (p2)))).2.2, ma, mb, mc, md, me, mf, mx, my)) := hD
              refine lv_goto (tgt := 88) hx hb dX0_one_83 (by decide) ?_
              have hE : f_X0_one rk rn p0 p1 p2 = (f_X0_ofReal (rk) (rn) (p0) ((f_X0_units (p1) (p2)))) := (by rw [f_X0_one, if_neg c_1, if_neg c_2, if_neg c_3, if_neg c_4, if_neg c_5, if_neg c_6])
              exact x_iret hx hb hr hlocks hP hD hK hS dX0_one_88 ⟨by rw [hE], by rw [hE]⟩
          · skip
            refine lv_aload_n hx hb dX0_one_53 rfl (lv_at hl 0 rfl) ?_
            refine lv_iload_n hx hb dX0_one_54 rfl (lv_at hl 1 rfl) ?_
            refine lv_iload_n hx hb dX0_one_55 rfl (lv_at hl 2 rfl) ?_
            refine lv_iload_n hx hb dX0_one_56 rfl (lv_at hl 3 rfl) ?_
            refine xc_i (As := [.int p0, .int p1, .int p2]) (rest := []) ⟨hx, hb, hml, hown, hts⟩ (cc_X0_ofOne l dC dI h0 _ (rk) (rn) (ma) (mb) (mc) (md) (me) (mf) (mx) (my) (p0) (p1) (p2)) 3 gX0_one_X0_ofOne rfl rfl rfl hdV_X0_ofOne ⟨Nat.le_of_ble_eq_true rfl, Nat.le_of_ble_eq_true rfl⟩ hP hD hK hS hA htb rfl hl.1 rfl (Nat.le_of_ble_eq_true rfl) dX0_one_57 ⟨Nat.zero_le _, Nat.zero_le _⟩ (fun H locs hP hD hS => ?_)
            have hP : va_P (dC, dI) vwCl (xW h0 ((f_X0_ofOne (rk) (rn) (p0) (p1) (p2)).2.1, (f_X0_ofOne (rk) (rn) (p0) (p1) (p2)).2.2, ma, mb, mc, md, me, mf, mx, my)) H := hP
            have hD : va_D A (xW h0 ((f_X0_ofOne (rk) (rn) (p0) (p1) (p2)).2.1, (f_X0_ofOne (rk) (rn) (p0) (p1) (p2)).2.2, ma, mb, mc, md, me, mf, mx, my)) := hD
            have hE : f_X0_one rk rn p0 p1 p2 = (f_X0_ofOne (rk) (rn) (p0) (p1) (p2)) := (by rw [f_X0_one, if_neg c_1, if_neg c_2, if_neg c_3, if_neg c_4, if_pos c_5])
            exact x_iret hx hb hr hlocks hP hD hK hS dX0_one_60 ⟨by rw [hE], by rw [hE]⟩
        · skip
          refine lv_iload_n hx hb dX0_one_26 rfl (lv_at hl 2 rfl) ?_
          refine lv_iconst (v := 1) hx hb dX0_one_27 (by decide) ?_
          refine lv_icmp_ne (tgt := 43) hx hb dX0_one_28 (by decide) (fun c_7 => ?_) (fun c_7 => ?_)
          · skip
            refine lv_bipush (v := (-4)) hx hb dX0_one_43 (by decide) ?_
            have hE : f_X0_one rk rn p0 p1 p2 = ((-4), rk, rn) := (by rw [f_X0_one, if_neg c_1, if_neg c_2, if_neg c_3, if_pos c_4, if_neg c_7])
            exact x_iret hx hb hr hlocks hP hD hK hS dX0_one_45 ⟨by rw [hE], by rw [hE]⟩
          · skip
            refine lv_aload_n hx hb dX0_one_31 rfl (lv_at hl 0 rfl) ?_
            refine lv_iconst (v := 1) hx hb dX0_one_32 (by decide) ?_
            refine lv_iload_n hx hb dX0_one_33 rfl (lv_at hl 3 rfl) ?_
            refine lv_iconst (v := (-1)) hx hb dX0_one_34 (by decide) ?_
            refine lv_ixor hx hb dX0_one_35 ?_
            refine lv_i2l (v := ((p2 ^^^ (-1))).toInt64) hx hb dX0_one_36 rfl ?_
            refine xc_i (As := [.int 1, .long ((p2 ^^^ (-1))).toInt64]) (rest := []) ⟨hx, hb, hml, hown, hts⟩ (cc_X0_keep l dC dI h0 _ (rk) (rn) (ma) (mb) (mc) (md) (me) (mf) (mx) (my) (1) (((p2 ^^^ (-1))).toInt64)) 2 gX0_one_X0_keep rfl rfl rfl hdV_X0_keep ⟨Nat.le_of_ble_eq_true rfl, Nat.le_of_ble_eq_true rfl⟩ hP hD hK hS hA htb rfl hl.1 rfl (Nat.le_of_ble_eq_true rfl) dX0_one_37 ⟨Nat.zero_le _, Nat.zero_le _⟩ (fun H locs hP hD hS => ?_)
            have hP : va_P (dC, dI) vwCl (xW h0 ((f_X0_keep (rk) (rn) (1) (((p2 ^^^ (-1))).toInt64)).2.1, (f_X0_keep (rk) (rn) (1) (((p2 ^^^ (-1))).toInt64)).2.2, ma, mb, mc, md, me, mf, mx, my)) H := hP
            have hD : va_D A (xW h0 ((f_X0_keep (rk) (rn) (1) (((p2 ^^^ (-1))).toInt64)).2.1, (f_X0_keep (rk) (rn) (1) (((p2 ^^^ (-1))).toInt64)).2.2, ma, mb, mc, md, me, mf, mx, my)) := hD
            refine lv_goto (tgt := 45) hx hb dX0_one_40 (by decide) ?_
            have hE : f_X0_one rk rn p0 p1 p2 = (f_X0_keep (rk) (rn) (1) (((p2 ^^^ (-1))).toInt64)) := (by rw [f_X0_one, if_neg c_1, if_neg c_2, if_neg c_3, if_pos c_4, if_pos c_7])
            exact x_iret hx hb hr hlocks hP hD hK hS dX0_one_45 ⟨by rw [hE], by rw [hE]⟩
      · skip
        refine lv_iconst (v := (-1)) hx hb dX0_one_18 (by decide) ?_
        have hE : f_X0_one rk rn p0 p1 p2 = ((-1), rk, rn) := (by rw [f_X0_one, if_neg c_1, if_neg c_2, if_pos c_3])
        exact x_iret hx hb hr hlocks hP hD hK hS dX0_one_19 ⟨by rw [hE], by rw [hE]⟩
theorem hdV_X0_kind : yX0_kind.cls = RX0 ∧ yX0_kind.cls ≠ "java/lang/invoke/MethodHandle" ∧ yX0_kind.cls ≠ "java/lang/invoke/VarHandle" ∧ (parseMethodDescriptor yX0_kind.desc).map (fun d => d.parameters.length) = some 0 := by decide +kernel
theorem fi_X0_kind : ∀ w ∈ wsX00, w ∈ wsX0_kind := fun _ h => List.mem_cons_of_mem _ (List.mem_append_right _ h)
def f_X0_kind (rk : Int32) : Int32 := rk
abbrev rm_X0_kind : Room := { frames := 0, cells := 0, slots := 0, locals := 0 }
set_option maxHeartbeats 4000000 in
set_option maxRecDepth 100000 in
theorem cc_X0_kind (l : Launch) (dC : Nat → ClassId) (dI : Nat → Nat → Nat) (h0 sz : Nat) (rk rn ma mb mc md me mf mx my : Int32)    : Met l yX0_kind wsX0_kind rm_X0_kind (va_Pc [.ref h0] (xPre dC dI h0 sz (rk, rn, ma, mb, mc, md, me, mf, mx, my))) (xQi dC dI h0 (va_A (xW h0 (rk, rn, ma, mb, mc, md, me, mf, mx, my)) sz) ((f_X0_kind rk)) (rk, rn, ma, mb, mc, md, me, mf, mx, my)) 0 0 (va_A (xW h0 (rk, rn, ma, mb, mc, md, me, mf, mx, my)) sz) := by
  refine x_headi (cc := cX0_kind) (maxL := 1) (ret := some .int) (by decide) rfl rfl (Nat.le_of_ble_eq_true rfl) ?_
  intro p e s m below meth c ls A hx hb hr hlocks hml hown hts hA hP hD hK htb hS hl
  have hl : lv_has ls 1 [(0, .ref h0)] := hl
  refine lv_aload_n hx hb dX0_kind_0 rfl (lv_at hl 0 rfl) ?_
  refine va_get (D := (dC, dI)) (ci := 0) (v := .int rk) (C := RX0) (T := TX0) (N := 10) hx hb hts fi_X0_kind hown hK hP 0 rfl rfl 0 (by decide) (hts (.fieldLink RX0 11 "FixedPlane" "resultKind" "I") (by decide +kernel)) (fun _ h9 => h9) rfl dX0_kind_1 ?_
  have hE : f_X0_kind rk = rk := (by rw [f_X0_kind])
  exact x_iret hx hb hr hlocks hP hD hK hS dX0_kind_4 ⟨hE.symm, rfl⟩
theorem hdV_X0_number : yX0_number.cls = RX0 ∧ yX0_number.cls ≠ "java/lang/invoke/MethodHandle" ∧ yX0_number.cls ≠ "java/lang/invoke/VarHandle" ∧ (parseMethodDescriptor yX0_number.desc).map (fun d => d.parameters.length) = some 0 := by decide +kernel
theorem fi_X0_number : ∀ w ∈ wsX00, w ∈ wsX0_number := fun _ h => List.mem_cons_of_mem _ (List.mem_append_right _ h)
def f_X0_number (rn : Int32) : Int32 := rn
abbrev rm_X0_number : Room := { frames := 0, cells := 0, slots := 0, locals := 0 }
set_option maxHeartbeats 4000000 in
set_option maxRecDepth 100000 in
theorem cc_X0_number (l : Launch) (dC : Nat → ClassId) (dI : Nat → Nat → Nat) (h0 sz : Nat) (rk rn ma mb mc md me mf mx my : Int32)    : Met l yX0_number wsX0_number rm_X0_number (va_Pc [.ref h0] (xPre dC dI h0 sz (rk, rn, ma, mb, mc, md, me, mf, mx, my))) (xQi dC dI h0 (va_A (xW h0 (rk, rn, ma, mb, mc, md, me, mf, mx, my)) sz) ((f_X0_number rn)) (rk, rn, ma, mb, mc, md, me, mf, mx, my)) 0 0 (va_A (xW h0 (rk, rn, ma, mb, mc, md, me, mf, mx, my)) sz) := by
  refine x_headi (cc := cX0_number) (maxL := 1) (ret := some .int) (by decide) rfl rfl (Nat.le_of_ble_eq_true rfl) ?_
  intro p e s m below meth c ls A hx hb hr hlocks hml hown hts hA hP hD hK htb hS hl
  have hl : lv_has ls 1 [(0, .ref h0)] := hl
  refine lv_aload_n hx hb dX0_number_0 rfl (lv_at hl 0 rfl) ?_
  refine va_get (D := (dC, dI)) (ci := 0) (v := .int rn) (C := RX0) (T := TX0) (N := 10) hx hb hts fi_X0_number hown hK hP 0 rfl rfl 1 (by decide) (hts (.fieldLink RX0 59 "FixedPlane" "resultNumber" "I") (by decide +kernel)) (fun _ h9 => h9) rfl dX0_number_1 ?_
  have hE : f_X0_number rn = rn := (by rw [f_X0_number])
  exact x_iret hx hb hr hlocks hP hD hK hS dX0_number_4 ⟨hE.symm, rfl⟩
theorem hdV_X0_compare : yX0_compare.cls = RX0 ∧ yX0_compare.cls ≠ "java/lang/invoke/MethodHandle" ∧ yX0_compare.cls ≠ "java/lang/invoke/VarHandle" ∧ (parseMethodDescriptor yX0_compare.desc).map (fun d => d.parameters.length) = some 4 := by decide +kernel
def f_X0_compare (p0 : Int32) (p1 : Int32) (p2 : Int32) (p3 : Int32) : Int32 := if (f_X0_isValue (p0) (p1)) = 0 then ((-1)) else (if (f_X0_isValue (p2) (p3)) = 0 then ((-1)) else (((f_J13_compare_74951 ((f_X0_units (p0) (p1))) ((f_X0_units (p2) (p3)))) + 1)))
abbrev rm_X0_compare : Room := { frames := 2, cells := 0, slots := 0, locals := 74 }
set_option maxHeartbeats 4000000 in
set_option maxRecDepth 100000 in
theorem cc_X0_compare (l : Launch) (dC : Nat → ClassId) (dI : Nat → Nat → Nat) (h0 sz : Nat) (rk rn ma mb mc md me mf mx my : Int32) (p0 : Int32) (p1 : Int32) (p2 : Int32) (p3 : Int32)   : Met l yX0_compare wsX0_compare rm_X0_compare (va_Pc [.ref h0, .int p0, .int p1, .int p2, .int p3] (xPre dC dI h0 sz (rk, rn, ma, mb, mc, md, me, mf, mx, my))) (xQi dC dI h0 (va_A (xW h0 (rk, rn, ma, mb, mc, md, me, mf, mx, my)) sz) ((f_X0_compare p0 p1 p2 p3)) (rk, rn, ma, mb, mc, md, me, mf, mx, my)) 0 0 (va_A (xW h0 (rk, rn, ma, mb, mc, md, me, mf, mx, my)) sz) := by
  refine x_headi (cc := cX0_compare) (maxL := 5) (ret := some .int) (by decide) rfl rfl (Nat.le_of_ble_eq_true rfl) ?_
  intro p e s m below meth c ls A hx hb hr hlocks hml hown hts hA hP hD hK htb hS hl
  have hl : lv_has ls 5 [(0, .ref h0), (1, .int p0), (2, .int p1), (3, .int p2), (4, .int p3)] := hl
  refine lv_iload_n hx hb dX0_compare_0 rfl (lv_at hl 1 rfl) ?_
  refine lv_iload_n hx hb dX0_compare_1 rfl (lv_at hl 2 rfl) ?_
  refine pu_Si (As := [.int p0, .int p1]) (rest := []) ⟨hx, hb, hml, hown, hts⟩ (cc_X0_isValue l _ (p0) (p1)) 2 gX0_compare_X0_isValue rfl rfl rfl hdS_X0_isValue ⟨Nat.le_of_ble_eq_true rfl, Nat.le_of_ble_eq_true rfl⟩ kN_ok kN_at rfl hl.1 rfl (Nat.le_of_ble_eq_true rfl) dX0_compare_2 ⟨Nat.zero_le _, Nat.zero_le _⟩ ?_
  refine lv_if_eq (tgt := 17) hx hb dX0_compare_5 (by decide) (fun c_1 => ?_) (fun c_1 => ?_)
  · skip
    refine lv_iconst (v := (-1)) hx hb dX0_compare_17 (by decide) ?_
    have hE : f_X0_compare p0 p1 p2 p3 = (-1) := (by rw [f_X0_compare, if_pos c_1])
    exact x_iret hx hb hr hlocks hP hD hK hS dX0_compare_18 ⟨hE.symm, rfl⟩
  · skip
    refine lv_iload_n hx hb dX0_compare_8 rfl (lv_at hl 3 rfl) ?_
    refine lv_iload hx hb dX0_compare_9 (lv_at hl 4 rfl) ?_
    refine pu_Si (As := [.int p2, .int p3]) (rest := []) ⟨hx, hb, hml, hown, hts⟩ (cc_X0_isValue l _ (p2) (p3)) 2 gX0_compare_X0_isValue rfl rfl rfl hdS_X0_isValue ⟨Nat.le_of_ble_eq_true rfl, Nat.le_of_ble_eq_true rfl⟩ kN_ok kN_at rfl hl.1 rfl (Nat.le_of_ble_eq_true rfl) dX0_compare_11 ⟨Nat.zero_le _, Nat.zero_le _⟩ ?_
    refine lv_if_ne (tgt := 19) hx hb dX0_compare_14 (by decide) (fun c_2 => ?_) (fun c_2 => ?_)
    · skip
      refine lv_iload_n hx hb dX0_compare_19 rfl (lv_at hl 1 rfl) ?_
      refine lv_iload_n hx hb dX0_compare_20 rfl (lv_at hl 2 rfl) ?_
      refine pu_Sl (As := [.int p0, .int p1]) (rest := []) ⟨hx, hb, hml, hown, hts⟩ (cc_X0_units l _ (p0) (p1)) 2 gX0_compare_X0_units rfl rfl rfl hdS_X0_units ⟨Nat.le_of_ble_eq_true rfl, Nat.le_of_ble_eq_true rfl⟩ kN_ok kN_at rfl hl.1 rfl (Nat.le_of_ble_eq_true rfl) dX0_compare_21 ⟨Nat.zero_le _, Nat.zero_le _⟩ ?_
      refine lv_iload_n hx hb dX0_compare_24 rfl (lv_at hl 3 rfl) ?_
      refine lv_iload hx hb dX0_compare_25 (lv_at hl 4 rfl) ?_
      refine pu_Sl (As := [.int p2, .int p3]) (rest := [.long (f_X0_units (p0) (p1))]) ⟨hx, hb, hml, hown, hts⟩ (cc_X0_units l _ (p2) (p3)) 2 gX0_compare_X0_units rfl rfl rfl hdS_X0_units ⟨Nat.le_of_ble_eq_true rfl, Nat.le_of_ble_eq_true rfl⟩ kN_ok kN_at rfl hl.1 rfl (Nat.le_of_ble_eq_true rfl) dX0_compare_27 ⟨Nat.zero_le _, Nat.zero_le _⟩ ?_
      refine pu_Si (As := [.long (f_X0_units (p0) (p1)), .long (f_X0_units (p2) (p3))]) (rest := []) ⟨hx, hb, hml, hown, hts⟩ (cc_J13_compare_74951 l _ ((f_X0_units (p0) (p1))) ((f_X0_units (p2) (p3)))) 2 gX0_compare_J13_compare_74951 rfl rfl rfl hdS_J13_compare_74951 ⟨Nat.le_of_ble_eq_true rfl, Nat.le_of_ble_eq_true rfl⟩ kN_ok kN_at rfl hl.1 rfl (Nat.le_of_ble_eq_true rfl) dX0_compare_30 ⟨Nat.zero_le _, Nat.zero_le _⟩ ?_
      refine lv_iconst (v := 1) hx hb dX0_compare_33 (by decide) ?_
      refine lv_iadd hx hb dX0_compare_34 ?_
      have hE : f_X0_compare p0 p1 p2 p3 = ((f_J13_compare_74951 ((f_X0_units (p0) (p1))) ((f_X0_units (p2) (p3)))) + 1) := (by rw [f_X0_compare, if_neg c_1, if_neg c_2])
      exact x_iret hx hb hr hlocks hP hD hK hS dX0_compare_35 ⟨hE.symm, rfl⟩
    · skip
      refine lv_iconst (v := (-1)) hx hb dX0_compare_17 (by decide) ?_
      have hE : f_X0_compare p0 p1 p2 p3 = (-1) := (by rw [f_X0_compare, if_neg c_1, if_pos c_2])
      exact x_iret hx hb hr hlocks hP hD hK hS dX0_compare_18 ⟨hE.symm, rfl⟩
end
section
theorem hdV_X0_keepMatrix : yX0_keepMatrix.cls = RX0 ∧ yX0_keepMatrix.cls ≠ "java/lang/invoke/MethodHandle" ∧ yX0_keepMatrix.cls ≠ "java/lang/invoke/VarHandle" ∧ (parseMethodDescriptor yX0_keepMatrix.desc).map (fun d => d.parameters.length) = some 6 := by decide +kernel
theorem fi_X0_keepMatrix : ∀ w ∈ wsX00, w ∈ wsX0_keepMatrix := fun _ h => List.mem_cons_of_mem _ (List.mem_append_right _ h)
def f_X0_keepMatrix (ma : Int32) (mb : Int32) (mc : Int32) (md : Int32) (me : Int32) (mf : Int32) (p0 : Int64) (p1 : Int64) (p2 : Int64) (p3 : Int64) (p4 : Int64) (p5 : Int64) : Int32 × Int32 × Int32 × Int32 × Int32 × Int32 × Int32 := if (f_X0_areReals (p0) (p1) (p2) (p3) (p4) (p5)) = 0 then ((0, ma, mb, mc, md, me, mf)) else ((1, (p0).toInt32, (p1).toInt32, (p2).toInt32, (p3).toInt32, (p4).toInt32, (p5).toInt32))
abbrev rm_X0_keepMatrix : Room := { frames := 2, cells := 0, slots := 0, locals := 84 }
set_option maxHeartbeats 4000000 in
set_option maxRecDepth 100000 in
theorem cc_X0_keepMatrix (l : Launch) (dC : Nat → ClassId) (dI : Nat → Nat → Nat) (h0 sz : Nat) (rk rn ma mb mc md me mf mx my : Int32) (p0 : Int64) (p1 : Int64) (p2 : Int64) (p3 : Int64) (p4 : Int64) (p5 : Int64)   : Met l yX0_keepMatrix wsX0_keepMatrix rm_X0_keepMatrix (va_Pc [.ref h0, .long p0, .long p1, .long p2, .long p3, .long p4, .long p5] (xPre dC dI h0 sz (rk, rn, ma, mb, mc, md, me, mf, mx, my))) (xQi dC dI h0 (va_A (xW h0 (rk, rn, ma, mb, mc, md, me, mf, mx, my)) sz) ((f_X0_keepMatrix ma mb mc md me mf p0 p1 p2 p3 p4 p5).1) (rk, rn, (f_X0_keepMatrix ma mb mc md me mf p0 p1 p2 p3 p4 p5).2.1, (f_X0_keepMatrix ma mb mc md me mf p0 p1 p2 p3 p4 p5).2.2.1, (f_X0_keepMatrix ma mb mc md me mf p0 p1 p2 p3 p4 p5).2.2.2.1, (f_X0_keepMatrix ma mb mc md me mf p0 p1 p2 p3 p4 p5).2.2.2.2.1, (f_X0_keepMatrix ma mb mc md me mf p0 p1 p2 p3 p4 p5).2.2.2.2.2.1, (f_X0_keepMatrix ma mb mc md me mf p0 p1 p2 p3 p4 p5).2.2.2.2.2.2, mx, my)) 0 0 (va_A (xW h0 (rk, rn, ma, mb, mc, md, me, mf, mx, my)) sz) := by
  refine x_headi (cc := cX0_keepMatrix) (maxL := 13) (ret := some .boolean) (by decide) rfl rfl (Nat.le_of_ble_eq_true rfl) ?_
  intro p e s m below meth c ls A hx hb hr hlocks hml hown hts hA hP hD hK htb hS hl
  have hl : lv_has ls 13 [(0, .ref h0), (1, .long p0), (3, .long p1), (5, .long p2), (7, .long p3), (9, .long p4), (11, .long p5)] := hl
  refine lv_lload_n hx hb dX0_keepMatrix_0 rfl (lv_at hl 1 rfl) ?_
  refine lv_lload_n hx hb dX0_keepMatrix_1 rfl (lv_at hl 2 rfl) ?_
  refine lv_lload hx hb dX0_keepMatrix_2 (lv_at hl 3 rfl) ?_
  refine lv_lload hx hb dX0_keepMatrix_4 (lv_at hl 4 rfl) ?_
  refine lv_lload hx hb dX0_keepMatrix_6 (lv_at hl 5 rfl) ?_
  refine lv_lload hx hb dX0_keepMatrix_8 (lv_at hl 6 rfl) ?_
  refine pu_Si (As := [.long p0, .long p1, .long p2, .long p3, .long p4, .long p5]) (rest := []) ⟨hx, hb, hml, hown, hts⟩ (cc_X0_areReals l _ (p0) (p1) (p2) (p3) (p4) (p5)) 6 gX0_keepMatrix_X0_areReals rfl rfl rfl hdS_X0_areReals ⟨Nat.le_of_ble_eq_true rfl, Nat.le_of_ble_eq_true rfl⟩ kN_ok kN_at rfl hl.1 rfl (Nat.le_of_ble_eq_true rfl) dX0_keepMatrix_10 ⟨Nat.zero_le _, Nat.zero_le _⟩ ?_
  refine lv_if_ne (tgt := 18) hx hb dX0_keepMatrix_13 (by decide) (fun c_1 => ?_) (fun c_1 => ?_)
  · skip
    refine lv_aload_n hx hb dX0_keepMatrix_18 rfl (lv_at hl 0 rfl) ?_
    refine lv_lload_n hx hb dX0_keepMatrix_19 rfl (lv_at hl 1 rfl) ?_
    refine lv_l2i (v := (p0).toInt32) hx hb dX0_keepMatrix_20 rfl ?_
    refine va_put (D := (dC, dI)) (ci := 0) (v := .int (p0).toInt32) (ty := .int) (C := RX0) (T := TX0) (N := 10) hx hb hts fi_X0_keepMatrix tyX0 tyX0_ok nmX0 hown hK hP hD hS 0 rfl rfl 2 (by decide) (hts (.fieldLink RX0 16 "FixedPlane" "matrixA" "I") (by decide +kernel)) (fun _ h9 => h9) rfl (by decide +kernel) rfl rfl (Nat.le_of_ble_eq_true rfl) dX0_keepMatrix_21 (fun H locs hP hD hS => ?_)
    have hP : va_P (dC, dI) vwCl (xW h0 (rk, rn, (p0).toInt32, mb, mc, md, me, mf, mx, my)) H := hP
    have hD : va_D A (xW h0 (rk, rn, (p0).toInt32, mb, mc, md, me, mf, mx, my)) := hD
    refine lv_aload_n hx hb dX0_keepMatrix_24 rfl (lv_at hl 0 rfl) ?_
    refine lv_lload_n hx hb dX0_keepMatrix_25 rfl (lv_at hl 2 rfl) ?_
    refine lv_l2i (v := (p1).toInt32) hx hb dX0_keepMatrix_26 rfl ?_
    refine va_put (D := (dC, dI)) (ci := 0) (v := .int (p1).toInt32) (ty := .int) (C := RX0) (T := TX0) (N := 10) hx hb hts fi_X0_keepMatrix tyX0 tyX0_ok nmX0 hown hK hP hD hS 0 rfl rfl 3 (by decide) (hts (.fieldLink RX0 72 "FixedPlane" "matrixB" "I") (by decide +kernel)) (fun _ h9 => h9) rfl (by decide +kernel) rfl rfl (Nat.le_of_ble_eq_true rfl) dX0_keepMatrix_27 (fun H locs hP hD hS => ?_)
    have hP : va_P (dC, dI) vwCl (xW h0 (rk, rn, (p0).toInt32, (p1).toInt32, mc, md, me, mf, mx, my)) H := hP
    have hD : va_D A (xW h0 (rk, rn, (p0).toInt32, (p1).toInt32, mc, md, me, mf, mx, my)) := hD
    refine lv_aload_n hx hb dX0_keepMatrix_30 rfl (lv_at hl 0 rfl) ?_
    refine lv_lload hx hb dX0_keepMatrix_31 (lv_at hl 3 rfl) ?_
    refine lv_l2i (v := (p2).toInt32) hx hb dX0_keepMatrix_33 rfl ?_
    refine va_put (D := (dC, dI)) (ci := 0) (v := .int (p2).toInt32) (ty := .int) (C := RX0) (T := TX0) (N := 10) hx hb hts fi_X0_keepMatrix tyX0 tyX0_ok nmX0 hown hK hP hD hS 0 rfl rfl 4 (by decide) (hts (.fieldLink RX0 75 "FixedPlane" "matrixC" "I") (by decide +kernel)) (fun _ h9 => h9) rfl (by decide +kernel) rfl rfl (Nat.le_of_ble_eq_true rfl) dX0_keepMatrix_34 (fun H locs hP hD hS => ?_)
    have hP : va_P (dC, dI) vwCl (xW h0 (rk, rn, (p0).toInt32, (p1).toInt32, (p2).toInt32, md, me, mf, mx, my)) H := hP
    have hD : va_D A (xW h0 (rk, rn, (p0).toInt32, (p1).toInt32, (p2).toInt32, md, me, mf, mx, my)) := hD
    refine lv_aload_n hx hb dX0_keepMatrix_37 rfl (lv_at hl 0 rfl) ?_
    refine lv_lload hx hb dX0_keepMatrix_38 (lv_at hl 4 rfl) ?_
    refine lv_l2i (v := (p3).toInt32) hx hb dX0_keepMatrix_40 rfl ?_
    refine va_put (D := (dC, dI)) (ci := 0) (v := .int (p3).toInt32) (ty := .int) (C := RX0) (T := TX0) (N := 10) hx hb hts fi_X0_keepMatrix tyX0 tyX0_ok nmX0 hown hK hP hD hS 0 rfl rfl 5 (by decide) (hts (.fieldLink RX0 19 "FixedPlane" "matrixD" "I") (by decide +kernel)) (fun _ h9 => h9) rfl (by decide +kernel) rfl rfl (Nat.le_of_ble_eq_true rfl) dX0_keepMatrix_41 (fun H locs hP hD hS => ?_)
    have hP : va_P (dC, dI) vwCl (xW h0 (rk, rn, (p0).toInt32, (p1).toInt32, (p2).toInt32, (p3).toInt32, me, mf, mx, my)) H := hP
    have hD : va_D A (xW h0 (rk, rn, (p0).toInt32, (p1).toInt32, (p2).toInt32, (p3).toInt32, me, mf, mx, my)) := hD
    refine lv_aload_n hx hb dX0_keepMatrix_44 rfl (lv_at hl 0 rfl) ?_
    refine lv_lload hx hb dX0_keepMatrix_45 (lv_at hl 5 rfl) ?_
    refine lv_l2i (v := (p4).toInt32) hx hb dX0_keepMatrix_47 rfl ?_
    refine va_put (D := (dC, dI)) (ci := 0) (v := .int (p4).toInt32) (ty := .int) (C := RX0) (T := TX0) (N := 10) hx hb hts fi_X0_keepMatrix tyX0 tyX0_ok nmX0 hown hK hP hD hS 0 rfl rfl 6 (by decide) (hts (.fieldLink RX0 78 "FixedPlane" "matrixE" "I") (by decide +kernel)) (fun _ h9 => h9) rfl (by decide +kernel) rfl rfl (Nat.le_of_ble_eq_true rfl) dX0_keepMatrix_48 (fun H locs hP hD hS => ?_)
    have hP : va_P (dC, dI) vwCl (xW h0 (rk, rn, (p0).toInt32, (p1).toInt32, (p2).toInt32, (p3).toInt32, (p4).toInt32, mf, mx, my)) H := hP
    have hD : va_D A (xW h0 (rk, rn, (p0).toInt32, (p1).toInt32, (p2).toInt32, (p3).toInt32, (p4).toInt32, mf, mx, my)) := hD
    refine lv_aload_n hx hb dX0_keepMatrix_51 rfl (lv_at hl 0 rfl) ?_
    refine lv_lload hx hb dX0_keepMatrix_52 (lv_at hl 6 rfl) ?_
    refine lv_l2i (v := (p5).toInt32) hx hb dX0_keepMatrix_54 rfl ?_
    refine va_put (D := (dC, dI)) (ci := 0) (v := .int (p5).toInt32) (ty := .int) (C := RX0) (T := TX0) (N := 10) hx hb hts fi_X0_keepMatrix tyX0 tyX0_ok nmX0 hown hK hP hD hS 0 rfl rfl 7 (by decide) (hts (.fieldLink RX0 81 "FixedPlane" "matrixF" "I") (by decide +kernel)) (fun _ h9 => h9) rfl (by decide +kernel) rfl rfl (Nat.le_of_ble_eq_true rfl) dX0_keepMatrix_55 (fun H locs hP hD hS => ?_)
    have hP : va_P (dC, dI) vwCl (xW h0 (rk, rn, (p0).toInt32, (p1).toInt32, (p2).toInt32, (p3).toInt32, (p4).toInt32, (p5).toInt32, mx, my)) H := hP
    have hD : va_D A (xW h0 (rk, rn, (p0).toInt32, (p1).toInt32, (p2).toInt32, (p3).toInt32, (p4).toInt32, (p5).toInt32, mx, my)) := hD
    refine lv_iconst (v := 1) hx hb dX0_keepMatrix_58 (by decide) ?_
    have hE : f_X0_keepMatrix ma mb mc md me mf p0 p1 p2 p3 p4 p5 = (1, (p0).toInt32, (p1).toInt32, (p2).toInt32, (p3).toInt32, (p4).toInt32, (p5).toInt32) := (by rw [f_X0_keepMatrix, if_neg c_1])
    exact x_zret hx hb hr hlocks hP hD hK hS dX0_keepMatrix_59 rfl ⟨by rw [hE], by rw [hE]⟩
  · skip
    refine lv_iconst (v := 0) hx hb dX0_keepMatrix_16 (by decide) ?_
    have hE : f_X0_keepMatrix ma mb mc md me mf p0 p1 p2 p3 p4 p5 = (0, ma, mb, mc, md, me, mf) := (by rw [f_X0_keepMatrix, if_pos c_1])
    exact x_zret hx hb hr hlocks hP hD hK hS dX0_keepMatrix_17 rfl ⟨by rw [hE], by rw [hE]⟩
theorem nb_keepMatrix (a b c d e f : Int32) (p0 p1 p2 p3 p4 p5 : Int64) : narrow .boolean (.int (f_X0_keepMatrix a b c d e f p0 p1 p2 p3 p4 p5).1) = .int (f_X0_keepMatrix a b c d e f p0 p1 p2 p3 p4 p5).1 := by
  unfold f_X0_keepMatrix
  split
  · exact (show narrow .boolean (.int 0) = .int 0 from rfl)
  · exact (show narrow .boolean (.int 1) = .int 1 from rfl)
theorem hdV_X0_matrix : yX0_matrix.cls = RX0 ∧ yX0_matrix.cls ≠ "java/lang/invoke/MethodHandle" ∧ yX0_matrix.cls ≠ "java/lang/invoke/VarHandle" ∧ (parseMethodDescriptor yX0_matrix.desc).map (fun d => d.parameters.length) = some 6 := by decide +kernel
theorem fi_X0_matrix : ∀ w ∈ wsX00, w ∈ wsX0_matrix := fun _ h => List.mem_cons_of_mem _ (List.mem_append_right _ h)
def f_X0_matrix (ma : Int32) (mb : Int32) (mc : Int32) (md : Int32) (me : Int32) (mf : Int32) (p0 : Int32) (p1 : Int32) (p2 : Int32) (p3 : Int32) (p4 : Int32) (p5 : Int32) : Int32 × Int32 × Int32 × Int32 × Int32 × Int32 × Int32 := (f_X0_keepMatrix (ma) (mb) (mc) (md) (me) (mf) ((p0).toInt64) ((p1).toInt64) ((p2).toInt64) ((p3).toInt64) ((p4).toInt64) ((p5).toInt64))
abbrev rm_X0_matrix : Room := { frames := 3, cells := 0, slots := 0, locals := 132 }
set_option maxHeartbeats 4000000 in
set_option maxRecDepth 100000 in
theorem cc_X0_matrix (l : Launch) (dC : Nat → ClassId) (dI : Nat → Nat → Nat) (h0 sz : Nat) (rk rn ma mb mc md me mf mx my : Int32) (p0 : Int32) (p1 : Int32) (p2 : Int32) (p3 : Int32) (p4 : Int32) (p5 : Int32)   : Met l yX0_matrix wsX0_matrix rm_X0_matrix (va_Pc [.ref h0, .int p0, .int p1, .int p2, .int p3, .int p4, .int p5] (xPre dC dI h0 sz (rk, rn, ma, mb, mc, md, me, mf, mx, my))) (xQi dC dI h0 (va_A (xW h0 (rk, rn, ma, mb, mc, md, me, mf, mx, my)) sz) ((f_X0_matrix ma mb mc md me mf p0 p1 p2 p3 p4 p5).1) (rk, rn, (f_X0_matrix ma mb mc md me mf p0 p1 p2 p3 p4 p5).2.1, (f_X0_matrix ma mb mc md me mf p0 p1 p2 p3 p4 p5).2.2.1, (f_X0_matrix ma mb mc md me mf p0 p1 p2 p3 p4 p5).2.2.2.1, (f_X0_matrix ma mb mc md me mf p0 p1 p2 p3 p4 p5).2.2.2.2.1, (f_X0_matrix ma mb mc md me mf p0 p1 p2 p3 p4 p5).2.2.2.2.2.1, (f_X0_matrix ma mb mc md me mf p0 p1 p2 p3 p4 p5).2.2.2.2.2.2, mx, my)) 0 0 (va_A (xW h0 (rk, rn, ma, mb, mc, md, me, mf, mx, my)) sz) := by
  refine x_headi (cc := cX0_matrix) (maxL := 7) (ret := some .boolean) (by decide) rfl rfl (Nat.le_of_ble_eq_true rfl) ?_
  intro p e s m below meth c ls A hx hb hr hlocks hml hown hts hA hP hD hK htb hS hl
  have hl : lv_has ls 7 [(0, .ref h0), (1, .int p0), (2, .int p1), (3, .int p2), (4, .int p3), (5, .int p4), (6, .int p5)] := hl
  refine lv_aload_n hx hb dX0_matrix_0 rfl (lv_at hl 0 rfl) ?_
  refine lv_iload_n hx hb dX0_matrix_1 rfl (lv_at hl 1 rfl) ?_
  refine lv_i2l (v := (p0).toInt64) hx hb dX0_matrix_2 rfl ?_
  refine lv_iload_n hx hb dX0_matrix_3 rfl (lv_at hl 2 rfl) ?_
  refine lv_i2l (v := (p1).toInt64) hx hb dX0_matrix_4 rfl ?_
  refine lv_iload_n hx hb dX0_matrix_5 rfl (lv_at hl 3 rfl) ?_
  refine lv_i2l (v := (p2).toInt64) hx hb dX0_matrix_6 rfl ?_
  refine lv_iload hx hb dX0_matrix_7 (lv_at hl 4 rfl) ?_
  refine lv_i2l (v := (p3).toInt64) hx hb dX0_matrix_9 rfl ?_
  refine lv_iload hx hb dX0_matrix_10 (lv_at hl 5 rfl) ?_
  refine lv_i2l (v := (p4).toInt64) hx hb dX0_matrix_12 rfl ?_
  refine lv_iload hx hb dX0_matrix_13 (lv_at hl 6 rfl) ?_
  refine lv_i2l (v := (p5).toInt64) hx hb dX0_matrix_15 rfl ?_
  refine xc_i (As := [.long (p0).toInt64, .long (p1).toInt64, .long (p2).toInt64, .long (p3).toInt64, .long (p4).toInt64, .long (p5).toInt64]) (rest := []) ⟨hx, hb, hml, hown, hts⟩ (cc_X0_keepMatrix l dC dI h0 _ (rk) (rn) (ma) (mb) (mc) (md) (me) (mf) (mx) (my) ((p0).toInt64) ((p1).toInt64) ((p2).toInt64) ((p3).toInt64) ((p4).toInt64) ((p5).toInt64)) 6 gX0_matrix_X0_keepMatrix rfl rfl rfl hdV_X0_keepMatrix ⟨Nat.le_of_ble_eq_true rfl, Nat.le_of_ble_eq_true rfl⟩ hP hD hK hS hA htb rfl hl.1 rfl (Nat.le_of_ble_eq_true rfl) dX0_matrix_16 ⟨Nat.zero_le _, Nat.zero_le _⟩ (fun H locs hP hD hS => ?_)
  have hP : va_P (dC, dI) vwCl (xW h0 (rk, rn, (f_X0_keepMatrix (ma) (mb) (mc) (md) (me) (mf) ((p0).toInt64) ((p1).toInt64) ((p2).toInt64) ((p3).toInt64) ((p4).toInt64) ((p5).toInt64)).2.1, (f_X0_keepMatrix (ma) (mb) (mc) (md) (me) (mf) ((p0).toInt64) ((p1).toInt64) ((p2).toInt64) ((p3).toInt64) ((p4).toInt64) ((p5).toInt64)).2.2.1, (f_X0_keepMatrix (ma) (mb) (mc) (md) (me) (mf) ((p0).toInt64) ((p1).toInt64) ((p2).toInt64) ((p3).toInt64) ((p4).toInt64) ((p5).toInt64)).2.2.2.1, (f_X0_keepMatrix (ma) (mb) (mc) (md) (me) (mf) ((p0).toInt64) ((p1).toInt64) ((p2).toInt64) ((p3).toInt64) ((p4).toInt64) ((p5).toInt64)).2.2.2.2.1, (f_X0_keepMatrix (ma) (mb) (mc) (md) (me) (mf) ((p0).toInt64) ((p1).toInt64) ((p2).toInt64) ((p3).toInt64) ((p4).toInt64) ((p5).toInt64)).2.2.2.2.2.1, (f_X0_keepMatrix (ma) (mb) (mc) (md) (me) (mf) ((p0).toInt64) ((p1).toInt64) ((p2).toInt64) ((p3).toInt64) ((p4).toInt64) ((p5).toInt64)).2.2.2.2.2.2, mx, my)) H := hP
  have hD : va_D A (xW h0 (rk, rn, (f_X0_keepMatrix (ma) (mb) (mc) (md) (me) (mf) ((p0).toInt64) ((p1).toInt64) ((p2).toInt64) ((p3).toInt64) ((p4).toInt64) ((p5).toInt64)).2.1, (f_X0_keepMatrix (ma) (mb) (mc) (md) (me) (mf) ((p0).toInt64) ((p1).toInt64) ((p2).toInt64) ((p3).toInt64) ((p4).toInt64) ((p5).toInt64)).2.2.1, (f_X0_keepMatrix (ma) (mb) (mc) (md) (me) (mf) ((p0).toInt64) ((p1).toInt64) ((p2).toInt64) ((p3).toInt64) ((p4).toInt64) ((p5).toInt64)).2.2.2.1, (f_X0_keepMatrix (ma) (mb) (mc) (md) (me) (mf) ((p0).toInt64) ((p1).toInt64) ((p2).toInt64) ((p3).toInt64) ((p4).toInt64) ((p5).toInt64)).2.2.2.2.1, (f_X0_keepMatrix (ma) (mb) (mc) (md) (me) (mf) ((p0).toInt64) ((p1).toInt64) ((p2).toInt64) ((p3).toInt64) ((p4).toInt64) ((p5).toInt64)).2.2.2.2.2.1, (f_X0_keepMatrix (ma) (mb) (mc) (md) (me) (mf) ((p0).toInt64) ((p1).toInt64) ((p2).toInt64) ((p3).toInt64) ((p4).toInt64) ((p5).toInt64)).2.2.2.2.2.2, mx, my)) := hD
  have hE : f_X0_matrix ma mb mc md me mf p0 p1 p2 p3 p4 p5 = (f_X0_keepMatrix (ma) (mb) (mc) (md) (me) (mf) ((p0).toInt64) ((p1).toInt64) ((p2).toInt64) ((p3).toInt64) ((p4).toInt64) ((p5).toInt64)) := (by rw [f_X0_matrix])
  exact x_zret hx hb hr hlocks hP hD hK hS dX0_matrix_19 (nb_keepMatrix _ _ _ _ _ _ _ _ _ _ _ _) ⟨by rw [hE], by rw [hE]⟩
theorem hdV_X0_entry : yX0_entry.cls = RX0 ∧ yX0_entry.cls ≠ "java/lang/invoke/MethodHandle" ∧ yX0_entry.cls ≠ "java/lang/invoke/VarHandle" ∧ (parseMethodDescriptor yX0_entry.desc).map (fun d => d.parameters.length) = some 1 := by decide +kernel
theorem fi_X0_entry : ∀ w ∈ wsX00, w ∈ wsX0_entry := fun _ h => List.mem_cons_of_mem _ (List.mem_append_right _ h)
def f_X0_entry (ma : Int32) (mb : Int32) (mc : Int32) (md : Int32) (me : Int32) (mf : Int32) (p0 : Int32) : Int32 := if p0 = 0 then (ma) else (if p0 = 1 then (mb) else (if p0 = 2 then (mc) else (if p0 = 3 then (md) else (if p0 = 4 then (me) else (if p0 = 5 then (mf) else (0))))))
abbrev rm_X0_entry : Room := { frames := 0, cells := 0, slots := 0, locals := 0 }
set_option maxHeartbeats 4000000 in
set_option maxRecDepth 100000 in
theorem cc_X0_entry (l : Launch) (dC : Nat → ClassId) (dI : Nat → Nat → Nat) (h0 sz : Nat) (rk rn ma mb mc md me mf mx my : Int32) (p0 : Int32)   : Met l yX0_entry wsX0_entry rm_X0_entry (va_Pc [.ref h0, .int p0] (xPre dC dI h0 sz (rk, rn, ma, mb, mc, md, me, mf, mx, my))) (xQi dC dI h0 (va_A (xW h0 (rk, rn, ma, mb, mc, md, me, mf, mx, my)) sz) ((f_X0_entry ma mb mc md me mf p0)) (rk, rn, ma, mb, mc, md, me, mf, mx, my)) 0 0 (va_A (xW h0 (rk, rn, ma, mb, mc, md, me, mf, mx, my)) sz) := by
  refine x_headi (cc := cX0_entry) (maxL := 2) (ret := some .int) (by decide) rfl rfl (Nat.le_of_ble_eq_true rfl) ?_
  intro p e s m below meth c ls A hx hb hr hlocks hml hown hts hA hP hD hK htb hS hl
  have hl : lv_has ls 2 [(0, .ref h0), (1, .int p0)] := hl
  refine lv_iload_n hx hb dX0_entry_0 rfl (lv_at hl 1 rfl) ?_
  by_cases c_1 : p0 = 0
  · skip
    refine lv_tableIn (tgt := 40) (off := 39) hx hb dX0_entry_1 (by rw [c_1]; decide) (by rw [c_1]; decide) (by rw [c_1]; decide) (by decide) ?_
    refine lv_aload_n hx hb dX0_entry_40 rfl (lv_at hl 0 rfl) ?_
    refine va_get (D := (dC, dI)) (ci := 0) (v := .int ma) (C := RX0) (T := TX0) (N := 10) hx hb hts fi_X0_entry hown hK hP 0 rfl rfl 2 (by decide) (hts (.fieldLink RX0 16 "FixedPlane" "matrixA" "I") (by decide +kernel)) (fun _ h9 => h9) rfl dX0_entry_41 ?_
    have hE : f_X0_entry ma mb mc md me mf p0 = ma := (by rw [f_X0_entry, if_pos c_1])
    exact x_iret hx hb hr hlocks hP hD hK hS dX0_entry_44 ⟨hE.symm, rfl⟩
  by_cases c_2 : p0 = 1
  · skip
    refine lv_tableIn (tgt := 45) (off := 44) hx hb dX0_entry_1 (by rw [c_2]; decide) (by rw [c_2]; decide) (by rw [c_2]; decide) (by decide) ?_
    refine lv_aload_n hx hb dX0_entry_45 rfl (lv_at hl 0 rfl) ?_
    refine va_get (D := (dC, dI)) (ci := 0) (v := .int mb) (C := RX0) (T := TX0) (N := 10) hx hb hts fi_X0_entry hown hK hP 0 rfl rfl 3 (by decide) (hts (.fieldLink RX0 72 "FixedPlane" "matrixB" "I") (by decide +kernel)) (fun _ h9 => h9) rfl dX0_entry_46 ?_
    have hE : f_X0_entry ma mb mc md me mf p0 = mb := (by rw [f_X0_entry, if_neg c_1, if_pos c_2])
    exact x_iret hx hb hr hlocks hP hD hK hS dX0_entry_49 ⟨hE.symm, rfl⟩
  by_cases c_3 : p0 = 2
  · skip
    refine lv_tableIn (tgt := 50) (off := 49) hx hb dX0_entry_1 (by rw [c_3]; decide) (by rw [c_3]; decide) (by rw [c_3]; decide) (by decide) ?_
    refine lv_aload_n hx hb dX0_entry_50 rfl (lv_at hl 0 rfl) ?_
    refine va_get (D := (dC, dI)) (ci := 0) (v := .int mc) (C := RX0) (T := TX0) (N := 10) hx hb hts fi_X0_entry hown hK hP 0 rfl rfl 4 (by decide) (hts (.fieldLink RX0 75 "FixedPlane" "matrixC" "I") (by decide +kernel)) (fun _ h9 => h9) rfl dX0_entry_51 ?_
    have hE : f_X0_entry ma mb mc md me mf p0 = mc := (by rw [f_X0_entry, if_neg c_1, if_neg c_2, if_pos c_3])
    exact x_iret hx hb hr hlocks hP hD hK hS dX0_entry_54 ⟨hE.symm, rfl⟩
  by_cases c_4 : p0 = 3
  · skip
    refine lv_tableIn (tgt := 55) (off := 54) hx hb dX0_entry_1 (by rw [c_4]; decide) (by rw [c_4]; decide) (by rw [c_4]; decide) (by decide) ?_
    refine lv_aload_n hx hb dX0_entry_55 rfl (lv_at hl 0 rfl) ?_
    refine va_get (D := (dC, dI)) (ci := 0) (v := .int md) (C := RX0) (T := TX0) (N := 10) hx hb hts fi_X0_entry hown hK hP 0 rfl rfl 5 (by decide) (hts (.fieldLink RX0 19 "FixedPlane" "matrixD" "I") (by decide +kernel)) (fun _ h9 => h9) rfl dX0_entry_56 ?_
    have hE : f_X0_entry ma mb mc md me mf p0 = md := (by rw [f_X0_entry, if_neg c_1, if_neg c_2, if_neg c_3, if_pos c_4])
    exact x_iret hx hb hr hlocks hP hD hK hS dX0_entry_59 ⟨hE.symm, rfl⟩
  by_cases c_5 : p0 = 4
  · skip
    refine lv_tableIn (tgt := 60) (off := 59) hx hb dX0_entry_1 (by rw [c_5]; decide) (by rw [c_5]; decide) (by rw [c_5]; decide) (by decide) ?_
    refine lv_aload_n hx hb dX0_entry_60 rfl (lv_at hl 0 rfl) ?_
    refine va_get (D := (dC, dI)) (ci := 0) (v := .int me) (C := RX0) (T := TX0) (N := 10) hx hb hts fi_X0_entry hown hK hP 0 rfl rfl 6 (by decide) (hts (.fieldLink RX0 78 "FixedPlane" "matrixE" "I") (by decide +kernel)) (fun _ h9 => h9) rfl dX0_entry_61 ?_
    have hE : f_X0_entry ma mb mc md me mf p0 = me := (by rw [f_X0_entry, if_neg c_1, if_neg c_2, if_neg c_3, if_neg c_4, if_pos c_5])
    exact x_iret hx hb hr hlocks hP hD hK hS dX0_entry_64 ⟨hE.symm, rfl⟩
  by_cases c_6 : p0 = 5
  · skip
    refine lv_tableIn (tgt := 65) (off := 64) hx hb dX0_entry_1 (by rw [c_6]; decide) (by rw [c_6]; decide) (by rw [c_6]; decide) (by decide) ?_
    refine lv_aload_n hx hb dX0_entry_65 rfl (lv_at hl 0 rfl) ?_
    refine va_get (D := (dC, dI)) (ci := 0) (v := .int mf) (C := RX0) (T := TX0) (N := 10) hx hb hts fi_X0_entry hown hK hP 0 rfl rfl 7 (by decide) (hts (.fieldLink RX0 81 "FixedPlane" "matrixF" "I") (by decide +kernel)) (fun _ h9 => h9) rfl dX0_entry_66 ?_
    have hE : f_X0_entry ma mb mc md me mf p0 = mf := (by rw [f_X0_entry, if_neg c_1, if_neg c_2, if_neg c_3, if_neg c_4, if_neg c_5, if_pos c_6])
    exact x_iret hx hb hr hlocks hP hD hK hS dX0_entry_69 ⟨hE.symm, rfl⟩
  refine lv_tableOut (tgt := 70) hx hb dX0_entry_1 (by have q0 : p0.toInt ≠ 0 := fun q => c_1 (Int32.toInt_inj.mp (q.trans (by decide))); have q1 : p0.toInt ≠ 1 := fun q => c_2 (Int32.toInt_inj.mp (q.trans (by decide))); have q2 : p0.toInt ≠ 2 := fun q => c_3 (Int32.toInt_inj.mp (q.trans (by decide))); have q3 : p0.toInt ≠ 3 := fun q => c_4 (Int32.toInt_inj.mp (q.trans (by decide))); have q4 : p0.toInt ≠ 4 := fun q => c_5 (Int32.toInt_inj.mp (q.trans (by decide))); have q5 : p0.toInt ≠ 5 := fun q => c_6 (Int32.toInt_inj.mp (q.trans (by decide))); omega) (by decide) ?_
  refine lv_iconst (v := 0) hx hb dX0_entry_70 (by decide) ?_
  have hE : f_X0_entry ma mb mc md me mf p0 = 0 := (by rw [f_X0_entry, if_neg c_1, if_neg c_2, if_neg c_3, if_neg c_4, if_neg c_5, if_neg c_6])
  exact x_iret hx hb hr hlocks hP hD hK hS dX0_entry_71 ⟨hE.symm, rfl⟩
theorem hdV_X0_turnedX : yX0_turnedX.cls = RX0 ∧ yX0_turnedX.cls ≠ "java/lang/invoke/MethodHandle" ∧ yX0_turnedX.cls ≠ "java/lang/invoke/VarHandle" ∧ (parseMethodDescriptor yX0_turnedX.desc).map (fun d => d.parameters.length) = some 2 := by decide +kernel
theorem fi_X0_turnedX : ∀ w ∈ wsX00, w ∈ wsX0_turnedX := fun _ h => List.mem_cons_of_mem _ (List.mem_append_right _ h)
def f_X0_turnedX (ma : Int32) (mc : Int32) (p0 : Int32) (p1 : Int32) : Int64 := (f_X0_withoutPlaces ((((p0).toInt64 * (ma).toInt64) + ((p1).toInt64 * (mc).toInt64))))
abbrev rm_X0_turnedX : Room := { frames := 1, cells := 0, slots := 0, locals := 37 }
set_option maxHeartbeats 4000000 in
set_option maxRecDepth 100000 in
theorem cc_X0_turnedX (l : Launch) (dC : Nat → ClassId) (dI : Nat → Nat → Nat) (h0 sz : Nat) (rk rn ma mb mc md me mf mx my : Int32) (p0 : Int32) (p1 : Int32)   : Met l yX0_turnedX wsX0_turnedX rm_X0_turnedX (va_Pc [.ref h0, .int p0, .int p1] (xPre dC dI h0 sz (rk, rn, ma, mb, mc, md, me, mf, mx, my))) (xQl dC dI h0 (va_A (xW h0 (rk, rn, ma, mb, mc, md, me, mf, mx, my)) sz) ((f_X0_turnedX ma mc p0 p1)) (rk, rn, ma, mb, mc, md, me, mf, mx, my)) 0 0 (va_A (xW h0 (rk, rn, ma, mb, mc, md, me, mf, mx, my)) sz) := by
  refine x_headl (cc := cX0_turnedX) (maxL := 3) (ret := some .long) (by decide) rfl rfl (Nat.le_of_ble_eq_true rfl) ?_
  intro p e s m below meth c ls A hx hb hr hlocks hml hown hts hA hP hD hK htb hS hl
  have hl : lv_has ls 3 [(0, .ref h0), (1, .int p0), (2, .int p1)] := hl
  refine lv_iload_n hx hb dX0_turnedX_0 rfl (lv_at hl 1 rfl) ?_
  refine lv_i2l (v := (p0).toInt64) hx hb dX0_turnedX_1 rfl ?_
  refine lv_aload_n hx hb dX0_turnedX_2 rfl (lv_at hl 0 rfl) ?_
  refine va_get (D := (dC, dI)) (ci := 0) (v := .int ma) (C := RX0) (T := TX0) (N := 10) hx hb hts fi_X0_turnedX hown hK hP 0 rfl rfl 2 (by decide) (hts (.fieldLink RX0 16 "FixedPlane" "matrixA" "I") (by decide +kernel)) (fun _ h9 => h9) rfl dX0_turnedX_3 ?_
  refine lv_i2l (v := (ma).toInt64) hx hb dX0_turnedX_6 rfl ?_
  refine lv_lmul hx hb dX0_turnedX_7 ?_
  refine lv_iload_n hx hb dX0_turnedX_8 rfl (lv_at hl 2 rfl) ?_
  refine lv_i2l (v := (p1).toInt64) hx hb dX0_turnedX_9 rfl ?_
  refine lv_aload_n hx hb dX0_turnedX_10 rfl (lv_at hl 0 rfl) ?_
  refine va_get (D := (dC, dI)) (ci := 0) (v := .int mc) (C := RX0) (T := TX0) (N := 10) hx hb hts fi_X0_turnedX hown hK hP 0 rfl rfl 4 (by decide) (hts (.fieldLink RX0 75 "FixedPlane" "matrixC" "I") (by decide +kernel)) (fun _ h9 => h9) rfl dX0_turnedX_11 ?_
  refine lv_i2l (v := (mc).toInt64) hx hb dX0_turnedX_14 rfl ?_
  refine lv_lmul hx hb dX0_turnedX_15 ?_
  refine lv_ladd hx hb dX0_turnedX_16 ?_
  refine pu_Sl (As := [.long (((p0).toInt64 * (ma).toInt64) + ((p1).toInt64 * (mc).toInt64))]) (rest := []) ⟨hx, hb, hml, hown, hts⟩ (cc_X0_withoutPlaces l _ ((((p0).toInt64 * (ma).toInt64) + ((p1).toInt64 * (mc).toInt64)))) 1 gX0_turnedX_X0_withoutPlaces rfl rfl rfl hdS_X0_withoutPlaces ⟨Nat.le_of_ble_eq_true rfl, Nat.le_of_ble_eq_true rfl⟩ kN_ok kN_at rfl hl.1 rfl (Nat.le_of_ble_eq_true rfl) dX0_turnedX_17 ⟨Nat.zero_le _, Nat.zero_le _⟩ ?_
  have hE : f_X0_turnedX ma mc p0 p1 = (f_X0_withoutPlaces ((((p0).toInt64 * (ma).toInt64) + ((p1).toInt64 * (mc).toInt64)))) := (by rw [f_X0_turnedX])
  exact x_lret hx hb hr hlocks hP hD hK hS dX0_turnedX_20 ⟨hE.symm, rfl⟩
theorem hdV_X0_turnedY : yX0_turnedY.cls = RX0 ∧ yX0_turnedY.cls ≠ "java/lang/invoke/MethodHandle" ∧ yX0_turnedY.cls ≠ "java/lang/invoke/VarHandle" ∧ (parseMethodDescriptor yX0_turnedY.desc).map (fun d => d.parameters.length) = some 2 := by decide +kernel
theorem fi_X0_turnedY : ∀ w ∈ wsX00, w ∈ wsX0_turnedY := fun _ h => List.mem_cons_of_mem _ (List.mem_append_right _ h)
def f_X0_turnedY (mb : Int32) (md : Int32) (p0 : Int32) (p1 : Int32) : Int64 := (f_X0_withoutPlaces ((((p0).toInt64 * (mb).toInt64) + ((p1).toInt64 * (md).toInt64))))
abbrev rm_X0_turnedY : Room := { frames := 1, cells := 0, slots := 0, locals := 37 }
set_option maxHeartbeats 4000000 in
set_option maxRecDepth 100000 in
theorem cc_X0_turnedY (l : Launch) (dC : Nat → ClassId) (dI : Nat → Nat → Nat) (h0 sz : Nat) (rk rn ma mb mc md me mf mx my : Int32) (p0 : Int32) (p1 : Int32)   : Met l yX0_turnedY wsX0_turnedY rm_X0_turnedY (va_Pc [.ref h0, .int p0, .int p1] (xPre dC dI h0 sz (rk, rn, ma, mb, mc, md, me, mf, mx, my))) (xQl dC dI h0 (va_A (xW h0 (rk, rn, ma, mb, mc, md, me, mf, mx, my)) sz) ((f_X0_turnedY mb md p0 p1)) (rk, rn, ma, mb, mc, md, me, mf, mx, my)) 0 0 (va_A (xW h0 (rk, rn, ma, mb, mc, md, me, mf, mx, my)) sz) := by
  refine x_headl (cc := cX0_turnedY) (maxL := 3) (ret := some .long) (by decide) rfl rfl (Nat.le_of_ble_eq_true rfl) ?_
  intro p e s m below meth c ls A hx hb hr hlocks hml hown hts hA hP hD hK htb hS hl
  have hl : lv_has ls 3 [(0, .ref h0), (1, .int p0), (2, .int p1)] := hl
  refine lv_iload_n hx hb dX0_turnedY_0 rfl (lv_at hl 1 rfl) ?_
  refine lv_i2l (v := (p0).toInt64) hx hb dX0_turnedY_1 rfl ?_
  refine lv_aload_n hx hb dX0_turnedY_2 rfl (lv_at hl 0 rfl) ?_
  refine va_get (D := (dC, dI)) (ci := 0) (v := .int mb) (C := RX0) (T := TX0) (N := 10) hx hb hts fi_X0_turnedY hown hK hP 0 rfl rfl 3 (by decide) (hts (.fieldLink RX0 72 "FixedPlane" "matrixB" "I") (by decide +kernel)) (fun _ h9 => h9) rfl dX0_turnedY_3 ?_
  refine lv_i2l (v := (mb).toInt64) hx hb dX0_turnedY_6 rfl ?_
  refine lv_lmul hx hb dX0_turnedY_7 ?_
  refine lv_iload_n hx hb dX0_turnedY_8 rfl (lv_at hl 2 rfl) ?_
  refine lv_i2l (v := (p1).toInt64) hx hb dX0_turnedY_9 rfl ?_
  refine lv_aload_n hx hb dX0_turnedY_10 rfl (lv_at hl 0 rfl) ?_
  refine va_get (D := (dC, dI)) (ci := 0) (v := .int md) (C := RX0) (T := TX0) (N := 10) hx hb hts fi_X0_turnedY hown hK hP 0 rfl rfl 5 (by decide) (hts (.fieldLink RX0 19 "FixedPlane" "matrixD" "I") (by decide +kernel)) (fun _ h9 => h9) rfl dX0_turnedY_11 ?_
  refine lv_i2l (v := (md).toInt64) hx hb dX0_turnedY_14 rfl ?_
  refine lv_lmul hx hb dX0_turnedY_15 ?_
  refine lv_ladd hx hb dX0_turnedY_16 ?_
  refine pu_Sl (As := [.long (((p0).toInt64 * (mb).toInt64) + ((p1).toInt64 * (md).toInt64))]) (rest := []) ⟨hx, hb, hml, hown, hts⟩ (cc_X0_withoutPlaces l _ ((((p0).toInt64 * (mb).toInt64) + ((p1).toInt64 * (md).toInt64)))) 1 gX0_turnedY_X0_withoutPlaces rfl rfl rfl hdS_X0_withoutPlaces ⟨Nat.le_of_ble_eq_true rfl, Nat.le_of_ble_eq_true rfl⟩ kN_ok kN_at rfl hl.1 rfl (Nat.le_of_ble_eq_true rfl) dX0_turnedY_17 ⟨Nat.zero_le _, Nat.zero_le _⟩ ?_
  have hE : f_X0_turnedY mb md p0 p1 = (f_X0_withoutPlaces ((((p0).toInt64 * (mb).toInt64) + ((p1).toInt64 * (md).toInt64)))) := (by rw [f_X0_turnedY])
  exact x_lret hx hb hr hlocks hP hD hK hS dX0_turnedY_20 ⟨hE.symm, rfl⟩
theorem hdV_X0_before : yX0_before.cls = RX0 ∧ yX0_before.cls ≠ "java/lang/invoke/MethodHandle" ∧ yX0_before.cls ≠ "java/lang/invoke/VarHandle" ∧ (parseMethodDescriptor yX0_before.desc).map (fun d => d.parameters.length) = some 6 := by decide +kernel
theorem fi_X0_before : ∀ w ∈ wsX00, w ∈ wsX0_before := fun _ h => List.mem_cons_of_mem _ (List.mem_append_right _ h)
def f_X0_before (ma : Int32) (mb : Int32) (mc : Int32) (md : Int32) (me : Int32) (mf : Int32) (p0 : Int32) (p1 : Int32) (p2 : Int32) (p3 : Int32) (p4 : Int32) (p5 : Int32) : Int32 × Int32 × Int32 × Int32 × Int32 × Int32 × Int32 := if (f_X0_areReals ((p0).toInt64) ((p1).toInt64) ((p2).toInt64) ((p3).toInt64) ((p4).toInt64) ((p5).toInt64)) = 0 then (((-1), ma, mb, mc, md, me, mf)) else (if (f_X0_keepMatrix (ma) (mb) (mc) (md) (me) (mf) ((f_X0_turnedX (ma) (mc) (p0) (p1))) ((f_X0_turnedY (mb) (md) (p0) (p1))) ((f_X0_turnedX (ma) (mc) (p2) (p3))) ((f_X0_turnedY (mb) (md) (p2) (p3))) (((f_X0_turnedX (ma) (mc) (p4) (p5)) + (me).toInt64)) (((f_X0_turnedY (mb) (md) (p4) (p5)) + (mf).toInt64))).1 = 0 then (((-2), (f_X0_keepMatrix (ma) (mb) (mc) (md) (me) (mf) ((f_X0_turnedX (ma) (mc) (p0) (p1))) ((f_X0_turnedY (mb) (md) (p0) (p1))) ((f_X0_turnedX (ma) (mc) (p2) (p3))) ((f_X0_turnedY (mb) (md) (p2) (p3))) (((f_X0_turnedX (ma) (mc) (p4) (p5)) + (me).toInt64)) (((f_X0_turnedY (mb) (md) (p4) (p5)) + (mf).toInt64))).2.1, (f_X0_keepMatrix (ma) (mb) (mc) (md) (me) (mf) ((f_X0_turnedX (ma) (mc) (p0) (p1))) ((f_X0_turnedY (mb) (md) (p0) (p1))) ((f_X0_turnedX (ma) (mc) (p2) (p3))) ((f_X0_turnedY (mb) (md) (p2) (p3))) (((f_X0_turnedX (ma) (mc) (p4) (p5)) + (me).toInt64)) (((f_X0_turnedY (mb) (md) (p4) (p5)) + (mf).toInt64))).2.2.1, (f_X0_keepMatrix (ma) (mb) (mc) (md) (me) (mf) ((f_X0_turnedX (ma) (mc) (p0) (p1))) ((f_X0_turnedY (mb) (md) (p0) (p1))) ((f_X0_turnedX (ma) (mc) (p2) (p3))) ((f_X0_turnedY (mb) (md) (p2) (p3))) (((f_X0_turnedX (ma) (mc) (p4) (p5)) + (me).toInt64)) (((f_X0_turnedY (mb) (md) (p4) (p5)) + (mf).toInt64))).2.2.2.1, (f_X0_keepMatrix (ma) (mb) (mc) (md) (me) (mf) ((f_X0_turnedX (ma) (mc) (p0) (p1))) ((f_X0_turnedY (mb) (md) (p0) (p1))) ((f_X0_turnedX (ma) (mc) (p2) (p3))) ((f_X0_turnedY (mb) (md) (p2) (p3))) (((f_X0_turnedX (ma) (mc) (p4) (p5)) + (me).toInt64)) (((f_X0_turnedY (mb) (md) (p4) (p5)) + (mf).toInt64))).2.2.2.2.1, (f_X0_keepMatrix (ma) (mb) (mc) (md) (me) (mf) ((f_X0_turnedX (ma) (mc) (p0) (p1))) ((f_X0_turnedY (mb) (md) (p0) (p1))) ((f_X0_turnedX (ma) (mc) (p2) (p3))) ((f_X0_turnedY (mb) (md) (p2) (p3))) (((f_X0_turnedX (ma) (mc) (p4) (p5)) + (me).toInt64)) (((f_X0_turnedY (mb) (md) (p4) (p5)) + (mf).toInt64))).2.2.2.2.2.1, (f_X0_keepMatrix (ma) (mb) (mc) (md) (me) (mf) ((f_X0_turnedX (ma) (mc) (p0) (p1))) ((f_X0_turnedY (mb) (md) (p0) (p1))) ((f_X0_turnedX (ma) (mc) (p2) (p3))) ((f_X0_turnedY (mb) (md) (p2) (p3))) (((f_X0_turnedX (ma) (mc) (p4) (p5)) + (me).toInt64)) (((f_X0_turnedY (mb) (md) (p4) (p5)) + (mf).toInt64))).2.2.2.2.2.2)) else ((1, (f_X0_keepMatrix (ma) (mb) (mc) (md) (me) (mf) ((f_X0_turnedX (ma) (mc) (p0) (p1))) ((f_X0_turnedY (mb) (md) (p0) (p1))) ((f_X0_turnedX (ma) (mc) (p2) (p3))) ((f_X0_turnedY (mb) (md) (p2) (p3))) (((f_X0_turnedX (ma) (mc) (p4) (p5)) + (me).toInt64)) (((f_X0_turnedY (mb) (md) (p4) (p5)) + (mf).toInt64))).2.1, (f_X0_keepMatrix (ma) (mb) (mc) (md) (me) (mf) ((f_X0_turnedX (ma) (mc) (p0) (p1))) ((f_X0_turnedY (mb) (md) (p0) (p1))) ((f_X0_turnedX (ma) (mc) (p2) (p3))) ((f_X0_turnedY (mb) (md) (p2) (p3))) (((f_X0_turnedX (ma) (mc) (p4) (p5)) + (me).toInt64)) (((f_X0_turnedY (mb) (md) (p4) (p5)) + (mf).toInt64))).2.2.1, (f_X0_keepMatrix (ma) (mb) (mc) (md) (me) (mf) ((f_X0_turnedX (ma) (mc) (p0) (p1))) ((f_X0_turnedY (mb) (md) (p0) (p1))) ((f_X0_turnedX (ma) (mc) (p2) (p3))) ((f_X0_turnedY (mb) (md) (p2) (p3))) (((f_X0_turnedX (ma) (mc) (p4) (p5)) + (me).toInt64)) (((f_X0_turnedY (mb) (md) (p4) (p5)) + (mf).toInt64))).2.2.2.1, (f_X0_keepMatrix (ma) (mb) (mc) (md) (me) (mf) ((f_X0_turnedX (ma) (mc) (p0) (p1))) ((f_X0_turnedY (mb) (md) (p0) (p1))) ((f_X0_turnedX (ma) (mc) (p2) (p3))) ((f_X0_turnedY (mb) (md) (p2) (p3))) (((f_X0_turnedX (ma) (mc) (p4) (p5)) + (me).toInt64)) (((f_X0_turnedY (mb) (md) (p4) (p5)) + (mf).toInt64))).2.2.2.2.1, (f_X0_keepMatrix (ma) (mb) (mc) (md) (me) (mf) ((f_X0_turnedX (ma) (mc) (p0) (p1))) ((f_X0_turnedY (mb) (md) (p0) (p1))) ((f_X0_turnedX (ma) (mc) (p2) (p3))) ((f_X0_turnedY (mb) (md) (p2) (p3))) (((f_X0_turnedX (ma) (mc) (p4) (p5)) + (me).toInt64)) (((f_X0_turnedY (mb) (md) (p4) (p5)) + (mf).toInt64))).2.2.2.2.2.1, (f_X0_keepMatrix (ma) (mb) (mc) (md) (me) (mf) ((f_X0_turnedX (ma) (mc) (p0) (p1))) ((f_X0_turnedY (mb) (md) (p0) (p1))) ((f_X0_turnedX (ma) (mc) (p2) (p3))) ((f_X0_turnedY (mb) (md) (p2) (p3))) (((f_X0_turnedX (ma) (mc) (p4) (p5)) + (me).toInt64)) (((f_X0_turnedY (mb) (md) (p4) (p5)) + (mf).toInt64))).2.2.2.2.2.2)))
abbrev rm_X0_before : Room := { frames := 3, cells := 0, slots := 0, locals := 132 }
set_option maxHeartbeats 4000000 in
set_option maxRecDepth 100000 in
theorem cc_X0_before (l : Launch) (dC : Nat → ClassId) (dI : Nat → Nat → Nat) (h0 sz : Nat) (rk rn ma mb mc md me mf mx my : Int32) (p0 : Int32) (p1 : Int32) (p2 : Int32) (p3 : Int32) (p4 : Int32) (p5 : Int32)   : Met l yX0_before wsX0_before rm_X0_before (va_Pc [.ref h0, .int p0, .int p1, .int p2, .int p3, .int p4, .int p5] (xPre dC dI h0 sz (rk, rn, ma, mb, mc, md, me, mf, mx, my))) (xQi dC dI h0 (va_A (xW h0 (rk, rn, ma, mb, mc, md, me, mf, mx, my)) sz) ((f_X0_before ma mb mc md me mf p0 p1 p2 p3 p4 p5).1) (rk, rn, (f_X0_before ma mb mc md me mf p0 p1 p2 p3 p4 p5).2.1, (f_X0_before ma mb mc md me mf p0 p1 p2 p3 p4 p5).2.2.1, (f_X0_before ma mb mc md me mf p0 p1 p2 p3 p4 p5).2.2.2.1, (f_X0_before ma mb mc md me mf p0 p1 p2 p3 p4 p5).2.2.2.2.1, (f_X0_before ma mb mc md me mf p0 p1 p2 p3 p4 p5).2.2.2.2.2.1, (f_X0_before ma mb mc md me mf p0 p1 p2 p3 p4 p5).2.2.2.2.2.2, mx, my)) 0 0 (va_A (xW h0 (rk, rn, ma, mb, mc, md, me, mf, mx, my)) sz) := by
  refine x_headi (cc := cX0_before) (maxL := 8) (ret := some .int) (by decide) rfl rfl (Nat.le_of_ble_eq_true rfl) ?_
  intro p e s m below meth c ls A hx hb hr hlocks hml hown hts hA hP hD hK htb hS hl
  have hl : lv_has ls 8 [(0, .ref h0), (1, .int p0), (2, .int p1), (3, .int p2), (4, .int p3), (5, .int p4), (6, .int p5)] := hl
  refine lv_iload_n hx hb dX0_before_0 rfl (lv_at hl 1 rfl) ?_
  refine lv_i2l (v := (p0).toInt64) hx hb dX0_before_1 rfl ?_
  refine lv_iload_n hx hb dX0_before_2 rfl (lv_at hl 2 rfl) ?_
  refine lv_i2l (v := (p1).toInt64) hx hb dX0_before_3 rfl ?_
  refine lv_iload_n hx hb dX0_before_4 rfl (lv_at hl 3 rfl) ?_
  refine lv_i2l (v := (p2).toInt64) hx hb dX0_before_5 rfl ?_
  refine lv_iload hx hb dX0_before_6 (lv_at hl 4 rfl) ?_
  refine lv_i2l (v := (p3).toInt64) hx hb dX0_before_8 rfl ?_
  refine lv_iload hx hb dX0_before_9 (lv_at hl 5 rfl) ?_
  refine lv_i2l (v := (p4).toInt64) hx hb dX0_before_11 rfl ?_
  refine lv_iload hx hb dX0_before_12 (lv_at hl 6 rfl) ?_
  refine lv_i2l (v := (p5).toInt64) hx hb dX0_before_14 rfl ?_
  refine pu_Si (As := [.long (p0).toInt64, .long (p1).toInt64, .long (p2).toInt64, .long (p3).toInt64, .long (p4).toInt64, .long (p5).toInt64]) (rest := []) ⟨hx, hb, hml, hown, hts⟩ (cc_X0_areReals l _ ((p0).toInt64) ((p1).toInt64) ((p2).toInt64) ((p3).toInt64) ((p4).toInt64) ((p5).toInt64)) 6 gX0_before_X0_areReals rfl rfl rfl hdS_X0_areReals ⟨Nat.le_of_ble_eq_true rfl, Nat.le_of_ble_eq_true rfl⟩ kN_ok kN_at rfl hl.1 rfl (Nat.le_of_ble_eq_true rfl) dX0_before_15 ⟨Nat.zero_le _, Nat.zero_le _⟩ ?_
  refine lv_if_ne (tgt := 23) hx hb dX0_before_18 (by decide) (fun c_1 => ?_) (fun c_1 => ?_)
  · skip
    refine lv_aload_n hx hb dX0_before_23 rfl (lv_at hl 0 rfl) ?_
    refine lv_aload_n hx hb dX0_before_24 rfl (lv_at hl 0 rfl) ?_
    refine lv_iload_n hx hb dX0_before_25 rfl (lv_at hl 1 rfl) ?_
    refine lv_iload_n hx hb dX0_before_26 rfl (lv_at hl 2 rfl) ?_
    refine xc_l (As := [.int p0, .int p1]) (rest := [.ref h0]) ⟨hx, hb, hml, hown, hts⟩ (cc_X0_turnedX l dC dI h0 _ (rk) (rn) (ma) (mb) (mc) (md) (me) (mf) (mx) (my) (p0) (p1)) 2 gX0_before_X0_turnedX rfl rfl rfl hdV_X0_turnedX ⟨Nat.le_of_ble_eq_true rfl, Nat.le_of_ble_eq_true rfl⟩ hP hD hK hS hA htb rfl hl.1 rfl (Nat.le_of_ble_eq_true rfl) dX0_before_27 ⟨Nat.zero_le _, Nat.zero_le _⟩ (fun H locs hP hD hS => ?_)
    have hP : va_P (dC, dI) vwCl (xW h0 (rk, rn, ma, mb, mc, md, me, mf, mx, my)) H := hP
    have hD : va_D A (xW h0 (rk, rn, ma, mb, mc, md, me, mf, mx, my)) := hD
    refine lv_aload_n hx hb dX0_before_30 rfl (lv_at hl 0 rfl) ?_
    refine lv_iload_n hx hb dX0_before_31 rfl (lv_at hl 1 rfl) ?_
    refine lv_iload_n hx hb dX0_before_32 rfl (lv_at hl 2 rfl) ?_
    refine xc_l (As := [.int p0, .int p1]) (rest := [.long (f_X0_turnedX (ma) (mc) (p0) (p1)), .ref h0]) ⟨hx, hb, hml, hown, hts⟩ (cc_X0_turnedY l dC dI h0 _ (rk) (rn) (ma) (mb) (mc) (md) (me) (mf) (mx) (my) (p0) (p1)) 2 gX0_before_X0_turnedY rfl rfl rfl hdV_X0_turnedY ⟨Nat.le_of_ble_eq_true rfl, Nat.le_of_ble_eq_true rfl⟩ hP hD hK hS hA htb rfl hl.1 rfl (Nat.le_of_ble_eq_true rfl) dX0_before_33 ⟨Nat.zero_le _, Nat.zero_le _⟩ (fun H locs hP hD hS => ?_)
    have hP : va_P (dC, dI) vwCl (xW h0 (rk, rn, ma, mb, mc, md, me, mf, mx, my)) H := hP
    have hD : va_D A (xW h0 (rk, rn, ma, mb, mc, md, me, mf, mx, my)) := hD
    refine lv_aload_n hx hb dX0_before_36 rfl (lv_at hl 0 rfl) ?_
    refine lv_iload_n hx hb dX0_before_37 rfl (lv_at hl 3 rfl) ?_
    refine lv_iload hx hb dX0_before_38 (lv_at hl 4 rfl) ?_
    refine xc_l (As := [.int p2, .int p3]) (rest := [.long (f_X0_turnedY (mb) (md) (p0) (p1)), .long (f_X0_turnedX (ma) (mc) (p0) (p1)), .ref h0]) ⟨hx, hb, hml, hown, hts⟩ (cc_X0_turnedX l dC dI h0 _ (rk) (rn) (ma) (mb) (mc) (md) (me) (mf) (mx) (my) (p2) (p3)) 2 gX0_before_X0_turnedX rfl rfl rfl hdV_X0_turnedX ⟨Nat.le_of_ble_eq_true rfl, Nat.le_of_ble_eq_true rfl⟩ hP hD hK hS hA htb rfl hl.1 rfl (Nat.le_of_ble_eq_true rfl) dX0_before_40 ⟨Nat.zero_le _, Nat.zero_le _⟩ (fun H locs hP hD hS => ?_)
    have hP : va_P (dC, dI) vwCl (xW h0 (rk, rn, ma, mb, mc, md, me, mf, mx, my)) H := hP
    have hD : va_D A (xW h0 (rk, rn, ma, mb, mc, md, me, mf, mx, my)) := hD
    refine lv_aload_n hx hb dX0_before_43 rfl (lv_at hl 0 rfl) ?_
    refine lv_iload_n hx hb dX0_before_44 rfl (lv_at hl 3 rfl) ?_
    refine lv_iload hx hb dX0_before_45 (lv_at hl 4 rfl) ?_
    refine xc_l (As := [.int p2, .int p3]) (rest := [.long (f_X0_turnedX (ma) (mc) (p2) (p3)), .long (f_X0_turnedY (mb) (md) (p0) (p1)), .long (f_X0_turnedX (ma) (mc) (p0) (p1)), .ref h0]) ⟨hx, hb, hml, hown, hts⟩ (cc_X0_turnedY l dC dI h0 _ (rk) (rn) (ma) (mb) (mc) (md) (me) (mf) (mx) (my) (p2) (p3)) 2 gX0_before_X0_turnedY rfl rfl rfl hdV_X0_turnedY ⟨Nat.le_of_ble_eq_true rfl, Nat.le_of_ble_eq_true rfl⟩ hP hD hK hS hA htb rfl hl.1 rfl (Nat.le_of_ble_eq_true rfl) dX0_before_47 ⟨Nat.zero_le _, Nat.zero_le _⟩ (fun H locs hP hD hS => ?_)
    have hP : va_P (dC, dI) vwCl (xW h0 (rk, rn, ma, mb, mc, md, me, mf, mx, my)) H := hP
    have hD : va_D A (xW h0 (rk, rn, ma, mb, mc, md, me, mf, mx, my)) := hD
    refine lv_aload_n hx hb dX0_before_50 rfl (lv_at hl 0 rfl) ?_
    refine lv_iload hx hb dX0_before_51 (lv_at hl 5 rfl) ?_
    refine lv_iload hx hb dX0_before_53 (lv_at hl 6 rfl) ?_
    refine xc_l (As := [.int p4, .int p5]) (rest := [.long (f_X0_turnedY (mb) (md) (p2) (p3)), .long (f_X0_turnedX (ma) (mc) (p2) (p3)), .long (f_X0_turnedY (mb) (md) (p0) (p1)), .long (f_X0_turnedX (ma) (mc) (p0) (p1)), .ref h0]) ⟨hx, hb, hml, hown, hts⟩ (cc_X0_turnedX l dC dI h0 _ (rk) (rn) (ma) (mb) (mc) (md) (me) (mf) (mx) (my) (p4) (p5)) 2 gX0_before_X0_turnedX rfl rfl rfl hdV_X0_turnedX ⟨Nat.le_of_ble_eq_true rfl, Nat.le_of_ble_eq_true rfl⟩ hP hD hK hS hA htb rfl hl.1 rfl (Nat.le_of_ble_eq_true rfl) dX0_before_55 ⟨Nat.zero_le _, Nat.zero_le _⟩ (fun H locs hP hD hS => ?_)
    have hP : va_P (dC, dI) vwCl (xW h0 (rk, rn, ma, mb, mc, md, me, mf, mx, my)) H := hP
    have hD : va_D A (xW h0 (rk, rn, ma, mb, mc, md, me, mf, mx, my)) := hD
    refine lv_aload_n hx hb dX0_before_58 rfl (lv_at hl 0 rfl) ?_
    refine va_get (D := (dC, dI)) (ci := 0) (v := .int me) (C := RX0) (T := TX0) (N := 10) hx hb hts fi_X0_before hown hK hP 0 rfl rfl 6 (by decide) (hts (.fieldLink RX0 78 "FixedPlane" "matrixE" "I") (by decide +kernel)) (fun _ h9 => h9) rfl dX0_before_59 ?_
    refine lv_i2l (v := (me).toInt64) hx hb dX0_before_62 rfl ?_
    refine lv_ladd hx hb dX0_before_63 ?_
    refine lv_aload_n hx hb dX0_before_64 rfl (lv_at hl 0 rfl) ?_
    refine lv_iload hx hb dX0_before_65 (lv_at hl 5 rfl) ?_
    refine lv_iload hx hb dX0_before_67 (lv_at hl 6 rfl) ?_
    refine xc_l (As := [.int p4, .int p5]) (rest := [.long ((f_X0_turnedX (ma) (mc) (p4) (p5)) + (me).toInt64), .long (f_X0_turnedY (mb) (md) (p2) (p3)), .long (f_X0_turnedX (ma) (mc) (p2) (p3)), .long (f_X0_turnedY (mb) (md) (p0) (p1)), .long (f_X0_turnedX (ma) (mc) (p0) (p1)), .ref h0]) ⟨hx, hb, hml, hown, hts⟩ (cc_X0_turnedY l dC dI h0 _ (rk) (rn) (ma) (mb) (mc) (md) (me) (mf) (mx) (my) (p4) (p5)) 2 gX0_before_X0_turnedY rfl rfl rfl hdV_X0_turnedY ⟨Nat.le_of_ble_eq_true rfl, Nat.le_of_ble_eq_true rfl⟩ hP hD hK hS hA htb rfl hl.1 rfl (Nat.le_of_ble_eq_true rfl) dX0_before_69 ⟨Nat.zero_le _, Nat.zero_le _⟩ (fun H locs hP hD hS => ?_)
    have hP : va_P (dC, dI) vwCl (xW h0 (rk, rn, ma, mb, mc, md, me, mf, mx, my)) H := hP
    have hD : va_D A (xW h0 (rk, rn, ma, mb, mc, md, me, mf, mx, my)) := hD
    refine lv_aload_n hx hb dX0_before_72 rfl (lv_at hl 0 rfl) ?_
    refine va_get (D := (dC, dI)) (ci := 0) (v := .int mf) (C := RX0) (T := TX0) (N := 10) hx hb hts fi_X0_before hown hK hP 0 rfl rfl 7 (by decide) (hts (.fieldLink RX0 81 "FixedPlane" "matrixF" "I") (by decide +kernel)) (fun _ h9 => h9) rfl dX0_before_73 ?_
    refine lv_i2l (v := (mf).toInt64) hx hb dX0_before_76 rfl ?_
    refine lv_ladd hx hb dX0_before_77 ?_
    refine xc_i (As := [.long (f_X0_turnedX (ma) (mc) (p0) (p1)), .long (f_X0_turnedY (mb) (md) (p0) (p1)), .long (f_X0_turnedX (ma) (mc) (p2) (p3)), .long (f_X0_turnedY (mb) (md) (p2) (p3)), .long ((f_X0_turnedX (ma) (mc) (p4) (p5)) + (me).toInt64), .long ((f_X0_turnedY (mb) (md) (p4) (p5)) + (mf).toInt64)]) (rest := []) ⟨hx, hb, hml, hown, hts⟩ (cc_X0_keepMatrix l dC dI h0 _ (rk) (rn) (ma) (mb) (mc) (md) (me) (mf) (mx) (my) ((f_X0_turnedX (ma) (mc) (p0) (p1))) ((f_X0_turnedY (mb) (md) (p0) (p1))) ((f_X0_turnedX (ma) (mc) (p2) (p3))) ((f_X0_turnedY (mb) (md) (p2) (p3))) (((f_X0_turnedX (ma) (mc) (p4) (p5)) + (me).toInt64)) (((f_X0_turnedY (mb) (md) (p4) (p5)) + (mf).toInt64))) 6 gX0_before_X0_keepMatrix rfl rfl rfl hdV_X0_keepMatrix ⟨Nat.le_of_ble_eq_true rfl, Nat.le_of_ble_eq_true rfl⟩ hP hD hK hS hA htb rfl hl.1 rfl (Nat.le_of_ble_eq_true rfl) dX0_before_78 ⟨Nat.zero_le _, Nat.zero_le _⟩ (fun H locs hP hD hS => ?_)
    have hP : va_P (dC, dI) vwCl (xW h0 (rk, rn, (f_X0_keepMatrix (ma) (mb) (mc) (md) (me) (mf) ((f_X0_turnedX (ma) (mc) (p0) (p1))) ((f_X0_turnedY (mb) (md) (p0) (p1))) ((f_X0_turnedX (ma) (mc) (p2) (p3))) ((f_X0_turnedY (mb) (md) (p2) (p3))) (((f_X0_turnedX (ma) (mc) (p4) (p5)) + (me).toInt64)) (((f_X0_turnedY (mb) (md) (p4) (p5)) + (mf).toInt64))).2.1, (f_X0_keepMatrix (ma) (mb) (mc) (md) (me) (mf) ((f_X0_turnedX (ma) (mc) (p0) (p1))) ((f_X0_turnedY (mb) (md) (p0) (p1))) ((f_X0_turnedX (ma) (mc) (p2) (p3))) ((f_X0_turnedY (mb) (md) (p2) (p3))) (((f_X0_turnedX (ma) (mc) (p4) (p5)) + (me).toInt64)) (((f_X0_turnedY (mb) (md) (p4) (p5)) + (mf).toInt64))).2.2.1, (f_X0_keepMatrix (ma) (mb) (mc) (md) (me) (mf) ((f_X0_turnedX (ma) (mc) (p0) (p1))) ((f_X0_turnedY (mb) (md) (p0) (p1))) ((f_X0_turnedX (ma) (mc) (p2) (p3))) ((f_X0_turnedY (mb) (md) (p2) (p3))) (((f_X0_turnedX (ma) (mc) (p4) (p5)) + (me).toInt64)) (((f_X0_turnedY (mb) (md) (p4) (p5)) + (mf).toInt64))).2.2.2.1, (f_X0_keepMatrix (ma) (mb) (mc) (md) (me) (mf) ((f_X0_turnedX (ma) (mc) (p0) (p1))) ((f_X0_turnedY (mb) (md) (p0) (p1))) ((f_X0_turnedX (ma) (mc) (p2) (p3))) ((f_X0_turnedY (mb) (md) (p2) (p3))) (((f_X0_turnedX (ma) (mc) (p4) (p5)) + (me).toInt64)) (((f_X0_turnedY (mb) (md) (p4) (p5)) + (mf).toInt64))).2.2.2.2.1, (f_X0_keepMatrix (ma) (mb) (mc) (md) (me) (mf) ((f_X0_turnedX (ma) (mc) (p0) (p1))) ((f_X0_turnedY (mb) (md) (p0) (p1))) ((f_X0_turnedX (ma) (mc) (p2) (p3))) ((f_X0_turnedY (mb) (md) (p2) (p3))) (((f_X0_turnedX (ma) (mc) (p4) (p5)) + (me).toInt64)) (((f_X0_turnedY (mb) (md) (p4) (p5)) + (mf).toInt64))).2.2.2.2.2.1, (f_X0_keepMatrix (ma) (mb) (mc) (md) (me) (mf) ((f_X0_turnedX (ma) (mc) (p0) (p1))) ((f_X0_turnedY (mb) (md) (p0) (p1))) ((f_X0_turnedX (ma) (mc) (p2) (p3))) ((f_X0_turnedY (mb) (md) (p2) (p3))) (((f_X0_turnedX (ma) (mc) (p4) (p5)) + (me).toInt64)) (((f_X0_turnedY (mb) (md) (p4) (p5)) + (mf).toInt64))).2.2.2.2.2.2, mx, my)) H := hP
    have hD : va_D A (xW h0 (rk, rn, (f_X0_keepMatrix (ma) (mb) (mc) (md) (me) (mf) ((f_X0_turnedX (ma) (mc) (p0) (p1))) ((f_X0_turnedY (mb) (md) (p0) (p1))) ((f_X0_turnedX (ma) (mc) (p2) (p3))) ((f_X0_turnedY (mb) (md) (p2) (p3))) (((f_X0_turnedX (ma) (mc) (p4) (p5)) + (me).toInt64)) (((f_X0_turnedY (mb) (md) (p4) (p5)) + (mf).toInt64))).2.1, (f_X0_keepMatrix (ma) (mb) (mc) (md) (me) (mf) ((f_X0_turnedX (ma) (mc) (p0) (p1))) ((f_X0_turnedY (mb) (md) (p0) (p1))) ((f_X0_turnedX (ma) (mc) (p2) (p3))) ((f_X0_turnedY (mb) (md) (p2) (p3))) (((f_X0_turnedX (ma) (mc) (p4) (p5)) + (me).toInt64)) (((f_X0_turnedY (mb) (md) (p4) (p5)) + (mf).toInt64))).2.2.1, (f_X0_keepMatrix (ma) (mb) (mc) (md) (me) (mf) ((f_X0_turnedX (ma) (mc) (p0) (p1))) ((f_X0_turnedY (mb) (md) (p0) (p1))) ((f_X0_turnedX (ma) (mc) (p2) (p3))) ((f_X0_turnedY (mb) (md) (p2) (p3))) (((f_X0_turnedX (ma) (mc) (p4) (p5)) + (me).toInt64)) (((f_X0_turnedY (mb) (md) (p4) (p5)) + (mf).toInt64))).2.2.2.1, (f_X0_keepMatrix (ma) (mb) (mc) (md) (me) (mf) ((f_X0_turnedX (ma) (mc) (p0) (p1))) ((f_X0_turnedY (mb) (md) (p0) (p1))) ((f_X0_turnedX (ma) (mc) (p2) (p3))) ((f_X0_turnedY (mb) (md) (p2) (p3))) (((f_X0_turnedX (ma) (mc) (p4) (p5)) + (me).toInt64)) (((f_X0_turnedY (mb) (md) (p4) (p5)) + (mf).toInt64))).2.2.2.2.1, (f_X0_keepMatrix (ma) (mb) (mc) (md) (me) (mf) ((f_X0_turnedX (ma) (mc) (p0) (p1))) ((f_X0_turnedY (mb) (md) (p0) (p1))) ((f_X0_turnedX (ma) (mc) (p2) (p3))) ((f_X0_turnedY (mb) (md) (p2) (p3))) (((f_X0_turnedX (ma) (mc) (p4) (p5)) + (me).toInt64)) (((f_X0_turnedY (mb) (md) (p4) (p5)) + (mf).toInt64))).2.2.2.2.2.1, (f_X0_keepMatrix (ma) (mb) (mc) (md) (me) (mf) ((f_X0_turnedX (ma) (mc) (p0) (p1))) ((f_X0_turnedY (mb) (md) (p0) (p1))) ((f_X0_turnedX (ma) (mc) (p2) (p3))) ((f_X0_turnedY (mb) (md) (p2) (p3))) (((f_X0_turnedX (ma) (mc) (p4) (p5)) + (me).toInt64)) (((f_X0_turnedY (mb) (md) (p4) (p5)) + (mf).toInt64))).2.2.2.2.2.2, mx, my)) := hD
    refine lv_istore (lv' := [(7, .int (f_X0_keepMatrix (ma) (mb) (mc) (md) (me) (mf) ((f_X0_turnedX (ma) (mc) (p0) (p1))) ((f_X0_turnedY (mb) (md) (p0) (p1))) ((f_X0_turnedX (ma) (mc) (p2) (p3))) ((f_X0_turnedY (mb) (md) (p2) (p3))) (((f_X0_turnedX (ma) (mc) (p4) (p5)) + (me).toInt64)) (((f_X0_turnedY (mb) (md) (p4) (p5)) + (mf).toInt64))).1), (0, .ref h0), (1, .int p0), (2, .int p1), (3, .int p2), (4, .int p3), (5, .int p4), (6, .int p5)]) hx hb dX0_before_81 hl (by decide) rfl (fun ls hl => ?_)
    refine lv_iload hx hb dX0_before_83 (lv_at hl 0 rfl) ?_
    refine lv_if_eq (tgt := 92) hx hb dX0_before_85 (by decide) (fun c_2 => ?_) (fun c_2 => ?_)
    · skip
      refine lv_bipush (v := (-2)) hx hb dX0_before_92 (by decide) ?_
      have hE : f_X0_before ma mb mc md me mf p0 p1 p2 p3 p4 p5 = ((-2), (f_X0_keepMatrix (ma) (mb) (mc) (md) (me) (mf) ((f_X0_turnedX (ma) (mc) (p0) (p1))) ((f_X0_turnedY (mb) (md) (p0) (p1))) ((f_X0_turnedX (ma) (mc) (p2) (p3))) ((f_X0_turnedY (mb) (md) (p2) (p3))) (((f_X0_turnedX (ma) (mc) (p4) (p5)) + (me).toInt64)) (((f_X0_turnedY (mb) (md) (p4) (p5)) + (mf).toInt64))).2.1, (f_X0_keepMatrix (ma) (mb) (mc) (md) (me) (mf) ((f_X0_turnedX (ma) (mc) (p0) (p1))) ((f_X0_turnedY (mb) (md) (p0) (p1))) ((f_X0_turnedX (ma) (mc) (p2) (p3))) ((f_X0_turnedY (mb) (md) (p2) (p3))) (((f_X0_turnedX (ma) (mc) (p4) (p5)) + (me).toInt64)) (((f_X0_turnedY (mb) (md) (p4) (p5)) + (mf).toInt64))).2.2.1, (f_X0_keepMatrix (ma) (mb) (mc) (md) (me) (mf) ((f_X0_turnedX (ma) (mc) (p0) (p1))) ((f_X0_turnedY (mb) (md) (p0) (p1))) ((f_X0_turnedX (ma) (mc) (p2) (p3))) ((f_X0_turnedY (mb) (md) (p2) (p3))) (((f_X0_turnedX (ma) (mc) (p4) (p5)) + (me).toInt64)) (((f_X0_turnedY (mb) (md) (p4) (p5)) + (mf).toInt64))).2.2.2.1, (f_X0_keepMatrix (ma) (mb) (mc) (md) (me) (mf) ((f_X0_turnedX (ma) (mc) (p0) (p1))) ((f_X0_turnedY (mb) (md) (p0) (p1))) ((f_X0_turnedX (ma) (mc) (p2) (p3))) ((f_X0_turnedY (mb) (md) (p2) (p3))) (((f_X0_turnedX (ma) (mc) (p4) (p5)) + (me).toInt64)) (((f_X0_turnedY (mb) (md) (p4) (p5)) + (mf).toInt64))).2.2.2.2.1, (f_X0_keepMatrix (ma) (mb) (mc) (md) (me) (mf) ((f_X0_turnedX (ma) (mc) (p0) (p1))) ((f_X0_turnedY (mb) (md) (p0) (p1))) ((f_X0_turnedX (ma) (mc) (p2) (p3))) ((f_X0_turnedY (mb) (md) (p2) (p3))) (((f_X0_turnedX (ma) (mc) (p4) (p5)) + (me).toInt64)) (((f_X0_turnedY (mb) (md) (p4) (p5)) + (mf).toInt64))).2.2.2.2.2.1, (f_X0_keepMatrix (ma) (mb) (mc) (md) (me) (mf) ((f_X0_turnedX (ma) (mc) (p0) (p1))) ((f_X0_turnedY (mb) (md) (p0) (p1))) ((f_X0_turnedX (ma) (mc) (p2) (p3))) ((f_X0_turnedY (mb) (md) (p2) (p3))) (((f_X0_turnedX (ma) (mc) (p4) (p5)) + (me).toInt64)) (((f_X0_turnedY (mb) (md) (p4) (p5)) + (mf).toInt64))).2.2.2.2.2.2) := (by rw [f_X0_before, if_neg c_1, if_pos c_2])
      exact x_iret hx hb hr hlocks hP hD hK hS dX0_before_94 ⟨by rw [hE], by rw [hE]⟩
    · skip
      refine lv_iconst (v := 1) hx hb dX0_before_88 (by decide) ?_
      refine lv_goto (tgt := 94) hx hb dX0_before_89 (by decide) ?_
      have hE : f_X0_before ma mb mc md me mf p0 p1 p2 p3 p4 p5 = (1, (f_X0_keepMatrix (ma) (mb) (mc) (md) (me) (mf) ((f_X0_turnedX (ma) (mc) (p0) (p1))) ((f_X0_turnedY (mb) (md) (p0) (p1))) ((f_X0_turnedX (ma) (mc) (p2) (p3))) ((f_X0_turnedY (mb) (md) (p2) (p3))) (((f_X0_turnedX (ma) (mc) (p4) (p5)) + (me).toInt64)) (((f_X0_turnedY (mb) (md) (p4) (p5)) + (mf).toInt64))).2.1, (f_X0_keepMatrix (ma) (mb) (mc) (md) (me) (mf) ((f_X0_turnedX (ma) (mc) (p0) (p1))) ((f_X0_turnedY (mb) (md) (p0) (p1))) ((f_X0_turnedX (ma) (mc) (p2) (p3))) ((f_X0_turnedY (mb) (md) (p2) (p3))) (((f_X0_turnedX (ma) (mc) (p4) (p5)) + (me).toInt64)) (((f_X0_turnedY (mb) (md) (p4) (p5)) + (mf).toInt64))).2.2.1, (f_X0_keepMatrix (ma) (mb) (mc) (md) (me) (mf) ((f_X0_turnedX (ma) (mc) (p0) (p1))) ((f_X0_turnedY (mb) (md) (p0) (p1))) ((f_X0_turnedX (ma) (mc) (p2) (p3))) ((f_X0_turnedY (mb) (md) (p2) (p3))) (((f_X0_turnedX (ma) (mc) (p4) (p5)) + (me).toInt64)) (((f_X0_turnedY (mb) (md) (p4) (p5)) + (mf).toInt64))).2.2.2.1, (f_X0_keepMatrix (ma) (mb) (mc) (md) (me) (mf) ((f_X0_turnedX (ma) (mc) (p0) (p1))) ((f_X0_turnedY (mb) (md) (p0) (p1))) ((f_X0_turnedX (ma) (mc) (p2) (p3))) ((f_X0_turnedY (mb) (md) (p2) (p3))) (((f_X0_turnedX (ma) (mc) (p4) (p5)) + (me).toInt64)) (((f_X0_turnedY (mb) (md) (p4) (p5)) + (mf).toInt64))).2.2.2.2.1, (f_X0_keepMatrix (ma) (mb) (mc) (md) (me) (mf) ((f_X0_turnedX (ma) (mc) (p0) (p1))) ((f_X0_turnedY (mb) (md) (p0) (p1))) ((f_X0_turnedX (ma) (mc) (p2) (p3))) ((f_X0_turnedY (mb) (md) (p2) (p3))) (((f_X0_turnedX (ma) (mc) (p4) (p5)) + (me).toInt64)) (((f_X0_turnedY (mb) (md) (p4) (p5)) + (mf).toInt64))).2.2.2.2.2.1, (f_X0_keepMatrix (ma) (mb) (mc) (md) (me) (mf) ((f_X0_turnedX (ma) (mc) (p0) (p1))) ((f_X0_turnedY (mb) (md) (p0) (p1))) ((f_X0_turnedX (ma) (mc) (p2) (p3))) ((f_X0_turnedY (mb) (md) (p2) (p3))) (((f_X0_turnedX (ma) (mc) (p4) (p5)) + (me).toInt64)) (((f_X0_turnedY (mb) (md) (p4) (p5)) + (mf).toInt64))).2.2.2.2.2.2) := (by rw [f_X0_before, if_neg c_1, if_neg c_2])
      exact x_iret hx hb hr hlocks hP hD hK hS dX0_before_94 ⟨by rw [hE], by rw [hE]⟩
  · skip
    refine lv_iconst (v := (-1)) hx hb dX0_before_21 (by decide) ?_
    have hE : f_X0_before ma mb mc md me mf p0 p1 p2 p3 p4 p5 = ((-1), ma, mb, mc, md, me, mf) := (by rw [f_X0_before, if_pos c_1])
    exact x_iret hx hb hr hlocks hP hD hK hS dX0_before_22 ⟨by rw [hE], by rw [hE]⟩
theorem hdV_X0_invert : yX0_invert.cls = RX0 ∧ yX0_invert.cls ≠ "java/lang/invoke/MethodHandle" ∧ yX0_invert.cls ≠ "java/lang/invoke/VarHandle" ∧ (parseMethodDescriptor yX0_invert.desc).map (fun d => d.parameters.length) = some 0 := by decide +kernel
theorem fi_X0_invert : ∀ w ∈ wsX00, w ∈ wsX0_invert := fun _ h => List.mem_cons_of_mem _ (List.mem_append_right _ h)
def f_X0_invert (ma : Int32) (mb : Int32) (mc : Int32) (md : Int32) (me : Int32) (mf : Int32) : Int32 × Int32 × Int32 × Int32 × Int32 × Int32 × Int32 := if (f_X0_cross (ma) (md) (mb) (mc)) = 0 then (((-3), ma, mb, mc, md, me, mf)) else (if (f_X0_keepMatrix (ma) (mb) (mc) (md) (me) (mf) ((f_X0_quotient (((md).toInt64 * 65536)) ((f_X0_cross (ma) (md) (mb) (mc))))) ((f_X0_quotient (((-(mb).toInt64) * 65536)) ((f_X0_cross (ma) (md) (mb) (mc))))) ((f_X0_quotient (((-(mc).toInt64) * 65536)) ((f_X0_cross (ma) (md) (mb) (mc))))) ((f_X0_quotient (((ma).toInt64 * 65536)) ((f_X0_cross (ma) (md) (mb) (mc))))) ((f_X0_quotient ((f_X0_cross (mc) (mf) (md) (me))) ((f_X0_cross (ma) (md) (mb) (mc))))) ((f_X0_quotient ((f_X0_cross (mb) (me) (ma) (mf))) ((f_X0_cross (ma) (md) (mb) (mc)))))).1 = 0 then (((-2), (f_X0_keepMatrix (ma) (mb) (mc) (md) (me) (mf) ((f_X0_quotient (((md).toInt64 * 65536)) ((f_X0_cross (ma) (md) (mb) (mc))))) ((f_X0_quotient (((-(mb).toInt64) * 65536)) ((f_X0_cross (ma) (md) (mb) (mc))))) ((f_X0_quotient (((-(mc).toInt64) * 65536)) ((f_X0_cross (ma) (md) (mb) (mc))))) ((f_X0_quotient (((ma).toInt64 * 65536)) ((f_X0_cross (ma) (md) (mb) (mc))))) ((f_X0_quotient ((f_X0_cross (mc) (mf) (md) (me))) ((f_X0_cross (ma) (md) (mb) (mc))))) ((f_X0_quotient ((f_X0_cross (mb) (me) (ma) (mf))) ((f_X0_cross (ma) (md) (mb) (mc)))))).2.1, (f_X0_keepMatrix (ma) (mb) (mc) (md) (me) (mf) ((f_X0_quotient (((md).toInt64 * 65536)) ((f_X0_cross (ma) (md) (mb) (mc))))) ((f_X0_quotient (((-(mb).toInt64) * 65536)) ((f_X0_cross (ma) (md) (mb) (mc))))) ((f_X0_quotient (((-(mc).toInt64) * 65536)) ((f_X0_cross (ma) (md) (mb) (mc))))) ((f_X0_quotient (((ma).toInt64 * 65536)) ((f_X0_cross (ma) (md) (mb) (mc))))) ((f_X0_quotient ((f_X0_cross (mc) (mf) (md) (me))) ((f_X0_cross (ma) (md) (mb) (mc))))) ((f_X0_quotient ((f_X0_cross (mb) (me) (ma) (mf))) ((f_X0_cross (ma) (md) (mb) (mc)))))).2.2.1, (f_X0_keepMatrix (ma) (mb) (mc) (md) (me) (mf) ((f_X0_quotient (((md).toInt64 * 65536)) ((f_X0_cross (ma) (md) (mb) (mc))))) ((f_X0_quotient (((-(mb).toInt64) * 65536)) ((f_X0_cross (ma) (md) (mb) (mc))))) ((f_X0_quotient (((-(mc).toInt64) * 65536)) ((f_X0_cross (ma) (md) (mb) (mc))))) ((f_X0_quotient (((ma).toInt64 * 65536)) ((f_X0_cross (ma) (md) (mb) (mc))))) ((f_X0_quotient ((f_X0_cross (mc) (mf) (md) (me))) ((f_X0_cross (ma) (md) (mb) (mc))))) ((f_X0_quotient ((f_X0_cross (mb) (me) (ma) (mf))) ((f_X0_cross (ma) (md) (mb) (mc)))))).2.2.2.1, (f_X0_keepMatrix (ma) (mb) (mc) (md) (me) (mf) ((f_X0_quotient (((md).toInt64 * 65536)) ((f_X0_cross (ma) (md) (mb) (mc))))) ((f_X0_quotient (((-(mb).toInt64) * 65536)) ((f_X0_cross (ma) (md) (mb) (mc))))) ((f_X0_quotient (((-(mc).toInt64) * 65536)) ((f_X0_cross (ma) (md) (mb) (mc))))) ((f_X0_quotient (((ma).toInt64 * 65536)) ((f_X0_cross (ma) (md) (mb) (mc))))) ((f_X0_quotient ((f_X0_cross (mc) (mf) (md) (me))) ((f_X0_cross (ma) (md) (mb) (mc))))) ((f_X0_quotient ((f_X0_cross (mb) (me) (ma) (mf))) ((f_X0_cross (ma) (md) (mb) (mc)))))).2.2.2.2.1, (f_X0_keepMatrix (ma) (mb) (mc) (md) (me) (mf) ((f_X0_quotient (((md).toInt64 * 65536)) ((f_X0_cross (ma) (md) (mb) (mc))))) ((f_X0_quotient (((-(mb).toInt64) * 65536)) ((f_X0_cross (ma) (md) (mb) (mc))))) ((f_X0_quotient (((-(mc).toInt64) * 65536)) ((f_X0_cross (ma) (md) (mb) (mc))))) ((f_X0_quotient (((ma).toInt64 * 65536)) ((f_X0_cross (ma) (md) (mb) (mc))))) ((f_X0_quotient ((f_X0_cross (mc) (mf) (md) (me))) ((f_X0_cross (ma) (md) (mb) (mc))))) ((f_X0_quotient ((f_X0_cross (mb) (me) (ma) (mf))) ((f_X0_cross (ma) (md) (mb) (mc)))))).2.2.2.2.2.1, (f_X0_keepMatrix (ma) (mb) (mc) (md) (me) (mf) ((f_X0_quotient (((md).toInt64 * 65536)) ((f_X0_cross (ma) (md) (mb) (mc))))) ((f_X0_quotient (((-(mb).toInt64) * 65536)) ((f_X0_cross (ma) (md) (mb) (mc))))) ((f_X0_quotient (((-(mc).toInt64) * 65536)) ((f_X0_cross (ma) (md) (mb) (mc))))) ((f_X0_quotient (((ma).toInt64 * 65536)) ((f_X0_cross (ma) (md) (mb) (mc))))) ((f_X0_quotient ((f_X0_cross (mc) (mf) (md) (me))) ((f_X0_cross (ma) (md) (mb) (mc))))) ((f_X0_quotient ((f_X0_cross (mb) (me) (ma) (mf))) ((f_X0_cross (ma) (md) (mb) (mc)))))).2.2.2.2.2.2)) else ((1, (f_X0_keepMatrix (ma) (mb) (mc) (md) (me) (mf) ((f_X0_quotient (((md).toInt64 * 65536)) ((f_X0_cross (ma) (md) (mb) (mc))))) ((f_X0_quotient (((-(mb).toInt64) * 65536)) ((f_X0_cross (ma) (md) (mb) (mc))))) ((f_X0_quotient (((-(mc).toInt64) * 65536)) ((f_X0_cross (ma) (md) (mb) (mc))))) ((f_X0_quotient (((ma).toInt64 * 65536)) ((f_X0_cross (ma) (md) (mb) (mc))))) ((f_X0_quotient ((f_X0_cross (mc) (mf) (md) (me))) ((f_X0_cross (ma) (md) (mb) (mc))))) ((f_X0_quotient ((f_X0_cross (mb) (me) (ma) (mf))) ((f_X0_cross (ma) (md) (mb) (mc)))))).2.1, (f_X0_keepMatrix (ma) (mb) (mc) (md) (me) (mf) ((f_X0_quotient (((md).toInt64 * 65536)) ((f_X0_cross (ma) (md) (mb) (mc))))) ((f_X0_quotient (((-(mb).toInt64) * 65536)) ((f_X0_cross (ma) (md) (mb) (mc))))) ((f_X0_quotient (((-(mc).toInt64) * 65536)) ((f_X0_cross (ma) (md) (mb) (mc))))) ((f_X0_quotient (((ma).toInt64 * 65536)) ((f_X0_cross (ma) (md) (mb) (mc))))) ((f_X0_quotient ((f_X0_cross (mc) (mf) (md) (me))) ((f_X0_cross (ma) (md) (mb) (mc))))) ((f_X0_quotient ((f_X0_cross (mb) (me) (ma) (mf))) ((f_X0_cross (ma) (md) (mb) (mc)))))).2.2.1, (f_X0_keepMatrix (ma) (mb) (mc) (md) (me) (mf) ((f_X0_quotient (((md).toInt64 * 65536)) ((f_X0_cross (ma) (md) (mb) (mc))))) ((f_X0_quotient (((-(mb).toInt64) * 65536)) ((f_X0_cross (ma) (md) (mb) (mc))))) ((f_X0_quotient (((-(mc).toInt64) * 65536)) ((f_X0_cross (ma) (md) (mb) (mc))))) ((f_X0_quotient (((ma).toInt64 * 65536)) ((f_X0_cross (ma) (md) (mb) (mc))))) ((f_X0_quotient ((f_X0_cross (mc) (mf) (md) (me))) ((f_X0_cross (ma) (md) (mb) (mc))))) ((f_X0_quotient ((f_X0_cross (mb) (me) (ma) (mf))) ((f_X0_cross (ma) (md) (mb) (mc)))))).2.2.2.1, (f_X0_keepMatrix (ma) (mb) (mc) (md) (me) (mf) ((f_X0_quotient (((md).toInt64 * 65536)) ((f_X0_cross (ma) (md) (mb) (mc))))) ((f_X0_quotient (((-(mb).toInt64) * 65536)) ((f_X0_cross (ma) (md) (mb) (mc))))) ((f_X0_quotient (((-(mc).toInt64) * 65536)) ((f_X0_cross (ma) (md) (mb) (mc))))) ((f_X0_quotient (((ma).toInt64 * 65536)) ((f_X0_cross (ma) (md) (mb) (mc))))) ((f_X0_quotient ((f_X0_cross (mc) (mf) (md) (me))) ((f_X0_cross (ma) (md) (mb) (mc))))) ((f_X0_quotient ((f_X0_cross (mb) (me) (ma) (mf))) ((f_X0_cross (ma) (md) (mb) (mc)))))).2.2.2.2.1, (f_X0_keepMatrix (ma) (mb) (mc) (md) (me) (mf) ((f_X0_quotient (((md).toInt64 * 65536)) ((f_X0_cross (ma) (md) (mb) (mc))))) ((f_X0_quotient (((-(mb).toInt64) * 65536)) ((f_X0_cross (ma) (md) (mb) (mc))))) ((f_X0_quotient (((-(mc).toInt64) * 65536)) ((f_X0_cross (ma) (md) (mb) (mc))))) ((f_X0_quotient (((ma).toInt64 * 65536)) ((f_X0_cross (ma) (md) (mb) (mc))))) ((f_X0_quotient ((f_X0_cross (mc) (mf) (md) (me))) ((f_X0_cross (ma) (md) (mb) (mc))))) ((f_X0_quotient ((f_X0_cross (mb) (me) (ma) (mf))) ((f_X0_cross (ma) (md) (mb) (mc)))))).2.2.2.2.2.1, (f_X0_keepMatrix (ma) (mb) (mc) (md) (me) (mf) ((f_X0_quotient (((md).toInt64 * 65536)) ((f_X0_cross (ma) (md) (mb) (mc))))) ((f_X0_quotient (((-(mb).toInt64) * 65536)) ((f_X0_cross (ma) (md) (mb) (mc))))) ((f_X0_quotient (((-(mc).toInt64) * 65536)) ((f_X0_cross (ma) (md) (mb) (mc))))) ((f_X0_quotient (((ma).toInt64 * 65536)) ((f_X0_cross (ma) (md) (mb) (mc))))) ((f_X0_quotient ((f_X0_cross (mc) (mf) (md) (me))) ((f_X0_cross (ma) (md) (mb) (mc))))) ((f_X0_quotient ((f_X0_cross (mb) (me) (ma) (mf))) ((f_X0_cross (ma) (md) (mb) (mc)))))).2.2.2.2.2.2)))
abbrev rm_X0_invert : Room := { frames := 3, cells := 0, slots := 0, locals := 132 }
set_option maxHeartbeats 4000000 in
set_option maxRecDepth 100000 in
theorem cc_X0_invert (l : Launch) (dC : Nat → ClassId) (dI : Nat → Nat → Nat) (h0 sz : Nat) (rk rn ma mb mc md me mf mx my : Int32)    : Met l yX0_invert wsX0_invert rm_X0_invert (va_Pc [.ref h0] (xPre dC dI h0 sz (rk, rn, ma, mb, mc, md, me, mf, mx, my))) (xQi dC dI h0 (va_A (xW h0 (rk, rn, ma, mb, mc, md, me, mf, mx, my)) sz) ((f_X0_invert ma mb mc md me mf).1) (rk, rn, (f_X0_invert ma mb mc md me mf).2.1, (f_X0_invert ma mb mc md me mf).2.2.1, (f_X0_invert ma mb mc md me mf).2.2.2.1, (f_X0_invert ma mb mc md me mf).2.2.2.2.1, (f_X0_invert ma mb mc md me mf).2.2.2.2.2.1, (f_X0_invert ma mb mc md me mf).2.2.2.2.2.2, mx, my)) 0 0 (va_A (xW h0 (rk, rn, ma, mb, mc, md, me, mf, mx, my)) sz) := by
  refine x_headi (cc := cX0_invert) (maxL := 4) (ret := some .int) (by decide) rfl rfl (Nat.le_of_ble_eq_true rfl) ?_
  intro p e s m below meth c ls A hx hb hr hlocks hml hown hts hA hP hD hK htb hS hl
  have hl : lv_has ls 4 [(0, .ref h0)] := hl
  refine lv_aload_n hx hb dX0_invert_0 rfl (lv_at hl 0 rfl) ?_
  refine va_get (D := (dC, dI)) (ci := 0) (v := .int ma) (C := RX0) (T := TX0) (N := 10) hx hb hts fi_X0_invert hown hK hP 0 rfl rfl 2 (by decide) (hts (.fieldLink RX0 16 "FixedPlane" "matrixA" "I") (by decide +kernel)) (fun _ h9 => h9) rfl dX0_invert_1 ?_
  refine lv_aload_n hx hb dX0_invert_4 rfl (lv_at hl 0 rfl) ?_
  refine va_get (D := (dC, dI)) (ci := 0) (v := .int md) (C := RX0) (T := TX0) (N := 10) hx hb hts fi_X0_invert hown hK hP 0 rfl rfl 5 (by decide) (hts (.fieldLink RX0 19 "FixedPlane" "matrixD" "I") (by decide +kernel)) (fun _ h9 => h9) rfl dX0_invert_5 ?_
  refine lv_aload_n hx hb dX0_invert_8 rfl (lv_at hl 0 rfl) ?_
  refine va_get (D := (dC, dI)) (ci := 0) (v := .int mb) (C := RX0) (T := TX0) (N := 10) hx hb hts fi_X0_invert hown hK hP 0 rfl rfl 3 (by decide) (hts (.fieldLink RX0 72 "FixedPlane" "matrixB" "I") (by decide +kernel)) (fun _ h9 => h9) rfl dX0_invert_9 ?_
  refine lv_aload_n hx hb dX0_invert_12 rfl (lv_at hl 0 rfl) ?_
  refine va_get (D := (dC, dI)) (ci := 0) (v := .int mc) (C := RX0) (T := TX0) (N := 10) hx hb hts fi_X0_invert hown hK hP 0 rfl rfl 4 (by decide) (hts (.fieldLink RX0 75 "FixedPlane" "matrixC" "I") (by decide +kernel)) (fun _ h9 => h9) rfl dX0_invert_13 ?_
  refine pu_Sl (As := [.int ma, .int md, .int mb, .int mc]) (rest := []) ⟨hx, hb, hml, hown, hts⟩ (cc_X0_cross l _ (ma) (md) (mb) (mc)) 4 gX0_invert_X0_cross rfl rfl rfl hdS_X0_cross ⟨Nat.le_of_ble_eq_true rfl, Nat.le_of_ble_eq_true rfl⟩ kN_ok kN_at rfl hl.1 rfl (Nat.le_of_ble_eq_true rfl) dX0_invert_16 ⟨Nat.zero_le _, Nat.zero_le _⟩ ?_
  refine lv_lstore_n (lv' := [(1, .long (f_X0_cross (ma) (md) (mb) (mc))), (0, .ref h0)]) hx hb dX0_invert_19 rfl hl (by decide) rfl (fun ls hl => ?_)
  refine lv_lload_n hx hb dX0_invert_20 rfl (lv_at hl 0 rfl) ?_
  refine lv_lconst (v := 0) hx hb dX0_invert_21 (by decide) ?_
  refine pl_ne (tgt := 29) hx hb dX0_invert_22 dX0_invert_23 (by decide) (fun c_1 => ?_) (fun c_1 => ?_)
  · skip
    refine lv_aload_n hx hb dX0_invert_29 rfl (lv_at hl 1 rfl) ?_
    refine lv_aload_n hx hb dX0_invert_30 rfl (lv_at hl 1 rfl) ?_
    refine va_get (D := (dC, dI)) (ci := 0) (v := .int md) (C := RX0) (T := TX0) (N := 10) hx hb hts fi_X0_invert hown hK hP 0 rfl rfl 5 (by decide) (hts (.fieldLink RX0 19 "FixedPlane" "matrixD" "I") (by decide +kernel)) (fun _ h9 => h9) rfl dX0_invert_31 ?_
    refine lv_i2l (v := (md).toInt64) hx hb dX0_invert_34 rfl ?_
    refine lv_ldc2 (v := 65536) hx hb hown (hts (.constantLong RX0 97 (65536)) (by decide +kernel)) dX0_invert_35 ?_
    refine lv_lmul hx hb dX0_invert_38 ?_
    refine lv_lload_n hx hb dX0_invert_39 rfl (lv_at hl 0 rfl) ?_
    refine pu_Sl (As := [.long ((md).toInt64 * 65536), .long (f_X0_cross (ma) (md) (mb) (mc))]) (rest := [.ref h0]) ⟨hx, hb, hml, hown, hts⟩ (cc_X0_quotient l _ (((md).toInt64 * 65536)) ((f_X0_cross (ma) (md) (mb) (mc))) (c_1)) 2 gX0_invert_X0_quotient rfl rfl rfl hdS_X0_quotient ⟨Nat.le_of_ble_eq_true rfl, Nat.le_of_ble_eq_true rfl⟩ kN_ok kN_at rfl hl.1 rfl (Nat.le_of_ble_eq_true rfl) dX0_invert_40 ⟨Nat.zero_le _, Nat.zero_le _⟩ ?_
    refine lv_aload_n hx hb dX0_invert_43 rfl (lv_at hl 1 rfl) ?_
    refine va_get (D := (dC, dI)) (ci := 0) (v := .int mb) (C := RX0) (T := TX0) (N := 10) hx hb hts fi_X0_invert hown hK hP 0 rfl rfl 3 (by decide) (hts (.fieldLink RX0 72 "FixedPlane" "matrixB" "I") (by decide +kernel)) (fun _ h9 => h9) rfl dX0_invert_44 ?_
    refine lv_i2l (v := (mb).toInt64) hx hb dX0_invert_47 rfl ?_
    refine lv_lneg hx hb dX0_invert_48 ?_
    refine lv_ldc2 (v := 65536) hx hb hown (hts (.constantLong RX0 97 (65536)) (by decide +kernel)) dX0_invert_49 ?_
    refine lv_lmul hx hb dX0_invert_52 ?_
    refine lv_lload_n hx hb dX0_invert_53 rfl (lv_at hl 0 rfl) ?_
    refine pu_Sl (As := [.long ((-(mb).toInt64) * 65536), .long (f_X0_cross (ma) (md) (mb) (mc))]) (rest := [.long (f_X0_quotient (((md).toInt64 * 65536)) ((f_X0_cross (ma) (md) (mb) (mc)))), .ref h0]) ⟨hx, hb, hml, hown, hts⟩ (cc_X0_quotient l _ (((-(mb).toInt64) * 65536)) ((f_X0_cross (ma) (md) (mb) (mc))) (c_1)) 2 gX0_invert_X0_quotient rfl rfl rfl hdS_X0_quotient ⟨Nat.le_of_ble_eq_true rfl, Nat.le_of_ble_eq_true rfl⟩ kN_ok kN_at rfl hl.1 rfl (Nat.le_of_ble_eq_true rfl) dX0_invert_54 ⟨Nat.zero_le _, Nat.zero_le _⟩ ?_
    refine lv_aload_n hx hb dX0_invert_57 rfl (lv_at hl 1 rfl) ?_
    refine va_get (D := (dC, dI)) (ci := 0) (v := .int mc) (C := RX0) (T := TX0) (N := 10) hx hb hts fi_X0_invert hown hK hP 0 rfl rfl 4 (by decide) (hts (.fieldLink RX0 75 "FixedPlane" "matrixC" "I") (by decide +kernel)) (fun _ h9 => h9) rfl dX0_invert_58 ?_
    refine lv_i2l (v := (mc).toInt64) hx hb dX0_invert_61 rfl ?_
    refine lv_lneg hx hb dX0_invert_62 ?_
    refine lv_ldc2 (v := 65536) hx hb hown (hts (.constantLong RX0 97 (65536)) (by decide +kernel)) dX0_invert_63 ?_
    refine lv_lmul hx hb dX0_invert_66 ?_
    refine lv_lload_n hx hb dX0_invert_67 rfl (lv_at hl 0 rfl) ?_
    refine pu_Sl (As := [.long ((-(mc).toInt64) * 65536), .long (f_X0_cross (ma) (md) (mb) (mc))]) (rest := [.long (f_X0_quotient (((-(mb).toInt64) * 65536)) ((f_X0_cross (ma) (md) (mb) (mc)))), .long (f_X0_quotient (((md).toInt64 * 65536)) ((f_X0_cross (ma) (md) (mb) (mc)))), .ref h0]) ⟨hx, hb, hml, hown, hts⟩ (cc_X0_quotient l _ (((-(mc).toInt64) * 65536)) ((f_X0_cross (ma) (md) (mb) (mc))) (c_1)) 2 gX0_invert_X0_quotient rfl rfl rfl hdS_X0_quotient ⟨Nat.le_of_ble_eq_true rfl, Nat.le_of_ble_eq_true rfl⟩ kN_ok kN_at rfl hl.1 rfl (Nat.le_of_ble_eq_true rfl) dX0_invert_68 ⟨Nat.zero_le _, Nat.zero_le _⟩ ?_
    refine lv_aload_n hx hb dX0_invert_71 rfl (lv_at hl 1 rfl) ?_
    refine va_get (D := (dC, dI)) (ci := 0) (v := .int ma) (C := RX0) (T := TX0) (N := 10) hx hb hts fi_X0_invert hown hK hP 0 rfl rfl 2 (by decide) (hts (.fieldLink RX0 16 "FixedPlane" "matrixA" "I") (by decide +kernel)) (fun _ h9 => h9) rfl dX0_invert_72 ?_
    refine lv_i2l (v := (ma).toInt64) hx hb dX0_invert_75 rfl ?_
    refine lv_ldc2 (v := 65536) hx hb hown (hts (.constantLong RX0 97 (65536)) (by decide +kernel)) dX0_invert_76 ?_
    refine lv_lmul hx hb dX0_invert_79 ?_
    refine lv_lload_n hx hb dX0_invert_80 rfl (lv_at hl 0 rfl) ?_
    refine pu_Sl (As := [.long ((ma).toInt64 * 65536), .long (f_X0_cross (ma) (md) (mb) (mc))]) (rest := [.long (f_X0_quotient (((-(mc).toInt64) * 65536)) ((f_X0_cross (ma) (md) (mb) (mc)))), .long (f_X0_quotient (((-(mb).toInt64) * 65536)) ((f_X0_cross (ma) (md) (mb) (mc)))), .long (f_X0_quotient (((md).toInt64 * 65536)) ((f_X0_cross (ma) (md) (mb) (mc)))), .ref h0]) ⟨hx, hb, hml, hown, hts⟩ (cc_X0_quotient l _ (((ma).toInt64 * 65536)) ((f_X0_cross (ma) (md) (mb) (mc))) (c_1)) 2 gX0_invert_X0_quotient rfl rfl rfl hdS_X0_quotient ⟨Nat.le_of_ble_eq_true rfl, Nat.le_of_ble_eq_true rfl⟩ kN_ok kN_at rfl hl.1 rfl (Nat.le_of_ble_eq_true rfl) dX0_invert_81 ⟨Nat.zero_le _, Nat.zero_le _⟩ ?_
    refine lv_aload_n hx hb dX0_invert_84 rfl (lv_at hl 1 rfl) ?_
    refine va_get (D := (dC, dI)) (ci := 0) (v := .int mc) (C := RX0) (T := TX0) (N := 10) hx hb hts fi_X0_invert hown hK hP 0 rfl rfl 4 (by decide) (hts (.fieldLink RX0 75 "FixedPlane" "matrixC" "I") (by decide +kernel)) (fun _ h9 => h9) rfl dX0_invert_85 ?_
    refine lv_aload_n hx hb dX0_invert_88 rfl (lv_at hl 1 rfl) ?_
    refine va_get (D := (dC, dI)) (ci := 0) (v := .int mf) (C := RX0) (T := TX0) (N := 10) hx hb hts fi_X0_invert hown hK hP 0 rfl rfl 7 (by decide) (hts (.fieldLink RX0 81 "FixedPlane" "matrixF" "I") (by decide +kernel)) (fun _ h9 => h9) rfl dX0_invert_89 ?_
    refine lv_aload_n hx hb dX0_invert_92 rfl (lv_at hl 1 rfl) ?_
    refine va_get (D := (dC, dI)) (ci := 0) (v := .int md) (C := RX0) (T := TX0) (N := 10) hx hb hts fi_X0_invert hown hK hP 0 rfl rfl 5 (by decide) (hts (.fieldLink RX0 19 "FixedPlane" "matrixD" "I") (by decide +kernel)) (fun _ h9 => h9) rfl dX0_invert_93 ?_
    refine lv_aload_n hx hb dX0_invert_96 rfl (lv_at hl 1 rfl) ?_
    refine va_get (D := (dC, dI)) (ci := 0) (v := .int me) (C := RX0) (T := TX0) (N := 10) hx hb hts fi_X0_invert hown hK hP 0 rfl rfl 6 (by decide) (hts (.fieldLink RX0 78 "FixedPlane" "matrixE" "I") (by decide +kernel)) (fun _ h9 => h9) rfl dX0_invert_97 ?_
    refine pu_Sl (As := [.int mc, .int mf, .int md, .int me]) (rest := [.long (f_X0_quotient (((ma).toInt64 * 65536)) ((f_X0_cross (ma) (md) (mb) (mc)))), .long (f_X0_quotient (((-(mc).toInt64) * 65536)) ((f_X0_cross (ma) (md) (mb) (mc)))), .long (f_X0_quotient (((-(mb).toInt64) * 65536)) ((f_X0_cross (ma) (md) (mb) (mc)))), .long (f_X0_quotient (((md).toInt64 * 65536)) ((f_X0_cross (ma) (md) (mb) (mc)))), .ref h0]) ⟨hx, hb, hml, hown, hts⟩ (cc_X0_cross l _ (mc) (mf) (md) (me)) 4 gX0_invert_X0_cross rfl rfl rfl hdS_X0_cross ⟨Nat.le_of_ble_eq_true rfl, Nat.le_of_ble_eq_true rfl⟩ kN_ok kN_at rfl hl.1 rfl (Nat.le_of_ble_eq_true rfl) dX0_invert_100 ⟨Nat.zero_le _, Nat.zero_le _⟩ ?_
    refine lv_lload_n hx hb dX0_invert_103 rfl (lv_at hl 0 rfl) ?_
    refine pu_Sl (As := [.long (f_X0_cross (mc) (mf) (md) (me)), .long (f_X0_cross (ma) (md) (mb) (mc))]) (rest := [.long (f_X0_quotient (((ma).toInt64 * 65536)) ((f_X0_cross (ma) (md) (mb) (mc)))), .long (f_X0_quotient (((-(mc).toInt64) * 65536)) ((f_X0_cross (ma) (md) (mb) (mc)))), .long (f_X0_quotient (((-(mb).toInt64) * 65536)) ((f_X0_cross (ma) (md) (mb) (mc)))), .long (f_X0_quotient (((md).toInt64 * 65536)) ((f_X0_cross (ma) (md) (mb) (mc)))), .ref h0]) ⟨hx, hb, hml, hown, hts⟩ (cc_X0_quotient l _ ((f_X0_cross (mc) (mf) (md) (me))) ((f_X0_cross (ma) (md) (mb) (mc))) (c_1)) 2 gX0_invert_X0_quotient rfl rfl rfl hdS_X0_quotient ⟨Nat.le_of_ble_eq_true rfl, Nat.le_of_ble_eq_true rfl⟩ kN_ok kN_at rfl hl.1 rfl (Nat.le_of_ble_eq_true rfl) dX0_invert_104 ⟨Nat.zero_le _, Nat.zero_le _⟩ ?_
    refine lv_aload_n hx hb dX0_invert_107 rfl (lv_at hl 1 rfl) ?_
    refine va_get (D := (dC, dI)) (ci := 0) (v := .int mb) (C := RX0) (T := TX0) (N := 10) hx hb hts fi_X0_invert hown hK hP 0 rfl rfl 3 (by decide) (hts (.fieldLink RX0 72 "FixedPlane" "matrixB" "I") (by decide +kernel)) (fun _ h9 => h9) rfl dX0_invert_108 ?_
    refine lv_aload_n hx hb dX0_invert_111 rfl (lv_at hl 1 rfl) ?_
    refine va_get (D := (dC, dI)) (ci := 0) (v := .int me) (C := RX0) (T := TX0) (N := 10) hx hb hts fi_X0_invert hown hK hP 0 rfl rfl 6 (by decide) (hts (.fieldLink RX0 78 "FixedPlane" "matrixE" "I") (by decide +kernel)) (fun _ h9 => h9) rfl dX0_invert_112 ?_
    refine lv_aload_n hx hb dX0_invert_115 rfl (lv_at hl 1 rfl) ?_
    refine va_get (D := (dC, dI)) (ci := 0) (v := .int ma) (C := RX0) (T := TX0) (N := 10) hx hb hts fi_X0_invert hown hK hP 0 rfl rfl 2 (by decide) (hts (.fieldLink RX0 16 "FixedPlane" "matrixA" "I") (by decide +kernel)) (fun _ h9 => h9) rfl dX0_invert_116 ?_
    refine lv_aload_n hx hb dX0_invert_119 rfl (lv_at hl 1 rfl) ?_
    refine va_get (D := (dC, dI)) (ci := 0) (v := .int mf) (C := RX0) (T := TX0) (N := 10) hx hb hts fi_X0_invert hown hK hP 0 rfl rfl 7 (by decide) (hts (.fieldLink RX0 81 "FixedPlane" "matrixF" "I") (by decide +kernel)) (fun _ h9 => h9) rfl dX0_invert_120 ?_
    refine pu_Sl (As := [.int mb, .int me, .int ma, .int mf]) (rest := [.long (f_X0_quotient ((f_X0_cross (mc) (mf) (md) (me))) ((f_X0_cross (ma) (md) (mb) (mc)))), .long (f_X0_quotient (((ma).toInt64 * 65536)) ((f_X0_cross (ma) (md) (mb) (mc)))), .long (f_X0_quotient (((-(mc).toInt64) * 65536)) ((f_X0_cross (ma) (md) (mb) (mc)))), .long (f_X0_quotient (((-(mb).toInt64) * 65536)) ((f_X0_cross (ma) (md) (mb) (mc)))), .long (f_X0_quotient (((md).toInt64 * 65536)) ((f_X0_cross (ma) (md) (mb) (mc)))), .ref h0]) ⟨hx, hb, hml, hown, hts⟩ (cc_X0_cross l _ (mb) (me) (ma) (mf)) 4 gX0_invert_X0_cross rfl rfl rfl hdS_X0_cross ⟨Nat.le_of_ble_eq_true rfl, Nat.le_of_ble_eq_true rfl⟩ kN_ok kN_at rfl hl.1 rfl (Nat.le_of_ble_eq_true rfl) dX0_invert_123 ⟨Nat.zero_le _, Nat.zero_le _⟩ ?_
    refine lv_lload_n hx hb dX0_invert_126 rfl (lv_at hl 0 rfl) ?_
    refine pu_Sl (As := [.long (f_X0_cross (mb) (me) (ma) (mf)), .long (f_X0_cross (ma) (md) (mb) (mc))]) (rest := [.long (f_X0_quotient ((f_X0_cross (mc) (mf) (md) (me))) ((f_X0_cross (ma) (md) (mb) (mc)))), .long (f_X0_quotient (((ma).toInt64 * 65536)) ((f_X0_cross (ma) (md) (mb) (mc)))), .long (f_X0_quotient (((-(mc).toInt64) * 65536)) ((f_X0_cross (ma) (md) (mb) (mc)))), .long (f_X0_quotient (((-(mb).toInt64) * 65536)) ((f_X0_cross (ma) (md) (mb) (mc)))), .long (f_X0_quotient (((md).toInt64 * 65536)) ((f_X0_cross (ma) (md) (mb) (mc)))), .ref h0]) ⟨hx, hb, hml, hown, hts⟩ (cc_X0_quotient l _ ((f_X0_cross (mb) (me) (ma) (mf))) ((f_X0_cross (ma) (md) (mb) (mc))) (c_1)) 2 gX0_invert_X0_quotient rfl rfl rfl hdS_X0_quotient ⟨Nat.le_of_ble_eq_true rfl, Nat.le_of_ble_eq_true rfl⟩ kN_ok kN_at rfl hl.1 rfl (Nat.le_of_ble_eq_true rfl) dX0_invert_127 ⟨Nat.zero_le _, Nat.zero_le _⟩ ?_
    refine xc_i (As := [.long (f_X0_quotient (((md).toInt64 * 65536)) ((f_X0_cross (ma) (md) (mb) (mc)))), .long (f_X0_quotient (((-(mb).toInt64) * 65536)) ((f_X0_cross (ma) (md) (mb) (mc)))), .long (f_X0_quotient (((-(mc).toInt64) * 65536)) ((f_X0_cross (ma) (md) (mb) (mc)))), .long (f_X0_quotient (((ma).toInt64 * 65536)) ((f_X0_cross (ma) (md) (mb) (mc)))), .long (f_X0_quotient ((f_X0_cross (mc) (mf) (md) (me))) ((f_X0_cross (ma) (md) (mb) (mc)))), .long (f_X0_quotient ((f_X0_cross (mb) (me) (ma) (mf))) ((f_X0_cross (ma) (md) (mb) (mc))))]) (rest := []) ⟨hx, hb, hml, hown, hts⟩ (cc_X0_keepMatrix l dC dI h0 _ (rk) (rn) (ma) (mb) (mc) (md) (me) (mf) (mx) (my) ((f_X0_quotient (((md).toInt64 * 65536)) ((f_X0_cross (ma) (md) (mb) (mc))))) ((f_X0_quotient (((-(mb).toInt64) * 65536)) ((f_X0_cross (ma) (md) (mb) (mc))))) ((f_X0_quotient (((-(mc).toInt64) * 65536)) ((f_X0_cross (ma) (md) (mb) (mc))))) ((f_X0_quotient (((ma).toInt64 * 65536)) ((f_X0_cross (ma) (md) (mb) (mc))))) ((f_X0_quotient ((f_X0_cross (mc) (mf) (md) (me))) ((f_X0_cross (ma) (md) (mb) (mc))))) ((f_X0_quotient ((f_X0_cross (mb) (me) (ma) (mf))) ((f_X0_cross (ma) (md) (mb) (mc)))))) 6 gX0_invert_X0_keepMatrix rfl rfl rfl hdV_X0_keepMatrix ⟨Nat.le_of_ble_eq_true rfl, Nat.le_of_ble_eq_true rfl⟩ hP hD hK hS hA htb rfl hl.1 rfl (Nat.le_of_ble_eq_true rfl) dX0_invert_130 ⟨Nat.zero_le _, Nat.zero_le _⟩ (fun H locs hP hD hS => ?_)
    have hP : va_P (dC, dI) vwCl (xW h0 (rk, rn, (f_X0_keepMatrix (ma) (mb) (mc) (md) (me) (mf) ((f_X0_quotient (((md).toInt64 * 65536)) ((f_X0_cross (ma) (md) (mb) (mc))))) ((f_X0_quotient (((-(mb).toInt64) * 65536)) ((f_X0_cross (ma) (md) (mb) (mc))))) ((f_X0_quotient (((-(mc).toInt64) * 65536)) ((f_X0_cross (ma) (md) (mb) (mc))))) ((f_X0_quotient (((ma).toInt64 * 65536)) ((f_X0_cross (ma) (md) (mb) (mc))))) ((f_X0_quotient ((f_X0_cross (mc) (mf) (md) (me))) ((f_X0_cross (ma) (md) (mb) (mc))))) ((f_X0_quotient ((f_X0_cross (mb) (me) (ma) (mf))) ((f_X0_cross (ma) (md) (mb) (mc)))))).2.1, (f_X0_keepMatrix (ma) (mb) (mc) (md) (me) (mf) ((f_X0_quotient (((md).toInt64 * 65536)) ((f_X0_cross (ma) (md) (mb) (mc))))) ((f_X0_quotient (((-(mb).toInt64) * 65536)) ((f_X0_cross (ma) (md) (mb) (mc))))) ((f_X0_quotient (((-(mc).toInt64) * 65536)) ((f_X0_cross (ma) (md) (mb) (mc))))) ((f_X0_quotient (((ma).toInt64 * 65536)) ((f_X0_cross (ma) (md) (mb) (mc))))) ((f_X0_quotient ((f_X0_cross (mc) (mf) (md) (me))) ((f_X0_cross (ma) (md) (mb) (mc))))) ((f_X0_quotient ((f_X0_cross (mb) (me) (ma) (mf))) ((f_X0_cross (ma) (md) (mb) (mc)))))).2.2.1, (f_X0_keepMatrix (ma) (mb) (mc) (md) (me) (mf) ((f_X0_quotient (((md).toInt64 * 65536)) ((f_X0_cross (ma) (md) (mb) (mc))))) ((f_X0_quotient (((-(mb).toInt64) * 65536)) ((f_X0_cross (ma) (md) (mb) (mc))))) ((f_X0_quotient (((-(mc).toInt64) * 65536)) ((f_X0_cross (ma) (md) (mb) (mc))))) ((f_X0_quotient (((ma).toInt64 * 65536)) ((f_X0_cross (ma) (md) (mb) (mc))))) ((f_X0_quotient ((f_X0_cross (mc) (mf) (md) (me))) ((f_X0_cross (ma) (md) (mb) (mc))))) ((f_X0_quotient ((f_X0_cross (mb) (me) (ma) (mf))) ((f_X0_cross (ma) (md) (mb) (mc)))))).2.2.2.1, (f_X0_keepMatrix (ma) (mb) (mc) (md) (me) (mf) ((f_X0_quotient (((md).toInt64 * 65536)) ((f_X0_cross (ma) (md) (mb) (mc))))) ((f_X0_quotient (((-(mb).toInt64) * 65536)) ((f_X0_cross (ma) (md) (mb) (mc))))) ((f_X0_quotient (((-(mc).toInt64) * 65536)) ((f_X0_cross (ma) (md) (mb) (mc))))) ((f_X0_quotient (((ma).toInt64 * 65536)) ((f_X0_cross (ma) (md) (mb) (mc))))) ((f_X0_quotient ((f_X0_cross (mc) (mf) (md) (me))) ((f_X0_cross (ma) (md) (mb) (mc))))) ((f_X0_quotient ((f_X0_cross (mb) (me) (ma) (mf))) ((f_X0_cross (ma) (md) (mb) (mc)))))).2.2.2.2.1, (f_X0_keepMatrix (ma) (mb) (mc) (md) (me) (mf) ((f_X0_quotient (((md).toInt64 * 65536)) ((f_X0_cross (ma) (md) (mb) (mc))))) ((f_X0_quotient (((-(mb).toInt64) * 65536)) ((f_X0_cross (ma) (md) (mb) (mc))))) ((f_X0_quotient (((-(mc).toInt64) * 65536)) ((f_X0_cross (ma) (md) (mb) (mc))))) ((f_X0_quotient (((ma).toInt64 * 65536)) ((f_X0_cross (ma) (md) (mb) (mc))))) ((f_X0_quotient ((f_X0_cross (mc) (mf) (md) (me))) ((f_X0_cross (ma) (md) (mb) (mc))))) ((f_X0_quotient ((f_X0_cross (mb) (me) (ma) (mf))) ((f_X0_cross (ma) (md) (mb) (mc)))))).2.2.2.2.2.1, (f_X0_keepMatrix (ma) (mb) (mc) (md) (me) (mf) ((f_X0_quotient (((md).toInt64 * 65536)) ((f_X0_cross (ma) (md) (mb) (mc))))) ((f_X0_quotient (((-(mb).toInt64) * 65536)) ((f_X0_cross (ma) (md) (mb) (mc))))) ((f_X0_quotient (((-(mc).toInt64) * 65536)) ((f_X0_cross (ma) (md) (mb) (mc))))) ((f_X0_quotient (((ma).toInt64 * 65536)) ((f_X0_cross (ma) (md) (mb) (mc))))) ((f_X0_quotient ((f_X0_cross (mc) (mf) (md) (me))) ((f_X0_cross (ma) (md) (mb) (mc))))) ((f_X0_quotient ((f_X0_cross (mb) (me) (ma) (mf))) ((f_X0_cross (ma) (md) (mb) (mc)))))).2.2.2.2.2.2, mx, my)) H := hP
    have hD : va_D A (xW h0 (rk, rn, (f_X0_keepMatrix (ma) (mb) (mc) (md) (me) (mf) ((f_X0_quotient (((md).toInt64 * 65536)) ((f_X0_cross (ma) (md) (mb) (mc))))) ((f_X0_quotient (((-(mb).toInt64) * 65536)) ((f_X0_cross (ma) (md) (mb) (mc))))) ((f_X0_quotient (((-(mc).toInt64) * 65536)) ((f_X0_cross (ma) (md) (mb) (mc))))) ((f_X0_quotient (((ma).toInt64 * 65536)) ((f_X0_cross (ma) (md) (mb) (mc))))) ((f_X0_quotient ((f_X0_cross (mc) (mf) (md) (me))) ((f_X0_cross (ma) (md) (mb) (mc))))) ((f_X0_quotient ((f_X0_cross (mb) (me) (ma) (mf))) ((f_X0_cross (ma) (md) (mb) (mc)))))).2.1, (f_X0_keepMatrix (ma) (mb) (mc) (md) (me) (mf) ((f_X0_quotient (((md).toInt64 * 65536)) ((f_X0_cross (ma) (md) (mb) (mc))))) ((f_X0_quotient (((-(mb).toInt64) * 65536)) ((f_X0_cross (ma) (md) (mb) (mc))))) ((f_X0_quotient (((-(mc).toInt64) * 65536)) ((f_X0_cross (ma) (md) (mb) (mc))))) ((f_X0_quotient (((ma).toInt64 * 65536)) ((f_X0_cross (ma) (md) (mb) (mc))))) ((f_X0_quotient ((f_X0_cross (mc) (mf) (md) (me))) ((f_X0_cross (ma) (md) (mb) (mc))))) ((f_X0_quotient ((f_X0_cross (mb) (me) (ma) (mf))) ((f_X0_cross (ma) (md) (mb) (mc)))))).2.2.1, (f_X0_keepMatrix (ma) (mb) (mc) (md) (me) (mf) ((f_X0_quotient (((md).toInt64 * 65536)) ((f_X0_cross (ma) (md) (mb) (mc))))) ((f_X0_quotient (((-(mb).toInt64) * 65536)) ((f_X0_cross (ma) (md) (mb) (mc))))) ((f_X0_quotient (((-(mc).toInt64) * 65536)) ((f_X0_cross (ma) (md) (mb) (mc))))) ((f_X0_quotient (((ma).toInt64 * 65536)) ((f_X0_cross (ma) (md) (mb) (mc))))) ((f_X0_quotient ((f_X0_cross (mc) (mf) (md) (me))) ((f_X0_cross (ma) (md) (mb) (mc))))) ((f_X0_quotient ((f_X0_cross (mb) (me) (ma) (mf))) ((f_X0_cross (ma) (md) (mb) (mc)))))).2.2.2.1, (f_X0_keepMatrix (ma) (mb) (mc) (md) (me) (mf) ((f_X0_quotient (((md).toInt64 * 65536)) ((f_X0_cross (ma) (md) (mb) (mc))))) ((f_X0_quotient (((-(mb).toInt64) * 65536)) ((f_X0_cross (ma) (md) (mb) (mc))))) ((f_X0_quotient (((-(mc).toInt64) * 65536)) ((f_X0_cross (ma) (md) (mb) (mc))))) ((f_X0_quotient (((ma).toInt64 * 65536)) ((f_X0_cross (ma) (md) (mb) (mc))))) ((f_X0_quotient ((f_X0_cross (mc) (mf) (md) (me))) ((f_X0_cross (ma) (md) (mb) (mc))))) ((f_X0_quotient ((f_X0_cross (mb) (me) (ma) (mf))) ((f_X0_cross (ma) (md) (mb) (mc)))))).2.2.2.2.1, (f_X0_keepMatrix (ma) (mb) (mc) (md) (me) (mf) ((f_X0_quotient (((md).toInt64 * 65536)) ((f_X0_cross (ma) (md) (mb) (mc))))) ((f_X0_quotient (((-(mb).toInt64) * 65536)) ((f_X0_cross (ma) (md) (mb) (mc))))) ((f_X0_quotient (((-(mc).toInt64) * 65536)) ((f_X0_cross (ma) (md) (mb) (mc))))) ((f_X0_quotient (((ma).toInt64 * 65536)) ((f_X0_cross (ma) (md) (mb) (mc))))) ((f_X0_quotient ((f_X0_cross (mc) (mf) (md) (me))) ((f_X0_cross (ma) (md) (mb) (mc))))) ((f_X0_quotient ((f_X0_cross (mb) (me) (ma) (mf))) ((f_X0_cross (ma) (md) (mb) (mc)))))).2.2.2.2.2.1, (f_X0_keepMatrix (ma) (mb) (mc) (md) (me) (mf) ((f_X0_quotient (((md).toInt64 * 65536)) ((f_X0_cross (ma) (md) (mb) (mc))))) ((f_X0_quotient (((-(mb).toInt64) * 65536)) ((f_X0_cross (ma) (md) (mb) (mc))))) ((f_X0_quotient (((-(mc).toInt64) * 65536)) ((f_X0_cross (ma) (md) (mb) (mc))))) ((f_X0_quotient (((ma).toInt64 * 65536)) ((f_X0_cross (ma) (md) (mb) (mc))))) ((f_X0_quotient ((f_X0_cross (mc) (mf) (md) (me))) ((f_X0_cross (ma) (md) (mb) (mc))))) ((f_X0_quotient ((f_X0_cross (mb) (me) (ma) (mf))) ((f_X0_cross (ma) (md) (mb) (mc)))))).2.2.2.2.2.2, mx, my)) := hD
    refine lv_istore_n (lv' := [(3, .int (f_X0_keepMatrix (ma) (mb) (mc) (md) (me) (mf) ((f_X0_quotient (((md).toInt64 * 65536)) ((f_X0_cross (ma) (md) (mb) (mc))))) ((f_X0_quotient (((-(mb).toInt64) * 65536)) ((f_X0_cross (ma) (md) (mb) (mc))))) ((f_X0_quotient (((-(mc).toInt64) * 65536)) ((f_X0_cross (ma) (md) (mb) (mc))))) ((f_X0_quotient (((ma).toInt64 * 65536)) ((f_X0_cross (ma) (md) (mb) (mc))))) ((f_X0_quotient ((f_X0_cross (mc) (mf) (md) (me))) ((f_X0_cross (ma) (md) (mb) (mc))))) ((f_X0_quotient ((f_X0_cross (mb) (me) (ma) (mf))) ((f_X0_cross (ma) (md) (mb) (mc)))))).1), (1, .long (f_X0_cross (ma) (md) (mb) (mc))), (0, .ref h0)]) hx hb dX0_invert_133 rfl hl (by decide) rfl (fun ls hl => ?_)
    refine lv_iload_n hx hb dX0_invert_134 rfl (lv_at hl 0 rfl) ?_
    refine lv_if_eq (tgt := 142) hx hb dX0_invert_135 (by decide) (fun c_2 => ?_) (fun c_2 => ?_)
    · skip
      refine lv_bipush (v := (-2)) hx hb dX0_invert_142 (by decide) ?_
      have hE : f_X0_invert ma mb mc md me mf = ((-2), (f_X0_keepMatrix (ma) (mb) (mc) (md) (me) (mf) ((f_X0_quotient (((md).toInt64 * 65536)) ((f_X0_cross (ma) (md) (mb) (mc))))) ((f_X0_quotient (((-(mb).toInt64) * 65536)) ((f_X0_cross (ma) (md) (mb) (mc))))) ((f_X0_quotient (((-(mc).toInt64) * 65536)) ((f_X0_cross (ma) (md) (mb) (mc))))) ((f_X0_quotient (((ma).toInt64 * 65536)) ((f_X0_cross (ma) (md) (mb) (mc))))) ((f_X0_quotient ((f_X0_cross (mc) (mf) (md) (me))) ((f_X0_cross (ma) (md) (mb) (mc))))) ((f_X0_quotient ((f_X0_cross (mb) (me) (ma) (mf))) ((f_X0_cross (ma) (md) (mb) (mc)))))).2.1, (f_X0_keepMatrix (ma) (mb) (mc) (md) (me) (mf) ((f_X0_quotient (((md).toInt64 * 65536)) ((f_X0_cross (ma) (md) (mb) (mc))))) ((f_X0_quotient (((-(mb).toInt64) * 65536)) ((f_X0_cross (ma) (md) (mb) (mc))))) ((f_X0_quotient (((-(mc).toInt64) * 65536)) ((f_X0_cross (ma) (md) (mb) (mc))))) ((f_X0_quotient (((ma).toInt64 * 65536)) ((f_X0_cross (ma) (md) (mb) (mc))))) ((f_X0_quotient ((f_X0_cross (mc) (mf) (md) (me))) ((f_X0_cross (ma) (md) (mb) (mc))))) ((f_X0_quotient ((f_X0_cross (mb) (me) (ma) (mf))) ((f_X0_cross (ma) (md) (mb) (mc)))))).2.2.1, (f_X0_keepMatrix (ma) (mb) (mc) (md) (me) (mf) ((f_X0_quotient (((md).toInt64 * 65536)) ((f_X0_cross (ma) (md) (mb) (mc))))) ((f_X0_quotient (((-(mb).toInt64) * 65536)) ((f_X0_cross (ma) (md) (mb) (mc))))) ((f_X0_quotient (((-(mc).toInt64) * 65536)) ((f_X0_cross (ma) (md) (mb) (mc))))) ((f_X0_quotient (((ma).toInt64 * 65536)) ((f_X0_cross (ma) (md) (mb) (mc))))) ((f_X0_quotient ((f_X0_cross (mc) (mf) (md) (me))) ((f_X0_cross (ma) (md) (mb) (mc))))) ((f_X0_quotient ((f_X0_cross (mb) (me) (ma) (mf))) ((f_X0_cross (ma) (md) (mb) (mc)))))).2.2.2.1, (f_X0_keepMatrix (ma) (mb) (mc) (md) (me) (mf) ((f_X0_quotient (((md).toInt64 * 65536)) ((f_X0_cross (ma) (md) (mb) (mc))))) ((f_X0_quotient (((-(mb).toInt64) * 65536)) ((f_X0_cross (ma) (md) (mb) (mc))))) ((f_X0_quotient (((-(mc).toInt64) * 65536)) ((f_X0_cross (ma) (md) (mb) (mc))))) ((f_X0_quotient (((ma).toInt64 * 65536)) ((f_X0_cross (ma) (md) (mb) (mc))))) ((f_X0_quotient ((f_X0_cross (mc) (mf) (md) (me))) ((f_X0_cross (ma) (md) (mb) (mc))))) ((f_X0_quotient ((f_X0_cross (mb) (me) (ma) (mf))) ((f_X0_cross (ma) (md) (mb) (mc)))))).2.2.2.2.1, (f_X0_keepMatrix (ma) (mb) (mc) (md) (me) (mf) ((f_X0_quotient (((md).toInt64 * 65536)) ((f_X0_cross (ma) (md) (mb) (mc))))) ((f_X0_quotient (((-(mb).toInt64) * 65536)) ((f_X0_cross (ma) (md) (mb) (mc))))) ((f_X0_quotient (((-(mc).toInt64) * 65536)) ((f_X0_cross (ma) (md) (mb) (mc))))) ((f_X0_quotient (((ma).toInt64 * 65536)) ((f_X0_cross (ma) (md) (mb) (mc))))) ((f_X0_quotient ((f_X0_cross (mc) (mf) (md) (me))) ((f_X0_cross (ma) (md) (mb) (mc))))) ((f_X0_quotient ((f_X0_cross (mb) (me) (ma) (mf))) ((f_X0_cross (ma) (md) (mb) (mc)))))).2.2.2.2.2.1, (f_X0_keepMatrix (ma) (mb) (mc) (md) (me) (mf) ((f_X0_quotient (((md).toInt64 * 65536)) ((f_X0_cross (ma) (md) (mb) (mc))))) ((f_X0_quotient (((-(mb).toInt64) * 65536)) ((f_X0_cross (ma) (md) (mb) (mc))))) ((f_X0_quotient (((-(mc).toInt64) * 65536)) ((f_X0_cross (ma) (md) (mb) (mc))))) ((f_X0_quotient (((ma).toInt64 * 65536)) ((f_X0_cross (ma) (md) (mb) (mc))))) ((f_X0_quotient ((f_X0_cross (mc) (mf) (md) (me))) ((f_X0_cross (ma) (md) (mb) (mc))))) ((f_X0_quotient ((f_X0_cross (mb) (me) (ma) (mf))) ((f_X0_cross (ma) (md) (mb) (mc)))))).2.2.2.2.2.2) := (by rw [f_X0_invert, if_neg c_1, if_pos c_2])
      exact x_iret hx hb hr hlocks hP hD hK hS dX0_invert_144 ⟨by rw [hE], by rw [hE]⟩
    · skip
      refine lv_iconst (v := 1) hx hb dX0_invert_138 (by decide) ?_
      refine lv_goto (tgt := 144) hx hb dX0_invert_139 (by decide) ?_
      have hE : f_X0_invert ma mb mc md me mf = (1, (f_X0_keepMatrix (ma) (mb) (mc) (md) (me) (mf) ((f_X0_quotient (((md).toInt64 * 65536)) ((f_X0_cross (ma) (md) (mb) (mc))))) ((f_X0_quotient (((-(mb).toInt64) * 65536)) ((f_X0_cross (ma) (md) (mb) (mc))))) ((f_X0_quotient (((-(mc).toInt64) * 65536)) ((f_X0_cross (ma) (md) (mb) (mc))))) ((f_X0_quotient (((ma).toInt64 * 65536)) ((f_X0_cross (ma) (md) (mb) (mc))))) ((f_X0_quotient ((f_X0_cross (mc) (mf) (md) (me))) ((f_X0_cross (ma) (md) (mb) (mc))))) ((f_X0_quotient ((f_X0_cross (mb) (me) (ma) (mf))) ((f_X0_cross (ma) (md) (mb) (mc)))))).2.1, (f_X0_keepMatrix (ma) (mb) (mc) (md) (me) (mf) ((f_X0_quotient (((md).toInt64 * 65536)) ((f_X0_cross (ma) (md) (mb) (mc))))) ((f_X0_quotient (((-(mb).toInt64) * 65536)) ((f_X0_cross (ma) (md) (mb) (mc))))) ((f_X0_quotient (((-(mc).toInt64) * 65536)) ((f_X0_cross (ma) (md) (mb) (mc))))) ((f_X0_quotient (((ma).toInt64 * 65536)) ((f_X0_cross (ma) (md) (mb) (mc))))) ((f_X0_quotient ((f_X0_cross (mc) (mf) (md) (me))) ((f_X0_cross (ma) (md) (mb) (mc))))) ((f_X0_quotient ((f_X0_cross (mb) (me) (ma) (mf))) ((f_X0_cross (ma) (md) (mb) (mc)))))).2.2.1, (f_X0_keepMatrix (ma) (mb) (mc) (md) (me) (mf) ((f_X0_quotient (((md).toInt64 * 65536)) ((f_X0_cross (ma) (md) (mb) (mc))))) ((f_X0_quotient (((-(mb).toInt64) * 65536)) ((f_X0_cross (ma) (md) (mb) (mc))))) ((f_X0_quotient (((-(mc).toInt64) * 65536)) ((f_X0_cross (ma) (md) (mb) (mc))))) ((f_X0_quotient (((ma).toInt64 * 65536)) ((f_X0_cross (ma) (md) (mb) (mc))))) ((f_X0_quotient ((f_X0_cross (mc) (mf) (md) (me))) ((f_X0_cross (ma) (md) (mb) (mc))))) ((f_X0_quotient ((f_X0_cross (mb) (me) (ma) (mf))) ((f_X0_cross (ma) (md) (mb) (mc)))))).2.2.2.1, (f_X0_keepMatrix (ma) (mb) (mc) (md) (me) (mf) ((f_X0_quotient (((md).toInt64 * 65536)) ((f_X0_cross (ma) (md) (mb) (mc))))) ((f_X0_quotient (((-(mb).toInt64) * 65536)) ((f_X0_cross (ma) (md) (mb) (mc))))) ((f_X0_quotient (((-(mc).toInt64) * 65536)) ((f_X0_cross (ma) (md) (mb) (mc))))) ((f_X0_quotient (((ma).toInt64 * 65536)) ((f_X0_cross (ma) (md) (mb) (mc))))) ((f_X0_quotient ((f_X0_cross (mc) (mf) (md) (me))) ((f_X0_cross (ma) (md) (mb) (mc))))) ((f_X0_quotient ((f_X0_cross (mb) (me) (ma) (mf))) ((f_X0_cross (ma) (md) (mb) (mc)))))).2.2.2.2.1, (f_X0_keepMatrix (ma) (mb) (mc) (md) (me) (mf) ((f_X0_quotient (((md).toInt64 * 65536)) ((f_X0_cross (ma) (md) (mb) (mc))))) ((f_X0_quotient (((-(mb).toInt64) * 65536)) ((f_X0_cross (ma) (md) (mb) (mc))))) ((f_X0_quotient (((-(mc).toInt64) * 65536)) ((f_X0_cross (ma) (md) (mb) (mc))))) ((f_X0_quotient (((ma).toInt64 * 65536)) ((f_X0_cross (ma) (md) (mb) (mc))))) ((f_X0_quotient ((f_X0_cross (mc) (mf) (md) (me))) ((f_X0_cross (ma) (md) (mb) (mc))))) ((f_X0_quotient ((f_X0_cross (mb) (me) (ma) (mf))) ((f_X0_cross (ma) (md) (mb) (mc)))))).2.2.2.2.2.1, (f_X0_keepMatrix (ma) (mb) (mc) (md) (me) (mf) ((f_X0_quotient (((md).toInt64 * 65536)) ((f_X0_cross (ma) (md) (mb) (mc))))) ((f_X0_quotient (((-(mb).toInt64) * 65536)) ((f_X0_cross (ma) (md) (mb) (mc))))) ((f_X0_quotient (((-(mc).toInt64) * 65536)) ((f_X0_cross (ma) (md) (mb) (mc))))) ((f_X0_quotient (((ma).toInt64 * 65536)) ((f_X0_cross (ma) (md) (mb) (mc))))) ((f_X0_quotient ((f_X0_cross (mc) (mf) (md) (me))) ((f_X0_cross (ma) (md) (mb) (mc))))) ((f_X0_quotient ((f_X0_cross (mb) (me) (ma) (mf))) ((f_X0_cross (ma) (md) (mb) (mc)))))).2.2.2.2.2.2) := (by rw [f_X0_invert, if_neg c_1, if_neg c_2])
      exact x_iret hx hb hr hlocks hP hD hK hS dX0_invert_144 ⟨by rw [hE], by rw [hE]⟩
  · skip
    refine lv_bipush (v := (-3)) hx hb dX0_invert_26 (by decide) ?_
    have hE : f_X0_invert ma mb mc md me mf = ((-3), ma, mb, mc, md, me, mf) := (by rw [f_X0_invert, if_pos c_1])
    exact x_iret hx hb hr hlocks hP hD hK hS dX0_invert_28 ⟨by rw [hE], by rw [hE]⟩
theorem hdV_X0_move : yX0_move.cls = RX0 ∧ yX0_move.cls ≠ "java/lang/invoke/MethodHandle" ∧ yX0_move.cls ≠ "java/lang/invoke/VarHandle" ∧ (parseMethodDescriptor yX0_move.desc).map (fun d => d.parameters.length) = some 3 := by decide +kernel
theorem fi_X0_move : ∀ w ∈ wsX00, w ∈ wsX0_move := fun _ h => List.mem_cons_of_mem _ (List.mem_append_right _ h)
def f_X0_move (ma : Int32) (mb : Int32) (mc : Int32) (md : Int32) (me : Int32) (mf : Int32) (mx : Int32) (my : Int32) (p0 : Int32) (p1 : Int32) (p2 : Int32) : Int32 × Int32 × Int32 := if (f_X0_isReal ((p0).toInt64)) = 0 then (((-1), mx, my)) else (if (f_X0_isReal ((p1).toInt64)) = 0 then (((-1), mx, my)) else (if p2 = 0 then (if (f_X0_isReal (((f_X0_turnedX (ma) (mc) (p0) (p1)) + 0))) = 0 then (((-2), mx, my)) else (if (f_X0_isReal (((f_X0_turnedY (mb) (md) (p0) (p1)) + 0))) = 0 then (((-2), mx, my)) else ((1, (((f_X0_turnedX (ma) (mc) (p0) (p1)) + 0)).toInt32, (((f_X0_turnedY (mb) (md) (p0) (p1)) + 0)).toInt32)))) else (if (f_X0_isReal (((f_X0_turnedX (ma) (mc) (p0) (p1)) + (me).toInt64))) = 0 then (((-2), mx, my)) else (if (f_X0_isReal (((f_X0_turnedY (mb) (md) (p0) (p1)) + (mf).toInt64))) = 0 then (((-2), mx, my)) else ((1, (((f_X0_turnedX (ma) (mc) (p0) (p1)) + (me).toInt64)).toInt32, (((f_X0_turnedY (mb) (md) (p0) (p1)) + (mf).toInt64)).toInt32))))))
abbrev rm_X0_move : Room := { frames := 2, cells := 0, slots := 0, locals := 75 }
set_option maxHeartbeats 4000000 in
set_option maxRecDepth 100000 in
theorem cc_X0_move (l : Launch) (dC : Nat → ClassId) (dI : Nat → Nat → Nat) (h0 sz : Nat) (rk rn ma mb mc md me mf mx my : Int32) (p0 : Int32) (p1 : Int32) (p2 : Int32)   : Met l yX0_move wsX0_move rm_X0_move (va_Pc [.ref h0, .int p0, .int p1, .int p2] (xPre dC dI h0 sz (rk, rn, ma, mb, mc, md, me, mf, mx, my))) (xQi dC dI h0 (va_A (xW h0 (rk, rn, ma, mb, mc, md, me, mf, mx, my)) sz) ((f_X0_move ma mb mc md me mf mx my p0 p1 p2).1) (rk, rn, ma, mb, mc, md, me, mf, (f_X0_move ma mb mc md me mf mx my p0 p1 p2).2.1, (f_X0_move ma mb mc md me mf mx my p0 p1 p2).2.2)) 0 0 (va_A (xW h0 (rk, rn, ma, mb, mc, md, me, mf, mx, my)) sz) := by
  refine x_headi (cc := cX0_move) (maxL := 8) (ret := some .int) (by decide) rfl rfl (Nat.le_of_ble_eq_true rfl) ?_
  intro p e s m below meth c ls A hx hb hr hlocks hml hown hts hA hP hD hK htb hS hl
  have hl : lv_has ls 8 [(0, .ref h0), (1, .int p0), (2, .int p1), (3, .int p2)] := hl
  refine lv_iload_n hx hb dX0_move_0 rfl (lv_at hl 1 rfl) ?_
  refine lv_i2l (v := (p0).toInt64) hx hb dX0_move_1 rfl ?_
  refine pu_Si (As := [.long (p0).toInt64]) (rest := []) ⟨hx, hb, hml, hown, hts⟩ (cc_X0_isReal l _ ((p0).toInt64)) 1 gX0_move_X0_isReal rfl rfl rfl hdS_X0_isReal ⟨Nat.le_of_ble_eq_true rfl, Nat.le_of_ble_eq_true rfl⟩ kN_ok kN_at rfl hl.1 rfl (Nat.le_of_ble_eq_true rfl) dX0_move_2 ⟨Nat.zero_le _, Nat.zero_le _⟩ ?_
  refine lv_if_eq (tgt := 16) hx hb dX0_move_5 (by decide) (fun c_1 => ?_) (fun c_1 => ?_)
  · skip
    refine lv_iconst (v := (-1)) hx hb dX0_move_16 (by decide) ?_
    have hE : f_X0_move ma mb mc md me mf mx my p0 p1 p2 = ((-1), mx, my) := (by rw [f_X0_move, if_pos c_1])
    exact x_iret hx hb hr hlocks hP hD hK hS dX0_move_17 ⟨by rw [hE], by rw [hE]⟩
  · skip
    refine lv_iload_n hx hb dX0_move_8 rfl (lv_at hl 2 rfl) ?_
    refine lv_i2l (v := (p1).toInt64) hx hb dX0_move_9 rfl ?_
    refine pu_Si (As := [.long (p1).toInt64]) (rest := []) ⟨hx, hb, hml, hown, hts⟩ (cc_X0_isReal l _ ((p1).toInt64)) 1 gX0_move_X0_isReal rfl rfl rfl hdS_X0_isReal ⟨Nat.le_of_ble_eq_true rfl, Nat.le_of_ble_eq_true rfl⟩ kN_ok kN_at rfl hl.1 rfl (Nat.le_of_ble_eq_true rfl) dX0_move_10 ⟨Nat.zero_le _, Nat.zero_le _⟩ ?_
    refine lv_if_ne (tgt := 18) hx hb dX0_move_13 (by decide) (fun c_2 => ?_) (fun c_2 => ?_)
    · skip
      refine lv_aload_n hx hb dX0_move_18 rfl (lv_at hl 0 rfl) ?_
      refine lv_iload_n hx hb dX0_move_19 rfl (lv_at hl 1 rfl) ?_
      refine lv_iload_n hx hb dX0_move_20 rfl (lv_at hl 2 rfl) ?_
      refine xc_l (As := [.int p0, .int p1]) (rest := []) ⟨hx, hb, hml, hown, hts⟩ (cc_X0_turnedX l dC dI h0 _ (rk) (rn) (ma) (mb) (mc) (md) (me) (mf) (mx) (my) (p0) (p1)) 2 gX0_move_X0_turnedX rfl rfl rfl hdV_X0_turnedX ⟨Nat.le_of_ble_eq_true rfl, Nat.le_of_ble_eq_true rfl⟩ hP hD hK hS hA htb rfl hl.1 rfl (Nat.le_of_ble_eq_true rfl) dX0_move_21 ⟨Nat.zero_le _, Nat.zero_le _⟩ (fun H locs hP hD hS => ?_)
      have hP : va_P (dC, dI) vwCl (xW h0 (rk, rn, ma, mb, mc, md, me, mf, mx, my)) H := hP
      have hD : va_D A (xW h0 (rk, rn, ma, mb, mc, md, me, mf, mx, my)) := hD
      refine lv_iload_n hx hb dX0_move_24 rfl (lv_at hl 3 rfl) ?_
      refine lv_if_eq (tgt := 35) hx hb dX0_move_25 (by decide) (fun c_3 => ?_) (fun c_3 => ?_)
      · skip
        refine lv_iconst (v := 0) hx hb dX0_move_35 (by decide) ?_
        refine lv_i2l (v := 0) hx hb dX0_move_36 (by decide) ?_
        refine lv_ladd hx hb dX0_move_37 ?_
        refine lv_lstore (lv' := [(4, .long ((f_X0_turnedX (ma) (mc) (p0) (p1)) + 0)), (0, .ref h0), (1, .int p0), (2, .int p1), (3, .int p2)]) hx hb dX0_move_38 hl (by decide) rfl (fun ls hl => ?_)
        refine lv_aload_n hx hb dX0_move_40 rfl (lv_at hl 1 rfl) ?_
        refine lv_iload_n hx hb dX0_move_41 rfl (lv_at hl 2 rfl) ?_
        refine lv_iload_n hx hb dX0_move_42 rfl (lv_at hl 3 rfl) ?_
        refine xc_l (As := [.int p0, .int p1]) (rest := []) ⟨hx, hb, hml, hown, hts⟩ (cc_X0_turnedY l dC dI h0 _ (rk) (rn) (ma) (mb) (mc) (md) (me) (mf) (mx) (my) (p0) (p1)) 2 gX0_move_X0_turnedY rfl rfl rfl hdV_X0_turnedY ⟨Nat.le_of_ble_eq_true rfl, Nat.le_of_ble_eq_true rfl⟩ hP hD hK hS hA htb rfl hl.1 rfl (Nat.le_of_ble_eq_true rfl) dX0_move_43 ⟨Nat.zero_le _, Nat.zero_le _⟩ (fun H locs hP hD hS => ?_)
        have hP : va_P (dC, dI) vwCl (xW h0 (rk, rn, ma, mb, mc, md, me, mf, mx, my)) H := hP
        have hD : va_D A (xW h0 (rk, rn, ma, mb, mc, md, me, mf, mx, my)) := hD
        refine lv_iload_n hx hb dX0_move_46 rfl (lv_at hl 4 rfl) ?_
        refine lv_if_eq (tgt := 57) hx hb dX0_move_47 (by decide) (fun _ => ?_) (fun q => absurd (c_3) q)
        refine lv_iconst (v := 0) hx hb dX0_move_57 (by decide) ?_
        refine lv_i2l (v := 0) hx hb dX0_move_58 (by decide) ?_
        refine lv_ladd hx hb dX0_move_59 ?_
        refine lv_lstore (lv' := [(6, .long ((f_X0_turnedY (mb) (md) (p0) (p1)) + 0)), (4, .long ((f_X0_turnedX (ma) (mc) (p0) (p1)) + 0)), (0, .ref h0), (1, .int p0), (2, .int p1), (3, .int p2)]) hx hb dX0_move_60 hl (by decide) rfl (fun ls hl => ?_)
        refine lv_lload hx hb dX0_move_62 (lv_at hl 1 rfl) ?_
        refine pu_Si (As := [.long ((f_X0_turnedX (ma) (mc) (p0) (p1)) + 0)]) (rest := []) ⟨hx, hb, hml, hown, hts⟩ (cc_X0_isReal l _ (((f_X0_turnedX (ma) (mc) (p0) (p1)) + 0))) 1 gX0_move_X0_isReal rfl rfl rfl hdS_X0_isReal ⟨Nat.le_of_ble_eq_true rfl, Nat.le_of_ble_eq_true rfl⟩ kN_ok kN_at rfl hl.1 rfl (Nat.le_of_ble_eq_true rfl) dX0_move_64 ⟨Nat.zero_le _, Nat.zero_le _⟩ ?_
        refine lv_if_eq (tgt := 78) hx hb dX0_move_67 (by decide) (fun c_5 => ?_) (fun c_5 => ?_)
        · skip
          refine lv_bipush (v := (-2)) hx hb dX0_move_78 (by decide) ?_
          have hE : f_X0_move ma mb mc md me mf mx my p0 p1 p2 = ((-2), mx, my) := (by rw [f_X0_move, if_neg c_1, if_neg c_2, if_pos c_3, if_pos c_5])
          exact x_iret hx hb hr hlocks hP hD hK hS dX0_move_80 ⟨by rw [hE], by rw [hE]⟩
        · skip
          refine lv_lload hx hb dX0_move_70 (lv_at hl 0 rfl) ?_
          refine pu_Si (As := [.long ((f_X0_turnedY (mb) (md) (p0) (p1)) + 0)]) (rest := []) ⟨hx, hb, hml, hown, hts⟩ (cc_X0_isReal l _ (((f_X0_turnedY (mb) (md) (p0) (p1)) + 0))) 1 gX0_move_X0_isReal rfl rfl rfl hdS_X0_isReal ⟨Nat.le_of_ble_eq_true rfl, Nat.le_of_ble_eq_true rfl⟩ kN_ok kN_at rfl hl.1 rfl (Nat.le_of_ble_eq_true rfl) dX0_move_72 ⟨Nat.zero_le _, Nat.zero_le _⟩ ?_
          refine lv_if_ne (tgt := 81) hx hb dX0_move_75 (by decide) (fun c_6 => ?_) (fun c_6 => ?_)
          · skip
            refine lv_aload_n hx hb dX0_move_81 rfl (lv_at hl 2 rfl) ?_
            refine lv_lload hx hb dX0_move_82 (lv_at hl 1 rfl) ?_
            refine lv_l2i (v := (((f_X0_turnedX (ma) (mc) (p0) (p1)) + 0)).toInt32) hx hb dX0_move_84 rfl ?_
            refine va_put (D := (dC, dI)) (ci := 0) (v := .int (((f_X0_turnedX (ma) (mc) (p0) (p1)) + 0)).toInt32) (ty := .int) (C := RX0) (T := TX0) (N := 10) hx hb hts fi_X0_move tyX0 tyX0_ok nmX0 hown hK hP hD hS 0 rfl rfl 8 (by decide) (hts (.fieldLink RX0 103 "FixedPlane" "movedX" "I") (by decide +kernel)) (fun _ h9 => h9) rfl (by decide +kernel) rfl rfl (Nat.le_of_ble_eq_true rfl) dX0_move_85 (fun H locs hP hD hS => ?_)
            have hP : va_P (dC, dI) vwCl (xW h0 (rk, rn, ma, mb, mc, md, me, mf, (((f_X0_turnedX (ma) (mc) (p0) (p1)) + 0)).toInt32, my)) H := hP
            have hD : va_D A (xW h0 (rk, rn, ma, mb, mc, md, me, mf, (((f_X0_turnedX (ma) (mc) (p0) (p1)) + 0)).toInt32, my)) := hD
            refine lv_aload_n hx hb dX0_move_88 rfl (lv_at hl 2 rfl) ?_
            refine lv_lload hx hb dX0_move_89 (lv_at hl 0 rfl) ?_
            refine lv_l2i (v := (((f_X0_turnedY (mb) (md) (p0) (p1)) + 0)).toInt32) hx hb dX0_move_91 rfl ?_
            refine va_put (D := (dC, dI)) (ci := 0) (v := .int (((f_X0_turnedY (mb) (md) (p0) (p1)) + 0)).toInt32) (ty := .int) (C := RX0) (T := TX0) (N := 10) hx hb hts fi_X0_move tyX0 tyX0_ok nmX0 hown hK hP hD hS 0 rfl rfl 9 (by decide) (hts (.fieldLink RX0 106 "FixedPlane" "movedY" "I") (by decide +kernel)) (fun _ h9 => h9) rfl (by decide +kernel) rfl rfl (Nat.le_of_ble_eq_true rfl) dX0_move_92 (fun H locs hP hD hS => ?_)
            have hP : va_P (dC, dI) vwCl (xW h0 (rk, rn, ma, mb, mc, md, me, mf, (((f_X0_turnedX (ma) (mc) (p0) (p1)) + 0)).toInt32, (((f_X0_turnedY (mb) (md) (p0) (p1)) + 0)).toInt32)) H := hP
            have hD : va_D A (xW h0 (rk, rn, ma, mb, mc, md, me, mf, (((f_X0_turnedX (ma) (mc) (p0) (p1)) + 0)).toInt32, (((f_X0_turnedY (mb) (md) (p0) (p1)) + 0)).toInt32)) := hD
            refine lv_iconst (v := 1) hx hb dX0_move_95 (by decide) ?_
            have hE : f_X0_move ma mb mc md me mf mx my p0 p1 p2 = (1, (((f_X0_turnedX (ma) (mc) (p0) (p1)) + 0)).toInt32, (((f_X0_turnedY (mb) (md) (p0) (p1)) + 0)).toInt32) := (by rw [f_X0_move, if_neg c_1, if_neg c_2, if_pos c_3, if_neg c_5, if_neg c_6])
            exact x_iret hx hb hr hlocks hP hD hK hS dX0_move_96 ⟨by rw [hE], by rw [hE]⟩
          · skip
            refine lv_bipush (v := (-2)) hx hb dX0_move_78 (by decide) ?_
            have hE : f_X0_move ma mb mc md me mf mx my p0 p1 p2 = ((-2), mx, my) := (by rw [f_X0_move, if_neg c_1, if_neg c_2, if_pos c_3, if_neg c_5, if_pos c_6])
            exact x_iret hx hb hr hlocks hP hD hK hS dX0_move_80 ⟨by rw [hE], by rw [hE]⟩
      · skip
        refine lv_aload_n hx hb dX0_move_28 rfl (lv_at hl 0 rfl) ?_
        refine va_get (D := (dC, dI)) (ci := 0) (v := .int me) (C := RX0) (T := TX0) (N := 10) hx hb hts fi_X0_move hown hK hP 0 rfl rfl 6 (by decide) (hts (.fieldLink RX0 78 "FixedPlane" "matrixE" "I") (by decide +kernel)) (fun _ h9 => h9) rfl dX0_move_29 ?_
        refine lv_goto (tgt := 36) hx hb dX0_move_32 (by decide) ?_
        refine lv_i2l (v := (me).toInt64) hx hb dX0_move_36 rfl ?_
        refine lv_ladd hx hb dX0_move_37 ?_
        refine lv_lstore (lv' := [(4, .long ((f_X0_turnedX (ma) (mc) (p0) (p1)) + (me).toInt64)), (0, .ref h0), (1, .int p0), (2, .int p1), (3, .int p2)]) hx hb dX0_move_38 hl (by decide) rfl (fun ls hl => ?_)
        refine lv_aload_n hx hb dX0_move_40 rfl (lv_at hl 1 rfl) ?_
        refine lv_iload_n hx hb dX0_move_41 rfl (lv_at hl 2 rfl) ?_
        refine lv_iload_n hx hb dX0_move_42 rfl (lv_at hl 3 rfl) ?_
        refine xc_l (As := [.int p0, .int p1]) (rest := []) ⟨hx, hb, hml, hown, hts⟩ (cc_X0_turnedY l dC dI h0 _ (rk) (rn) (ma) (mb) (mc) (md) (me) (mf) (mx) (my) (p0) (p1)) 2 gX0_move_X0_turnedY rfl rfl rfl hdV_X0_turnedY ⟨Nat.le_of_ble_eq_true rfl, Nat.le_of_ble_eq_true rfl⟩ hP hD hK hS hA htb rfl hl.1 rfl (Nat.le_of_ble_eq_true rfl) dX0_move_43 ⟨Nat.zero_le _, Nat.zero_le _⟩ (fun H locs hP hD hS => ?_)
        have hP : va_P (dC, dI) vwCl (xW h0 (rk, rn, ma, mb, mc, md, me, mf, mx, my)) H := hP
        have hD : va_D A (xW h0 (rk, rn, ma, mb, mc, md, me, mf, mx, my)) := hD
        refine lv_iload_n hx hb dX0_move_46 rfl (lv_at hl 4 rfl) ?_
        refine lv_if_eq (tgt := 57) hx hb dX0_move_47 (by decide) (fun q => absurd q (c_3)) (fun _ => ?_)
        refine lv_aload_n hx hb dX0_move_50 rfl (lv_at hl 1 rfl) ?_
        refine va_get (D := (dC, dI)) (ci := 0) (v := .int mf) (C := RX0) (T := TX0) (N := 10) hx hb hts fi_X0_move hown hK hP 0 rfl rfl 7 (by decide) (hts (.fieldLink RX0 81 "FixedPlane" "matrixF" "I") (by decide +kernel)) (fun _ h9 => h9) rfl dX0_move_51 ?_
        refine lv_goto (tgt := 58) hx hb dX0_move_54 (by decide) ?_
        refine lv_i2l (v := (mf).toInt64) hx hb dX0_move_58 rfl ?_
        refine lv_ladd hx hb dX0_move_59 ?_
        refine lv_lstore (lv' := [(6, .long ((f_X0_turnedY (mb) (md) (p0) (p1)) + (mf).toInt64)), (4, .long ((f_X0_turnedX (ma) (mc) (p0) (p1)) + (me).toInt64)), (0, .ref h0), (1, .int p0), (2, .int p1), (3, .int p2)]) hx hb dX0_move_60 hl (by decide) rfl (fun ls hl => ?_)
        refine lv_lload hx hb dX0_move_62 (lv_at hl 1 rfl) ?_
        refine pu_Si (As := [.long ((f_X0_turnedX (ma) (mc) (p0) (p1)) + (me).toInt64)]) (rest := []) ⟨hx, hb, hml, hown, hts⟩ (cc_X0_isReal l _ (((f_X0_turnedX (ma) (mc) (p0) (p1)) + (me).toInt64))) 1 gX0_move_X0_isReal rfl rfl rfl hdS_X0_isReal ⟨Nat.le_of_ble_eq_true rfl, Nat.le_of_ble_eq_true rfl⟩ kN_ok kN_at rfl hl.1 rfl (Nat.le_of_ble_eq_true rfl) dX0_move_64 ⟨Nat.zero_le _, Nat.zero_le _⟩ ?_
        refine lv_if_eq (tgt := 78) hx hb dX0_move_67 (by decide) (fun c_8 => ?_) (fun c_8 => ?_)
        · skip
          refine lv_bipush (v := (-2)) hx hb dX0_move_78 (by decide) ?_
          have hE : f_X0_move ma mb mc md me mf mx my p0 p1 p2 = ((-2), mx, my) := (by rw [f_X0_move, if_neg c_1, if_neg c_2, if_neg c_3, if_pos c_8])
          exact x_iret hx hb hr hlocks hP hD hK hS dX0_move_80 ⟨by rw [hE], by rw [hE]⟩
        · skip
          refine lv_lload hx hb dX0_move_70 (lv_at hl 0 rfl) ?_
          refine pu_Si (As := [.long ((f_X0_turnedY (mb) (md) (p0) (p1)) + (mf).toInt64)]) (rest := []) ⟨hx, hb, hml, hown, hts⟩ (cc_X0_isReal l _ (((f_X0_turnedY (mb) (md) (p0) (p1)) + (mf).toInt64))) 1 gX0_move_X0_isReal rfl rfl rfl hdS_X0_isReal ⟨Nat.le_of_ble_eq_true rfl, Nat.le_of_ble_eq_true rfl⟩ kN_ok kN_at rfl hl.1 rfl (Nat.le_of_ble_eq_true rfl) dX0_move_72 ⟨Nat.zero_le _, Nat.zero_le _⟩ ?_
          refine lv_if_ne (tgt := 81) hx hb dX0_move_75 (by decide) (fun c_9 => ?_) (fun c_9 => ?_)
          · skip
            refine lv_aload_n hx hb dX0_move_81 rfl (lv_at hl 2 rfl) ?_
            refine lv_lload hx hb dX0_move_82 (lv_at hl 1 rfl) ?_
            refine lv_l2i (v := (((f_X0_turnedX (ma) (mc) (p0) (p1)) + (me).toInt64)).toInt32) hx hb dX0_move_84 rfl ?_
            refine va_put (D := (dC, dI)) (ci := 0) (v := .int (((f_X0_turnedX (ma) (mc) (p0) (p1)) + (me).toInt64)).toInt32) (ty := .int) (C := RX0) (T := TX0) (N := 10) hx hb hts fi_X0_move tyX0 tyX0_ok nmX0 hown hK hP hD hS 0 rfl rfl 8 (by decide) (hts (.fieldLink RX0 103 "FixedPlane" "movedX" "I") (by decide +kernel)) (fun _ h9 => h9) rfl (by decide +kernel) rfl rfl (Nat.le_of_ble_eq_true rfl) dX0_move_85 (fun H locs hP hD hS => ?_)
            have hP : va_P (dC, dI) vwCl (xW h0 (rk, rn, ma, mb, mc, md, me, mf, (((f_X0_turnedX (ma) (mc) (p0) (p1)) + (me).toInt64)).toInt32, my)) H := hP
            have hD : va_D A (xW h0 (rk, rn, ma, mb, mc, md, me, mf, (((f_X0_turnedX (ma) (mc) (p0) (p1)) + (me).toInt64)).toInt32, my)) := hD
            refine lv_aload_n hx hb dX0_move_88 rfl (lv_at hl 2 rfl) ?_
            refine lv_lload hx hb dX0_move_89 (lv_at hl 0 rfl) ?_
            refine lv_l2i (v := (((f_X0_turnedY (mb) (md) (p0) (p1)) + (mf).toInt64)).toInt32) hx hb dX0_move_91 rfl ?_
            refine va_put (D := (dC, dI)) (ci := 0) (v := .int (((f_X0_turnedY (mb) (md) (p0) (p1)) + (mf).toInt64)).toInt32) (ty := .int) (C := RX0) (T := TX0) (N := 10) hx hb hts fi_X0_move tyX0 tyX0_ok nmX0 hown hK hP hD hS 0 rfl rfl 9 (by decide) (hts (.fieldLink RX0 106 "FixedPlane" "movedY" "I") (by decide +kernel)) (fun _ h9 => h9) rfl (by decide +kernel) rfl rfl (Nat.le_of_ble_eq_true rfl) dX0_move_92 (fun H locs hP hD hS => ?_)
            have hP : va_P (dC, dI) vwCl (xW h0 (rk, rn, ma, mb, mc, md, me, mf, (((f_X0_turnedX (ma) (mc) (p0) (p1)) + (me).toInt64)).toInt32, (((f_X0_turnedY (mb) (md) (p0) (p1)) + (mf).toInt64)).toInt32)) H := hP
            have hD : va_D A (xW h0 (rk, rn, ma, mb, mc, md, me, mf, (((f_X0_turnedX (ma) (mc) (p0) (p1)) + (me).toInt64)).toInt32, (((f_X0_turnedY (mb) (md) (p0) (p1)) + (mf).toInt64)).toInt32)) := hD
            refine lv_iconst (v := 1) hx hb dX0_move_95 (by decide) ?_
            have hE : f_X0_move ma mb mc md me mf mx my p0 p1 p2 = (1, (((f_X0_turnedX (ma) (mc) (p0) (p1)) + (me).toInt64)).toInt32, (((f_X0_turnedY (mb) (md) (p0) (p1)) + (mf).toInt64)).toInt32) := (by rw [f_X0_move, if_neg c_1, if_neg c_2, if_neg c_3, if_neg c_8, if_neg c_9])
            exact x_iret hx hb hr hlocks hP hD hK hS dX0_move_96 ⟨by rw [hE], by rw [hE]⟩
          · skip
            refine lv_bipush (v := (-2)) hx hb dX0_move_78 (by decide) ?_
            have hE : f_X0_move ma mb mc md me mf mx my p0 p1 p2 = ((-2), mx, my) := (by rw [f_X0_move, if_neg c_1, if_neg c_2, if_neg c_3, if_neg c_8, if_pos c_9])
            exact x_iret hx hb hr hlocks hP hD hK hS dX0_move_80 ⟨by rw [hE], by rw [hE]⟩
    · skip
      refine lv_iconst (v := (-1)) hx hb dX0_move_16 (by decide) ?_
      have hE : f_X0_move ma mb mc md me mf mx my p0 p1 p2 = ((-1), mx, my) := (by rw [f_X0_move, if_neg c_1, if_pos c_2])
      exact x_iret hx hb hr hlocks hP hD hK hS dX0_move_17 ⟨by rw [hE], by rw [hE]⟩
theorem hdV_X0_moved : yX0_moved.cls = RX0 ∧ yX0_moved.cls ≠ "java/lang/invoke/MethodHandle" ∧ yX0_moved.cls ≠ "java/lang/invoke/VarHandle" ∧ (parseMethodDescriptor yX0_moved.desc).map (fun d => d.parameters.length) = some 1 := by decide +kernel
theorem fi_X0_moved : ∀ w ∈ wsX00, w ∈ wsX0_moved := fun _ h => List.mem_cons_of_mem _ (List.mem_append_right _ h)
def f_X0_moved (mx : Int32) (my : Int32) (p0 : Int32) : Int32 := if p0 = 0 then (mx) else (if p0 = 1 then (my) else (0))
abbrev rm_X0_moved : Room := { frames := 0, cells := 0, slots := 0, locals := 0 }
set_option maxHeartbeats 4000000 in
set_option maxRecDepth 100000 in
theorem cc_X0_moved (l : Launch) (dC : Nat → ClassId) (dI : Nat → Nat → Nat) (h0 sz : Nat) (rk rn ma mb mc md me mf mx my : Int32) (p0 : Int32)   : Met l yX0_moved wsX0_moved rm_X0_moved (va_Pc [.ref h0, .int p0] (xPre dC dI h0 sz (rk, rn, ma, mb, mc, md, me, mf, mx, my))) (xQi dC dI h0 (va_A (xW h0 (rk, rn, ma, mb, mc, md, me, mf, mx, my)) sz) ((f_X0_moved mx my p0)) (rk, rn, ma, mb, mc, md, me, mf, mx, my)) 0 0 (va_A (xW h0 (rk, rn, ma, mb, mc, md, me, mf, mx, my)) sz) := by
  refine x_headi (cc := cX0_moved) (maxL := 2) (ret := some .int) (by decide) rfl rfl (Nat.le_of_ble_eq_true rfl) ?_
  intro p e s m below meth c ls A hx hb hr hlocks hml hown hts hA hP hD hK htb hS hl
  have hl : lv_has ls 2 [(0, .ref h0), (1, .int p0)] := hl
  refine lv_iload_n hx hb dX0_moved_0 rfl (lv_at hl 1 rfl) ?_
  refine lv_if_ne (tgt := 9) hx hb dX0_moved_1 (by decide) (fun c_1 => ?_) (fun c_1 => ?_)
  · skip
    refine lv_iload_n hx hb dX0_moved_9 rfl (lv_at hl 1 rfl) ?_
    refine lv_iconst (v := 1) hx hb dX0_moved_10 (by decide) ?_
    refine lv_icmp_ne (tgt := 21) hx hb dX0_moved_11 (by decide) (fun c_2 => ?_) (fun c_2 => ?_)
    · skip
      refine lv_iconst (v := 0) hx hb dX0_moved_21 (by decide) ?_
      have hE : f_X0_moved mx my p0 = 0 := (by rw [f_X0_moved, if_neg c_1, if_neg c_2])
      exact x_iret hx hb hr hlocks hP hD hK hS dX0_moved_22 ⟨hE.symm, rfl⟩
    · skip
      refine lv_aload_n hx hb dX0_moved_14 rfl (lv_at hl 0 rfl) ?_
      refine va_get (D := (dC, dI)) (ci := 0) (v := .int my) (C := RX0) (T := TX0) (N := 10) hx hb hts fi_X0_moved hown hK hP 0 rfl rfl 9 (by decide) (hts (.fieldLink RX0 106 "FixedPlane" "movedY" "I") (by decide +kernel)) (fun _ h9 => h9) rfl dX0_moved_15 ?_
      refine lv_goto (tgt := 22) hx hb dX0_moved_18 (by decide) ?_
      have hE : f_X0_moved mx my p0 = my := (by rw [f_X0_moved, if_neg c_1, if_pos c_2])
      exact x_iret hx hb hr hlocks hP hD hK hS dX0_moved_22 ⟨hE.symm, rfl⟩
  · skip
    refine lv_aload_n hx hb dX0_moved_4 rfl (lv_at hl 0 rfl) ?_
    refine va_get (D := (dC, dI)) (ci := 0) (v := .int mx) (C := RX0) (T := TX0) (N := 10) hx hb hts fi_X0_moved hown hK hP 0 rfl rfl 8 (by decide) (hts (.fieldLink RX0 103 "FixedPlane" "movedX" "I") (by decide +kernel)) (fun _ h9 => h9) rfl dX0_moved_5 ?_
    have hE : f_X0_moved mx my p0 = mx := (by rw [f_X0_moved, if_pos c_1])
    exact x_iret hx hb hr hlocks hP hD hK hS dX0_moved_8 ⟨hE.symm, rfl⟩
end
