/-- a private method of a class that the tables say can be made, by its rows of tables_1 -/
def lw_okq (q : MethodName × Nat) : Prop := (q.1.cls ≠ "java/lang/invoke/MethodHandle" ∧ q.1.cls ≠ "java/lang/invoke/VarHandle") ∧ Cond.instantiable q.1.cls q.2 ∈ tables_1 ∧ Cond.privateMethod q.1 ∈ tables_1 ∧ Cond.instanceMethod q.1 ∈ tables_1
theorem lw_p0 : lw_okq (⟨"PoleNave", "rowAt", "(I)LPoleNave$Row;"⟩, 16) := ⟨⟨by decide +kernel, by decide +kernel⟩, List.mem_of_getElem? (i := 13) (by decide +kernel), List.mem_of_getElem? (i := 276) (by decide +kernel), List.mem_of_getElem? (i := 277) (by decide +kernel)⟩
theorem lw_p1 : lw_okq (⟨"PoleNave", "begin", "(LPoleNave$Row;III)I"⟩, 16) := ⟨⟨by decide +kernel, by decide +kernel⟩, List.mem_of_getElem? (i := 13) (by decide +kernel), List.mem_of_getElem? (i := 280) (by decide +kernel), List.mem_of_getElem? (i := 281) (by decide +kernel)⟩
theorem lw_p2 : lw_okq (⟨"PoleNave", "found", "(I)I"⟩, 16) := ⟨⟨by decide +kernel, by decide +kernel⟩, List.mem_of_getElem? (i := 13) (by decide +kernel), List.mem_of_getElem? (i := 284) (by decide +kernel), List.mem_of_getElem? (i := 285) (by decide +kernel)⟩
theorem lw_p3 : lw_okq (⟨"PoleNave", "tell", "(I)I"⟩, 16) := ⟨⟨by decide +kernel, by decide +kernel⟩, List.mem_of_getElem? (i := 13) (by decide +kernel), List.mem_of_getElem? (i := 319) (by decide +kernel), List.mem_of_getElem? (i := 320) (by decide +kernel)⟩
theorem lw_p4 : lw_okq (⟨"PoleNave$Scaffold", "seatedOn", "(I)I"⟩, 6) := ⟨⟨by decide +kernel, by decide +kernel⟩, List.mem_of_getElem? (i := 69) (by decide +kernel), List.mem_of_getElem? (i := 366) (by decide +kernel), List.mem_of_getElem? (i := 367) (by decide +kernel)⟩
theorem lw_p5 : lw_okq (⟨"PoleNave", "perform", "(I)I"⟩, 16) := ⟨⟨by decide +kernel, by decide +kernel⟩, List.mem_of_getElem? (i := 13) (by decide +kernel), List.mem_of_getElem? (i := 406) (by decide +kernel), List.mem_of_getElem? (i := 407) (by decide +kernel)⟩
theorem lw_p6 : lw_okq (⟨"PoleNave$Scaffold", "goUp", "(II)I"⟩, 6) := ⟨⟨by decide +kernel, by decide +kernel⟩, List.mem_of_getElem? (i := 69) (by decide +kernel), List.mem_of_getElem? (i := 418) (by decide +kernel), List.mem_of_getElem? (i := 419) (by decide +kernel)⟩
theorem lw_p7 : lw_okq (⟨"PoleNave$Scaffold", "comeDown", "(I)I"⟩, 6) := ⟨⟨by decide +kernel, by decide +kernel⟩, List.mem_of_getElem? (i := 69) (by decide +kernel), List.mem_of_getElem? (i := 422) (by decide +kernel), List.mem_of_getElem? (i := 423) (by decide +kernel)⟩
theorem lw_p8 : lw_okq (⟨"PoleNave$Scaffold", "renew", "(I)I"⟩, 6) := ⟨⟨by decide +kernel, by decide +kernel⟩, List.mem_of_getElem? (i := 69) (by decide +kernel), List.mem_of_getElem? (i := 426) (by decide +kernel), List.mem_of_getElem? (i := 427) (by decide +kernel)⟩
theorem lw_p9 : lw_okq (⟨"PoleNave", "keptAt", "(I)LPoleNave$Deeds;"⟩, 16) := ⟨⟨by decide +kernel, by decide +kernel⟩, List.mem_of_getElem? (i := 13) (by decide +kernel), List.mem_of_getElem? (i := 477) (by decide +kernel), List.mem_of_getElem? (i := 478) (by decide +kernel)⟩
theorem lw_p10 : lw_okq (⟨"PoleNave$Seating", "offer", "(I)V"⟩, 7) := ⟨⟨by decide +kernel, by decide +kernel⟩, List.mem_of_getElem? (i := 118) (by decide +kernel), List.mem_of_getElem? (i := 559) (by decide +kernel), List.mem_of_getElem? (i := 560) (by decide +kernel)⟩
theorem lw_p11 : lw_okq (⟨"PoleNave$Lacings", "holdsOut", "(II)Z"⟩, 8) := ⟨⟨by decide +kernel, by decide +kernel⟩, List.mem_of_getElem? (i := 149) (by decide +kernel), List.mem_of_getElem? (i := 589) (by decide +kernel), List.mem_of_getElem? (i := 590) (by decide +kernel)⟩
theorem lw_p12 : lw_okq (⟨"PoleNave", "kindsBy", "(LPoleNave$Row;I)I"⟩, 16) := ⟨⟨by decide +kernel, by decide +kernel⟩, List.mem_of_getElem? (i := 13) (by decide +kernel), List.mem_of_getElem? (i := 614) (by decide +kernel), List.mem_of_getElem? (i := 615) (by decide +kernel)⟩
theorem lw_p13 : lw_okq (⟨"PoleNave$Schools", "seat", "(II)V"⟩, 6) := ⟨⟨by decide +kernel, by decide +kernel⟩, List.mem_of_getElem? (i := 184) (by decide +kernel), List.mem_of_getElem? (i := 640) (by decide +kernel), List.mem_of_getElem? (i := 641) (by decide +kernel)⟩
theorem lw_p14 : lw_okq (⟨"PoleNave$Schools", "worth", "()I"⟩, 6) := ⟨⟨by decide +kernel, by decide +kernel⟩, List.mem_of_getElem? (i := 184) (by decide +kernel), List.mem_of_getElem? (i := 651) (by decide +kernel), List.mem_of_getElem? (i := 652) (by decide +kernel)⟩
theorem lw_p15 : lw_okq (⟨"PoleNave$Schools", "unseat", "(I)I"⟩, 6) := ⟨⟨by decide +kernel, by decide +kernel⟩, List.mem_of_getElem? (i := 184) (by decide +kernel), List.mem_of_getElem? (i := 659) (by decide +kernel), List.mem_of_getElem? (i := 660) (by decide +kernel)⟩
def lw_privs_1 : List (MethodName × Nat) := [(⟨"PoleNave", "rowAt", "(I)LPoleNave$Row;"⟩, 16), (⟨"PoleNave", "begin", "(LPoleNave$Row;III)I"⟩, 16), (⟨"PoleNave", "found", "(I)I"⟩, 16), (⟨"PoleNave", "tell", "(I)I"⟩, 16), (⟨"PoleNave$Scaffold", "seatedOn", "(I)I"⟩, 6), (⟨"PoleNave", "perform", "(I)I"⟩, 16), (⟨"PoleNave$Scaffold", "goUp", "(II)I"⟩, 6), (⟨"PoleNave$Scaffold", "comeDown", "(I)I"⟩, 6), (⟨"PoleNave$Scaffold", "renew", "(I)I"⟩, 6), (⟨"PoleNave", "keptAt", "(I)LPoleNave$Deeds;"⟩, 16), (⟨"PoleNave$Seating", "offer", "(I)V"⟩, 7), (⟨"PoleNave$Lacings", "holdsOut", "(II)Z"⟩, 8), (⟨"PoleNave", "kindsBy", "(LPoleNave$Row;I)I"⟩, 16), (⟨"PoleNave$Schools", "seat", "(II)V"⟩, 6), (⟨"PoleNave$Schools", "worth", "()I"⟩, 6), (⟨"PoleNave$Schools", "unseat", "(I)I"⟩, 6)]
theorem lw_r1 : ∀ q ∈ lw_privs_1, lw_okq q := List.forall_mem_cons.mpr ⟨lw_p0, List.forall_mem_cons.mpr ⟨lw_p1, List.forall_mem_cons.mpr ⟨lw_p2, List.forall_mem_cons.mpr ⟨lw_p3, List.forall_mem_cons.mpr ⟨lw_p4, List.forall_mem_cons.mpr ⟨lw_p5, List.forall_mem_cons.mpr ⟨lw_p6, List.forall_mem_cons.mpr ⟨lw_p7, List.forall_mem_cons.mpr ⟨lw_p8, List.forall_mem_cons.mpr ⟨lw_p9, List.forall_mem_cons.mpr ⟨lw_p10, List.forall_mem_cons.mpr ⟨lw_p11, List.forall_mem_cons.mpr ⟨lw_p12, List.forall_mem_cons.mpr ⟨lw_p13, List.forall_mem_cons.mpr ⟨lw_p14, List.forall_mem_cons.mpr ⟨lw_p15, fun _ h => absurd h List.not_mem_nil⟩⟩⟩⟩⟩⟩⟩⟩⟩⟩⟩⟩⟩⟩⟩⟩
theorem lw_p16 : lw_okq (⟨"PoleNave", "tellTwelfths", "(I)I"⟩, 16) := ⟨⟨by decide +kernel, by decide +kernel⟩, List.mem_of_getElem? (i := 13) (by decide +kernel), List.mem_of_getElem? (i := 670) (by decide +kernel), List.mem_of_getElem? (i := 671) (by decide +kernel)⟩
theorem lw_p17 : lw_okq (⟨"PoleNave", "deedByLot", "(I)I"⟩, 16) := ⟨⟨by decide +kernel, by decide +kernel⟩, List.mem_of_getElem? (i := 13) (by decide +kernel), List.mem_of_getElem? (i := 689) (by decide +kernel), List.mem_of_getElem? (i := 690) (by decide +kernel)⟩
theorem lw_p18 : lw_okq (⟨"PoleNave", "tally", "(I)I"⟩, 16) := ⟨⟨by decide +kernel, by decide +kernel⟩, List.mem_of_getElem? (i := 13) (by decide +kernel), List.mem_of_getElem? (i := 709) (by decide +kernel), List.mem_of_getElem? (i := 710) (by decide +kernel)⟩
theorem lw_p19 : lw_okq (⟨"PoleNave", "howManyKept", "()I"⟩, 16) := ⟨⟨by decide +kernel, by decide +kernel⟩, List.mem_of_getElem? (i := 13) (by decide +kernel), List.mem_of_getElem? (i := 720) (by decide +kernel), List.mem_of_getElem? (i := 721) (by decide +kernel)⟩
theorem lw_p20 : lw_okq (⟨"PoleNave", "textAt", "(I)LPoleNave$Row;"⟩, 16) := ⟨⟨by decide +kernel, by decide +kernel⟩, List.mem_of_getElem? (i := 13) (by decide +kernel), List.mem_of_getElem? (i := 746) (by decide +kernel), List.mem_of_getElem? (i := 747) (by decide +kernel)⟩
theorem lw_p21 : lw_okq (⟨"PoleNave$Plan", "readOne", "(LPoleNave$Row;I)I"⟩, 7) := ⟨⟨by decide +kernel, by decide +kernel⟩, List.mem_of_getElem? (i := 23) (by decide +kernel), List.mem_of_getElem? (i := 769) (by decide +kernel), List.mem_of_getElem? (i := 770) (by decide +kernel)⟩
theorem lw_p22 : lw_okq (⟨"PoleNave$Plan", "readPole", "(LPoleNave$Row;II)I"⟩, 7) := ⟨⟨by decide +kernel, by decide +kernel⟩, List.mem_of_getElem? (i := 23) (by decide +kernel), List.mem_of_getElem? (i := 781) (by decide +kernel), List.mem_of_getElem? (i := 782) (by decide +kernel)⟩
def lw_privs_2 : List (MethodName × Nat) := [(⟨"PoleNave", "tellTwelfths", "(I)I"⟩, 16), (⟨"PoleNave", "deedByLot", "(I)I"⟩, 16), (⟨"PoleNave", "tally", "(I)I"⟩, 16), (⟨"PoleNave", "howManyKept", "()I"⟩, 16), (⟨"PoleNave", "textAt", "(I)LPoleNave$Row;"⟩, 16), (⟨"PoleNave$Plan", "readOne", "(LPoleNave$Row;I)I"⟩, 7), (⟨"PoleNave$Plan", "readPole", "(LPoleNave$Row;II)I"⟩, 7)]
theorem lw_r2 : ∀ q ∈ lw_privs_2, lw_okq q := List.forall_mem_cons.mpr ⟨lw_p16, List.forall_mem_cons.mpr ⟨lw_p17, List.forall_mem_cons.mpr ⟨lw_p18, List.forall_mem_cons.mpr ⟨lw_p19, List.forall_mem_cons.mpr ⟨lw_p20, List.forall_mem_cons.mpr ⟨lw_p21, List.forall_mem_cons.mpr ⟨lw_p22, fun _ h => absurd h List.not_mem_nil⟩⟩⟩⟩⟩⟩⟩
def lw_privs : List (MethodName × Nat) := lw_privs_1 ++ (lw_privs_2)
def lw_tbl : List Cond := k2_sels lw_privs ++ tables_1
theorem lw_privs_ok : ∀ q ∈ lw_privs, lw_okq q := by
  show ∀ q ∈ lw_privs_1 ++ (lw_privs_2), lw_okq q
  exact List.forall_mem_append.mpr ⟨lw_r1, lw_r2⟩
def RX0 : String := "PoleNave$Deeds"
def TX0 : u_T := fun k => match k with
  | 0 => ("PoleNave$Deeds", "codes", "[I", true)
  | _ => ("PoleNave$Deeds", "size", "I", false)
def tyX0 : Nat → FieldType := fun k => match k with
  | 0 => .array .int
  | _ => .int
abbrev wsX00 : List Cond := u_ws RX0 TX0 2
theorem nmX0 : ∀ a, a < 2 → ∀ b, b < 2 → a ≠ b → (TX0 a).2.1 ≠ (TX0 b).2.1 := by decide +kernel
theorem tyX0_ok : ∀ k, k < 2 → parseFieldDescriptor (TX0 k).2.2.1 = some (tyX0 k) := by decide +kernel
abbrev cX0_init : ByteArray := prog_2_method_1_code
def yX0_init : MethodName := ⟨RX0, "<init>", "()V"⟩
abbrev cX0_add : ByteArray := prog_2_method_2_code
def yX0_add : MethodName := ⟨RX0, "add", "(I)V"⟩
abbrev cX0_take : ByteArray := prog_2_method_3_code
def yX0_take : MethodName := ⟨RX0, "take", "(LPoleNave$Deeds;)V"⟩
def RX1 : String := "PoleNave$Lacings"
def TX1 : u_T := fun k => match k with
  | 0 => ("PoleNave$Lacings", "plan", "LPoleNave$Plan;", true)
  | 1 => ("PoleNave$Lacings", "wear", "[[I", true)
  | 2 => ("PoleNave$Lacings", "loads", "[I", true)
  | 3 => ("PoleNave$Lacings", "laced", "[I", true)
  | 4 => ("PoleNave$Lacings", "first", "[I", true)
  | 5 => ("PoleNave$Lacings", "up", "I", false)
  | 6 => ("PoleNave$Lacings", "years", "I", false)
  | _ => ("PoleNave$Lacings", "fewestLaced", "I", false)
def tyX1 : Nat → FieldType := fun k => match k with
  | 0 => .object "PoleNave$Plan"
  | 1 => .array (.array .int)
  | 2 => .array .int
  | 3 => .array .int
  | 4 => .array .int
  | 5 => .int
  | 6 => .int
  | _ => .int
abbrev wsX10 : List Cond := u_ws RX1 TX1 8
theorem nmX1 : ∀ a, a < 8 → ∀ b, b < 8 → a ≠ b → (TX1 a).2.1 ≠ (TX1 b).2.1 := by decide +kernel
theorem tyX1_ok : ∀ k, k < 8 → parseFieldDescriptor (TX1 k).2.2.1 = some (tyX1 k) := by decide +kernel
abbrev cX1_init : ByteArray := prog_3_method_1_code
def yX1_init : MethodName := ⟨RX1, "<init>", "(LPoleNave$Plan;)V"⟩
abbrev cX1_begin : ByteArray := prog_3_method_2_code
def yX1_begin : MethodName := ⟨RX1, "begin", "(LPoleNave$Scaffold;I)V"⟩
abbrev cX1_laceOn : ByteArray := prog_3_method_3_code
def yX1_laceOn : MethodName := ⟨RX1, "laceOn", "(LPoleNave$Lacings;II)V"⟩
abbrev cX1_holdsOut : ByteArray := prog_3_method_4_code
def yX1_holdsOut : MethodName := ⟨RX1, "holdsOut", "(II)Z"⟩
def RX2 : String := "PoleNave$Plan"
def TX2 : u_T := fun k => match k with
  | 0 => ("PoleNave$Plan", "kinds", "[I", true)
  | 1 => ("PoleNave$Plan", "talls", "[I", true)
  | 2 => ("PoleNave$Plan", "strongs", "[I", true)
  | 3 => ("PoleNave$Plan", "weights", "[I", true)
  | 4 => ("PoleNave$Plan", "devouts", "[I", true)
  | 5 => ("PoleNave$Plan", "poles", "I", false)
  | _ => ("PoleNave$Plan", "people", "I", false)
def tyX2 : Nat → FieldType := fun k => match k with
  | 0 => .array .int
  | 1 => .array .int
  | 2 => .array .int
  | 3 => .array .int
  | 4 => .array .int
  | 5 => .int
  | _ => .int
abbrev wsX20 : List Cond := u_ws RX2 TX2 7
theorem nmX2 : ∀ a, a < 7 → ∀ b, b < 7 → a ≠ b → (TX2 a).2.1 ≠ (TX2 b).2.1 := by decide +kernel
theorem tyX2_ok : ∀ k, k < 7 → parseFieldDescriptor (TX2 k).2.2.1 = some (tyX2 k) := by decide +kernel
abbrev cX2_init : ByteArray := prog_4_method_1_code
def yX2_init : MethodName := ⟨RX2, "<init>", "()V"⟩
abbrev cX2_isEmpty : ByteArray := prog_4_method_2_code
def yX2_isEmpty : MethodName := ⟨RX2, "isEmpty", "()Z"⟩
abbrev cX2_isPole : ByteArray := prog_4_method_3_code
def yX2_isPole : MethodName := ⟨RX2, "isPole", "(I)Z"⟩
abbrev cX2_isOne : ByteArray := prog_4_method_4_code
def yX2_isOne : MethodName := ⟨RX2, "isOne", "(I)Z"⟩
abbrev cX2_read : ByteArray := prog_4_method_5_code
def yX2_read : MethodName := ⟨RX2, "read", "(LPoleNave$Row;)I"⟩
abbrev cX2_readPole : ByteArray := prog_4_method_6_code
def yX2_readPole : MethodName := ⟨RX2, "readPole", "(LPoleNave$Row;II)I"⟩
abbrev cX2_readOne : ByteArray := prog_4_method_7_code
def yX2_readOne : MethodName := ⟨RX2, "readOne", "(LPoleNave$Row;I)I"⟩
abbrev cX2_figure : ByteArray := prog_4_method_8_code
def yX2_figure : MethodName := ⟨RX2, "figure", "(LPoleNave$Row;I)I"⟩
abbrev cX2_kindOf : ByteArray := prog_4_method_9_code
def yX2_kindOf : MethodName := ⟨RX2, "kindOf", "(I)I"⟩
abbrev cX2_highOn : ByteArray := prog_4_method_10_code
def yX2_highOn : MethodName := ⟨RX2, "highOn", "(II)I"⟩
abbrev cX2_loadBy : ByteArray := prog_4_method_11_code
def yX2_loadBy : MethodName := ⟨RX2, "loadBy", "(II)I"⟩
abbrev cX2_bearsWith : ByteArray := prog_4_method_12_code
def yX2_bearsWith : MethodName := ⟨RX2, "bearsWith", "(II)I"⟩
abbrev cX2_howManyLaced : ByteArray := prog_4_method_13_code
def yX2_howManyLaced : MethodName := ⟨RX2, "howManyLaced", "()I"⟩
def RX3 : String := "PoleNave$Row"
def TX3 : u_T := fun k => match k with
  | 0 => ("PoleNave$Row", "places", "[I", true)
  | _ => ("PoleNave$Row", "size", "I", false)
def tyX3 : Nat → FieldType := fun k => match k with
  | 0 => .array .int
  | _ => .int
abbrev wsX30 : List Cond := u_ws RX3 TX3 2
theorem nmX3 : ∀ a, a < 2 → ∀ b, b < 2 → a ≠ b → (TX3 a).2.1 ≠ (TX3 b).2.1 := by decide +kernel
theorem tyX3_ok : ∀ k, k < 2 → parseFieldDescriptor (TX3 k).2.2.1 = some (tyX3 k) := by decide +kernel
abbrev cX3_init : ByteArray := prog_5_method_1_code
def yX3_init : MethodName := ⟨RX3, "<init>", "()V"⟩
abbrev cX3_isMissing : ByteArray := prog_5_method_2_code
def yX3_isMissing : MethodName := ⟨RX3, "isMissing", "()Z"⟩
abbrev cX3_has : ByteArray := prog_5_method_3_code
def yX3_has : MethodName := ⟨RX3, "has", "(I)Z"⟩
abbrev cX3_findingAt : ByteArray := prog_5_method_5_code
def yX3_findingAt : MethodName := ⟨RX3, "findingAt", "(I)I"⟩
abbrev cX3_get : ByteArray := prog_5_method_6_code
def yX3_get : MethodName := ⟨RX3, "get", "(I)I"⟩
abbrev cX3_set : ByteArray := prog_5_method_7_code
def yX3_set : MethodName := ⟨RX3, "set", "(II)V"⟩
abbrev cX3_fill : ByteArray := prog_5_method_8_code
def yX3_fill : MethodName := ⟨RX3, "fill", "(II)V"⟩
abbrev cX3_take : ByteArray := prog_5_method_9_code
def yX3_take : MethodName := ⟨RX3, "take", "([II)V"⟩
def RX4 : String := "PoleNave$Scaffold"
def TX4 : u_T := fun k => match k with
  | 0 => ("PoleNave$Scaffold", "plan", "LPoleNave$Plan;", true)
  | 1 => ("PoleNave$Scaffold", "wear", "[I", true)
  | 2 => ("PoleNave$Scaffold", "seats", "[I", true)
  | 3 => ("PoleNave$Scaffold", "fallen", "I", false)
  | 4 => ("PoleNave$Scaffold", "years", "I", false)
  | _ => ("PoleNave$Scaffold", "stones", "I", false)
def tyX4 : Nat → FieldType := fun k => match k with
  | 0 => .object "PoleNave$Plan"
  | 1 => .array .int
  | 2 => .array .int
  | 3 => .int
  | 4 => .int
  | _ => .int
abbrev wsX40 : List Cond := u_ws RX4 TX4 6
theorem nmX4 : ∀ a, a < 6 → ∀ b, b < 6 → a ≠ b → (TX4 a).2.1 ≠ (TX4 b).2.1 := by decide +kernel
theorem tyX4_ok : ∀ k, k < 6 → parseFieldDescriptor (TX4 k).2.2.1 = some (tyX4 k) := by decide +kernel
abbrev cX4_init : ByteArray := prog_6_method_1_code
def yX4_init : MethodName := ⟨RX4, "<init>", "(LPoleNave$Plan;)V"⟩
abbrev cX4_begin : ByteArray := prog_6_method_2_code
def yX4_begin : MethodName := ⟨RX4, "begin", "()V"⟩
abbrev cX4_take : ByteArray := prog_6_method_3_code
def yX4_take : MethodName := ⟨RX4, "take", "(LPoleNave$Scaffold;)V"⟩
abbrev cX4_replay : ByteArray := prog_6_method_4_code
def yX4_replay : MethodName := ⟨RX4, "replay", "(LPoleNave$Deeds;)V"⟩
abbrev cX4_apply : ByteArray := prog_6_method_5_code
def yX4_apply : MethodName := ⟨RX4, "apply", "(I)I"⟩
abbrev cX4_goUp : ByteArray := prog_6_method_6_code
def yX4_goUp : MethodName := ⟨RX4, "goUp", "(II)I"⟩
abbrev cX4_comeDown : ByteArray := prog_6_method_7_code
def yX4_comeDown : MethodName := ⟨RX4, "comeDown", "(I)I"⟩
abbrev cX4_renew : ByteArray := prog_6_method_8_code
def yX4_renew : MethodName := ⟨RX4, "renew", "(I)I"⟩
abbrev cX4_passYear : ByteArray := prog_6_method_9_code
def yX4_passYear : MethodName := ⟨RX4, "passYear", "()I"⟩
abbrev cX4_isUp : ByteArray := prog_6_method_10_code
def yX4_isUp : MethodName := ⟨RX4, "isUp", "(I)Z"⟩
abbrev cX4_isSeated : ByteArray := prog_6_method_11_code
def yX4_isSeated : MethodName := ⟨RX4, "isSeated", "(I)Z"⟩
abbrev cX4_stands : ByteArray := prog_6_method_12_code
def yX4_stands : MethodName := ⟨RX4, "stands", "(I)Z"⟩
abbrev cX4_up : ByteArray := prog_6_method_13_code
def yX4_up : MethodName := ⟨RX4, "up", "()I"⟩
abbrev cX4_standing : ByteArray := prog_6_method_14_code
def yX4_standing : MethodName := ⟨RX4, "standing", "()I"⟩
abbrev cX4_loadOn : ByteArray := prog_6_method_15_code
def yX4_loadOn : MethodName := ⟨RX4, "loadOn", "(I)I"⟩
abbrev cX4_bearsNow : ByteArray := prog_6_method_16_code
def yX4_bearsNow : MethodName := ⟨RX4, "bearsNow", "(I)I"⟩
abbrev cX4_bearsAs : ByteArray := prog_6_method_17_code
def yX4_bearsAs : MethodName := ⟨RX4, "bearsAs", "(II)I"⟩
abbrev cX4_howManyHold : ByteArray := prog_6_method_18_code
def yX4_howManyHold : MethodName := ⟨RX4, "howManyHold", "(III)I"⟩
abbrev cX4_seatedOn : ByteArray := prog_6_method_19_code
def yX4_seatedOn : MethodName := ⟨RX4, "seatedOn", "(I)I"⟩
abbrev cX4_seatedPeople : ByteArray := prog_6_method_20_code
def yX4_seatedPeople : MethodName := ⟨RX4, "seatedPeople", "()I"⟩
abbrev cX4_highOfAll : ByteArray := prog_6_method_21_code
def yX4_highOfAll : MethodName := ⟨RX4, "highOfAll", "()I"⟩
abbrev cX4_highOfStanding : ByteArray := prog_6_method_22_code
def yX4_highOfStanding : MethodName := ⟨RX4, "highOfStanding", "()I"⟩
abbrev cX4_ofPole : ByteArray := prog_6_method_23_code
def yX4_ofPole : MethodName := ⟨RX4, "ofPole", "(II)I"⟩
abbrev cX4_ofOne : ByteArray := prog_6_method_24_code
def yX4_ofOne : MethodName := ⟨RX4, "ofOne", "(II)I"⟩
def RX5 : String := "PoleNave$Schools"
def TX5 : u_T := fun k => match k with
  | 0 => ("PoleNave$Schools", "plan", "LPoleNave$Plan;", true)
  | 1 => ("PoleNave$Schools", "seats", "[I", true)
  | 2 => ("PoleNave$Schools", "loads", "[I", true)
  | 3 => ("PoleNave$Schools", "highs", "[I", true)
  | 4 => ("PoleNave$Schools", "bearing", "[I", true)
  | _ => ("PoleNave$Schools", "up", "I", false)
def tyX5 : Nat → FieldType := fun k => match k with
  | 0 => .object "PoleNave$Plan"
  | 1 => .array .int
  | 2 => .array .int
  | 3 => .array .int
  | 4 => .array .int
  | _ => .int
abbrev wsX50 : List Cond := u_ws RX5 TX5 6
theorem nmX5 : ∀ a, a < 6 → ∀ b, b < 6 → a ≠ b → (TX5 a).2.1 ≠ (TX5 b).2.1 := by decide +kernel
theorem tyX5_ok : ∀ k, k < 6 → parseFieldDescriptor (TX5 k).2.2.1 = some (tyX5 k) := by decide +kernel
abbrev cX5_init : ByteArray := prog_7_method_1_code
def yX5_init : MethodName := ⟨RX5, "<init>", "(LPoleNave$Plan;)V"⟩
abbrev cX5_begin : ByteArray := prog_7_method_2_code
def yX5_begin : MethodName := ⟨RX5, "begin", "(LPoleNave$Scaffold;)V"⟩
abbrev cX5_seat : ByteArray := prog_7_method_3_code
def yX5_seat : MethodName := ⟨RX5, "seat", "(II)V"⟩
abbrev cX5_unseat : ByteArray := prog_7_method_4_code
def yX5_unseat : MethodName := ⟨RX5, "unseat", "(I)I"⟩
abbrev cX5_worth : ByteArray := prog_7_method_5_code
def yX5_worth : MethodName := ⟨RX5, "worth", "()I"⟩
abbrev cX5_sendUp : ByteArray := prog_7_method_6_code
def yX5_sendUp : MethodName := ⟨RX5, "sendUp", "(LPoleNave$Schools;III)I"⟩
abbrev cX5_callDown : ByteArray := prog_7_method_7_code
def yX5_callDown : MethodName := ⟨RX5, "callDown", "(LPoleNave$Schools;III)I"⟩
def RX6 : String := "PoleNave$Seating"
def TX6 : u_T := fun k => match k with
  | 0 => ("PoleNave$Seating", "plan", "LPoleNave$Plan;", true)
  | 1 => ("PoleNave$Seating", "spare", "[I", true)
  | 2 => ("PoleNave$Seating", "hopes", "[I", true)
  | 3 => ("PoleNave$Seating", "seats", "[I", true)
  | 4 => ("PoleNave$Seating", "first", "[I", true)
  | 5 => ("PoleNave$Seating", "most", "I", false)
  | _ => ("PoleNave$Seating", "fewestUsed", "I", false)
def tyX6 : Nat → FieldType := fun k => match k with
  | 0 => .object "PoleNave$Plan"
  | 1 => .array .int
  | 2 => .array .int
  | 3 => .array .int
  | 4 => .array .int
  | 5 => .int
  | _ => .int
abbrev wsX60 : List Cond := u_ws RX6 TX6 7
theorem nmX6 : ∀ a, a < 7 → ∀ b, b < 7 → a ≠ b → (TX6 a).2.1 ≠ (TX6 b).2.1 := by decide +kernel
theorem tyX6_ok : ∀ k, k < 7 → parseFieldDescriptor (TX6 k).2.2.1 = some (tyX6 k) := by decide +kernel
abbrev cX6_init : ByteArray := prog_8_method_1_code
def yX6_init : MethodName := ⟨RX6, "<init>", "(LPoleNave$Plan;)V"⟩
abbrev cX6_begin : ByteArray := prog_8_method_2_code
def yX6_begin : MethodName := ⟨RX6, "begin", "(LPoleNave$Scaffold;)V"⟩
abbrev cX6_seatHighest : ByteArray := prog_8_method_3_code
def yX6_seatHighest : MethodName := ⟨RX6, "seatHighest", "(LPoleNave$Seating;II)V"⟩
abbrev cX6_seatAll : ByteArray := prog_8_method_4_code
def yX6_seatAll : MethodName := ⟨RX6, "seatAll", "(LPoleNave$Seating;II)V"⟩
abbrev cX6_offer : ByteArray := prog_8_method_5_code
def yX6_offer : MethodName := ⟨RX6, "offer", "(I)V"⟩
def RX7 : String := "PoleNave"
def TX7 : u_T := fun k => match k with
  | 0 => ("PoleNave", "rows", "[LPoleNave$Row;", true)
  | 1 => ("PoleNave", "texts", "[LPoleNave$Row;", true)
  | 2 => ("PoleNave", "plan", "LPoleNave$Plan;", true)
  | 3 => ("PoleNave", "draft", "LPoleNave$Plan;", true)
  | 4 => ("PoleNave", "now", "LPoleNave$Scaffold;", true)
  | 5 => ("PoleNave", "aside", "LPoleNave$Scaffold;", true)
  | 6 => ("PoleNave", "deeds", "LPoleNave$Deeds;", true)
  | 7 => ("PoleNave", "keptDeeds", "[LPoleNave$Deeds;", true)
  | 8 => ("PoleNave", "seating", "LPoleNave$Seating;", true)
  | 9 => ("PoleNave", "lacings", "LPoleNave$Lacings;", true)
  | 10 => ("PoleNave", "schools", "LPoleNave$Schools;", true)
  | 11 => ("PoleNave", "answered", "[I", true)
  | 12 => ("PoleNave", "latestFinding", "I", false)
  | 13 => ("PoleNave", "told", "I", false)
  | 14 => ("PoleNave", "toldUpper", "J", false)
  | _ => ("PoleNave", "toldLower", "J", false)
def tyX7 : Nat → FieldType := fun k => match k with
  | 0 => .array (.object "PoleNave$Row")
  | 1 => .array (.object "PoleNave$Row")
  | 2 => .object "PoleNave$Plan"
  | 3 => .object "PoleNave$Plan"
  | 4 => .object "PoleNave$Scaffold"
  | 5 => .object "PoleNave$Scaffold"
  | 6 => .object "PoleNave$Deeds"
  | 7 => .array (.object "PoleNave$Deeds")
  | 8 => .object "PoleNave$Seating"
  | 9 => .object "PoleNave$Lacings"
  | 10 => .object "PoleNave$Schools"
  | 11 => .array .int
  | 12 => .int
  | 13 => .int
  | 14 => .long
  | _ => .long
abbrev wsX70 : List Cond := u_ws RX7 TX7 16
theorem nmX7 : ∀ a, a < 16 → ∀ b, b < 16 → a ≠ b → (TX7 a).2.1 ≠ (TX7 b).2.1 := by decide +kernel
theorem tyX7_ok : ∀ k, k < 16 → parseFieldDescriptor (TX7 k).2.2.1 = some (tyX7 k) := by decide +kernel
abbrev cX7_init : ByteArray := prog_1_method_1_code
def yX7_init : MethodName := ⟨RX7, "<init>", "()V"⟩
abbrev cX7_row : ByteArray := prog_1_method_2_code
def yX7_row : MethodName := ⟨RX7, "row", "(II)I"⟩
abbrev cX7_lay : ByteArray := prog_1_method_3_code
def yX7_lay : MethodName := ⟨RX7, "lay", "(III)I"⟩
abbrev cX7_at : ByteArray := prog_1_method_4_code
def yX7_at : MethodName := ⟨RX7, "at", "(II)I"⟩
abbrev cX7_text : ByteArray := prog_1_method_8_code
def yX7_text : MethodName := ⟨RX7, "text", "(II)I"⟩
abbrev cX7_put : ByteArray := prog_1_method_9_code
def yX7_put : MethodName := ⟨RX7, "put", "(III)I"⟩
abbrev cX7_fault : ByteArray := prog_1_method_10_code
def yX7_fault : MethodName := ⟨RX7, "fault", "(I)I"⟩
abbrev cX7_nave : ByteArray := prog_1_method_11_code
def yX7_nave : MethodName := ⟨RX7, "nave", "(I)I"⟩
abbrev cX7_pole : ByteArray := prog_1_method_12_code
def yX7_pole : MethodName := ⟨RX7, "pole", "(II)I"⟩
abbrev cX7_one : ByteArray := prog_1_method_13_code
def yX7_one : MethodName := ⟨RX7, "one", "(II)I"⟩
abbrev cX7_bears : ByteArray := prog_1_method_15_code
def yX7_bears : MethodName := ⟨RX7, "bears", "(II)I"⟩
abbrev cX7_sit : ByteArray := prog_1_method_16_code
def yX7_sit : MethodName := ⟨RX7, "sit", "(II)I"⟩
abbrev cX7_down : ByteArray := prog_1_method_17_code
def yX7_down : MethodName := ⟨RX7, "down", "(I)I"⟩
abbrev cX7_lace : ByteArray := prog_1_method_18_code
def yX7_lace : MethodName := ⟨RX7, "lace", "(I)I"⟩
abbrev cX7_stone : ByteArray := prog_1_method_19_code
def yX7_stone : MethodName := ⟨RX7, "stone", "()I"⟩
abbrev cX7_year : ByteArray := prog_1_method_20_code
def yX7_year : MethodName := ⟨RX7, "year", "()I"⟩
abbrev cX7_undo : ByteArray := prog_1_method_21_code
def yX7_undo : MethodName := ⟨RX7, "undo", "(I)I"⟩
abbrev cX7_keep : ByteArray := prog_1_method_22_code
def yX7_keep : MethodName := ⟨RX7, "keep", "(I)I"⟩
abbrev cX7_on : ByteArray := prog_1_method_23_code
def yX7_on : MethodName := ⟨RX7, "on", "(I)I"⟩
abbrev cX7_holds : ByteArray := prog_1_method_24_code
def yX7_holds : MethodName := ⟨RX7, "holds", "()I"⟩
abbrev cX7_gives : ByteArray := prog_1_method_25_code
def yX7_gives : MethodName := ⟨RX7, "gives", "(I)I"⟩
abbrev cX7_later : ByteArray := prog_1_method_26_code
def yX7_later : MethodName := ⟨RX7, "later", "(I)I"⟩
abbrev cX7_best : ByteArray := prog_1_method_27_code
def yX7_best : MethodName := ⟨RX7, "best", "(I)I"⟩
abbrev cX7_fewest : ByteArray := prog_1_method_28_code
def yX7_fewest : MethodName := ⟨RX7, "fewest", "()I"⟩
abbrev cX7_seated : ByteArray := prog_1_method_29_code
def yX7_seated : MethodName := ⟨RX7, "seated", "(I)I"⟩
abbrev cX7_laces : ByteArray := prog_1_method_30_code
def yX7_laces : MethodName := ⟨RX7, "laces", "(II)I"⟩
abbrev cX7_strengths : ByteArray := prog_1_method_31_code
def yX7_strengths : MethodName := ⟨RX7, "strengths", "(II)I"⟩
abbrev cX7_kinds : ByteArray := prog_1_method_32_code
def yX7_kinds : MethodName := ⟨RX7, "kinds", "(II)I"⟩
abbrev cX7_test : ByteArray := prog_1_method_33_code
def yX7_test : MethodName := ⟨RX7, "test", "(II)I"⟩
abbrev cX7_duel : ByteArray := prog_1_method_34_code
def yX7_duel : MethodName := ⟨RX7, "duel", "(I)I"⟩
abbrev cX7_odds : ByteArray := prog_1_method_35_code
def yX7_odds : MethodName := ⟨RX7, "odds", "(II)I"⟩
abbrev cX7_mid : ByteArray := prog_1_method_36_code
def yX7_mid : MethodName := ⟨RX7, "mid", "(I)I"⟩
abbrev cX7_lots : ByteArray := prog_1_method_37_code
def yX7_lots : MethodName := ⟨RX7, "lots", "(II)I"⟩
abbrev cX7_asked : ByteArray := prog_1_method_38_code
def yX7_asked : MethodName := ⟨RX7, "asked", "()I"⟩
abbrev cX7_upper : ByteArray := prog_1_method_39_code
def yX7_upper : MethodName := ⟨RX7, "upper", "()J"⟩
abbrev cX7_lower : ByteArray := prog_1_method_40_code
def yX7_lower : MethodName := ⟨RX7, "lower", "()J"⟩
abbrev cX7_count : ByteArray := prog_1_method_41_code
def yX7_count : MethodName := ⟨RX7, "count", "(I)I"⟩
abbrev cX7_rowAt : ByteArray := prog_1_method_45_code
def yX7_rowAt : MethodName := ⟨RX7, "rowAt", "(I)LPoleNave$Row;"⟩
abbrev cX7_textAt : ByteArray := prog_1_method_46_code
def yX7_textAt : MethodName := ⟨RX7, "textAt", "(I)LPoleNave$Row;"⟩
abbrev cX7_keptAt : ByteArray := prog_1_method_47_code
def yX7_keptAt : MethodName := ⟨RX7, "keptAt", "(I)LPoleNave$Deeds;"⟩
abbrev cX7_begin : ByteArray := prog_1_method_48_code
def yX7_begin : MethodName := ⟨RX7, "begin", "(LPoleNave$Row;III)I"⟩
abbrev cX7_found : ByteArray := prog_1_method_49_code
def yX7_found : MethodName := ⟨RX7, "found", "(I)I"⟩
abbrev cX7_tell : ByteArray := prog_1_method_50_code
def yX7_tell : MethodName := ⟨RX7, "tell", "(I)I"⟩
abbrev cX7_tellTwelfths : ByteArray := prog_1_method_51_code
def yX7_tellTwelfths : MethodName := ⟨RX7, "tellTwelfths", "(I)I"⟩
abbrev cX7_tally : ByteArray := prog_1_method_52_code
def yX7_tally : MethodName := ⟨RX7, "tally", "(I)I"⟩
abbrev cX7_howManyKept : ByteArray := prog_1_method_53_code
def yX7_howManyKept : MethodName := ⟨RX7, "howManyKept", "()I"⟩
abbrev cX7_howManyThere : ByteArray := prog_1_method_54_code
def yX7_howManyThere : MethodName := ⟨RX7, "howManyThere", "([LPoleNave$Row;)I"⟩
abbrev cX7_deed : ByteArray := prog_1_method_56_code
def yX7_deed : MethodName := ⟨RX7, "deed", "(III)I"⟩
abbrev cX7_perform : ByteArray := prog_1_method_57_code
def yX7_perform : MethodName := ⟨RX7, "perform", "(I)I"⟩
abbrev cX7_deedByLot : ByteArray := prog_1_method_58_code
def yX7_deedByLot : MethodName := ⟨RX7, "deedByLot", "(I)I"⟩
abbrev cX7_isOfKind : ByteArray := prog_1_method_59_code
def yX7_isOfKind : MethodName := ⟨RX7, "isOfKind", "(II)Z"⟩
abbrev cX7_bearing : ByteArray := prog_1_method_60_code
def yX7_bearing : MethodName := ⟨RX7, "bearing", "(IIII)I"⟩
abbrev cX7_worn : ByteArray := prog_1_method_61_code
def yX7_worn : MethodName := ⟨RX7, "worn", "(IZ)I"⟩
abbrev cX7_findingOfTriples : ByteArray := prog_1_method_62_code
def yX7_findingOfTriples : MethodName := ⟨RX7, "findingOfTriples", "(LPoleNave$Row;)I"⟩
abbrev cX7_isWithin : ByteArray := prog_1_method_63_code
def yX7_isWithin : MethodName := ⟨RX7, "isWithin", "(II)Z"⟩
abbrev cX7_agrees : ByteArray := prog_1_method_64_code
def yX7_agrees : MethodName := ⟨RX7, "agrees", "(LPoleNave$Row;III)Z"⟩
abbrev cX7_kindsBy : ByteArray := prog_1_method_65_code
def yX7_kindsBy : MethodName := ⟨RX7, "kindsBy", "(LPoleNave$Row;I)I"⟩
def RX8 : String := "PoleNaveModel"
def TX8 : u_T := fun k => match k with
  | _ => ("", "", "", false)
def tyX8 : Nat → FieldType := fun k => match k with
  | _ => .int
abbrev wsX80 : List Cond := u_ws RX8 TX8 0
theorem nmX8 : ∀ a, a < 0 → ∀ b, b < 0 → a ≠ b → (TX8 a).2.1 ≠ (TX8 b).2.1 := by decide +kernel
theorem tyX8_ok : ∀ k, k < 0 → parseFieldDescriptor (TX8 k).2.2.1 = some (tyX8 k) := by decide +kernel
def RJ6 : String := "java/lang/Integer"
def TJ6 : u_T := fun k => match k with
  | _ => ("", "", "", false)
def tyJ6 : Nat → FieldType := fun k => match k with
  | _ => .int
abbrev wsJ60 : List Cond := u_ws RJ6 TJ6 0
theorem nmJ6 : ∀ a, a < 0 → ∀ b, b < 0 → a ≠ b → (TJ6 a).2.1 ≠ (TJ6 b).2.1 := by decide +kernel
theorem tyJ6_ok : ∀ k, k < 0 → parseFieldDescriptor (TJ6 k).2.2.1 = some (tyJ6 k) := by decide +kernel
abbrev cJ6_bitCount_0f7a4 : ByteArray := prog_11_method_49_code
def yJ6_bitCount_0f7a4 : MethodName := ⟨RJ6, "bitCount", "(I)I"⟩
def RJ9 : String := "java/lang/Math"
def TJ9 : u_T := fun k => match k with
  | _ => ("", "", "", false)
def tyJ9 : Nat → FieldType := fun k => match k with
  | _ => .int
abbrev wsJ90 : List Cond := u_ws RJ9 TJ9 0
theorem nmJ9 : ∀ a, a < 0 → ∀ b, b < 0 → a ≠ b → (TJ9 a).2.1 ≠ (TJ9 b).2.1 := by decide +kernel
theorem tyJ9_ok : ∀ k, k < 0 → parseFieldDescriptor (TJ9 k).2.2.1 = some (tyJ9 k) := by decide +kernel
abbrev cJ9_max_7cf53 : ByteArray := prog_12_method_65_code
def yJ9_max_7cf53 : MethodName := ⟨RJ9, "max", "(II)I"⟩
abbrev cJ9_min_7cf53 : ByteArray := prog_12_method_69_code
def yJ9_min_7cf53 : MethodName := ⟨RJ9, "min", "(II)I"⟩
def RJ10 : String := "java/lang/System"
def TJ10 : u_T := fun k => match k with
  | _ => ("", "", "", false)
def tyJ10 : Nat → FieldType := fun k => match k with
  | _ => .int
abbrev wsJ100 : List Cond := u_ws RJ10 TJ10 0
theorem nmJ10 : ∀ a, a < 0 → ∀ b, b < 0 → a ≠ b → (TJ10 a).2.1 ≠ (TJ10 b).2.1 := by decide +kernel
theorem tyJ10_ok : ∀ k, k < 0 → parseFieldDescriptor (TJ10 k).2.2.1 = some (tyJ10 k) := by decide +kernel
def RL : String := "PoleNaveLaw"
abbrev cL_part : ByteArray := method_2_code
def yL_part : MethodName := ⟨RL, "part", "(II)I"⟩
abbrev cL_cell : ByteArray := method_3_code
def yL_cell : MethodName := ⟨RL, "cell", "([II)I"⟩
abbrev cL_letter : ByteArray := method_4_code
def yL_letter : MethodName := ⟨RL, "letter", "(I)I"⟩
abbrev cL_byte0 : ByteArray := method_5_code
def yL_byte0 : MethodName := ⟨RL, "byte0", "(LPoleNave;II)I"⟩
abbrev cL_tells : ByteArray := method_6_code
def yL_tells : MethodName := ⟨RL, "tells", "(LPoleNave;[I[I[III)Z"⟩
abbrev cL_many : ByteArray := method_16_code
def yL_many : MethodName := ⟨RL, "many", "(I)I"⟩
abbrev cL_law : ByteArray := code
def yL_law : MethodName := ⟨RL, "law", "([I)Z"⟩
abbrev cL_told : ByteArray := method_20_code
def yL_told : MethodName := ⟨RL, "told", "(LPoleNave;I)I"⟩
theorem inJ6 : ∀ w ∈ wsJ60, w ∈ lw_tbl := by decide +kernel
theorem inJ9 : ∀ w ∈ wsJ90, w ∈ lw_tbl := by decide +kernel
theorem inJ10 : ∀ w ∈ wsJ100, w ∈ lw_tbl := by decide +kernel
abbrev vwCl : List vw_C := [(RX0, TX0, 2), (RX1, TX1, 8), (RX2, TX2, 7), (RX3, TX3, 2), (RX4, TX4, 6), (RX5, TX5, 6), (RX6, TX6, 7), (RX7, TX7, 16)]
