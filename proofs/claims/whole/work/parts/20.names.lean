/-- a private method of a class that the tables say can be made, by its rows of tables_1 -/
def lw_okq (q : MethodName × Nat) : Prop := (q.1.cls ≠ "java/lang/invoke/MethodHandle" ∧ q.1.cls ≠ "java/lang/invoke/VarHandle") ∧ Cond.instantiable q.1.cls q.2 ∈ tables_1 ∧ Cond.privateMethod q.1 ∈ tables_1 ∧ Cond.instanceMethod q.1 ∈ tables_1
theorem lw_p0 : lw_okq (⟨"CongruenceRows", "isTerm", "(I)Z"⟩, 4) := ⟨⟨by decide +kernel, by decide +kernel⟩, List.mem_of_getElem? (i := 16) (by decide +kernel), List.mem_of_getElem? (i := 160) (by decide +kernel), List.mem_of_getElem? (i := 161) (by decide +kernel)⟩
theorem lw_p1 : lw_okq (⟨"CongruenceRows", "gather", "(J)V"⟩, 4) := ⟨⟨by decide +kernel, by decide +kernel⟩, List.mem_of_getElem? (i := 16) (by decide +kernel), List.mem_of_getElem? (i := 182) (by decide +kernel), List.mem_of_getElem? (i := 183) (by decide +kernel)⟩
theorem lw_p2 : lw_okq (⟨"CongruenceRows", "isBroken", "(J)Z"⟩, 4) := ⟨⟨by decide +kernel, by decide +kernel⟩, List.mem_of_getElem? (i := 16) (by decide +kernel), List.mem_of_getElem? (i := 238) (by decide +kernel), List.mem_of_getElem? (i := 239) (by decide +kernel)⟩
theorem lw_p3 : lw_okq (⟨"CongruenceRows", "isOtherBroken", "(J)Z"⟩, 4) := ⟨⟨by decide +kernel, by decide +kernel⟩, List.mem_of_getElem? (i := 16) (by decide +kernel), List.mem_of_getElem? (i := 242) (by decide +kernel), List.mem_of_getElem? (i := 243) (by decide +kernel)⟩
theorem lw_p4 : lw_okq (⟨"CongruenceRows", "reasonOf", "(II)J"⟩, 4) := ⟨⟨by decide +kernel, by decide +kernel⟩, List.mem_of_getElem? (i := 16) (by decide +kernel), List.mem_of_getElem? (i := 260) (by decide +kernel), List.mem_of_getElem? (i := 261) (by decide +kernel)⟩
theorem lw_p5 : lw_okq (⟨"CongruenceRows", "fewestAhead", "(JIII)I"⟩, 4) := ⟨⟨by decide +kernel, by decide +kernel⟩, List.mem_of_getElem? (i := 16) (by decide +kernel), List.mem_of_getElem? (i := 264) (by decide +kernel), List.mem_of_getElem? (i := 265) (by decide +kernel)⟩
theorem lw_p6 : lw_okq (⟨"CongruenceRows", "isReached", "(JII)Z"⟩, 4) := ⟨⟨by decide +kernel, by decide +kernel⟩, List.mem_of_getElem? (i := 16) (by decide +kernel), List.mem_of_getElem? (i := 268) (by decide +kernel), List.mem_of_getElem? (i := 269) (by decide +kernel)⟩
theorem lw_p7 : lw_okq (⟨"CongruenceRows", "putIn", "(I)Z"⟩, 4) := ⟨⟨by decide +kernel, by decide +kernel⟩, List.mem_of_getElem? (i := 16) (by decide +kernel), List.mem_of_getElem? (i := 272) (by decide +kernel), List.mem_of_getElem? (i := 273) (by decide +kernel)⟩
theorem lw_p8 : lw_okq (⟨"CongruenceRows", "isSign", "(I)Z"⟩, 4) := ⟨⟨by decide +kernel, by decide +kernel⟩, List.mem_of_getElem? (i := 16) (by decide +kernel), List.mem_of_getElem? (i := 298) (by decide +kernel), List.mem_of_getElem? (i := 299) (by decide +kernel)⟩
theorem lw_p9 : lw_okq (⟨"java/lang/Throwable", "fillInStackTrace", "(I)Ljava/lang/Throwable;"⟩, 6) := ⟨⟨by decide +kernel, by decide +kernel⟩, List.mem_of_getElem? (i := 340) (by decide +kernel), List.mem_of_getElem? (i := 338) (by decide +kernel), List.mem_of_getElem? (i := 339) (by decide +kernel)⟩
theorem lw_p10 : lw_okq (⟨"CongruenceRows", "isPlace", "(I)Z"⟩, 4) := ⟨⟨by decide +kernel, by decide +kernel⟩, List.mem_of_getElem? (i := 16) (by decide +kernel), List.mem_of_getElem? (i := 394) (by decide +kernel), List.mem_of_getElem? (i := 395) (by decide +kernel)⟩
theorem lw_p11 : lw_okq (⟨"CongruenceRows", "requireTerms", "(II)V"⟩, 4) := ⟨⟨by decide +kernel, by decide +kernel⟩, List.mem_of_getElem? (i := 16) (by decide +kernel), List.mem_of_getElem? (i := 446) (by decide +kernel), List.mem_of_getElem? (i := 447) (by decide +kernel)⟩
theorem lw_p12 : lw_okq (⟨"CongruenceRowsModel", "counted", "(III)I"⟩, 15) := ⟨⟨by decide +kernel, by decide +kernel⟩, List.mem_of_getElem? (i := 488) (by decide +kernel), List.mem_of_getElem? (i := 552) (by decide +kernel), List.mem_of_getElem? (i := 553) (by decide +kernel)⟩
theorem lw_p13 : lw_okq (⟨"CongruenceRowsModel", "isTerm", "(I)Z"⟩, 15) := ⟨⟨by decide +kernel, by decide +kernel⟩, List.mem_of_getElem? (i := 488) (by decide +kernel), List.mem_of_getElem? (i := 556) (by decide +kernel), List.mem_of_getElem? (i := 557) (by decide +kernel)⟩
theorem lw_p14 : lw_okq (⟨"CongruenceRowsModel", "standing", "(I)I"⟩, 15) := ⟨⟨by decide +kernel, by decide +kernel⟩, List.mem_of_getElem? (i := 488) (by decide +kernel), List.mem_of_getElem? (i := 564) (by decide +kernel), List.mem_of_getElem? (i := 565) (by decide +kernel)⟩
theorem lw_p15 : lw_okq (⟨"CongruenceRowsModel", "all", "()J"⟩, 15) := ⟨⟨by decide +kernel, by decide +kernel⟩, List.mem_of_getElem? (i := 488) (by decide +kernel), List.mem_of_getElem? (i := 580) (by decide +kernel), List.mem_of_getElem? (i := 581) (by decide +kernel)⟩
def lw_privs_1 : List (MethodName × Nat) := [(⟨"CongruenceRows", "isTerm", "(I)Z"⟩, 4), (⟨"CongruenceRows", "gather", "(J)V"⟩, 4), (⟨"CongruenceRows", "isBroken", "(J)Z"⟩, 4), (⟨"CongruenceRows", "isOtherBroken", "(J)Z"⟩, 4), (⟨"CongruenceRows", "reasonOf", "(II)J"⟩, 4), (⟨"CongruenceRows", "fewestAhead", "(JIII)I"⟩, 4), (⟨"CongruenceRows", "isReached", "(JII)Z"⟩, 4), (⟨"CongruenceRows", "putIn", "(I)Z"⟩, 4), (⟨"CongruenceRows", "isSign", "(I)Z"⟩, 4), (⟨"java/lang/Throwable", "fillInStackTrace", "(I)Ljava/lang/Throwable;"⟩, 6), (⟨"CongruenceRows", "isPlace", "(I)Z"⟩, 4), (⟨"CongruenceRows", "requireTerms", "(II)V"⟩, 4), (⟨"CongruenceRowsModel", "counted", "(III)I"⟩, 15), (⟨"CongruenceRowsModel", "isTerm", "(I)Z"⟩, 15), (⟨"CongruenceRowsModel", "standing", "(I)I"⟩, 15), (⟨"CongruenceRowsModel", "all", "()J"⟩, 15)]
theorem lw_r1 : ∀ q ∈ lw_privs_1, lw_okq q := List.forall_mem_cons.mpr ⟨lw_p0, List.forall_mem_cons.mpr ⟨lw_p1, List.forall_mem_cons.mpr ⟨lw_p2, List.forall_mem_cons.mpr ⟨lw_p3, List.forall_mem_cons.mpr ⟨lw_p4, List.forall_mem_cons.mpr ⟨lw_p5, List.forall_mem_cons.mpr ⟨lw_p6, List.forall_mem_cons.mpr ⟨lw_p7, List.forall_mem_cons.mpr ⟨lw_p8, List.forall_mem_cons.mpr ⟨lw_p9, List.forall_mem_cons.mpr ⟨lw_p10, List.forall_mem_cons.mpr ⟨lw_p11, List.forall_mem_cons.mpr ⟨lw_p12, List.forall_mem_cons.mpr ⟨lw_p13, List.forall_mem_cons.mpr ⟨lw_p14, List.forall_mem_cons.mpr ⟨lw_p15, fun _ h => absurd h List.not_mem_nil⟩⟩⟩⟩⟩⟩⟩⟩⟩⟩⟩⟩⟩⟩⟩⟩
theorem lw_p16 : lw_okq (⟨"CongruenceRowsModel", "joinAll", "(JII)V"⟩, 15) := ⟨⟨by decide +kernel, by decide +kernel⟩, List.mem_of_getElem? (i := 488) (by decide +kernel), List.mem_of_getElem? (i := 584) (by decide +kernel), List.mem_of_getElem? (i := 585) (by decide +kernel)⟩
theorem lw_p17 : lw_okq (⟨"CongruenceRowsModel", "join", "(II)V"⟩, 15) := ⟨⟨by decide +kernel, by decide +kernel⟩, List.mem_of_getElem? (i := 488) (by decide +kernel), List.mem_of_getElem? (i := 588) (by decide +kernel), List.mem_of_getElem? (i := 589) (by decide +kernel)⟩
theorem lw_p18 : lw_okq (⟨"CongruenceRowsModel", "areAlike", "(II)Z"⟩, 15) := ⟨⟨by decide +kernel, by decide +kernel⟩, List.mem_of_getElem? (i := 488) (by decide +kernel), List.mem_of_getElem? (i := 592) (by decide +kernel), List.mem_of_getElem? (i := 593) (by decide +kernel)⟩
theorem lw_p19 : lw_okq (⟨"CongruenceRowsModel", "clashing", "(J)Z"⟩, 15) := ⟨⟨by decide +kernel, by decide +kernel⟩, List.mem_of_getElem? (i := 488) (by decide +kernel), List.mem_of_getElem? (i := 600) (by decide +kernel), List.mem_of_getElem? (i := 601) (by decide +kernel)⟩
theorem lw_p20 : lw_okq (⟨"CongruenceRowsModel", "turns", "()Z"⟩, 15) := ⟨⟨by decide +kernel, by decide +kernel⟩, List.mem_of_getElem? (i := 488) (by decide +kernel), List.mem_of_getElem? (i := 604) (by decide +kernel), List.mem_of_getElem? (i := 605) (by decide +kernel)⟩
def lw_privs_2 : List (MethodName × Nat) := [(⟨"CongruenceRowsModel", "joinAll", "(JII)V"⟩, 15), (⟨"CongruenceRowsModel", "join", "(II)V"⟩, 15), (⟨"CongruenceRowsModel", "areAlike", "(II)Z"⟩, 15), (⟨"CongruenceRowsModel", "clashing", "(J)Z"⟩, 15), (⟨"CongruenceRowsModel", "turns", "()Z"⟩, 15)]
theorem lw_r2 : ∀ q ∈ lw_privs_2, lw_okq q := List.forall_mem_cons.mpr ⟨lw_p16, List.forall_mem_cons.mpr ⟨lw_p17, List.forall_mem_cons.mpr ⟨lw_p18, List.forall_mem_cons.mpr ⟨lw_p19, List.forall_mem_cons.mpr ⟨lw_p20, fun _ h => absurd h List.not_mem_nil⟩⟩⟩⟩⟩
def lw_privs : List (MethodName × Nat) := lw_privs_1 ++ (lw_privs_2)
def lw_tbl : List Cond := k2_sels lw_privs ++ tables_1
theorem lw_privs_ok : ∀ q ∈ lw_privs, lw_okq q := by
  show ∀ q ∈ lw_privs_1 ++ (lw_privs_2), lw_okq q
  exact List.forall_mem_append.mpr ⟨lw_r1, lw_r2⟩
/-! NAMES: classes, fields in our order, methods -/
def RX3 : String := "CongruenceRows"
def TX3 : u_T := fun k => match k with
  | 0 => ("CongruenceRows", "terms", "LCongruenceRows$Terms;", true)
  | 1 => ("CongruenceRows", "facts", "LCongruenceRows$Facts;", true)
  | 2 => ("CongruenceRows", "apart", "LCongruenceRows$Rows;", true)
  | _ => ("CongruenceRows", "rows", "LCongruenceRows$Rows;", true)
def tyX3 : Nat → FieldType := fun k => match k with
  | 0 => .object "CongruenceRows$Terms"
  | 1 => .object "CongruenceRows$Facts"
  | 2 => .object "CongruenceRows$Rows"
  | _ => .object "CongruenceRows$Rows"
theorem nmX3 : ∀ a, a < 4 → ∀ b, b < 4 → a ≠ b → (TX3 a).2.1 ≠ (TX3 b).2.1 := by decide +kernel
theorem tyX3_ok : ∀ k, k < 4 → parseFieldDescriptor (TX3 k).2.2.1 = some (tyX3 k) := by decide +kernel
def RX0 : String := "CongruenceRows$Facts"
def TX0 : u_T := fun k => match k with
  | 0 => ("CongruenceRows$Facts", "lefts", "[I", true)
  | 1 => ("CongruenceRows$Facts", "rights", "[I", true)
  | 2 => ("CongruenceRows$Facts", "sames", "[Z", true)
  | _ => ("CongruenceRows$Facts", "count", "I", false)
def tyX0 : Nat → FieldType := fun k => match k with
  | 0 => .array .int
  | 1 => .array .int
  | 2 => .array .boolean
  | _ => .int
theorem nmX0 : ∀ a, a < 4 → ∀ b, b < 4 → a ≠ b → (TX0 a).2.1 ≠ (TX0 b).2.1 := by decide +kernel
theorem tyX0_ok : ∀ k, k < 4 → parseFieldDescriptor (TX0 k).2.2.1 = some (tyX0 k) := by decide +kernel
def RX1 : String := "CongruenceRows$Rows"
def TX1 : u_T := fun k => match k with
  | 0 => ("CongruenceRows$Rows", "terms", "LCongruenceRows$Terms;", true)
  | 1 => ("CongruenceRows$Rows", "names", "[I", true)
  | 2 => ("CongruenceRows$Rows", "members", "[J", true)
  | 3 => ("CongruenceRows$Rows", "firstUsers", "[J", true)
  | 4 => ("CongruenceRows$Rows", "secondUsers", "[J", true)
  | 5 => ("CongruenceRows$Rows", "thirdUsers", "[J", true)
  | 6 => ("CongruenceRows$Rows", "below", "[J", true)
  | 7 => ("CongruenceRows$Rows", "builders", "[I", true)
  | 8 => ("CongruenceRows$Rows", "unseen", "J", false)
  | _ => ("CongruenceRows$Rows", "mixed", "Z", false)
def tyX1 : Nat → FieldType := fun k => match k with
  | 0 => .object "CongruenceRows$Terms"
  | 1 => .array .int
  | 2 => .array .long
  | 3 => .array .long
  | 4 => .array .long
  | 5 => .array .long
  | 6 => .array .long
  | 7 => .array .int
  | 8 => .long
  | _ => .boolean
theorem nmX1 : ∀ a, a < 10 → ∀ b, b < 10 → a ≠ b → (TX1 a).2.1 ≠ (TX1 b).2.1 := by decide +kernel
theorem tyX1_ok : ∀ k, k < 10 → parseFieldDescriptor (TX1 k).2.2.1 = some (tyX1 k) := by decide +kernel
def RX2 : String := "CongruenceRows$Terms"
def TX2 : u_T := fun k => match k with
  | 0 => ("CongruenceRows$Terms", "placesOf", "[I", true)
  | 1 => ("CongruenceRows$Terms", "builds", "[Z", true)
  | 2 => ("CongruenceRows$Terms", "ofSign", "[J", true)
  | 3 => ("CongruenceRows$Terms", "signs", "[I", true)
  | 4 => ("CongruenceRows$Terms", "firsts", "[I", true)
  | 5 => ("CongruenceRows$Terms", "seconds", "[I", true)
  | 6 => ("CongruenceRows$Terms", "thirds", "[I", true)
  | 7 => ("CongruenceRows$Terms", "inside", "[J", true)
  | 8 => ("CongruenceRows$Terms", "built", "J", false)
  | _ => ("CongruenceRows$Terms", "count", "I", false)
def tyX2 : Nat → FieldType := fun k => match k with
  | 0 => .array .int
  | 1 => .array .boolean
  | 2 => .array .long
  | 3 => .array .int
  | 4 => .array .int
  | 5 => .array .int
  | 6 => .array .int
  | 7 => .array .long
  | 8 => .long
  | _ => .int
theorem nmX2 : ∀ a, a < 10 → ∀ b, b < 10 → a ≠ b → (TX2 a).2.1 ≠ (TX2 b).2.1 := by decide +kernel
theorem tyX2_ok : ∀ k, k < 10 → parseFieldDescriptor (TX2 k).2.2.1 = some (tyX2 k) := by decide +kernel
def RX4 : String := "CongruenceRowsModel"
def TX4 : u_T := fun k => match k with
  | 0 => ("CongruenceRowsModel", "thrown", "I", false)
  | 1 => ("CongruenceRowsModel", "isBuilder", "[Z", true)
  | 2 => ("CongruenceRowsModel", "isUsed", "[Z", true)
  | 3 => ("CongruenceRowsModel", "places", "[I", true)
  | 4 => ("CongruenceRowsModel", "terms", "I", false)
  | 5 => ("CongruenceRowsModel", "facts", "I", false)
  | 6 => ("CongruenceRowsModel", "sign", "[I", true)
  | 7 => ("CongruenceRowsModel", "at", "[I", true)
  | 8 => ("CongruenceRowsModel", "one", "[I", true)
  | 9 => ("CongruenceRowsModel", "two", "[I", true)
  | 10 => ("CongruenceRowsModel", "same", "[Z", true)
  | 11 => ("CongruenceRowsModel", "least", "[I", true)
  | 12 => ("CongruenceRowsModel", "joins", "Z", false)
  | 13 => ("CongruenceRowsModel", "below", "[Z", true)
  | _ => ("CongruenceRowsModel", "stands", "[Z", true)
def tyX4 : Nat → FieldType := fun k => match k with
  | 0 => .int
  | 1 => .array .boolean
  | 2 => .array .boolean
  | 3 => .array .int
  | 4 => .int
  | 5 => .int
  | 6 => .array .int
  | 7 => .array .int
  | 8 => .array .int
  | 9 => .array .int
  | 10 => .array .boolean
  | 11 => .array .int
  | 12 => .boolean
  | 13 => .array .boolean
  | _ => .array .boolean
theorem nmX4 : ∀ a, a < 15 → ∀ b, b < 15 → a ≠ b → (TX4 a).2.1 ≠ (TX4 b).2.1 := by decide +kernel
theorem tyX4_ok : ∀ k, k < 15 → parseFieldDescriptor (TX4 k).2.2.1 = some (tyX4 k) := by decide +kernel
def RL : String := "CongruenceRowsLaw"
def RJ6 : String := "java/lang/Integer"
def RJ13 : String := "java/lang/Long"
abbrev cX3_init : ByteArray := prog_1_method_1_code
def yX3_init : MethodName := ⟨RX3, "<init>", "()V"⟩
abbrev cX2_init : ByteArray := prog_4_method_1_code
def yX2_init : MethodName := ⟨RX2, "<init>", "()V"⟩
abbrev cX0_init : ByteArray := prog_2_method_1_code
def yX0_init : MethodName := ⟨RX0, "<init>", "()V"⟩
abbrev cX1_init : ByteArray := prog_3_method_1_code
def yX1_init : MethodName := ⟨RX1, "<init>", "(LCongruenceRows$Terms;)V"⟩
abbrev cX3_part : ByteArray := prog_1_method_4_code
def yX3_part : MethodName := ⟨RX3, "part", "(II)I"⟩
abbrev cX3_isTerm : ByteArray := prog_1_method_16_code
def yX3_isTerm : MethodName := ⟨RX3, "isTerm", "(I)Z"⟩
abbrev cJ13_bitCount : ByteArray := prog_12_method_50_code
def yJ13_bitCount : MethodName := ⟨RJ13, "bitCount", "(J)I"⟩
abbrev cX3_undo : ByteArray := prog_1_method_6_code
def yX3_undo : MethodName := ⟨RX3, "undo", "()Z"⟩
abbrev cX3_clashes : ByteArray := prog_1_method_8_code
def yX3_clashes : MethodName := ⟨RX3, "clashes", "()Z"⟩
abbrev cX0_all : ByteArray := prog_2_method_3_code
def yX0_all : MethodName := ⟨RX0, "all", "()J"⟩
abbrev cX3_gather : ByteArray := prog_1_method_21_code
def yX3_gather : MethodName := ⟨RX3, "gather", "(J)V"⟩
abbrev cX1_copyFrom : ByteArray := prog_3_method_5_code
def yX1_copyFrom : MethodName := ⟨RX1, "copyFrom", "(LCongruenceRows$Rows;)V"⟩
abbrev cX1_makeOne : ByteArray := prog_3_method_7_code
def yX1_makeOne : MethodName := ⟨RX1, "makeOne", "(II)Z"⟩
abbrev cX1_areOne : ByteArray := prog_3_method_6_code
def yX1_areOne : MethodName := ⟨RX1, "areOne", "(II)Z"⟩
abbrev cX1_join : ByteArray := prog_3_method_11_code
def yX1_join : MethodName := ⟨RX1, "join", "(II)V"⟩
abbrev cJ13_numberOfTrailingZeros : ByteArray := prog_12_method_49_code
def yJ13_numberOfTrailingZeros : MethodName := ⟨RJ13, "numberOfTrailingZeros", "(J)I"⟩
abbrev cJ6_numberOfTrailingZeros : ByteArray := prog_11_method_48_code
def yJ6_numberOfTrailingZeros : MethodName := ⟨RJ6, "numberOfTrailingZeros", "(I)I"⟩
abbrev cX1_joinBuilders : ByteArray := prog_3_method_12_code
def yX1_joinBuilders : MethodName := ⟨RX1, "joinBuilders", "(II)V"⟩
abbrev cX1_joinAlike : ByteArray := prog_3_method_8_code
def yX1_joinAlike : MethodName := ⟨RX1, "joinAlike", "(I)V"⟩
abbrev cX1_alike : ByteArray := prog_3_method_9_code
def yX1_alike : MethodName := ⟨RX1, "alike", "(IIII)J"⟩
abbrev cX3_leastOf : ByteArray := prog_1_method_19_code
def yX3_leastOf : MethodName := ⟨RX3, "leastOf", "(J)I"⟩
abbrev cX2_isBuilt : ByteArray := prog_4_method_4_code
def yX2_isBuilt : MethodName := ⟨RX2, "isBuilt", "(I)Z"⟩
abbrev cX1_joinPlaces : ByteArray := prog_3_method_10_code
def yX1_joinPlaces : MethodName := ⟨RX1, "joinPlaces", "(I)V"⟩
abbrev cX3_isBroken : ByteArray := prog_1_method_23_code
def yX3_isBroken : MethodName := ⟨RX3, "isBroken", "(J)Z"⟩
abbrev cX3_isOtherBroken : ByteArray := prog_1_method_24_code
def yX3_isOtherBroken : MethodName := ⟨RX3, "isOtherBroken", "(J)Z"⟩
abbrev cX1_hasLoop : ByteArray := prog_3_method_14_code
def yX1_hasLoop : MethodName := ⟨RX1, "hasLoop", "()Z"⟩
abbrev cX1_clearMore : ByteArray := prog_3_method_15_code
def yX1_clearMore : MethodName := ⟨RX1, "clearMore", "(J)J"⟩
abbrev cX3_clash : ByteArray := prog_1_method_12_code
def yX3_clash : MethodName := ⟨RX3, "clash", "()J"⟩
abbrev cX3_reasonOf : ByteArray := prog_1_method_26_code
def yX3_reasonOf : MethodName := ⟨RX3, "reasonOf", "(II)J"⟩
abbrev cX3_fewestAhead : ByteArray := prog_1_method_27_code
def yX3_fewestAhead : MethodName := ⟨RX3, "fewestAhead", "(JIII)I"⟩
abbrev cX3_isReached : ByteArray := prog_1_method_25_code
def yX3_isReached : MethodName := ⟨RX3, "isReached", "(JII)Z"⟩
abbrev cX3_putIn : ByteArray := prog_1_method_22_code
def yX3_putIn : MethodName := ⟨RX3, "putIn", "(I)Z"⟩
abbrev cX3_idle : ByteArray := prog_1_method_13_code
def yX3_idle : MethodName := ⟨RX3, "idle", "()J"⟩
abbrev cX3_about : ByteArray := prog_1_method_14_code
def yX3_about : MethodName := ⟨RX3, "about", "(I)I"⟩
abbrev cX2_countUsedSigns : ByteArray := prog_4_method_5_code
def yX2_countUsedSigns : MethodName := ⟨RX2, "countUsedSigns", "()I"⟩
abbrev cL_builder : ByteArray := method_3_code
def yL_builder : MethodName := ⟨RL, "builder", "(LCongruenceRows;I)I"⟩
abbrev cX3_builder : ByteArray := prog_1_method_2_code
def yX3_builder : MethodName := ⟨RX3, "builder", "(I)V"⟩
abbrev cX3_isSign : ByteArray := prog_1_method_15_code
def yX3_isSign : MethodName := ⟨RX3, "isSign", "(I)Z"⟩
abbrev cL_term : ByteArray := method_4_code
def yL_term : MethodName := ⟨RL, "term", "(LCongruenceRows;IIII[J)I"⟩
abbrev cX3_term : ByteArray := prog_1_method_3_code
def yX3_term : MethodName := ⟨RX3, "term", "(IIII)I"⟩
abbrev cX3_isPlace : ByteArray := prog_1_method_17_code
def yX3_isPlace : MethodName := ⟨RX3, "isPlace", "(I)Z"⟩
abbrev cX3_countPlaces : ByteArray := prog_1_method_20_code
def yX3_countPlaces : MethodName := ⟨RX3, "countPlaces", "(III)I"⟩
abbrev cX2_add : ByteArray := prog_4_method_2_code
def yX2_add : MethodName := ⟨RX2, "add", "(IIII)V"⟩
abbrev cX2_insideOf : ByteArray := prog_4_method_3_code
def yX2_insideOf : MethodName := ⟨RX2, "insideOf", "(I)J"⟩
abbrev cX1_addAlone : ByteArray := prog_3_method_2_code
def yX1_addAlone : MethodName := ⟨RX1, "addAlone", "(I)V"⟩
abbrev cX1_use : ByteArray := prog_3_method_3_code
def yX1_use : MethodName := ⟨RX1, "use", "([JII)V"⟩
abbrev cX1_bitOf : ByteArray := prog_3_method_4_code
def yX1_bitOf : MethodName := ⟨RX1, "bitOf", "(I)J"⟩
abbrev cL_fact : ByteArray := method_5_code
def yL_fact : MethodName := ⟨RL, "fact", "(LCongruenceRows;IIZ[J)I"⟩
abbrev cX3_fact : ByteArray := prog_1_method_5_code
def yX3_fact : MethodName := ⟨RX3, "fact", "(IIZ)I"⟩
abbrev cX3_requireTerms : ByteArray := prog_1_method_18_code
def yX3_requireTerms : MethodName := ⟨RX3, "requireTerms", "(II)V"⟩
abbrev cX0_add : ByteArray := prog_2_method_2_code
def yX0_add : MethodName := ⟨RX0, "add", "(IIZ)V"⟩
abbrev cL_isOne : ByteArray := method_6_code
def yL_isOne : MethodName := ⟨RL, "isOne", "(LCongruenceRows;II[J)I"⟩
abbrev cX3_isOne : ByteArray := prog_1_method_7_code
def yX3_isOne : MethodName := ⟨RX3, "isOne", "(II)Z"⟩
abbrev cL_isOther : ByteArray := method_7_code
def yL_isOther : MethodName := ⟨RL, "isOther", "(LCongruenceRows;II[J)I"⟩
abbrev cX3_isOther : ByteArray := prog_1_method_9_code
def yX3_isOther : MethodName := ⟨RX3, "isOther", "(II)Z"⟩
abbrev cL_row : ByteArray := method_8_code
def yL_row : MethodName := ⟨RL, "row", "(LCongruenceRows;II[J)I"⟩
abbrev cX3_row : ByteArray := prog_1_method_10_code
def yX3_row : MethodName := ⟨RX3, "row", "(II)I"⟩
abbrev cX1_countRows : ByteArray := prog_3_method_13_code
def yX1_countRows : MethodName := ⟨RX1, "countRows", "()I"⟩
abbrev cL_reason : ByteArray := method_9_code
def yL_reason : MethodName := ⟨RL, "reason", "(LCongruenceRows;II[J)I"⟩
abbrev cX3_reason : ByteArray := prog_1_method_11_code
def yX3_reason : MethodName := ⟨RX3, "reason", "(II)J"⟩
abbrev cX4_init : ByteArray := prog_6_method_1_code
def yX4_init : MethodName := ⟨RX4, "<init>", "()V"⟩
abbrev cX4_thrown : ByteArray := prog_6_method_2_code
def yX4_thrown : MethodName := ⟨RX4, "thrown", "()I"⟩
abbrev cX4_builder : ByteArray := prog_6_method_4_code
def yX4_builder : MethodName := ⟨RX4, "builder", "(I)V"⟩
abbrev cX4_term : ByteArray := prog_6_method_6_code
def yX4_term : MethodName := ⟨RX4, "term", "(IIII)I"⟩
abbrev cX4_counted : ByteArray := prog_6_method_5_code
def yX4_counted : MethodName := ⟨RX4, "counted", "(III)I"⟩
abbrev cX4_isTerm : ByteArray := prog_6_method_3_code
def yX4_isTerm : MethodName := ⟨RX4, "isTerm", "(I)Z"⟩
abbrev cX4_part : ByteArray := prog_6_method_8_code
def yX4_part : MethodName := ⟨RX4, "part", "(II)I"⟩
abbrev cX4_standing : ByteArray := prog_6_method_7_code
def yX4_standing : MethodName := ⟨RX4, "standing", "(I)I"⟩
abbrev cX4_fact : ByteArray := prog_6_method_9_code
def yX4_fact : MethodName := ⟨RX4, "fact", "(IIZ)I"⟩
abbrev cX4_undo : ByteArray := prog_6_method_10_code
def yX4_undo : MethodName := ⟨RX4, "undo", "()Z"⟩
abbrev cX4_isOne : ByteArray := prog_6_method_17_code
def yX4_isOne : MethodName := ⟨RX4, "isOne", "(II)Z"⟩
abbrev cX4_all : ByteArray := prog_6_method_14_code
def yX4_all : MethodName := ⟨RX4, "all", "()J"⟩
abbrev cX4_joinAll : ByteArray := prog_6_method_13_code
def yX4_joinAll : MethodName := ⟨RX4, "joinAll", "(JII)V"⟩
abbrev cX4_join : ByteArray := prog_6_method_11_code
def yX4_join : MethodName := ⟨RX4, "join", "(II)V"⟩
abbrev cX4_areAlike : ByteArray := prog_6_method_12_code
def yX4_areAlike : MethodName := ⟨RX4, "areAlike", "(II)Z"⟩
abbrev cX4_clashes : ByteArray := prog_6_method_18_code
def yX4_clashes : MethodName := ⟨RX4, "clashes", "()Z"⟩
abbrev cX4_clashing : ByteArray := prog_6_method_16_code
def yX4_clashing : MethodName := ⟨RX4, "clashing", "(J)Z"⟩
abbrev cX4_turns : ByteArray := prog_6_method_15_code
def yX4_turns : MethodName := ⟨RX4, "turns", "()Z"⟩
abbrev cX4_isOther : ByteArray := prog_6_method_19_code
def yX4_isOther : MethodName := ⟨RX4, "isOther", "(II)Z"⟩
abbrev cX4_row : ByteArray := prog_6_method_20_code
def yX4_row : MethodName := ⟨RX4, "row", "(II)I"⟩
abbrev cX4_reason : ByteArray := prog_6_method_21_code
def yX4_reason : MethodName := ⟨RX4, "reason", "(II)J"⟩
abbrev cX4_clash : ByteArray := prog_6_method_22_code
def yX4_clash : MethodName := ⟨RX4, "clash", "()J"⟩
abbrev cX4_idle : ByteArray := prog_6_method_23_code
def yX4_idle : MethodName := ⟨RX4, "idle", "()J"⟩
abbrev cX4_about : ByteArray := prog_6_method_24_code
def yX4_about : MethodName := ⟨RX4, "about", "(I)I"⟩
abbrev cL_law : ByteArray := code
def yL_law : MethodName := ⟨RL, "law", "([I)Z"⟩
/-- the words that walks take: of these kinds -/
def kd_of : Cond → Bool
  | .methodLink .. => true
  | .code .. => true
  | .codeWith .. => true
  | .instanceMethod .. => true
  | .fieldLink .. => true
  | .selects .. => true
  | .laysFinal .. => true
  | .lays .. => true
  | .initialized .. => true
  | .static .. => true
  | .classLink .. => true
  | .instantiable .. => true
  | .constantLong .. => true
  | .constant .. => true
  | .arrayClass .. => true
  | .native .. => true
  | _ => false
theorem kd_good (w : Cond) (h : kd_of w = true) : goodWord w = true := by
  cases w <;> first | rfl | (cases h; done) | (simp [kd_of] at h; done) | (simp [goodWord, Cond.onTables, Cond.keeps, Cond.steady]; done)
def w0 : List Cond := lw_tbl.filter kd_of
theorem w0_in : ∀ w ∈ w0, w ∈ lw_tbl := fun w h => (List.mem_filter.mp h).1
theorem w0_good {big : List Cond} (hb : ∀ w ∈ w0, w ∈ big) {x : Cond} (hx : x ∈ w0) : GoodIn big (x :: w0) := by
  have k : ∀ w ∈ w0, w ∈ big ∧ ((w.onTables && w.keeps) = true ∨ ∃ ty, w = .arrayClass ty) := fun w h => ⟨hb w h, good_of_word (kd_good w (List.mem_filter.mp h).2)⟩
  intro w h
  rcases List.mem_cons.mp h with rfl | h
  · exact k _ hx
  · exact k w h
theorem w0_goodV {big : List Cond} (hb : ∀ w ∈ w0, w ∈ big) {x : Cond} (hx : x ∈ w0) {own C : String} {idx : Nat} {y : MethodName} (h1 : Cond.methodLink own idx y ∈ w0) (h2 : Cond.instanceMethod y ∈ w0) (h3 : Cond.selects C y y ∈ w0) (h4 : Cond.initialized C ∈ w0) : GoodIn big (wsV own idx C y (x :: w0)) := by
  have g := w0_good hb hx
  intro w h
  rcases List.mem_append.mp h with h | h
  · simp only [List.mem_cons, List.not_mem_nil, or_false] at h
    rcases h with rfl | rfl | rfl | rfl
    · exact w0_good hb h1 _ List.mem_cons_self
    · exact w0_good hb h2 _ List.mem_cons_self
    · exact w0_good hb h3 _ List.mem_cons_self
    · exact w0_good hb h4 _ List.mem_cons_self
  · exact g w h
theorem w0_goodS {big : List Cond} (hb : ∀ w ∈ w0, w ∈ big) {x : Cond} (hx : x ∈ w0) {own : String} {idx : Nat} {y : MethodName} (h1 : Cond.methodLink own idx y ∈ w0) (h2 : Cond.static y ∈ w0) (h4 : Cond.initialized y.cls ∈ w0) : GoodIn big (va_wsS own idx y (x :: w0)) := by
  have g := w0_good hb hx
  intro w h
  rcases List.mem_append.mp h with h | h
  · simp only [List.mem_cons, List.not_mem_nil, or_false] at h
    rcases h with rfl | rfl | rfl
    · exact w0_good hb h1 _ List.mem_cons_self
    · exact w0_good hb h2 _ List.mem_cons_self
    · exact w0_good hb h4 _ List.mem_cons_self
  · exact g w h
theorem w0_1 {w : Cond} (h : w ∈ tables_1_1) (k : kd_of w = true) : w ∈ w0 := List.mem_filter.mpr ⟨List.mem_append_right _ (List.mem_append_left _ h), k⟩
theorem w0_2 {w : Cond} (h : w ∈ tables_1_2) (k : kd_of w = true) : w ∈ w0 := List.mem_filter.mpr ⟨List.mem_append_right _ (List.mem_append_right _ (List.mem_append_left _ h)), k⟩
theorem w0_3 {w : Cond} (h : w ∈ tables_1_3) (k : kd_of w = true) : w ∈ w0 := List.mem_filter.mpr ⟨List.mem_append_right _ (List.mem_append_right _ (List.mem_append_right _ h)), k⟩
theorem w0_s {w : Cond} (h : w ∈ k2_sels lw_privs) (k : kd_of w = true) : w ∈ w0 := List.mem_filter.mpr ⟨List.mem_append_left _ h, k⟩
theorem wd_0 : Cond.initialized RL ∈ w0 := w0_1 (List.mem_of_getElem? (i := 0) rfl) rfl
theorem wd_1 : Cond.initialized RX3 ∈ w0 := w0_1 (List.mem_of_getElem? (i := 1) rfl) rfl
theorem wd_2 : Cond.initialized RX2 ∈ w0 := w0_1 (List.mem_of_getElem? (i := 2) rfl) rfl
theorem wd_3 : Cond.initialized RX0 ∈ w0 := w0_1 (List.mem_of_getElem? (i := 3) rfl) rfl
theorem wd_4 : Cond.initialized RX1 ∈ w0 := w0_1 (List.mem_of_getElem? (i := 4) rfl) rfl
theorem wd_5 : Cond.initialized RX4 ∈ w0 := w0_1 (List.mem_of_getElem? (i := 5) rfl) rfl
theorem wd_6 : Cond.initialized "java/lang/Throwable" ∈ w0 := w0_1 (List.mem_of_getElem? (i := 6) rfl) rfl
theorem wd_7 : Cond.initialized "java/lang/Exception" ∈ w0 := w0_1 (List.mem_of_getElem? (i := 7) rfl) rfl
theorem wd_8 : Cond.initialized "java/lang/RuntimeException" ∈ w0 := w0_1 (List.mem_of_getElem? (i := 8) rfl) rfl
theorem wd_9 : Cond.initialized "java/lang/IndexOutOfBoundsException" ∈ w0 := w0_1 (List.mem_of_getElem? (i := 9) rfl) rfl
theorem wd_10 : Cond.initialized "java/lang/IllegalStateException" ∈ w0 := w0_1 (List.mem_of_getElem? (i := 10) rfl) rfl
theorem wd_11 : Cond.initialized "java/lang/IllegalArgumentException" ∈ w0 := w0_1 (List.mem_of_getElem? (i := 11) rfl) rfl
theorem wd_12 : Cond.initialized RJ13 ∈ w0 := w0_1 (List.mem_of_getElem? (i := 12) rfl) rfl
theorem wd_13 : Cond.initialized RJ6 ∈ w0 := w0_1 (List.mem_of_getElem? (i := 13) rfl) rfl
theorem wd_14 : Cond.initialized "java/lang/System" ∈ w0 := w0_1 (List.mem_of_getElem? (i := 14) rfl) rfl
theorem wd_15 : Cond.classLink RL 8 RX3 ∈ w0 := w0_1 (List.mem_of_getElem? (i := 15) rfl) rfl
theorem wd_16 : Cond.instantiable RX3 4 ∈ w0 := w0_1 (List.mem_of_getElem? (i := 16) rfl) rfl
theorem wd_17 : Cond.methodLink RL 42 yX3_init ∈ w0 := w0_1 (List.mem_of_getElem? (i := 17) rfl) rfl
theorem wd_18 : Cond.instanceMethod yX3_init ∈ w0 := w0_1 (List.mem_of_getElem? (i := 18) rfl) rfl
theorem wd_19 : Cond.code yX3_init cX3_init 1 none ∈ w0 := w0_1 (List.mem_of_getElem? (i := 19) rfl) rfl
theorem wd_20 : Cond.methodLink RX3 1 objectInit ∈ w0 := w0_1 (List.mem_of_getElem? (i := 20) rfl) rfl
theorem wd_21 : Cond.instanceMethod objectInit ∈ w0 := w0_1 (List.mem_of_getElem? (i := 21) rfl) rfl
theorem wd_22 : Cond.code objectInit object_method_1_code 1 none ∈ w0 := w0_1 (List.mem_of_getElem? (i := 22) rfl) rfl
theorem wd_23 : Cond.classLink RX3 7 RX2 ∈ w0 := w0_1 (List.mem_of_getElem? (i := 23) rfl) rfl
theorem wd_24 : Cond.instantiable RX2 10 ∈ w0 := w0_1 (List.mem_of_getElem? (i := 24) rfl) rfl
theorem wd_25 : Cond.methodLink RX3 9 yX2_init ∈ w0 := w0_1 (List.mem_of_getElem? (i := 25) rfl) rfl
theorem wd_26 : Cond.instanceMethod yX2_init ∈ w0 := w0_1 (List.mem_of_getElem? (i := 26) rfl) rfl
theorem wd_27 : Cond.code yX2_init cX2_init 2 none ∈ w0 := w0_1 (List.mem_of_getElem? (i := 27) rfl) rfl
theorem wd_28 : Cond.methodLink RX2 3 objectInit ∈ w0 := w0_1 (List.mem_of_getElem? (i := 28) rfl) rfl
theorem wd_29 : Cond.fieldLink RX2 9 "CongruenceRows$Terms" "placesOf" "[I" ∈ w0 := w0_1 (List.mem_of_getElem? (i := 29) rfl) rfl
theorem wd_30 : Cond.fieldLink RX3 46 "CongruenceRows$Terms" "placesOf" "[I" ∈ w0 := w0_1 (List.mem_of_getElem? (i := 30) rfl) rfl
theorem wd_31 : Cond.fieldLink RX2 15 "CongruenceRows$Terms" "builds" "[Z" ∈ w0 := w0_1 (List.mem_of_getElem? (i := 31) rfl) rfl
theorem wd_32 : Cond.fieldLink RX3 55 "CongruenceRows$Terms" "builds" "[Z" ∈ w0 := w0_1 (List.mem_of_getElem? (i := 32) rfl) rfl
theorem wd_33 : Cond.fieldLink RX2 19 "CongruenceRows$Terms" "ofSign" "[J" ∈ w0 := w0_1 (List.mem_of_getElem? (i := 33) rfl) rfl
theorem wd_34 : Cond.fieldLink RX1 111 "CongruenceRows$Terms" "ofSign" "[J" ∈ w0 := w0_1 (List.mem_of_getElem? (i := 34) rfl) rfl
theorem wd_35 : Cond.fieldLink RX2 23 "CongruenceRows$Terms" "signs" "[I" ∈ w0 := w0_1 (List.mem_of_getElem? (i := 35) rfl) rfl
theorem wd_36 : Cond.fieldLink RX1 44 "CongruenceRows$Terms" "signs" "[I" ∈ w0 := w0_1 (List.mem_of_getElem? (i := 36) rfl) rfl
theorem wd_37 : Cond.fieldLink RX3 98 "CongruenceRows$Terms" "signs" "[I" ∈ w0 := w0_1 (List.mem_of_getElem? (i := 37) rfl) rfl
theorem wd_38 : Cond.fieldLink RX2 26 "CongruenceRows$Terms" "firsts" "[I" ∈ w0 := w0_1 (List.mem_of_getElem? (i := 38) rfl) rfl
theorem wd_39 : Cond.fieldLink RX1 47 "CongruenceRows$Terms" "firsts" "[I" ∈ w0 := w0_1 (List.mem_of_getElem? (i := 39) rfl) rfl
theorem wd_40 : Cond.fieldLink RX3 101 "CongruenceRows$Terms" "firsts" "[I" ∈ w0 := w0_1 (List.mem_of_getElem? (i := 40) rfl) rfl
theorem wd_41 : Cond.fieldLink RX2 29 "CongruenceRows$Terms" "seconds" "[I" ∈ w0 := w0_1 (List.mem_of_getElem? (i := 41) rfl) rfl
theorem wd_42 : Cond.fieldLink RX1 54 "CongruenceRows$Terms" "seconds" "[I" ∈ w0 := w0_1 (List.mem_of_getElem? (i := 42) rfl) rfl
theorem wd_43 : Cond.fieldLink RX3 104 "CongruenceRows$Terms" "seconds" "[I" ∈ w0 := w0_1 (List.mem_of_getElem? (i := 43) rfl) rfl
theorem wd_44 : Cond.fieldLink RX2 32 "CongruenceRows$Terms" "thirds" "[I" ∈ w0 := w0_1 (List.mem_of_getElem? (i := 44) rfl) rfl
theorem wd_45 : Cond.fieldLink RX1 57 "CongruenceRows$Terms" "thirds" "[I" ∈ w0 := w0_1 (List.mem_of_getElem? (i := 45) rfl) rfl
theorem wd_46 : Cond.fieldLink RX3 107 "CongruenceRows$Terms" "thirds" "[I" ∈ w0 := w0_1 (List.mem_of_getElem? (i := 46) rfl) rfl
theorem wd_47 : Cond.fieldLink RX2 35 "CongruenceRows$Terms" "inside" "[J" ∈ w0 := w0_1 (List.mem_of_getElem? (i := 47) rfl) rfl
theorem wd_48 : Cond.fieldLink RX3 110 "CongruenceRows$Terms" "inside" "[J" ∈ w0 := w0_1 (List.mem_of_getElem? (i := 48) rfl) rfl
theorem wd_49 : Cond.fieldLink RX2 46 "CongruenceRows$Terms" "built" "J" ∈ w0 := w0_1 (List.mem_of_getElem? (i := 49) rfl) rfl
theorem wd_50 : Cond.fieldLink RX3 154 "CongruenceRows$Terms" "built" "J" ∈ w0 := w0_1 (List.mem_of_getElem? (i := 50) rfl) rfl
theorem wd_51 : Cond.fieldLink RX1 117 "CongruenceRows$Terms" "built" "J" ∈ w0 := w0_1 (List.mem_of_getElem? (i := 51) rfl) rfl
theorem wd_52 : Cond.fieldLink RX2 38 "CongruenceRows$Terms" "count" "I" ∈ w0 := w0_1 (List.mem_of_getElem? (i := 52) rfl) rfl
theorem wd_53 : Cond.fieldLink RX3 81 "CongruenceRows$Terms" "count" "I" ∈ w0 := w0_1 (List.mem_of_getElem? (i := 53) rfl) rfl
theorem wd_54 : Cond.fieldLink RX1 64 "CongruenceRows$Terms" "count" "I" ∈ w0 := w0_1 (List.mem_of_getElem? (i := 54) rfl) rfl
theorem wd_55 : Cond.laysFinal "CongruenceRows$Terms" "CongruenceRows$Terms" "placesOf" "[I" ∈ w0 := w0_1 (List.mem_of_getElem? (i := 55) rfl) rfl
theorem wd_57 : Cond.laysFinal "CongruenceRows$Terms" "CongruenceRows$Terms" "builds" "[Z" ∈ w0 := w0_1 (List.mem_of_getElem? (i := 57) rfl) rfl
theorem wd_59 : Cond.laysFinal "CongruenceRows$Terms" "CongruenceRows$Terms" "ofSign" "[J" ∈ w0 := w0_1 (List.mem_of_getElem? (i := 59) rfl) rfl
theorem wd_61 : Cond.laysFinal "CongruenceRows$Terms" "CongruenceRows$Terms" "signs" "[I" ∈ w0 := w0_1 (List.mem_of_getElem? (i := 61) rfl) rfl
theorem wd_63 : Cond.laysFinal "CongruenceRows$Terms" "CongruenceRows$Terms" "firsts" "[I" ∈ w0 := w0_1 (List.mem_of_getElem? (i := 63) rfl) rfl
theorem wd_65 : Cond.laysFinal "CongruenceRows$Terms" "CongruenceRows$Terms" "seconds" "[I" ∈ w0 := w0_1 (List.mem_of_getElem? (i := 65) rfl) rfl
theorem wd_67 : Cond.laysFinal "CongruenceRows$Terms" "CongruenceRows$Terms" "thirds" "[I" ∈ w0 := w0_1 (List.mem_of_getElem? (i := 67) rfl) rfl
theorem wd_69 : Cond.laysFinal "CongruenceRows$Terms" "CongruenceRows$Terms" "inside" "[J" ∈ w0 := w0_1 (List.mem_of_getElem? (i := 69) rfl) rfl
theorem wd_71 : Cond.lays "CongruenceRows$Terms" "CongruenceRows$Terms" "built" "J" ∈ w0 := w0_1 (List.mem_of_getElem? (i := 71) rfl) rfl
theorem wd_73 : Cond.lays "CongruenceRows$Terms" "CongruenceRows$Terms" "count" "I" ∈ w0 := w0_1 (List.mem_of_getElem? (i := 73) rfl) rfl
theorem wd_76 : Cond.arrayClass .int ∈ w0 := w0_1 (List.mem_of_getElem? (i := 76) rfl) rfl
theorem wd_77 : Cond.arrayClass .boolean ∈ w0 := w0_1 (List.mem_of_getElem? (i := 77) rfl) rfl
theorem wd_78 : Cond.arrayClass .long ∈ w0 := w0_1 (List.mem_of_getElem? (i := 78) rfl) rfl
theorem wd_79 : Cond.classLink RX3 16 RX0 ∈ w0 := w0_1 (List.mem_of_getElem? (i := 79) rfl) rfl
theorem wd_80 : Cond.instantiable RX0 4 ∈ w0 := w0_1 (List.mem_of_getElem? (i := 80) rfl) rfl
theorem wd_82 : Cond.instanceMethod yX0_init ∈ w0 := w0_1 (List.mem_of_getElem? (i := 82) rfl) rfl
theorem wd_83 : Cond.code yX0_init cX0_init 1 none ∈ w0 := w0_1 (List.mem_of_getElem? (i := 83) rfl) rfl
theorem wd_84 : Cond.methodLink RX0 3 objectInit ∈ w0 := w0_1 (List.mem_of_getElem? (i := 84) rfl) rfl
theorem wd_85 : Cond.fieldLink RX0 9 "CongruenceRows$Facts" "lefts" "[I" ∈ w0 := w0_1 (List.mem_of_getElem? (i := 85) rfl) rfl
theorem wd_86 : Cond.fieldLink RX3 173 "CongruenceRows$Facts" "lefts" "[I" ∈ w0 := w0_1 (List.mem_of_getElem? (i := 86) rfl) rfl
theorem wd_87 : Cond.fieldLink RX0 15 "CongruenceRows$Facts" "rights" "[I" ∈ w0 := w0_1 (List.mem_of_getElem? (i := 87) rfl) rfl
theorem wd_88 : Cond.fieldLink RX3 176 "CongruenceRows$Facts" "rights" "[I" ∈ w0 := w0_1 (List.mem_of_getElem? (i := 88) rfl) rfl
theorem wd_89 : Cond.fieldLink RX0 18 "CongruenceRows$Facts" "sames" "[Z" ∈ w0 := w0_1 (List.mem_of_getElem? (i := 89) rfl) rfl
theorem wd_90 : Cond.fieldLink RX3 170 "CongruenceRows$Facts" "sames" "[Z" ∈ w0 := w0_1 (List.mem_of_getElem? (i := 90) rfl) rfl
theorem wd_91 : Cond.fieldLink RX0 22 "CongruenceRows$Facts" "count" "I" ∈ w0 := w0_1 (List.mem_of_getElem? (i := 91) rfl) rfl
theorem wd_92 : Cond.fieldLink RX3 123 "CongruenceRows$Facts" "count" "I" ∈ w0 := w0_1 (List.mem_of_getElem? (i := 92) rfl) rfl
theorem wd_93 : Cond.laysFinal "CongruenceRows$Facts" "CongruenceRows$Facts" "lefts" "[I" ∈ w0 := w0_1 (List.mem_of_getElem? (i := 93) rfl) rfl
theorem wd_95 : Cond.laysFinal "CongruenceRows$Facts" "CongruenceRows$Facts" "rights" "[I" ∈ w0 := w0_1 (List.mem_of_getElem? (i := 95) rfl) rfl
theorem wd_97 : Cond.laysFinal "CongruenceRows$Facts" "CongruenceRows$Facts" "sames" "[Z" ∈ w0 := w0_1 (List.mem_of_getElem? (i := 97) rfl) rfl
theorem wd_99 : Cond.lays "CongruenceRows$Facts" "CongruenceRows$Facts" "count" "I" ∈ w0 := w0_1 (List.mem_of_getElem? (i := 99) rfl) rfl
theorem wd_102 : Cond.classLink RX3 23 RX1 ∈ w0 := w0_1 (List.mem_of_getElem? (i := 102) rfl) rfl
theorem wd_103 : Cond.instantiable RX1 10 ∈ w0 := w0_1 (List.mem_of_getElem? (i := 103) rfl) rfl
theorem wd_104 : Cond.methodLink RX3 25 yX1_init ∈ w0 := w0_1 (List.mem_of_getElem? (i := 104) rfl) rfl
theorem wd_105 : Cond.instanceMethod yX1_init ∈ w0 := w0_1 (List.mem_of_getElem? (i := 105) rfl) rfl
theorem wd_106 : Cond.code yX1_init cX1_init 2 none ∈ w0 := w0_1 (List.mem_of_getElem? (i := 106) rfl) rfl
theorem wd_107 : Cond.methodLink RX1 3 objectInit ∈ w0 := w0_1 (List.mem_of_getElem? (i := 107) rfl) rfl
theorem wd_108 : Cond.fieldLink RX1 34 "CongruenceRows$Rows" "terms" "LCongruenceRows$Terms;" ∈ w0 := w0_1 (List.mem_of_getElem? (i := 108) rfl) rfl
theorem wd_109 : Cond.fieldLink RX1 9 "CongruenceRows$Rows" "names" "[I" ∈ w0 := w0_1 (List.mem_of_getElem? (i := 109) rfl) rfl
theorem wd_110 : Cond.fieldLink RX3 151 "CongruenceRows$Rows" "names" "[I" ∈ w0 := w0_1 (List.mem_of_getElem? (i := 110) rfl) rfl
theorem wd_111 : Cond.fieldLink RX1 15 "CongruenceRows$Rows" "members" "[J" ∈ w0 := w0_1 (List.mem_of_getElem? (i := 111) rfl) rfl
theorem wd_112 : Cond.fieldLink RX3 148 "CongruenceRows$Rows" "members" "[J" ∈ w0 := w0_1 (List.mem_of_getElem? (i := 112) rfl) rfl
theorem wd_113 : Cond.fieldLink RX1 19 "CongruenceRows$Rows" "firstUsers" "[J" ∈ w0 := w0_1 (List.mem_of_getElem? (i := 113) rfl) rfl
theorem wd_114 : Cond.fieldLink RX1 22 "CongruenceRows$Rows" "secondUsers" "[J" ∈ w0 := w0_1 (List.mem_of_getElem? (i := 114) rfl) rfl
theorem wd_115 : Cond.fieldLink RX1 25 "CongruenceRows$Rows" "thirdUsers" "[J" ∈ w0 := w0_1 (List.mem_of_getElem? (i := 115) rfl) rfl
theorem wd_116 : Cond.fieldLink RX1 28 "CongruenceRows$Rows" "below" "[J" ∈ w0 := w0_1 (List.mem_of_getElem? (i := 116) rfl) rfl
theorem wd_117 : Cond.fieldLink RX1 31 "CongruenceRows$Rows" "builders" "[I" ∈ w0 := w0_1 (List.mem_of_getElem? (i := 117) rfl) rfl
theorem wd_118 : Cond.fieldLink RX1 74 "CongruenceRows$Rows" "unseen" "J" ∈ w0 := w0_1 (List.mem_of_getElem? (i := 118) rfl) rfl
theorem wd_119 : Cond.fieldLink RX1 78 "CongruenceRows$Rows" "mixed" "Z" ∈ w0 := w0_1 (List.mem_of_getElem? (i := 119) rfl) rfl
theorem wd_120 : Cond.fieldLink RX3 187 "CongruenceRows$Rows" "mixed" "Z" ∈ w0 := w0_1 (List.mem_of_getElem? (i := 120) rfl) rfl
theorem wd_121 : Cond.laysFinal "CongruenceRows$Rows" "CongruenceRows$Rows" "terms" "LCongruenceRows$Terms;" ∈ w0 := w0_1 (List.mem_of_getElem? (i := 121) rfl) rfl
theorem wd_123 : Cond.laysFinal "CongruenceRows$Rows" "CongruenceRows$Rows" "names" "[I" ∈ w0 := w0_1 (List.mem_of_getElem? (i := 123) rfl) rfl
theorem wd_125 : Cond.laysFinal "CongruenceRows$Rows" "CongruenceRows$Rows" "members" "[J" ∈ w0 := w0_1 (List.mem_of_getElem? (i := 125) rfl) rfl
theorem wd_127 : Cond.laysFinal "CongruenceRows$Rows" "CongruenceRows$Rows" "firstUsers" "[J" ∈ w0 := w0_1 (List.mem_of_getElem? (i := 127) rfl) rfl
theorem wd_129 : Cond.laysFinal "CongruenceRows$Rows" "CongruenceRows$Rows" "secondUsers" "[J" ∈ w0 := w0_1 (List.mem_of_getElem? (i := 129) rfl) rfl
theorem wd_131 : Cond.laysFinal "CongruenceRows$Rows" "CongruenceRows$Rows" "thirdUsers" "[J" ∈ w0 := w0_1 (List.mem_of_getElem? (i := 131) rfl) rfl
theorem wd_133 : Cond.laysFinal "CongruenceRows$Rows" "CongruenceRows$Rows" "below" "[J" ∈ w0 := w0_1 (List.mem_of_getElem? (i := 133) rfl) rfl
theorem wd_135 : Cond.laysFinal "CongruenceRows$Rows" "CongruenceRows$Rows" "builders" "[I" ∈ w0 := w0_1 (List.mem_of_getElem? (i := 135) rfl) rfl
theorem wd_137 : Cond.lays "CongruenceRows$Rows" "CongruenceRows$Rows" "unseen" "J" ∈ w0 := w0_1 (List.mem_of_getElem? (i := 137) rfl) rfl
theorem wd_139 : Cond.lays "CongruenceRows$Rows" "CongruenceRows$Rows" "mixed" "Z" ∈ w0 := w0_1 (List.mem_of_getElem? (i := 139) rfl) rfl
theorem wd_142 : Cond.fieldLink RX3 10 "CongruenceRows" "terms" "LCongruenceRows$Terms;" ∈ w0 := w0_1 (List.mem_of_getElem? (i := 142) rfl) rfl
theorem wd_143 : Cond.fieldLink RX3 19 "CongruenceRows" "facts" "LCongruenceRows$Facts;" ∈ w0 := w0_1 (List.mem_of_getElem? (i := 143) rfl) rfl
theorem wd_144 : Cond.fieldLink RX3 28 "CongruenceRows" "apart" "LCongruenceRows$Rows;" ∈ w0 := w0_1 (List.mem_of_getElem? (i := 144) rfl) rfl
theorem wd_145 : Cond.fieldLink RX3 32 "CongruenceRows" "rows" "LCongruenceRows$Rows;" ∈ w0 := w0_1 (List.mem_of_getElem? (i := 145) rfl) rfl
theorem wd_146 : Cond.laysFinal "CongruenceRows" "CongruenceRows" "terms" "LCongruenceRows$Terms;" ∈ w0 := w0_1 (List.mem_of_getElem? (i := 146) rfl) rfl
theorem wd_148 : Cond.laysFinal "CongruenceRows" "CongruenceRows" "facts" "LCongruenceRows$Facts;" ∈ w0 := w0_1 (List.mem_of_getElem? (i := 148) rfl) rfl
theorem wd_150 : Cond.laysFinal "CongruenceRows" "CongruenceRows" "apart" "LCongruenceRows$Rows;" ∈ w0 := w0_1 (List.mem_of_getElem? (i := 150) rfl) rfl
theorem wd_152 : Cond.laysFinal "CongruenceRows" "CongruenceRows" "rows" "LCongruenceRows$Rows;" ∈ w0 := w0_1 (List.mem_of_getElem? (i := 152) rfl) rfl
theorem wd_155 : Cond.methodLink RL 60 yX3_part ∈ w0 := w0_1 (List.mem_of_getElem? (i := 155) rfl) rfl
theorem wd_156 : Cond.instanceMethod yX3_part ∈ w0 := w0_1 (List.mem_of_getElem? (i := 156) rfl) rfl
theorem wd_157 : Cond.selects RX3 yX3_part yX3_part ∈ w0 := w0_1 (List.mem_of_getElem? (i := 157) rfl) rfl
theorem wd_158 : Cond.code yX3_part cX3_part 3 (some .int) ∈ w0 := w0_1 (List.mem_of_getElem? (i := 158) rfl) rfl
theorem wd_159 : Cond.methodLink RX3 95 yX3_isTerm ∈ w0 := w0_1 (List.mem_of_getElem? (i := 159) rfl) rfl
theorem wd_161 : Cond.instanceMethod yX3_isTerm ∈ w0 := w0_1 (List.mem_of_getElem? (i := 161) rfl) rfl
theorem wd_162 : Cond.code yX3_isTerm cX3_isTerm 2 (some .boolean) ∈ w0 := w0_1 (List.mem_of_getElem? (i := 162) rfl) rfl
theorem wd_163 : Cond.methodLink RX3 114 yJ13_bitCount ∈ w0 := w0_1 (List.mem_of_getElem? (i := 163) rfl) rfl
theorem wd_164 : Cond.static yJ13_bitCount ∈ w0 := w0_1 (List.mem_of_getElem? (i := 164) rfl) rfl
theorem wd_165 : Cond.code yJ13_bitCount cJ13_bitCount 2 (some .int) ∈ w0 := w0_1 (List.mem_of_getElem? (i := 165) rfl) rfl
theorem wd_166 : Cond.constantLong RJ13 314 (6148914691236517205) ∈ w0 := w0_1 (List.mem_of_getElem? (i := 166) rfl) rfl
theorem wd_167 : Cond.constantLong RJ13 316 (3689348814741910323) ∈ w0 := w0_1 (List.mem_of_getElem? (i := 167) rfl) rfl
theorem wd_168 : Cond.constantLong RJ13 318 (1085102592571150095) ∈ w0 := w0_1 (List.mem_of_getElem? (i := 168) rfl) rfl
theorem wd_169 : Cond.methodLink RL 68 yX3_undo ∈ w0 := w0_1 (List.mem_of_getElem? (i := 169) rfl) rfl
theorem wd_170 : Cond.instanceMethod yX3_undo ∈ w0 := w0_1 (List.mem_of_getElem? (i := 170) rfl) rfl
theorem wd_171 : Cond.selects RX3 yX3_undo yX3_undo ∈ w0 := w0_1 (List.mem_of_getElem? (i := 171) rfl) rfl
theorem wd_172 : Cond.code yX3_undo cX3_undo 1 (some .boolean) ∈ w0 := w0_1 (List.mem_of_getElem? (i := 172) rfl) rfl
theorem wd_173 : Cond.methodLink RL 77 yX3_clashes ∈ w0 := w0_1 (List.mem_of_getElem? (i := 173) rfl) rfl
theorem wd_174 : Cond.instanceMethod yX3_clashes ∈ w0 := w0_1 (List.mem_of_getElem? (i := 174) rfl) rfl
theorem wd_175 : Cond.selects RX3 yX3_clashes yX3_clashes ∈ w0 := w0_1 (List.mem_of_getElem? (i := 175) rfl) rfl
theorem wd_176 : Cond.code yX3_clashes cX3_clashes 3 (some .boolean) ∈ w0 := w0_1 (List.mem_of_getElem? (i := 176) rfl) rfl
theorem wd_177 : Cond.methodLink RX3 129 yX0_all ∈ w0 := w0_1 (List.mem_of_getElem? (i := 177) rfl) rfl
theorem wd_178 : Cond.instanceMethod yX0_all ∈ w0 := w0_1 (List.mem_of_getElem? (i := 178) rfl) rfl
theorem wd_179 : Cond.selects RX0 yX0_all yX0_all ∈ w0 := w0_1 (List.mem_of_getElem? (i := 179) rfl) rfl
theorem wd_180 : Cond.code yX0_all cX0_all 1 (some .long) ∈ w0 := w0_1 (List.mem_of_getElem? (i := 180) rfl) rfl
theorem wd_181 : Cond.methodLink RX3 133 yX3_gather ∈ w0 := w0_1 (List.mem_of_getElem? (i := 181) rfl) rfl
theorem wd_183 : Cond.instanceMethod yX3_gather ∈ w0 := w0_1 (List.mem_of_getElem? (i := 183) rfl) rfl
theorem wd_184 : Cond.code yX3_gather cX3_gather 4 none ∈ w0 := w0_1 (List.mem_of_getElem? (i := 184) rfl) rfl
theorem wd_185 : Cond.methodLink RX3 166 yX1_copyFrom ∈ w0 := w0_1 (List.mem_of_getElem? (i := 185) rfl) rfl
theorem wd_186 : Cond.instanceMethod yX1_copyFrom ∈ w0 := w0_1 (List.mem_of_getElem? (i := 186) rfl) rfl
theorem wd_187 : Cond.selects RX1 yX1_copyFrom yX1_copyFrom ∈ w0 := w0_1 (List.mem_of_getElem? (i := 187) rfl) rfl
theorem wd_188 : Cond.code yX1_copyFrom cX1_copyFrom 3 none ∈ w0 := w0_1 (List.mem_of_getElem? (i := 188) rfl) rfl
theorem wd_189 : Cond.methodLink RX1 68 arraycopyName ∈ w0 := w0_1 (List.mem_of_getElem? (i := 189) rfl) rfl
theorem wd_190 : Cond.static arraycopyName ∈ w0 := w0_1 (List.mem_of_getElem? (i := 190) rfl) rfl
theorem wd_191 : Cond.native arraycopyName ∈ w0 := w0_1 (List.mem_of_getElem? (i := 191) rfl) rfl
theorem wd_192 : Cond.methodLink RX3 145 yX1_makeOne ∈ w0 := w0_1 (List.mem_of_getElem? (i := 192) rfl) rfl
theorem wd_193 : Cond.instanceMethod yX1_makeOne ∈ w0 := w0_1 (List.mem_of_getElem? (i := 193) rfl) rfl
theorem wd_194 : Cond.selects RX1 yX1_makeOne yX1_makeOne ∈ w0 := w0_1 (List.mem_of_getElem? (i := 194) rfl) rfl
theorem wd_195 : Cond.code yX1_makeOne cX1_makeOne 5 (some .boolean) ∈ w0 := w0_1 (List.mem_of_getElem? (i := 195) rfl) rfl
theorem wd_196 : Cond.methodLink RX1 82 yX1_areOne ∈ w0 := w0_1 (List.mem_of_getElem? (i := 196) rfl) rfl
theorem wd_197 : Cond.instanceMethod yX1_areOne ∈ w0 := w0_1 (List.mem_of_getElem? (i := 197) rfl) rfl
theorem wd_198 : Cond.selects RX1 yX1_areOne yX1_areOne ∈ w0 := w0_1 (List.mem_of_getElem? (i := 198) rfl) rfl
theorem wd_199 : Cond.code yX1_areOne cX1_areOne 3 (some .boolean) ∈ w0 := w0_1 (List.mem_of_getElem? (i := 199) rfl) rfl
theorem wd_200 : Cond.methodLink RX1 86 yX1_join ∈ w0 := w0_1 (List.mem_of_getElem? (i := 200) rfl) rfl
theorem wd_201 : Cond.instanceMethod yX1_join ∈ w0 := w0_1 (List.mem_of_getElem? (i := 201) rfl) rfl
theorem wd_202 : Cond.selects RX1 yX1_join yX1_join ∈ w0 := w0_1 (List.mem_of_getElem? (i := 202) rfl) rfl
theorem wd_203 : Cond.code yX1_join cX1_join 9 none ∈ w0 := w0_1 (List.mem_of_getElem? (i := 203) rfl) rfl
theorem wd_204 : Cond.methodLink RX1 114 yJ13_bitCount ∈ w0 := w0_1 (List.mem_of_getElem? (i := 204) rfl) rfl
theorem wd_205 : Cond.methodLink RX1 91 yJ13_numberOfTrailingZeros ∈ w0 := w0_1 (List.mem_of_getElem? (i := 205) rfl) rfl
theorem wd_206 : Cond.static yJ13_numberOfTrailingZeros ∈ w0 := w0_1 (List.mem_of_getElem? (i := 206) rfl) rfl
theorem wd_207 : Cond.code yJ13_numberOfTrailingZeros cJ13_numberOfTrailingZeros 3 (some .int) ∈ w0 := w0_1 (List.mem_of_getElem? (i := 207) rfl) rfl
theorem wd_208 : Cond.methodLink RJ13 311 yJ6_numberOfTrailingZeros ∈ w0 := w0_1 (List.mem_of_getElem? (i := 208) rfl) rfl
theorem wd_209 : Cond.static yJ6_numberOfTrailingZeros ∈ w0 := w0_1 (List.mem_of_getElem? (i := 209) rfl) rfl
theorem wd_210 : Cond.code yJ6_numberOfTrailingZeros cJ6_numberOfTrailingZeros 2 (some .int) ∈ w0 := w0_1 (List.mem_of_getElem? (i := 210) rfl) rfl
theorem wd_211 : Cond.constant RJ6 264 (65536) ∈ w0 := w0_1 (List.mem_of_getElem? (i := 211) rfl) rfl
theorem wd_212 : Cond.methodLink RX1 120 yX1_joinBuilders ∈ w0 := w0_1 (List.mem_of_getElem? (i := 212) rfl) rfl
theorem wd_213 : Cond.instanceMethod yX1_joinBuilders ∈ w0 := w0_1 (List.mem_of_getElem? (i := 213) rfl) rfl
theorem wd_214 : Cond.selects RX1 yX1_joinBuilders yX1_joinBuilders ∈ w0 := w0_1 (List.mem_of_getElem? (i := 214) rfl) rfl
theorem wd_215 : Cond.code yX1_joinBuilders cX1_joinBuilders 3 none ∈ w0 := w0_1 (List.mem_of_getElem? (i := 215) rfl) rfl
theorem wd_216 : Cond.constant RX1 90 (100000) ∈ w0 := w0_1 (List.mem_of_getElem? (i := 216) rfl) rfl
theorem wd_217 : Cond.methodLink RX1 97 yX1_joinAlike ∈ w0 := w0_1 (List.mem_of_getElem? (i := 217) rfl) rfl
theorem wd_218 : Cond.instanceMethod yX1_joinAlike ∈ w0 := w0_1 (List.mem_of_getElem? (i := 218) rfl) rfl
theorem wd_219 : Cond.selects RX1 yX1_joinAlike yX1_joinAlike ∈ w0 := w0_1 (List.mem_of_getElem? (i := 219) rfl) rfl
theorem wd_220 : Cond.code yX1_joinAlike cX1_joinAlike 4 none ∈ w0 := w0_1 (List.mem_of_getElem? (i := 220) rfl) rfl
theorem wd_221 : Cond.methodLink RX1 104 yX1_alike ∈ w0 := w0_1 (List.mem_of_getElem? (i := 221) rfl) rfl
theorem wd_222 : Cond.instanceMethod yX1_alike ∈ w0 := w0_1 (List.mem_of_getElem? (i := 222) rfl) rfl
theorem wd_223 : Cond.selects RX1 yX1_alike yX1_alike ∈ w0 := w0_1 (List.mem_of_getElem? (i := 223) rfl) rfl
theorem wd_224 : Cond.code yX1_alike cX1_alike 7 (some .long) ∈ w0 := w0_1 (List.mem_of_getElem? (i := 224) rfl) rfl
theorem wd_226 : Cond.static yX3_leastOf ∈ w0 := w0_1 (List.mem_of_getElem? (i := 226) rfl) rfl
theorem wd_227 : Cond.code yX3_leastOf cX3_leastOf 2 (some .int) ∈ w0 := w0_1 (List.mem_of_getElem? (i := 227) rfl) rfl
theorem wd_228 : Cond.methodLink RX3 184 yJ13_numberOfTrailingZeros ∈ w0 := w0_1 (List.mem_of_getElem? (i := 228) rfl) rfl
theorem wd_229 : Cond.methodLink RX1 38 yX2_isBuilt ∈ w0 := w0_1 (List.mem_of_getElem? (i := 229) rfl) rfl
theorem wd_230 : Cond.instanceMethod yX2_isBuilt ∈ w0 := w0_1 (List.mem_of_getElem? (i := 230) rfl) rfl
theorem wd_231 : Cond.selects RX2 yX2_isBuilt yX2_isBuilt ∈ w0 := w0_1 (List.mem_of_getElem? (i := 231) rfl) rfl
theorem wd_232 : Cond.code yX2_isBuilt cX2_isBuilt 2 (some .boolean) ∈ w0 := w0_1 (List.mem_of_getElem? (i := 232) rfl) rfl
theorem wd_233 : Cond.methodLink RX1 101 yX1_joinPlaces ∈ w0 := w0_1 (List.mem_of_getElem? (i := 233) rfl) rfl
theorem wd_234 : Cond.instanceMethod yX1_joinPlaces ∈ w0 := w0_1 (List.mem_of_getElem? (i := 234) rfl) rfl
theorem wd_235 : Cond.selects RX1 yX1_joinPlaces yX1_joinPlaces ∈ w0 := w0_1 (List.mem_of_getElem? (i := 235) rfl) rfl
theorem wd_236 : Cond.code yX1_joinPlaces cX1_joinPlaces 3 none ∈ w0 := w0_1 (List.mem_of_getElem? (i := 236) rfl) rfl
theorem wd_237 : Cond.methodLink RX3 141 yX3_isBroken ∈ w0 := w0_1 (List.mem_of_getElem? (i := 237) rfl) rfl
theorem wd_239 : Cond.instanceMethod yX3_isBroken ∈ w0 := w0_1 (List.mem_of_getElem? (i := 239) rfl) rfl
theorem wd_240 : Cond.code yX3_isBroken cX3_isBroken 3 (some .boolean) ∈ w0 := w0_2 (List.mem_of_getElem? (i := 0) rfl) rfl
theorem wd_241 : Cond.methodLink RX3 191 yX3_isOtherBroken ∈ w0 := w0_2 (List.mem_of_getElem? (i := 1) rfl) rfl
theorem wd_243 : Cond.instanceMethod yX3_isOtherBroken ∈ w0 := w0_2 (List.mem_of_getElem? (i := 3) rfl) rfl
theorem wd_244 : Cond.code yX3_isOtherBroken cX3_isOtherBroken 4 (some .boolean) ∈ w0 := w0_2 (List.mem_of_getElem? (i := 4) rfl) rfl
theorem wd_245 : Cond.methodLink RX3 137 yX1_areOne ∈ w0 := w0_2 (List.mem_of_getElem? (i := 5) rfl) rfl
theorem wd_246 : Cond.methodLink RX3 194 yX1_hasLoop ∈ w0 := w0_2 (List.mem_of_getElem? (i := 6) rfl) rfl
theorem wd_247 : Cond.instanceMethod yX1_hasLoop ∈ w0 := w0_2 (List.mem_of_getElem? (i := 7) rfl) rfl
theorem wd_248 : Cond.selects RX1 yX1_hasLoop yX1_hasLoop ∈ w0 := w0_2 (List.mem_of_getElem? (i := 8) rfl) rfl
theorem wd_249 : Cond.code yX1_hasLoop cX1_hasLoop 8 (some .boolean) ∈ w0 := w0_2 (List.mem_of_getElem? (i := 9) rfl) rfl
theorem wd_250 : Cond.methodLink RX1 123 yX1_clearMore ∈ w0 := w0_2 (List.mem_of_getElem? (i := 10) rfl) rfl
theorem wd_251 : Cond.instanceMethod yX1_clearMore ∈ w0 := w0_2 (List.mem_of_getElem? (i := 11) rfl) rfl
theorem wd_252 : Cond.selects RX1 yX1_clearMore yX1_clearMore ∈ w0 := w0_2 (List.mem_of_getElem? (i := 12) rfl) rfl
theorem wd_253 : Cond.code yX1_clearMore cX1_clearMore 6 (some .long) ∈ w0 := w0_2 (List.mem_of_getElem? (i := 13) rfl) rfl
theorem wd_254 : Cond.constantLong RX1 127 (-1) ∈ w0 := w0_2 (List.mem_of_getElem? (i := 14) rfl) rfl
theorem wd_255 : Cond.methodLink RL 90 yX3_clash ∈ w0 := w0_2 (List.mem_of_getElem? (i := 15) rfl) rfl
theorem wd_256 : Cond.instanceMethod yX3_clash ∈ w0 := w0_2 (List.mem_of_getElem? (i := 16) rfl) rfl
theorem wd_257 : Cond.selects RX3 yX3_clash yX3_clash ∈ w0 := w0_2 (List.mem_of_getElem? (i := 17) rfl) rfl
theorem wd_258 : Cond.code yX3_clash cX3_clash 1 (some .long) ∈ w0 := w0_2 (List.mem_of_getElem? (i := 18) rfl) rfl
theorem wd_259 : Cond.methodLink RX3 162 yX3_reasonOf ∈ w0 := w0_2 (List.mem_of_getElem? (i := 19) rfl) rfl
theorem wd_261 : Cond.instanceMethod yX3_reasonOf ∈ w0 := w0_2 (List.mem_of_getElem? (i := 21) rfl) rfl
theorem wd_262 : Cond.code yX3_reasonOf cX3_reasonOf 8 (some .long) ∈ w0 := w0_2 (List.mem_of_getElem? (i := 22) rfl) rfl
theorem wd_263 : Cond.methodLink RX3 198 yX3_fewestAhead ∈ w0 := w0_2 (List.mem_of_getElem? (i := 23) rfl) rfl
theorem wd_265 : Cond.instanceMethod yX3_fewestAhead ∈ w0 := w0_2 (List.mem_of_getElem? (i := 25) rfl) rfl
theorem wd_266 : Cond.code yX3_fewestAhead cX3_fewestAhead 9 (some .int) ∈ w0 := w0_2 (List.mem_of_getElem? (i := 26) rfl) rfl
theorem wd_267 : Cond.methodLink RX3 204 yX3_isReached ∈ w0 := w0_2 (List.mem_of_getElem? (i := 27) rfl) rfl
theorem wd_269 : Cond.instanceMethod yX3_isReached ∈ w0 := w0_2 (List.mem_of_getElem? (i := 29) rfl) rfl
theorem wd_270 : Cond.code yX3_isReached cX3_isReached 5 (some .boolean) ∈ w0 := w0_2 (List.mem_of_getElem? (i := 30) rfl) rfl
theorem wd_271 : Cond.methodLink RX3 208 yX3_putIn ∈ w0 := w0_2 (List.mem_of_getElem? (i := 31) rfl) rfl
theorem wd_273 : Cond.instanceMethod yX3_putIn ∈ w0 := w0_2 (List.mem_of_getElem? (i := 33) rfl) rfl
theorem wd_274 : Cond.code yX3_putIn cX3_putIn 2 (some .boolean) ∈ w0 := w0_2 (List.mem_of_getElem? (i := 34) rfl) rfl
theorem wd_275 : Cond.constantLong RX3 202 (-1) ∈ w0 := w0_2 (List.mem_of_getElem? (i := 35) rfl) rfl
theorem wd_276 : Cond.methodLink RL 95 yX3_idle ∈ w0 := w0_2 (List.mem_of_getElem? (i := 36) rfl) rfl
theorem wd_277 : Cond.instanceMethod yX3_idle ∈ w0 := w0_2 (List.mem_of_getElem? (i := 37) rfl) rfl
theorem wd_278 : Cond.selects RX3 yX3_idle yX3_idle ∈ w0 := w0_2 (List.mem_of_getElem? (i := 38) rfl) rfl
theorem wd_279 : Cond.code yX3_idle cX3_idle 4 (some .long) ∈ w0 := w0_2 (List.mem_of_getElem? (i := 39) rfl) rfl
theorem wd_280 : Cond.methodLink RL 99 yX3_about ∈ w0 := w0_2 (List.mem_of_getElem? (i := 40) rfl) rfl
theorem wd_281 : Cond.instanceMethod yX3_about ∈ w0 := w0_2 (List.mem_of_getElem? (i := 41) rfl) rfl
theorem wd_282 : Cond.selects RX3 yX3_about yX3_about ∈ w0 := w0_2 (List.mem_of_getElem? (i := 42) rfl) rfl
theorem wd_283 : Cond.code yX3_about cX3_about 2 (some .int) ∈ w0 := w0_2 (List.mem_of_getElem? (i := 43) rfl) rfl
theorem wd_284 : Cond.methodLink RX3 179 yX2_countUsedSigns ∈ w0 := w0_2 (List.mem_of_getElem? (i := 44) rfl) rfl
theorem wd_285 : Cond.instanceMethod yX2_countUsedSigns ∈ w0 := w0_2 (List.mem_of_getElem? (i := 45) rfl) rfl
theorem wd_286 : Cond.selects RX2 yX2_countUsedSigns yX2_countUsedSigns ∈ w0 := w0_2 (List.mem_of_getElem? (i := 46) rfl) rfl
theorem wd_287 : Cond.code yX2_countUsedSigns cX2_countUsedSigns 3 (some .int) ∈ w0 := w0_2 (List.mem_of_getElem? (i := 47) rfl) rfl
theorem wd_288 : Cond.methodLink RL 46 yL_builder ∈ w0 := w0_2 (List.mem_of_getElem? (i := 48) rfl) rfl
theorem wd_289 : Cond.static yL_builder ∈ w0 := w0_2 (List.mem_of_getElem? (i := 49) rfl) rfl
theorem wd_290 : Cond.codeWith yL_builder cL_builder 3 (some .int) [(0, 5, 8, 13), (0, 5, 11, 15)] ∈ w0 := w0_2 (List.mem_of_getElem? (i := 50) rfl) rfl
theorem wd_291 : Cond.classLink RL 13 "java/lang/IndexOutOfBoundsException" ∈ w0 := w0_2 (List.mem_of_getElem? (i := 51) rfl) rfl
theorem wd_292 : Cond.classLink RL 15 "java/lang/IllegalStateException" ∈ w0 := w0_2 (List.mem_of_getElem? (i := 52) rfl) rfl
theorem wd_293 : Cond.methodLink RL 7 yX3_builder ∈ w0 := w0_2 (List.mem_of_getElem? (i := 53) rfl) rfl
theorem wd_294 : Cond.instanceMethod yX3_builder ∈ w0 := w0_2 (List.mem_of_getElem? (i := 54) rfl) rfl
theorem wd_295 : Cond.selects RX3 yX3_builder yX3_builder ∈ w0 := w0_2 (List.mem_of_getElem? (i := 55) rfl) rfl
theorem wd_296 : Cond.code yX3_builder cX3_builder 2 none ∈ w0 := w0_2 (List.mem_of_getElem? (i := 56) rfl) rfl
theorem wd_297 : Cond.methodLink RX3 35 yX3_isSign ∈ w0 := w0_2 (List.mem_of_getElem? (i := 57) rfl) rfl
theorem wd_299 : Cond.instanceMethod yX3_isSign ∈ w0 := w0_2 (List.mem_of_getElem? (i := 59) rfl) rfl
theorem wd_300 : Cond.code yX3_isSign cX3_isSign 2 (some .boolean) ∈ w0 := w0_2 (List.mem_of_getElem? (i := 60) rfl) rfl
theorem wd_301 : Cond.classLink RX3 39 "java/lang/IndexOutOfBoundsException" ∈ w0 := w0_2 (List.mem_of_getElem? (i := 61) rfl) rfl
theorem wd_302 : Cond.instantiable "java/lang/IndexOutOfBoundsException" 6 ∈ w0 := w0_2 (List.mem_of_getElem? (i := 62) rfl) rfl
theorem wd_310 : Cond.selects "java/lang/IndexOutOfBoundsException" ⟨"java/lang/Throwable", "fillInStackTrace", "(I)Ljava/lang/Throwable;"⟩ ⟨"java/lang/Throwable", "fillInStackTrace", "(I)Ljava/lang/Throwable;"⟩ ∈ w0 := w0_2 (List.mem_of_getElem? (i := 70) rfl) rfl
theorem wd_311 : Cond.selects "java/lang/IndexOutOfBoundsException" ⟨"java/lang/Throwable", "fillInStackTrace", "()Ljava/lang/Throwable;"⟩ ⟨"java/lang/Throwable", "fillInStackTrace", "()Ljava/lang/Throwable;"⟩ ∈ w0 := w0_2 (List.mem_of_getElem? (i := 71) rfl) rfl
theorem wd_312 : Cond.lays "java/lang/IndexOutOfBoundsException" "java/lang/Throwable" "cause" "Ljava/lang/Throwable;" ∈ w0 := w0_2 (List.mem_of_getElem? (i := 72) rfl) rfl
theorem wd_313 : Cond.lays "java/lang/Throwable" "java/lang/Throwable" "cause" "Ljava/lang/Throwable;" ∈ w0 := w0_2 (List.mem_of_getElem? (i := 73) rfl) rfl
theorem wd_314 : Cond.lays "java/lang/IndexOutOfBoundsException" "java/lang/Throwable" "stackTrace" "[Ljava/lang/StackTraceElement;" ∈ w0 := w0_2 (List.mem_of_getElem? (i := 74) rfl) rfl
theorem wd_315 : Cond.lays "java/lang/Throwable" "java/lang/Throwable" "stackTrace" "[Ljava/lang/StackTraceElement;" ∈ w0 := w0_2 (List.mem_of_getElem? (i := 75) rfl) rfl
theorem wd_316 : Cond.lays "java/lang/IndexOutOfBoundsException" "java/lang/Throwable" "suppressedExceptions" "Ljava/util/List;" ∈ w0 := w0_2 (List.mem_of_getElem? (i := 76) rfl) rfl
theorem wd_317 : Cond.lays "java/lang/Throwable" "java/lang/Throwable" "suppressedExceptions" "Ljava/util/List;" ∈ w0 := w0_2 (List.mem_of_getElem? (i := 77) rfl) rfl
theorem wd_318 : Cond.lays "java/lang/IndexOutOfBoundsException" "java/lang/Throwable" "detailMessage" "Ljava/lang/String;" ∈ w0 := w0_2 (List.mem_of_getElem? (i := 78) rfl) rfl
theorem wd_319 : Cond.lays "java/lang/Throwable" "java/lang/Throwable" "detailMessage" "Ljava/lang/String;" ∈ w0 := w0_2 (List.mem_of_getElem? (i := 79) rfl) rfl
theorem wd_320 : Cond.lays "java/lang/IndexOutOfBoundsException" "java/lang/Throwable" "backtrace" "Ljava/lang/Object;" ∈ w0 := w0_2 (List.mem_of_getElem? (i := 80) rfl) rfl
theorem wd_321 : Cond.lays "java/lang/Throwable" "java/lang/Throwable" "backtrace" "Ljava/lang/Object;" ∈ w0 := w0_2 (List.mem_of_getElem? (i := 81) rfl) rfl
theorem wd_322 : Cond.fieldLink "java/lang/Throwable" 198 "java/lang/Throwable" "backtrace" "Ljava/lang/Object;" ∈ w0 := w0_2 (List.mem_of_getElem? (i := 82) rfl) rfl
theorem wd_324 : Cond.instanceMethod ⟨"java/lang/Throwable", "<init>", "()V"⟩ ∈ w0 := w0_2 (List.mem_of_getElem? (i := 84) rfl) rfl
theorem wd_325 : Cond.code ⟨"java/lang/Throwable", "<init>", "()V"⟩ prog_16_method_1_code 1 none ∈ w0 := w0_2 (List.mem_of_getElem? (i := 85) rfl) rfl
theorem wd_326 : Cond.methodLink "java/lang/Throwable" 1 objectInit ∈ w0 := w0_2 (List.mem_of_getElem? (i := 86) rfl) rfl
theorem wd_327 : Cond.fieldLink "java/lang/Throwable" 13 "java/lang/Throwable" "UNASSIGNED_STACK" "[Ljava/lang/StackTraceElement;" ∈ w0 := w0_2 (List.mem_of_getElem? (i := 87) rfl) rfl
theorem wd_329 : Cond.fieldLink "java/lang/Throwable" 20 "java/lang/Throwable" "SUPPRESSED_SENTINEL" "Ljava/util/List;" ∈ w0 := w0_2 (List.mem_of_getElem? (i := 89) rfl) rfl
theorem wd_331 : Cond.methodLink "java/lang/Throwable" 27 ⟨"java/lang/Throwable", "fillInStackTrace", "()Ljava/lang/Throwable;"⟩ ∈ w0 := w0_2 (List.mem_of_getElem? (i := 91) rfl) rfl
theorem wd_332 : Cond.instanceMethod ⟨"java/lang/Throwable", "fillInStackTrace", "()Ljava/lang/Throwable;"⟩ ∈ w0 := w0_2 (List.mem_of_getElem? (i := 92) rfl) rfl
theorem wd_334 : Cond.selects "java/lang/IllegalArgumentException" ⟨"java/lang/Throwable", "fillInStackTrace", "()Ljava/lang/Throwable;"⟩ ⟨"java/lang/Throwable", "fillInStackTrace", "()Ljava/lang/Throwable;"⟩ ∈ w0 := w0_2 (List.mem_of_getElem? (i := 94) rfl) rfl
theorem wd_335 : Cond.selects "java/lang/IllegalStateException" ⟨"java/lang/Throwable", "fillInStackTrace", "()Ljava/lang/Throwable;"⟩ ⟨"java/lang/Throwable", "fillInStackTrace", "()Ljava/lang/Throwable;"⟩ ∈ w0 := w0_2 (List.mem_of_getElem? (i := 95) rfl) rfl
theorem wd_337 : Cond.methodLink "java/lang/Throwable" 202 ⟨"java/lang/Throwable", "fillInStackTrace", "(I)Ljava/lang/Throwable;"⟩ ∈ w0 := w0_2 (List.mem_of_getElem? (i := 97) rfl) rfl
theorem wd_339 : Cond.instanceMethod ⟨"java/lang/Throwable", "fillInStackTrace", "(I)Ljava/lang/Throwable;"⟩ ∈ w0 := w0_2 (List.mem_of_getElem? (i := 99) rfl) rfl
theorem wd_340 : Cond.instantiable "java/lang/Throwable" 6 ∈ w0 := w0_2 (List.mem_of_getElem? (i := 100) rfl) rfl
theorem wd_341 : Cond.native ⟨"java/lang/Throwable", "fillInStackTrace", "(I)Ljava/lang/Throwable;"⟩ ∈ w0 := w0_2 (List.mem_of_getElem? (i := 101) rfl) rfl
theorem wd_343 : Cond.methodLink RX3 43 ⟨"java/lang/IndexOutOfBoundsException", "<init>", "(Ljava/lang/String;)V"⟩ ∈ w0 := w0_2 (List.mem_of_getElem? (i := 103) rfl) rfl
theorem wd_344 : Cond.instanceMethod ⟨"java/lang/IndexOutOfBoundsException", "<init>", "(Ljava/lang/String;)V"⟩ ∈ w0 := w0_2 (List.mem_of_getElem? (i := 104) rfl) rfl
theorem wd_345 : Cond.code ⟨"java/lang/IndexOutOfBoundsException", "<init>", "(Ljava/lang/String;)V"⟩ prog_10_method_2_code 2 none ∈ w0 := w0_2 (List.mem_of_getElem? (i := 105) rfl) rfl
theorem wd_346 : Cond.methodLink "java/lang/IndexOutOfBoundsException" 7 ⟨"java/lang/RuntimeException", "<init>", "(Ljava/lang/String;)V"⟩ ∈ w0 := w0_2 (List.mem_of_getElem? (i := 106) rfl) rfl
theorem wd_347 : Cond.instanceMethod ⟨"java/lang/RuntimeException", "<init>", "(Ljava/lang/String;)V"⟩ ∈ w0 := w0_2 (List.mem_of_getElem? (i := 107) rfl) rfl
theorem wd_348 : Cond.code ⟨"java/lang/RuntimeException", "<init>", "(Ljava/lang/String;)V"⟩ prog_13_method_2_code 2 none ∈ w0 := w0_2 (List.mem_of_getElem? (i := 108) rfl) rfl
theorem wd_349 : Cond.methodLink "java/lang/RuntimeException" 7 ⟨"java/lang/Exception", "<init>", "(Ljava/lang/String;)V"⟩ ∈ w0 := w0_2 (List.mem_of_getElem? (i := 109) rfl) rfl
theorem wd_350 : Cond.instanceMethod ⟨"java/lang/Exception", "<init>", "(Ljava/lang/String;)V"⟩ ∈ w0 := w0_2 (List.mem_of_getElem? (i := 110) rfl) rfl
theorem wd_351 : Cond.code ⟨"java/lang/Exception", "<init>", "(Ljava/lang/String;)V"⟩ prog_7_method_2_code 2 none ∈ w0 := w0_2 (List.mem_of_getElem? (i := 111) rfl) rfl
theorem wd_352 : Cond.methodLink "java/lang/Exception" 7 ⟨"java/lang/Throwable", "<init>", "(Ljava/lang/String;)V"⟩ ∈ w0 := w0_2 (List.mem_of_getElem? (i := 112) rfl) rfl
theorem wd_353 : Cond.instanceMethod ⟨"java/lang/Throwable", "<init>", "(Ljava/lang/String;)V"⟩ ∈ w0 := w0_2 (List.mem_of_getElem? (i := 113) rfl) rfl
theorem wd_354 : Cond.code ⟨"java/lang/Throwable", "<init>", "(Ljava/lang/String;)V"⟩ prog_16_method_2_code 2 none ∈ w0 := w0_2 (List.mem_of_getElem? (i := 114) rfl) rfl
theorem wd_356 : Cond.fieldLink "java/lang/Throwable" 31 "java/lang/Throwable" "detailMessage" "Ljava/lang/String;" ∈ w0 := w0_2 (List.mem_of_getElem? (i := 116) rfl) rfl
theorem wd_357 : Cond.fieldLink "java/lang/Throwable" 7 "java/lang/Throwable" "cause" "Ljava/lang/Throwable;" ∈ w0 := w0_2 (List.mem_of_getElem? (i := 117) rfl) rfl
theorem wd_358 : Cond.fieldLink "java/lang/Throwable" 17 "java/lang/Throwable" "stackTrace" "[Ljava/lang/StackTraceElement;" ∈ w0 := w0_2 (List.mem_of_getElem? (i := 118) rfl) rfl
theorem wd_359 : Cond.fieldLink "java/lang/Throwable" 24 "java/lang/Throwable" "suppressedExceptions" "Ljava/util/List;" ∈ w0 := w0_2 (List.mem_of_getElem? (i := 119) rfl) rfl
theorem wd_364 : Cond.lays "java/lang/IndexOutOfBoundsException" "java/lang/Throwable" "depth" "I" ∈ w0 := w0_2 (List.mem_of_getElem? (i := 124) rfl) rfl
theorem wd_368 : Cond.arrayClass .byte ∈ w0 := w0_2 (List.mem_of_getElem? (i := 128) rfl) rfl
theorem wd_369 : Cond.classLink RX3 50 "java/lang/IllegalStateException" ∈ w0 := w0_2 (List.mem_of_getElem? (i := 129) rfl) rfl
theorem wd_370 : Cond.instantiable "java/lang/IllegalStateException" 6 ∈ w0 := w0_2 (List.mem_of_getElem? (i := 130) rfl) rfl
theorem wd_372 : Cond.selects "java/lang/IllegalStateException" ⟨"java/lang/Throwable", "fillInStackTrace", "(I)Ljava/lang/Throwable;"⟩ ⟨"java/lang/Throwable", "fillInStackTrace", "(I)Ljava/lang/Throwable;"⟩ ∈ w0 := w0_2 (List.mem_of_getElem? (i := 132) rfl) rfl
theorem wd_373 : Cond.lays "java/lang/IllegalStateException" "java/lang/Throwable" "cause" "Ljava/lang/Throwable;" ∈ w0 := w0_2 (List.mem_of_getElem? (i := 133) rfl) rfl
theorem wd_374 : Cond.lays "java/lang/IllegalStateException" "java/lang/Throwable" "stackTrace" "[Ljava/lang/StackTraceElement;" ∈ w0 := w0_2 (List.mem_of_getElem? (i := 134) rfl) rfl
theorem wd_375 : Cond.lays "java/lang/IllegalStateException" "java/lang/Throwable" "suppressedExceptions" "Ljava/util/List;" ∈ w0 := w0_2 (List.mem_of_getElem? (i := 135) rfl) rfl
theorem wd_376 : Cond.lays "java/lang/IllegalStateException" "java/lang/Throwable" "detailMessage" "Ljava/lang/String;" ∈ w0 := w0_2 (List.mem_of_getElem? (i := 136) rfl) rfl
theorem wd_377 : Cond.lays "java/lang/IllegalStateException" "java/lang/Throwable" "backtrace" "Ljava/lang/Object;" ∈ w0 := w0_2 (List.mem_of_getElem? (i := 137) rfl) rfl
theorem wd_379 : Cond.methodLink RX3 54 ⟨"java/lang/IllegalStateException", "<init>", "(Ljava/lang/String;)V"⟩ ∈ w0 := w0_2 (List.mem_of_getElem? (i := 139) rfl) rfl
theorem wd_380 : Cond.instanceMethod ⟨"java/lang/IllegalStateException", "<init>", "(Ljava/lang/String;)V"⟩ ∈ w0 := w0_2 (List.mem_of_getElem? (i := 140) rfl) rfl
theorem wd_381 : Cond.code ⟨"java/lang/IllegalStateException", "<init>", "(Ljava/lang/String;)V"⟩ prog_9_method_2_code 2 none ∈ w0 := w0_2 (List.mem_of_getElem? (i := 141) rfl) rfl
theorem wd_382 : Cond.methodLink "java/lang/IllegalStateException" 7 ⟨"java/lang/RuntimeException", "<init>", "(Ljava/lang/String;)V"⟩ ∈ w0 := w0_2 (List.mem_of_getElem? (i := 142) rfl) rfl
theorem wd_383 : Cond.lays "java/lang/IllegalStateException" "java/lang/Throwable" "depth" "I" ∈ w0 := w0_2 (List.mem_of_getElem? (i := 143) rfl) rfl
theorem wd_385 : Cond.methodLink RL 56 yL_term ∈ w0 := w0_2 (List.mem_of_getElem? (i := 145) rfl) rfl
theorem wd_386 : Cond.static yL_term ∈ w0 := w0_2 (List.mem_of_getElem? (i := 146) rfl) rfl
theorem wd_387 : Cond.codeWith yL_term cL_term 7 (some .int) [(0, 14, 17, 13), (0, 14, 21, 21), (0, 14, 25, 15)] ∈ w0 := w0_2 (List.mem_of_getElem? (i := 147) rfl) rfl
theorem wd_388 : Cond.classLink RL 21 "java/lang/IllegalArgumentException" ∈ w0 := w0_2 (List.mem_of_getElem? (i := 148) rfl) rfl
theorem wd_389 : Cond.methodLink RL 17 yX3_term ∈ w0 := w0_2 (List.mem_of_getElem? (i := 149) rfl) rfl
theorem wd_390 : Cond.instanceMethod yX3_term ∈ w0 := w0_2 (List.mem_of_getElem? (i := 150) rfl) rfl
theorem wd_391 : Cond.selects RX3 yX3_term yX3_term ∈ w0 := w0_2 (List.mem_of_getElem? (i := 151) rfl) rfl
theorem wd_392 : Cond.code yX3_term cX3_term 10 (some .int) ∈ w0 := w0_2 (List.mem_of_getElem? (i := 152) rfl) rfl
theorem wd_393 : Cond.methodLink RX3 59 yX3_isPlace ∈ w0 := w0_2 (List.mem_of_getElem? (i := 153) rfl) rfl
theorem wd_395 : Cond.instanceMethod yX3_isPlace ∈ w0 := w0_2 (List.mem_of_getElem? (i := 155) rfl) rfl
theorem wd_396 : Cond.code yX3_isPlace cX3_isPlace 2 (some .boolean) ∈ w0 := w0_2 (List.mem_of_getElem? (i := 156) rfl) rfl
theorem wd_398 : Cond.methodLink RX3 64 yX3_countPlaces ∈ w0 := w0_2 (List.mem_of_getElem? (i := 158) rfl) rfl
theorem wd_399 : Cond.static yX3_countPlaces ∈ w0 := w0_2 (List.mem_of_getElem? (i := 159) rfl) rfl
theorem wd_400 : Cond.code yX3_countPlaces cX3_countPlaces 3 (some .int) ∈ w0 := w0_2 (List.mem_of_getElem? (i := 160) rfl) rfl
theorem wd_401 : Cond.classLink RX3 68 "java/lang/IllegalArgumentException" ∈ w0 := w0_2 (List.mem_of_getElem? (i := 161) rfl) rfl
theorem wd_402 : Cond.instantiable "java/lang/IllegalArgumentException" 6 ∈ w0 := w0_2 (List.mem_of_getElem? (i := 162) rfl) rfl
theorem wd_404 : Cond.selects "java/lang/IllegalArgumentException" ⟨"java/lang/Throwable", "fillInStackTrace", "(I)Ljava/lang/Throwable;"⟩ ⟨"java/lang/Throwable", "fillInStackTrace", "(I)Ljava/lang/Throwable;"⟩ ∈ w0 := w0_2 (List.mem_of_getElem? (i := 164) rfl) rfl
theorem wd_405 : Cond.lays "java/lang/IllegalArgumentException" "java/lang/Throwable" "cause" "Ljava/lang/Throwable;" ∈ w0 := w0_2 (List.mem_of_getElem? (i := 165) rfl) rfl
theorem wd_406 : Cond.lays "java/lang/IllegalArgumentException" "java/lang/Throwable" "stackTrace" "[Ljava/lang/StackTraceElement;" ∈ w0 := w0_2 (List.mem_of_getElem? (i := 166) rfl) rfl
theorem wd_407 : Cond.lays "java/lang/IllegalArgumentException" "java/lang/Throwable" "suppressedExceptions" "Ljava/util/List;" ∈ w0 := w0_2 (List.mem_of_getElem? (i := 167) rfl) rfl
theorem wd_408 : Cond.lays "java/lang/IllegalArgumentException" "java/lang/Throwable" "detailMessage" "Ljava/lang/String;" ∈ w0 := w0_2 (List.mem_of_getElem? (i := 168) rfl) rfl
theorem wd_409 : Cond.lays "java/lang/IllegalArgumentException" "java/lang/Throwable" "backtrace" "Ljava/lang/Object;" ∈ w0 := w0_2 (List.mem_of_getElem? (i := 169) rfl) rfl
theorem wd_411 : Cond.methodLink RX3 72 ⟨"java/lang/IllegalArgumentException", "<init>", "(Ljava/lang/String;)V"⟩ ∈ w0 := w0_2 (List.mem_of_getElem? (i := 171) rfl) rfl
theorem wd_412 : Cond.instanceMethod ⟨"java/lang/IllegalArgumentException", "<init>", "(Ljava/lang/String;)V"⟩ ∈ w0 := w0_2 (List.mem_of_getElem? (i := 172) rfl) rfl
theorem wd_413 : Cond.code ⟨"java/lang/IllegalArgumentException", "<init>", "(Ljava/lang/String;)V"⟩ prog_8_method_2_code 2 none ∈ w0 := w0_2 (List.mem_of_getElem? (i := 173) rfl) rfl
theorem wd_414 : Cond.methodLink "java/lang/IllegalArgumentException" 7 ⟨"java/lang/RuntimeException", "<init>", "(Ljava/lang/String;)V"⟩ ∈ w0 := w0_2 (List.mem_of_getElem? (i := 174) rfl) rfl
theorem wd_415 : Cond.lays "java/lang/IllegalArgumentException" "java/lang/Throwable" "depth" "I" ∈ w0 := w0_2 (List.mem_of_getElem? (i := 175) rfl) rfl
theorem wd_417 : Cond.methodLink RX3 73 yX1_alike ∈ w0 := w0_2 (List.mem_of_getElem? (i := 177) rfl) rfl
theorem wd_418 : Cond.methodLink RX3 77 yX3_leastOf ∈ w0 := w0_2 (List.mem_of_getElem? (i := 178) rfl) rfl
theorem wd_420 : Cond.methodLink RX3 87 yX2_add ∈ w0 := w0_2 (List.mem_of_getElem? (i := 180) rfl) rfl
theorem wd_421 : Cond.instanceMethod yX2_add ∈ w0 := w0_2 (List.mem_of_getElem? (i := 181) rfl) rfl
theorem wd_422 : Cond.selects RX2 yX2_add yX2_add ∈ w0 := w0_2 (List.mem_of_getElem? (i := 182) rfl) rfl
theorem wd_423 : Cond.code yX2_add cX2_add 6 none ∈ w0 := w0_2 (List.mem_of_getElem? (i := 183) rfl) rfl
theorem wd_424 : Cond.methodLink RX2 42 yX2_insideOf ∈ w0 := w0_2 (List.mem_of_getElem? (i := 184) rfl) rfl
theorem wd_425 : Cond.instanceMethod yX2_insideOf ∈ w0 := w0_2 (List.mem_of_getElem? (i := 185) rfl) rfl
theorem wd_426 : Cond.selects RX2 yX2_insideOf yX2_insideOf ∈ w0 := w0_2 (List.mem_of_getElem? (i := 186) rfl) rfl
theorem wd_427 : Cond.code yX2_insideOf cX2_insideOf 2 (some .long) ∈ w0 := w0_2 (List.mem_of_getElem? (i := 187) rfl) rfl
theorem wd_428 : Cond.methodLink RX3 91 yX1_addAlone ∈ w0 := w0_2 (List.mem_of_getElem? (i := 188) rfl) rfl
theorem wd_429 : Cond.instanceMethod yX1_addAlone ∈ w0 := w0_2 (List.mem_of_getElem? (i := 189) rfl) rfl
theorem wd_430 : Cond.selects RX1 yX1_addAlone yX1_addAlone ∈ w0 := w0_2 (List.mem_of_getElem? (i := 190) rfl) rfl
theorem wd_431 : Cond.code yX1_addAlone cX1_addAlone 3 none ∈ w0 := w0_2 (List.mem_of_getElem? (i := 191) rfl) rfl
theorem wd_432 : Cond.methodLink RX1 50 yX1_use ∈ w0 := w0_2 (List.mem_of_getElem? (i := 192) rfl) rfl
theorem wd_433 : Cond.static yX1_use ∈ w0 := w0_2 (List.mem_of_getElem? (i := 193) rfl) rfl
theorem wd_434 : Cond.code yX1_use cX1_use 3 none ∈ w0 := w0_2 (List.mem_of_getElem? (i := 194) rfl) rfl
theorem wd_435 : Cond.methodLink RX1 60 yX1_bitOf ∈ w0 := w0_2 (List.mem_of_getElem? (i := 195) rfl) rfl
theorem wd_436 : Cond.static yX1_bitOf ∈ w0 := w0_2 (List.mem_of_getElem? (i := 196) rfl) rfl
theorem wd_437 : Cond.code yX1_bitOf cX1_bitOf 1 (some .long) ∈ w0 := w0_2 (List.mem_of_getElem? (i := 197) rfl) rfl
theorem wd_438 : Cond.methodLink RL 64 yL_fact ∈ w0 := w0_2 (List.mem_of_getElem? (i := 198) rfl) rfl
theorem wd_439 : Cond.static yL_fact ∈ w0 := w0_2 (List.mem_of_getElem? (i := 199) rfl) rfl
theorem wd_440 : Cond.codeWith yL_fact cL_fact 6 (some .int) [(0, 12, 15, 13), (0, 12, 19, 15)] ∈ w0 := w0_2 (List.mem_of_getElem? (i := 200) rfl) rfl
theorem wd_441 : Cond.methodLink RL 23 yX3_fact ∈ w0 := w0_2 (List.mem_of_getElem? (i := 201) rfl) rfl
theorem wd_442 : Cond.instanceMethod yX3_fact ∈ w0 := w0_2 (List.mem_of_getElem? (i := 202) rfl) rfl
theorem wd_443 : Cond.selects RX3 yX3_fact yX3_fact ∈ w0 := w0_2 (List.mem_of_getElem? (i := 203) rfl) rfl
theorem wd_444 : Cond.code yX3_fact cX3_fact 5 (some .int) ∈ w0 := w0_2 (List.mem_of_getElem? (i := 204) rfl) rfl
theorem wd_445 : Cond.methodLink RX3 119 yX3_requireTerms ∈ w0 := w0_2 (List.mem_of_getElem? (i := 205) rfl) rfl
theorem wd_447 : Cond.instanceMethod yX3_requireTerms ∈ w0 := w0_2 (List.mem_of_getElem? (i := 207) rfl) rfl
theorem wd_448 : Cond.code yX3_requireTerms cX3_requireTerms 3 none ∈ w0 := w0_2 (List.mem_of_getElem? (i := 208) rfl) rfl
theorem wd_451 : Cond.methodLink RX3 126 yX0_add ∈ w0 := w0_2 (List.mem_of_getElem? (i := 211) rfl) rfl
theorem wd_452 : Cond.instanceMethod yX0_add ∈ w0 := w0_2 (List.mem_of_getElem? (i := 212) rfl) rfl
theorem wd_453 : Cond.selects RX0 yX0_add yX0_add ∈ w0 := w0_2 (List.mem_of_getElem? (i := 213) rfl) rfl
theorem wd_454 : Cond.code yX0_add cX0_add 4 none ∈ w0 := w0_2 (List.mem_of_getElem? (i := 214) rfl) rfl
theorem wd_455 : Cond.methodLink RL 73 yL_isOne ∈ w0 := w0_2 (List.mem_of_getElem? (i := 215) rfl) rfl
theorem wd_456 : Cond.static yL_isOne ∈ w0 := w0_2 (List.mem_of_getElem? (i := 216) rfl) rfl
theorem wd_457 : Cond.codeWith yL_isOne cL_isOne 5 (some .int) [(0, 17, 20, 13)] ∈ w0 := w0_2 (List.mem_of_getElem? (i := 217) rfl) rfl
theorem wd_458 : Cond.methodLink RL 27 yX3_isOne ∈ w0 := w0_2 (List.mem_of_getElem? (i := 218) rfl) rfl
theorem wd_459 : Cond.instanceMethod yX3_isOne ∈ w0 := w0_2 (List.mem_of_getElem? (i := 219) rfl) rfl
theorem wd_460 : Cond.selects RX3 yX3_isOne yX3_isOne ∈ w0 := w0_2 (List.mem_of_getElem? (i := 220) rfl) rfl
theorem wd_461 : Cond.code yX3_isOne cX3_isOne 3 (some .boolean) ∈ w0 := w0_2 (List.mem_of_getElem? (i := 221) rfl) rfl
theorem wd_462 : Cond.methodLink RL 81 yL_isOther ∈ w0 := w0_2 (List.mem_of_getElem? (i := 222) rfl) rfl
theorem wd_463 : Cond.static yL_isOther ∈ w0 := w0_2 (List.mem_of_getElem? (i := 223) rfl) rfl
theorem wd_464 : Cond.codeWith yL_isOther cL_isOther 5 (some .int) [(0, 17, 20, 13)] ∈ w0 := w0_2 (List.mem_of_getElem? (i := 224) rfl) rfl
theorem wd_465 : Cond.methodLink RL 31 yX3_isOther ∈ w0 := w0_2 (List.mem_of_getElem? (i := 225) rfl) rfl
theorem wd_466 : Cond.instanceMethod yX3_isOther ∈ w0 := w0_2 (List.mem_of_getElem? (i := 226) rfl) rfl
theorem wd_467 : Cond.selects RX3 yX3_isOther yX3_isOther ∈ w0 := w0_2 (List.mem_of_getElem? (i := 227) rfl) rfl
theorem wd_468 : Cond.code yX3_isOther cX3_isOther 5 (some .boolean) ∈ w0 := w0_2 (List.mem_of_getElem? (i := 228) rfl) rfl
theorem wd_469 : Cond.methodLink RL 84 yL_row ∈ w0 := w0_2 (List.mem_of_getElem? (i := 229) rfl) rfl
theorem wd_470 : Cond.static yL_row ∈ w0 := w0_2 (List.mem_of_getElem? (i := 230) rfl) rfl
theorem wd_471 : Cond.codeWith yL_row cL_row 5 (some .int) [(0, 10, 13, 13)] ∈ w0 := w0_2 (List.mem_of_getElem? (i := 231) rfl) rfl
theorem wd_472 : Cond.methodLink RL 34 yX3_row ∈ w0 := w0_2 (List.mem_of_getElem? (i := 232) rfl) rfl
theorem wd_473 : Cond.instanceMethod yX3_row ∈ w0 := w0_2 (List.mem_of_getElem? (i := 233) rfl) rfl
theorem wd_474 : Cond.selects RX3 yX3_row yX3_row ∈ w0 := w0_2 (List.mem_of_getElem? (i := 234) rfl) rfl
theorem wd_475 : Cond.code yX3_row cX3_row 5 (some .int) ∈ w0 := w0_2 (List.mem_of_getElem? (i := 235) rfl) rfl
theorem wd_476 : Cond.methodLink RX3 158 yX1_countRows ∈ w0 := w0_2 (List.mem_of_getElem? (i := 236) rfl) rfl
theorem wd_477 : Cond.instanceMethod yX1_countRows ∈ w0 := w0_2 (List.mem_of_getElem? (i := 237) rfl) rfl
theorem wd_478 : Cond.selects RX1 yX1_countRows yX1_countRows ∈ w0 := w0_2 (List.mem_of_getElem? (i := 238) rfl) rfl
theorem wd_479 : Cond.code yX1_countRows cX1_countRows 3 (some .int) ∈ w0 := w0_2 (List.mem_of_getElem? (i := 239) rfl) rfl
theorem wd_480 : Cond.methodLink RL 87 yL_reason ∈ w0 := w0_3 (List.mem_of_getElem? (i := 0) rfl) rfl
theorem wd_481 : Cond.static yL_reason ∈ w0 := w0_3 (List.mem_of_getElem? (i := 1) rfl) rfl
theorem wd_482 : Cond.codeWith yL_reason cL_reason 5 (some .int) [(0, 9, 12, 13)] ∈ w0 := w0_3 (List.mem_of_getElem? (i := 2) rfl) rfl
theorem wd_483 : Cond.methodLink RL 38 yX3_reason ∈ w0 := w0_3 (List.mem_of_getElem? (i := 3) rfl) rfl
theorem wd_484 : Cond.instanceMethod yX3_reason ∈ w0 := w0_3 (List.mem_of_getElem? (i := 4) rfl) rfl
theorem wd_485 : Cond.selects RX3 yX3_reason yX3_reason ∈ w0 := w0_3 (List.mem_of_getElem? (i := 5) rfl) rfl
theorem wd_486 : Cond.code yX3_reason cX3_reason 3 (some .long) ∈ w0 := w0_3 (List.mem_of_getElem? (i := 6) rfl) rfl
theorem wd_487 : Cond.classLink RL 43 RX4 ∈ w0 := w0_3 (List.mem_of_getElem? (i := 7) rfl) rfl
theorem wd_488 : Cond.instantiable RX4 15 ∈ w0 := w0_3 (List.mem_of_getElem? (i := 8) rfl) rfl
theorem wd_489 : Cond.methodLink RL 45 yX4_init ∈ w0 := w0_3 (List.mem_of_getElem? (i := 9) rfl) rfl
theorem wd_490 : Cond.instanceMethod yX4_init ∈ w0 := w0_3 (List.mem_of_getElem? (i := 10) rfl) rfl
theorem wd_491 : Cond.code yX4_init cX4_init 1 none ∈ w0 := w0_3 (List.mem_of_getElem? (i := 11) rfl) rfl
theorem wd_492 : Cond.methodLink RX4 1 objectInit ∈ w0 := w0_3 (List.mem_of_getElem? (i := 12) rfl) rfl
theorem wd_493 : Cond.fieldLink RX4 44 "CongruenceRowsModel" "thrown" "I" ∈ w0 := w0_3 (List.mem_of_getElem? (i := 13) rfl) rfl
theorem wd_494 : Cond.fieldLink RX4 7 "CongruenceRowsModel" "isBuilder" "[Z" ∈ w0 := w0_3 (List.mem_of_getElem? (i := 14) rfl) rfl
theorem wd_495 : Cond.fieldLink RX4 13 "CongruenceRowsModel" "isUsed" "[Z" ∈ w0 := w0_3 (List.mem_of_getElem? (i := 15) rfl) rfl
theorem wd_496 : Cond.fieldLink RX4 16 "CongruenceRowsModel" "places" "[I" ∈ w0 := w0_3 (List.mem_of_getElem? (i := 16) rfl) rfl
theorem wd_497 : Cond.fieldLink RX4 48 "CongruenceRowsModel" "terms" "I" ∈ w0 := w0_3 (List.mem_of_getElem? (i := 17) rfl) rfl
theorem wd_498 : Cond.fieldLink RX4 63 "CongruenceRowsModel" "facts" "I" ∈ w0 := w0_3 (List.mem_of_getElem? (i := 18) rfl) rfl
theorem wd_499 : Cond.fieldLink RX4 20 "CongruenceRowsModel" "sign" "[I" ∈ w0 := w0_3 (List.mem_of_getElem? (i := 19) rfl) rfl
theorem wd_500 : Cond.fieldLink RX4 23 "CongruenceRowsModel" "at" "[I" ∈ w0 := w0_3 (List.mem_of_getElem? (i := 20) rfl) rfl
theorem wd_501 : Cond.fieldLink RX4 26 "CongruenceRowsModel" "one" "[I" ∈ w0 := w0_3 (List.mem_of_getElem? (i := 21) rfl) rfl
theorem wd_502 : Cond.fieldLink RX4 29 "CongruenceRowsModel" "two" "[I" ∈ w0 := w0_3 (List.mem_of_getElem? (i := 22) rfl) rfl
theorem wd_503 : Cond.fieldLink RX4 32 "CongruenceRowsModel" "same" "[Z" ∈ w0 := w0_3 (List.mem_of_getElem? (i := 23) rfl) rfl
theorem wd_504 : Cond.fieldLink RX4 35 "CongruenceRowsModel" "least" "[I" ∈ w0 := w0_3 (List.mem_of_getElem? (i := 24) rfl) rfl
theorem wd_505 : Cond.fieldLink RX4 66 "CongruenceRowsModel" "joins" "Z" ∈ w0 := w0_3 (List.mem_of_getElem? (i := 25) rfl) rfl
theorem wd_506 : Cond.fieldLink RX4 38 "CongruenceRowsModel" "below" "[Z" ∈ w0 := w0_3 (List.mem_of_getElem? (i := 26) rfl) rfl
theorem wd_507 : Cond.fieldLink RX4 41 "CongruenceRowsModel" "stands" "[Z" ∈ w0 := w0_3 (List.mem_of_getElem? (i := 27) rfl) rfl
theorem wd_508 : Cond.lays "CongruenceRowsModel" "CongruenceRowsModel" "thrown" "I" ∈ w0 := w0_3 (List.mem_of_getElem? (i := 28) rfl) rfl
theorem wd_510 : Cond.laysFinal "CongruenceRowsModel" "CongruenceRowsModel" "isBuilder" "[Z" ∈ w0 := w0_3 (List.mem_of_getElem? (i := 30) rfl) rfl
theorem wd_512 : Cond.laysFinal "CongruenceRowsModel" "CongruenceRowsModel" "isUsed" "[Z" ∈ w0 := w0_3 (List.mem_of_getElem? (i := 32) rfl) rfl
theorem wd_514 : Cond.laysFinal "CongruenceRowsModel" "CongruenceRowsModel" "places" "[I" ∈ w0 := w0_3 (List.mem_of_getElem? (i := 34) rfl) rfl
theorem wd_516 : Cond.lays "CongruenceRowsModel" "CongruenceRowsModel" "terms" "I" ∈ w0 := w0_3 (List.mem_of_getElem? (i := 36) rfl) rfl
theorem wd_518 : Cond.lays "CongruenceRowsModel" "CongruenceRowsModel" "facts" "I" ∈ w0 := w0_3 (List.mem_of_getElem? (i := 38) rfl) rfl
theorem wd_520 : Cond.laysFinal "CongruenceRowsModel" "CongruenceRowsModel" "sign" "[I" ∈ w0 := w0_3 (List.mem_of_getElem? (i := 40) rfl) rfl
theorem wd_522 : Cond.laysFinal "CongruenceRowsModel" "CongruenceRowsModel" "at" "[I" ∈ w0 := w0_3 (List.mem_of_getElem? (i := 42) rfl) rfl
theorem wd_524 : Cond.laysFinal "CongruenceRowsModel" "CongruenceRowsModel" "one" "[I" ∈ w0 := w0_3 (List.mem_of_getElem? (i := 44) rfl) rfl
theorem wd_526 : Cond.laysFinal "CongruenceRowsModel" "CongruenceRowsModel" "two" "[I" ∈ w0 := w0_3 (List.mem_of_getElem? (i := 46) rfl) rfl
theorem wd_528 : Cond.laysFinal "CongruenceRowsModel" "CongruenceRowsModel" "same" "[Z" ∈ w0 := w0_3 (List.mem_of_getElem? (i := 48) rfl) rfl
theorem wd_530 : Cond.laysFinal "CongruenceRowsModel" "CongruenceRowsModel" "least" "[I" ∈ w0 := w0_3 (List.mem_of_getElem? (i := 50) rfl) rfl
theorem wd_532 : Cond.lays "CongruenceRowsModel" "CongruenceRowsModel" "joins" "Z" ∈ w0 := w0_3 (List.mem_of_getElem? (i := 52) rfl) rfl
theorem wd_534 : Cond.laysFinal "CongruenceRowsModel" "CongruenceRowsModel" "below" "[Z" ∈ w0 := w0_3 (List.mem_of_getElem? (i := 54) rfl) rfl
theorem wd_536 : Cond.laysFinal "CongruenceRowsModel" "CongruenceRowsModel" "stands" "[Z" ∈ w0 := w0_3 (List.mem_of_getElem? (i := 56) rfl) rfl
theorem wd_539 : Cond.methodLink RL 52 yX4_thrown ∈ w0 := w0_3 (List.mem_of_getElem? (i := 59) rfl) rfl
theorem wd_540 : Cond.instanceMethod yX4_thrown ∈ w0 := w0_3 (List.mem_of_getElem? (i := 60) rfl) rfl
theorem wd_541 : Cond.selects RX4 yX4_thrown yX4_thrown ∈ w0 := w0_3 (List.mem_of_getElem? (i := 61) rfl) rfl
theorem wd_542 : Cond.code yX4_thrown cX4_thrown 1 (some .int) ∈ w0 := w0_3 (List.mem_of_getElem? (i := 62) rfl) rfl
theorem wd_543 : Cond.methodLink RL 51 yX4_builder ∈ w0 := w0_3 (List.mem_of_getElem? (i := 63) rfl) rfl
theorem wd_544 : Cond.instanceMethod yX4_builder ∈ w0 := w0_3 (List.mem_of_getElem? (i := 64) rfl) rfl
theorem wd_545 : Cond.selects RX4 yX4_builder yX4_builder ∈ w0 := w0_3 (List.mem_of_getElem? (i := 65) rfl) rfl
theorem wd_546 : Cond.code yX4_builder cX4_builder 2 none ∈ w0 := w0_3 (List.mem_of_getElem? (i := 66) rfl) rfl
theorem wd_547 : Cond.methodLink RL 59 yX4_term ∈ w0 := w0_3 (List.mem_of_getElem? (i := 67) rfl) rfl
theorem wd_548 : Cond.instanceMethod yX4_term ∈ w0 := w0_3 (List.mem_of_getElem? (i := 68) rfl) rfl
theorem wd_549 : Cond.selects RX4 yX4_term yX4_term ∈ w0 := w0_3 (List.mem_of_getElem? (i := 69) rfl) rfl
theorem wd_550 : Cond.code yX4_term cX4_term 10 (some .int) ∈ w0 := w0_3 (List.mem_of_getElem? (i := 70) rfl) rfl
theorem wd_551 : Cond.methodLink RX4 55 yX4_counted ∈ w0 := w0_3 (List.mem_of_getElem? (i := 71) rfl) rfl
theorem wd_553 : Cond.instanceMethod yX4_counted ∈ w0 := w0_3 (List.mem_of_getElem? (i := 73) rfl) rfl
theorem wd_554 : Cond.code yX4_counted cX4_counted 4 (some .int) ∈ w0 := w0_3 (List.mem_of_getElem? (i := 74) rfl) rfl
theorem wd_555 : Cond.methodLink RX4 51 yX4_isTerm ∈ w0 := w0_3 (List.mem_of_getElem? (i := 75) rfl) rfl
theorem wd_557 : Cond.instanceMethod yX4_isTerm ∈ w0 := w0_3 (List.mem_of_getElem? (i := 77) rfl) rfl
theorem wd_558 : Cond.code yX4_isTerm cX4_isTerm 2 (some .boolean) ∈ w0 := w0_3 (List.mem_of_getElem? (i := 78) rfl) rfl
theorem wd_559 : Cond.methodLink RL 63 yX4_part ∈ w0 := w0_3 (List.mem_of_getElem? (i := 79) rfl) rfl
theorem wd_560 : Cond.instanceMethod yX4_part ∈ w0 := w0_3 (List.mem_of_getElem? (i := 80) rfl) rfl
theorem wd_561 : Cond.selects RX4 yX4_part yX4_part ∈ w0 := w0_3 (List.mem_of_getElem? (i := 81) rfl) rfl
theorem wd_562 : Cond.code yX4_part cX4_part 3 (some .int) ∈ w0 := w0_3 (List.mem_of_getElem? (i := 82) rfl) rfl
theorem wd_563 : Cond.methodLink RX4 59 yX4_standing ∈ w0 := w0_3 (List.mem_of_getElem? (i := 83) rfl) rfl
theorem wd_565 : Cond.instanceMethod yX4_standing ∈ w0 := w0_3 (List.mem_of_getElem? (i := 85) rfl) rfl
theorem wd_566 : Cond.code yX4_standing cX4_standing 5 (some .int) ∈ w0 := w0_3 (List.mem_of_getElem? (i := 86) rfl) rfl
theorem wd_567 : Cond.methodLink RL 67 yX4_fact ∈ w0 := w0_3 (List.mem_of_getElem? (i := 87) rfl) rfl
theorem wd_568 : Cond.instanceMethod yX4_fact ∈ w0 := w0_3 (List.mem_of_getElem? (i := 88) rfl) rfl
theorem wd_569 : Cond.selects RX4 yX4_fact yX4_fact ∈ w0 := w0_3 (List.mem_of_getElem? (i := 89) rfl) rfl
theorem wd_570 : Cond.code yX4_fact cX4_fact 4 (some .int) ∈ w0 := w0_3 (List.mem_of_getElem? (i := 90) rfl) rfl
theorem wd_571 : Cond.methodLink RL 72 yX4_undo ∈ w0 := w0_3 (List.mem_of_getElem? (i := 91) rfl) rfl
theorem wd_572 : Cond.instanceMethod yX4_undo ∈ w0 := w0_3 (List.mem_of_getElem? (i := 92) rfl) rfl
theorem wd_573 : Cond.selects RX4 yX4_undo yX4_undo ∈ w0 := w0_3 (List.mem_of_getElem? (i := 93) rfl) rfl
theorem wd_574 : Cond.code yX4_undo cX4_undo 1 (some .boolean) ∈ w0 := w0_3 (List.mem_of_getElem? (i := 94) rfl) rfl
theorem wd_575 : Cond.methodLink RL 76 yX4_isOne ∈ w0 := w0_3 (List.mem_of_getElem? (i := 95) rfl) rfl
theorem wd_576 : Cond.instanceMethod yX4_isOne ∈ w0 := w0_3 (List.mem_of_getElem? (i := 96) rfl) rfl
theorem wd_577 : Cond.selects RX4 yX4_isOne yX4_isOne ∈ w0 := w0_3 (List.mem_of_getElem? (i := 97) rfl) rfl
theorem wd_578 : Cond.code yX4_isOne cX4_isOne 3 (some .boolean) ∈ w0 := w0_3 (List.mem_of_getElem? (i := 98) rfl) rfl
theorem wd_579 : Cond.methodLink RX4 82 yX4_all ∈ w0 := w0_3 (List.mem_of_getElem? (i := 99) rfl) rfl
theorem wd_581 : Cond.instanceMethod yX4_all ∈ w0 := w0_3 (List.mem_of_getElem? (i := 101) rfl) rfl
theorem wd_582 : Cond.code yX4_all cX4_all 1 (some .long) ∈ w0 := w0_3 (List.mem_of_getElem? (i := 102) rfl) rfl
theorem wd_583 : Cond.methodLink RX4 86 yX4_joinAll ∈ w0 := w0_3 (List.mem_of_getElem? (i := 103) rfl) rfl
theorem wd_585 : Cond.instanceMethod yX4_joinAll ∈ w0 := w0_3 (List.mem_of_getElem? (i := 105) rfl) rfl
theorem wd_586 : Cond.code yX4_joinAll cX4_joinAll 8 none ∈ w0 := w0_3 (List.mem_of_getElem? (i := 106) rfl) rfl
theorem wd_587 : Cond.methodLink RX4 70 yX4_join ∈ w0 := w0_3 (List.mem_of_getElem? (i := 107) rfl) rfl
theorem wd_589 : Cond.instanceMethod yX4_join ∈ w0 := w0_3 (List.mem_of_getElem? (i := 109) rfl) rfl
theorem wd_590 : Cond.code yX4_join cX4_join 7 none ∈ w0 := w0_3 (List.mem_of_getElem? (i := 110) rfl) rfl
theorem wd_591 : Cond.methodLink RX4 74 yX4_areAlike ∈ w0 := w0_3 (List.mem_of_getElem? (i := 111) rfl) rfl
theorem wd_593 : Cond.instanceMethod yX4_areAlike ∈ w0 := w0_3 (List.mem_of_getElem? (i := 113) rfl) rfl
theorem wd_594 : Cond.code yX4_areAlike cX4_areAlike 5 (some .boolean) ∈ w0 := w0_3 (List.mem_of_getElem? (i := 114) rfl) rfl
theorem wd_595 : Cond.methodLink RL 80 yX4_clashes ∈ w0 := w0_3 (List.mem_of_getElem? (i := 115) rfl) rfl
theorem wd_596 : Cond.instanceMethod yX4_clashes ∈ w0 := w0_3 (List.mem_of_getElem? (i := 116) rfl) rfl
theorem wd_597 : Cond.selects RX4 yX4_clashes yX4_clashes ∈ w0 := w0_3 (List.mem_of_getElem? (i := 117) rfl) rfl
theorem wd_598 : Cond.code yX4_clashes cX4_clashes 1 (some .boolean) ∈ w0 := w0_3 (List.mem_of_getElem? (i := 118) rfl) rfl
theorem wd_599 : Cond.methodLink RX4 90 yX4_clashing ∈ w0 := w0_3 (List.mem_of_getElem? (i := 119) rfl) rfl
theorem wd_601 : Cond.instanceMethod yX4_clashing ∈ w0 := w0_3 (List.mem_of_getElem? (i := 121) rfl) rfl
theorem wd_602 : Cond.code yX4_clashing cX4_clashing 5 (some .boolean) ∈ w0 := w0_3 (List.mem_of_getElem? (i := 122) rfl) rfl
theorem wd_603 : Cond.methodLink RX4 78 yX4_turns ∈ w0 := w0_3 (List.mem_of_getElem? (i := 123) rfl) rfl
theorem wd_605 : Cond.instanceMethod yX4_turns ∈ w0 := w0_3 (List.mem_of_getElem? (i := 125) rfl) rfl
theorem wd_606 : Cond.code yX4_turns cX4_turns 4 (some .boolean) ∈ w0 := w0_3 (List.mem_of_getElem? (i := 126) rfl) rfl
theorem wd_607 : Cond.methodLink RL 83 yX4_isOther ∈ w0 := w0_3 (List.mem_of_getElem? (i := 127) rfl) rfl
theorem wd_608 : Cond.instanceMethod yX4_isOther ∈ w0 := w0_3 (List.mem_of_getElem? (i := 128) rfl) rfl
theorem wd_609 : Cond.selects RX4 yX4_isOther yX4_isOther ∈ w0 := w0_3 (List.mem_of_getElem? (i := 129) rfl) rfl
theorem wd_610 : Cond.code yX4_isOther cX4_isOther 3 (some .boolean) ∈ w0 := w0_3 (List.mem_of_getElem? (i := 130) rfl) rfl
theorem wd_611 : Cond.methodLink RL 86 yX4_row ∈ w0 := w0_3 (List.mem_of_getElem? (i := 131) rfl) rfl
theorem wd_612 : Cond.instanceMethod yX4_row ∈ w0 := w0_3 (List.mem_of_getElem? (i := 132) rfl) rfl
theorem wd_613 : Cond.selects RX4 yX4_row yX4_row ∈ w0 := w0_3 (List.mem_of_getElem? (i := 133) rfl) rfl
theorem wd_614 : Cond.code yX4_row cX4_row 7 (some .int) ∈ w0 := w0_3 (List.mem_of_getElem? (i := 134) rfl) rfl
theorem wd_615 : Cond.methodLink RL 89 yX4_reason ∈ w0 := w0_3 (List.mem_of_getElem? (i := 135) rfl) rfl
theorem wd_616 : Cond.instanceMethod yX4_reason ∈ w0 := w0_3 (List.mem_of_getElem? (i := 136) rfl) rfl
theorem wd_617 : Cond.selects RX4 yX4_reason yX4_reason ∈ w0 := w0_3 (List.mem_of_getElem? (i := 137) rfl) rfl
theorem wd_618 : Cond.code yX4_reason cX4_reason 6 (some .long) ∈ w0 := w0_3 (List.mem_of_getElem? (i := 138) rfl) rfl
theorem wd_619 : Cond.methodLink RX4 94 yX4_isOne ∈ w0 := w0_3 (List.mem_of_getElem? (i := 139) rfl) rfl
theorem wd_620 : Cond.constantLong RX4 97 (-1) ∈ w0 := w0_3 (List.mem_of_getElem? (i := 140) rfl) rfl
theorem wd_621 : Cond.methodLink RL 94 yX4_clash ∈ w0 := w0_3 (List.mem_of_getElem? (i := 141) rfl) rfl
theorem wd_622 : Cond.instanceMethod yX4_clash ∈ w0 := w0_3 (List.mem_of_getElem? (i := 142) rfl) rfl
theorem wd_623 : Cond.selects RX4 yX4_clash yX4_clash ∈ w0 := w0_3 (List.mem_of_getElem? (i := 143) rfl) rfl
theorem wd_624 : Cond.code yX4_clash cX4_clash 6 (some .long) ∈ w0 := w0_3 (List.mem_of_getElem? (i := 144) rfl) rfl
theorem wd_625 : Cond.methodLink RX4 99 yX4_clashes ∈ w0 := w0_3 (List.mem_of_getElem? (i := 145) rfl) rfl
theorem wd_626 : Cond.methodLink RL 98 yX4_idle ∈ w0 := w0_3 (List.mem_of_getElem? (i := 146) rfl) rfl
theorem wd_627 : Cond.instanceMethod yX4_idle ∈ w0 := w0_3 (List.mem_of_getElem? (i := 147) rfl) rfl
theorem wd_628 : Cond.selects RX4 yX4_idle yX4_idle ∈ w0 := w0_3 (List.mem_of_getElem? (i := 148) rfl) rfl
theorem wd_629 : Cond.code yX4_idle cX4_idle 4 (some .long) ∈ w0 := w0_3 (List.mem_of_getElem? (i := 149) rfl) rfl
theorem wd_630 : Cond.methodLink RL 103 yX4_about ∈ w0 := w0_3 (List.mem_of_getElem? (i := 150) rfl) rfl
theorem wd_631 : Cond.instanceMethod yX4_about ∈ w0 := w0_3 (List.mem_of_getElem? (i := 151) rfl) rfl
theorem wd_632 : Cond.selects RX4 yX4_about yX4_about ∈ w0 := w0_3 (List.mem_of_getElem? (i := 152) rfl) rfl
theorem wd_633 : Cond.code yX4_about cX4_about 4 (some .int) ∈ w0 := w0_3 (List.mem_of_getElem? (i := 153) rfl) rfl
theorem ws_0 : Cond.selects RX3 yX3_isTerm yX3_isTerm ∈ w0 := w0_s (List.mem_of_getElem? (i := 0) rfl) rfl
theorem ws_1 : Cond.selects RX3 yX3_gather yX3_gather ∈ w0 := w0_s (List.mem_of_getElem? (i := 1) rfl) rfl
theorem ws_2 : Cond.selects RX3 yX3_isBroken yX3_isBroken ∈ w0 := w0_s (List.mem_of_getElem? (i := 2) rfl) rfl
theorem ws_3 : Cond.selects RX3 yX3_isOtherBroken yX3_isOtherBroken ∈ w0 := w0_s (List.mem_of_getElem? (i := 3) rfl) rfl
theorem ws_4 : Cond.selects RX3 yX3_reasonOf yX3_reasonOf ∈ w0 := w0_s (List.mem_of_getElem? (i := 4) rfl) rfl
theorem ws_5 : Cond.selects RX3 yX3_fewestAhead yX3_fewestAhead ∈ w0 := w0_s (List.mem_of_getElem? (i := 5) rfl) rfl
theorem ws_6 : Cond.selects RX3 yX3_isReached yX3_isReached ∈ w0 := w0_s (List.mem_of_getElem? (i := 6) rfl) rfl
theorem ws_7 : Cond.selects RX3 yX3_putIn yX3_putIn ∈ w0 := w0_s (List.mem_of_getElem? (i := 7) rfl) rfl
theorem ws_8 : Cond.selects RX3 yX3_isSign yX3_isSign ∈ w0 := w0_s (List.mem_of_getElem? (i := 8) rfl) rfl
theorem ws_10 : Cond.selects RX3 yX3_isPlace yX3_isPlace ∈ w0 := w0_s (List.mem_of_getElem? (i := 10) rfl) rfl
theorem ws_11 : Cond.selects RX3 yX3_requireTerms yX3_requireTerms ∈ w0 := w0_s (List.mem_of_getElem? (i := 11) rfl) rfl
theorem ws_12 : Cond.selects RX4 yX4_counted yX4_counted ∈ w0 := w0_s (List.mem_of_getElem? (i := 12) rfl) rfl
theorem ws_13 : Cond.selects RX4 yX4_isTerm yX4_isTerm ∈ w0 := w0_s (List.mem_of_getElem? (i := 13) rfl) rfl
theorem ws_14 : Cond.selects RX4 yX4_standing yX4_standing ∈ w0 := w0_s (List.mem_of_getElem? (i := 14) rfl) rfl
theorem ws_15 : Cond.selects RX4 yX4_all yX4_all ∈ w0 := w0_s (List.mem_of_getElem? (i := 15) rfl) rfl
theorem ws_16 : Cond.selects RX4 yX4_joinAll yX4_joinAll ∈ w0 := w0_s (List.mem_of_getElem? (i := 16) rfl) rfl
theorem ws_17 : Cond.selects RX4 yX4_join yX4_join ∈ w0 := w0_s (List.mem_of_getElem? (i := 17) rfl) rfl
theorem ws_18 : Cond.selects RX4 yX4_areAlike yX4_areAlike ∈ w0 := w0_s (List.mem_of_getElem? (i := 18) rfl) rfl
theorem ws_19 : Cond.selects RX4 yX4_clashing yX4_clashing ∈ w0 := w0_s (List.mem_of_getElem? (i := 19) rfl) rfl
theorem ws_20 : Cond.selects RX4 yX4_turns yX4_turns ∈ w0 := w0_s (List.mem_of_getElem? (i := 20) rfl) rfl
def wsX3_init : List Cond := Cond.code yX3_init cX3_init 1 none :: w0
theorem woX3_init : ∀ w ∈ w0, w ∈ wsX3_init := fun _ h => List.mem_cons_of_mem _ h
def wsX2_init : List Cond := Cond.code yX2_init cX2_init 2 none :: w0
theorem woX2_init : ∀ w ∈ w0, w ∈ wsX2_init := fun _ h => List.mem_cons_of_mem _ h
def wsX0_init : List Cond := Cond.code yX0_init cX0_init 1 none :: w0
theorem woX0_init : ∀ w ∈ w0, w ∈ wsX0_init := fun _ h => List.mem_cons_of_mem _ h
def wsX1_init : List Cond := Cond.code yX1_init cX1_init 2 none :: w0
theorem woX1_init : ∀ w ∈ w0, w ∈ wsX1_init := fun _ h => List.mem_cons_of_mem _ h
def wsX3_part : List Cond := Cond.code yX3_part cX3_part 3 (some .int) :: w0
theorem woX3_part : ∀ w ∈ w0, w ∈ wsX3_part := fun _ h => List.mem_cons_of_mem _ h
def wsX3_isTerm : List Cond := Cond.code yX3_isTerm cX3_isTerm 2 (some .boolean) :: w0
theorem woX3_isTerm : ∀ w ∈ w0, w ∈ wsX3_isTerm := fun _ h => List.mem_cons_of_mem _ h
def wsJ13_bitCount : List Cond := Cond.code yJ13_bitCount cJ13_bitCount 2 (some .int) :: w0
theorem woJ13_bitCount : ∀ w ∈ w0, w ∈ wsJ13_bitCount := fun _ h => List.mem_cons_of_mem _ h
def wsX3_undo : List Cond := Cond.code yX3_undo cX3_undo 1 (some .boolean) :: w0
theorem woX3_undo : ∀ w ∈ w0, w ∈ wsX3_undo := fun _ h => List.mem_cons_of_mem _ h
def wsX3_clashes : List Cond := Cond.code yX3_clashes cX3_clashes 3 (some .boolean) :: w0
theorem woX3_clashes : ∀ w ∈ w0, w ∈ wsX3_clashes := fun _ h => List.mem_cons_of_mem _ h
def wsX0_all : List Cond := Cond.code yX0_all cX0_all 1 (some .long) :: w0
theorem woX0_all : ∀ w ∈ w0, w ∈ wsX0_all := fun _ h => List.mem_cons_of_mem _ h
def wsX3_gather : List Cond := Cond.code yX3_gather cX3_gather 4 none :: w0
theorem woX3_gather : ∀ w ∈ w0, w ∈ wsX3_gather := fun _ h => List.mem_cons_of_mem _ h
def wsX1_copyFrom : List Cond := Cond.code yX1_copyFrom cX1_copyFrom 3 none :: w0
theorem woX1_copyFrom : ∀ w ∈ w0, w ∈ wsX1_copyFrom := fun _ h => List.mem_cons_of_mem _ h
def wsX1_makeOne : List Cond := Cond.code yX1_makeOne cX1_makeOne 5 (some .boolean) :: w0
theorem woX1_makeOne : ∀ w ∈ w0, w ∈ wsX1_makeOne := fun _ h => List.mem_cons_of_mem _ h
def wsX1_areOne : List Cond := Cond.code yX1_areOne cX1_areOne 3 (some .boolean) :: w0
theorem woX1_areOne : ∀ w ∈ w0, w ∈ wsX1_areOne := fun _ h => List.mem_cons_of_mem _ h
def wsX1_join : List Cond := Cond.code yX1_join cX1_join 9 none :: w0
theorem woX1_join : ∀ w ∈ w0, w ∈ wsX1_join := fun _ h => List.mem_cons_of_mem _ h
def wsJ13_numberOfTrailingZeros : List Cond := Cond.code yJ13_numberOfTrailingZeros cJ13_numberOfTrailingZeros 3 (some .int) :: w0
theorem woJ13_numberOfTrailingZeros : ∀ w ∈ w0, w ∈ wsJ13_numberOfTrailingZeros := fun _ h => List.mem_cons_of_mem _ h
def wsJ6_numberOfTrailingZeros : List Cond := Cond.code yJ6_numberOfTrailingZeros cJ6_numberOfTrailingZeros 2 (some .int) :: w0
theorem woJ6_numberOfTrailingZeros : ∀ w ∈ w0, w ∈ wsJ6_numberOfTrailingZeros := fun _ h => List.mem_cons_of_mem _ h
def wsX1_joinBuilders : List Cond := Cond.code yX1_joinBuilders cX1_joinBuilders 3 none :: w0
theorem woX1_joinBuilders : ∀ w ∈ w0, w ∈ wsX1_joinBuilders := fun _ h => List.mem_cons_of_mem _ h
def wsX1_joinAlike : List Cond := Cond.code yX1_joinAlike cX1_joinAlike 4 none :: w0
theorem woX1_joinAlike : ∀ w ∈ w0, w ∈ wsX1_joinAlike := fun _ h => List.mem_cons_of_mem _ h
def wsX1_alike : List Cond := Cond.code yX1_alike cX1_alike 7 (some .long) :: w0
theorem woX1_alike : ∀ w ∈ w0, w ∈ wsX1_alike := fun _ h => List.mem_cons_of_mem _ h
def wsX3_leastOf : List Cond := Cond.code yX3_leastOf cX3_leastOf 2 (some .int) :: w0
theorem woX3_leastOf : ∀ w ∈ w0, w ∈ wsX3_leastOf := fun _ h => List.mem_cons_of_mem _ h
def wsX2_isBuilt : List Cond := Cond.code yX2_isBuilt cX2_isBuilt 2 (some .boolean) :: w0
theorem woX2_isBuilt : ∀ w ∈ w0, w ∈ wsX2_isBuilt := fun _ h => List.mem_cons_of_mem _ h
def wsX1_joinPlaces : List Cond := Cond.code yX1_joinPlaces cX1_joinPlaces 3 none :: w0
theorem woX1_joinPlaces : ∀ w ∈ w0, w ∈ wsX1_joinPlaces := fun _ h => List.mem_cons_of_mem _ h
def wsX3_isBroken : List Cond := Cond.code yX3_isBroken cX3_isBroken 3 (some .boolean) :: w0
theorem woX3_isBroken : ∀ w ∈ w0, w ∈ wsX3_isBroken := fun _ h => List.mem_cons_of_mem _ h
def wsX3_isOtherBroken : List Cond := Cond.code yX3_isOtherBroken cX3_isOtherBroken 4 (some .boolean) :: w0
theorem woX3_isOtherBroken : ∀ w ∈ w0, w ∈ wsX3_isOtherBroken := fun _ h => List.mem_cons_of_mem _ h
def wsX1_hasLoop : List Cond := Cond.code yX1_hasLoop cX1_hasLoop 8 (some .boolean) :: w0
theorem woX1_hasLoop : ∀ w ∈ w0, w ∈ wsX1_hasLoop := fun _ h => List.mem_cons_of_mem _ h
def wsX1_clearMore : List Cond := Cond.code yX1_clearMore cX1_clearMore 6 (some .long) :: w0
theorem woX1_clearMore : ∀ w ∈ w0, w ∈ wsX1_clearMore := fun _ h => List.mem_cons_of_mem _ h
def wsX3_clash : List Cond := Cond.code yX3_clash cX3_clash 1 (some .long) :: w0
theorem woX3_clash : ∀ w ∈ w0, w ∈ wsX3_clash := fun _ h => List.mem_cons_of_mem _ h
def wsX3_reasonOf : List Cond := Cond.code yX3_reasonOf cX3_reasonOf 8 (some .long) :: w0
theorem woX3_reasonOf : ∀ w ∈ w0, w ∈ wsX3_reasonOf := fun _ h => List.mem_cons_of_mem _ h
def wsX3_fewestAhead : List Cond := Cond.code yX3_fewestAhead cX3_fewestAhead 9 (some .int) :: w0
theorem woX3_fewestAhead : ∀ w ∈ w0, w ∈ wsX3_fewestAhead := fun _ h => List.mem_cons_of_mem _ h
def wsX3_isReached : List Cond := Cond.code yX3_isReached cX3_isReached 5 (some .boolean) :: w0
theorem woX3_isReached : ∀ w ∈ w0, w ∈ wsX3_isReached := fun _ h => List.mem_cons_of_mem _ h
def wsX3_putIn : List Cond := Cond.code yX3_putIn cX3_putIn 2 (some .boolean) :: w0
theorem woX3_putIn : ∀ w ∈ w0, w ∈ wsX3_putIn := fun _ h => List.mem_cons_of_mem _ h
def wsX3_idle : List Cond := Cond.code yX3_idle cX3_idle 4 (some .long) :: w0
theorem woX3_idle : ∀ w ∈ w0, w ∈ wsX3_idle := fun _ h => List.mem_cons_of_mem _ h
def wsX3_about : List Cond := Cond.code yX3_about cX3_about 2 (some .int) :: w0
theorem woX3_about : ∀ w ∈ w0, w ∈ wsX3_about := fun _ h => List.mem_cons_of_mem _ h
def wsX2_countUsedSigns : List Cond := Cond.code yX2_countUsedSigns cX2_countUsedSigns 3 (some .int) :: w0
theorem woX2_countUsedSigns : ∀ w ∈ w0, w ∈ wsX2_countUsedSigns := fun _ h => List.mem_cons_of_mem _ h
def wsL_builder : List Cond := Cond.codeWith yL_builder cL_builder 3 (some .int) [(0, 5, 8, 13), (0, 5, 11, 15)] :: w0
theorem woL_builder : ∀ w ∈ w0, w ∈ wsL_builder := fun _ h => List.mem_cons_of_mem _ h
def wsX3_builder : List Cond := Cond.code yX3_builder cX3_builder 2 none :: w0
theorem woX3_builder : ∀ w ∈ w0, w ∈ wsX3_builder := fun _ h => List.mem_cons_of_mem _ h
def wsX3_isSign : List Cond := Cond.code yX3_isSign cX3_isSign 2 (some .boolean) :: w0
theorem woX3_isSign : ∀ w ∈ w0, w ∈ wsX3_isSign := fun _ h => List.mem_cons_of_mem _ h
def wsL_term : List Cond := Cond.codeWith yL_term cL_term 7 (some .int) [(0, 14, 17, 13), (0, 14, 21, 21), (0, 14, 25, 15)] :: w0
theorem woL_term : ∀ w ∈ w0, w ∈ wsL_term := fun _ h => List.mem_cons_of_mem _ h
def wsX3_term : List Cond := Cond.code yX3_term cX3_term 10 (some .int) :: w0
theorem woX3_term : ∀ w ∈ w0, w ∈ wsX3_term := fun _ h => List.mem_cons_of_mem _ h
def wsX3_isPlace : List Cond := Cond.code yX3_isPlace cX3_isPlace 2 (some .boolean) :: w0
theorem woX3_isPlace : ∀ w ∈ w0, w ∈ wsX3_isPlace := fun _ h => List.mem_cons_of_mem _ h
def wsX3_countPlaces : List Cond := Cond.code yX3_countPlaces cX3_countPlaces 3 (some .int) :: w0
theorem woX3_countPlaces : ∀ w ∈ w0, w ∈ wsX3_countPlaces := fun _ h => List.mem_cons_of_mem _ h
def wsX2_add : List Cond := Cond.code yX2_add cX2_add 6 none :: w0
theorem woX2_add : ∀ w ∈ w0, w ∈ wsX2_add := fun _ h => List.mem_cons_of_mem _ h
def wsX2_insideOf : List Cond := Cond.code yX2_insideOf cX2_insideOf 2 (some .long) :: w0
theorem woX2_insideOf : ∀ w ∈ w0, w ∈ wsX2_insideOf := fun _ h => List.mem_cons_of_mem _ h
def wsX1_addAlone : List Cond := Cond.code yX1_addAlone cX1_addAlone 3 none :: w0
theorem woX1_addAlone : ∀ w ∈ w0, w ∈ wsX1_addAlone := fun _ h => List.mem_cons_of_mem _ h
def wsX1_use : List Cond := Cond.code yX1_use cX1_use 3 none :: w0
theorem woX1_use : ∀ w ∈ w0, w ∈ wsX1_use := fun _ h => List.mem_cons_of_mem _ h
def wsX1_bitOf : List Cond := Cond.code yX1_bitOf cX1_bitOf 1 (some .long) :: w0
theorem woX1_bitOf : ∀ w ∈ w0, w ∈ wsX1_bitOf := fun _ h => List.mem_cons_of_mem _ h
def wsL_fact : List Cond := Cond.codeWith yL_fact cL_fact 6 (some .int) [(0, 12, 15, 13), (0, 12, 19, 15)] :: w0
theorem woL_fact : ∀ w ∈ w0, w ∈ wsL_fact := fun _ h => List.mem_cons_of_mem _ h
def wsX3_fact : List Cond := Cond.code yX3_fact cX3_fact 5 (some .int) :: w0
theorem woX3_fact : ∀ w ∈ w0, w ∈ wsX3_fact := fun _ h => List.mem_cons_of_mem _ h
def wsX3_requireTerms : List Cond := Cond.code yX3_requireTerms cX3_requireTerms 3 none :: w0
theorem woX3_requireTerms : ∀ w ∈ w0, w ∈ wsX3_requireTerms := fun _ h => List.mem_cons_of_mem _ h
def wsX0_add : List Cond := Cond.code yX0_add cX0_add 4 none :: w0
theorem woX0_add : ∀ w ∈ w0, w ∈ wsX0_add := fun _ h => List.mem_cons_of_mem _ h
def wsL_isOne : List Cond := Cond.codeWith yL_isOne cL_isOne 5 (some .int) [(0, 17, 20, 13)] :: w0
theorem woL_isOne : ∀ w ∈ w0, w ∈ wsL_isOne := fun _ h => List.mem_cons_of_mem _ h
def wsX3_isOne : List Cond := Cond.code yX3_isOne cX3_isOne 3 (some .boolean) :: w0
theorem woX3_isOne : ∀ w ∈ w0, w ∈ wsX3_isOne := fun _ h => List.mem_cons_of_mem _ h
def wsL_isOther : List Cond := Cond.codeWith yL_isOther cL_isOther 5 (some .int) [(0, 17, 20, 13)] :: w0
theorem woL_isOther : ∀ w ∈ w0, w ∈ wsL_isOther := fun _ h => List.mem_cons_of_mem _ h
def wsX3_isOther : List Cond := Cond.code yX3_isOther cX3_isOther 5 (some .boolean) :: w0
theorem woX3_isOther : ∀ w ∈ w0, w ∈ wsX3_isOther := fun _ h => List.mem_cons_of_mem _ h
def wsL_row : List Cond := Cond.codeWith yL_row cL_row 5 (some .int) [(0, 10, 13, 13)] :: w0
theorem woL_row : ∀ w ∈ w0, w ∈ wsL_row := fun _ h => List.mem_cons_of_mem _ h
def wsX3_row : List Cond := Cond.code yX3_row cX3_row 5 (some .int) :: w0
theorem woX3_row : ∀ w ∈ w0, w ∈ wsX3_row := fun _ h => List.mem_cons_of_mem _ h
def wsX1_countRows : List Cond := Cond.code yX1_countRows cX1_countRows 3 (some .int) :: w0
theorem woX1_countRows : ∀ w ∈ w0, w ∈ wsX1_countRows := fun _ h => List.mem_cons_of_mem _ h
def wsL_reason : List Cond := Cond.codeWith yL_reason cL_reason 5 (some .int) [(0, 9, 12, 13)] :: w0
theorem woL_reason : ∀ w ∈ w0, w ∈ wsL_reason := fun _ h => List.mem_cons_of_mem _ h
def wsX3_reason : List Cond := Cond.code yX3_reason cX3_reason 3 (some .long) :: w0
theorem woX3_reason : ∀ w ∈ w0, w ∈ wsX3_reason := fun _ h => List.mem_cons_of_mem _ h
def wsX4_init : List Cond := Cond.code yX4_init cX4_init 1 none :: w0
theorem woX4_init : ∀ w ∈ w0, w ∈ wsX4_init := fun _ h => List.mem_cons_of_mem _ h
def wsX4_thrown : List Cond := Cond.code yX4_thrown cX4_thrown 1 (some .int) :: w0
theorem woX4_thrown : ∀ w ∈ w0, w ∈ wsX4_thrown := fun _ h => List.mem_cons_of_mem _ h
def wsX4_builder : List Cond := Cond.code yX4_builder cX4_builder 2 none :: w0
theorem woX4_builder : ∀ w ∈ w0, w ∈ wsX4_builder := fun _ h => List.mem_cons_of_mem _ h
def wsX4_term : List Cond := Cond.code yX4_term cX4_term 10 (some .int) :: w0
theorem woX4_term : ∀ w ∈ w0, w ∈ wsX4_term := fun _ h => List.mem_cons_of_mem _ h
def wsX4_counted : List Cond := Cond.code yX4_counted cX4_counted 4 (some .int) :: w0
theorem woX4_counted : ∀ w ∈ w0, w ∈ wsX4_counted := fun _ h => List.mem_cons_of_mem _ h
def wsX4_isTerm : List Cond := Cond.code yX4_isTerm cX4_isTerm 2 (some .boolean) :: w0
theorem woX4_isTerm : ∀ w ∈ w0, w ∈ wsX4_isTerm := fun _ h => List.mem_cons_of_mem _ h
def wsX4_part : List Cond := Cond.code yX4_part cX4_part 3 (some .int) :: w0
theorem woX4_part : ∀ w ∈ w0, w ∈ wsX4_part := fun _ h => List.mem_cons_of_mem _ h
def wsX4_standing : List Cond := Cond.code yX4_standing cX4_standing 5 (some .int) :: w0
theorem woX4_standing : ∀ w ∈ w0, w ∈ wsX4_standing := fun _ h => List.mem_cons_of_mem _ h
def wsX4_fact : List Cond := Cond.code yX4_fact cX4_fact 4 (some .int) :: w0
theorem woX4_fact : ∀ w ∈ w0, w ∈ wsX4_fact := fun _ h => List.mem_cons_of_mem _ h
def wsX4_undo : List Cond := Cond.code yX4_undo cX4_undo 1 (some .boolean) :: w0
theorem woX4_undo : ∀ w ∈ w0, w ∈ wsX4_undo := fun _ h => List.mem_cons_of_mem _ h
def wsX4_isOne : List Cond := Cond.code yX4_isOne cX4_isOne 3 (some .boolean) :: w0
theorem woX4_isOne : ∀ w ∈ w0, w ∈ wsX4_isOne := fun _ h => List.mem_cons_of_mem _ h
def wsX4_all : List Cond := Cond.code yX4_all cX4_all 1 (some .long) :: w0
theorem woX4_all : ∀ w ∈ w0, w ∈ wsX4_all := fun _ h => List.mem_cons_of_mem _ h
def wsX4_joinAll : List Cond := Cond.code yX4_joinAll cX4_joinAll 8 none :: w0
theorem woX4_joinAll : ∀ w ∈ w0, w ∈ wsX4_joinAll := fun _ h => List.mem_cons_of_mem _ h
def wsX4_join : List Cond := Cond.code yX4_join cX4_join 7 none :: w0
theorem woX4_join : ∀ w ∈ w0, w ∈ wsX4_join := fun _ h => List.mem_cons_of_mem _ h
def wsX4_areAlike : List Cond := Cond.code yX4_areAlike cX4_areAlike 5 (some .boolean) :: w0
theorem woX4_areAlike : ∀ w ∈ w0, w ∈ wsX4_areAlike := fun _ h => List.mem_cons_of_mem _ h
def wsX4_clashes : List Cond := Cond.code yX4_clashes cX4_clashes 1 (some .boolean) :: w0
theorem woX4_clashes : ∀ w ∈ w0, w ∈ wsX4_clashes := fun _ h => List.mem_cons_of_mem _ h
def wsX4_clashing : List Cond := Cond.code yX4_clashing cX4_clashing 5 (some .boolean) :: w0
theorem woX4_clashing : ∀ w ∈ w0, w ∈ wsX4_clashing := fun _ h => List.mem_cons_of_mem _ h
def wsX4_turns : List Cond := Cond.code yX4_turns cX4_turns 4 (some .boolean) :: w0
theorem woX4_turns : ∀ w ∈ w0, w ∈ wsX4_turns := fun _ h => List.mem_cons_of_mem _ h
def wsX4_isOther : List Cond := Cond.code yX4_isOther cX4_isOther 3 (some .boolean) :: w0
theorem woX4_isOther : ∀ w ∈ w0, w ∈ wsX4_isOther := fun _ h => List.mem_cons_of_mem _ h
def wsX4_row : List Cond := Cond.code yX4_row cX4_row 7 (some .int) :: w0
theorem woX4_row : ∀ w ∈ w0, w ∈ wsX4_row := fun _ h => List.mem_cons_of_mem _ h
def wsX4_reason : List Cond := Cond.code yX4_reason cX4_reason 6 (some .long) :: w0
theorem woX4_reason : ∀ w ∈ w0, w ∈ wsX4_reason := fun _ h => List.mem_cons_of_mem _ h
def wsX4_clash : List Cond := Cond.code yX4_clash cX4_clash 6 (some .long) :: w0
theorem woX4_clash : ∀ w ∈ w0, w ∈ wsX4_clash := fun _ h => List.mem_cons_of_mem _ h
def wsX4_idle : List Cond := Cond.code yX4_idle cX4_idle 4 (some .long) :: w0
theorem woX4_idle : ∀ w ∈ w0, w ∈ wsX4_idle := fun _ h => List.mem_cons_of_mem _ h
def wsX4_about : List Cond := Cond.code yX4_about cX4_about 4 (some .int) :: w0
theorem woX4_about : ∀ w ∈ w0, w ∈ wsX4_about := fun _ h => List.mem_cons_of_mem _ h
abbrev vwCl : List vw_C := [(RX0, TX0, 4), (RX1, TX1, 10), (RX2, TX2, 10), (RX3, TX3, 4), (RX4, TX4, 15)]
theorem inX0 : ∀ w ∈ u_ws RX0 TX0 4, w ∈ w0 := List.forall_mem_cons.mpr ⟨wd_93, List.forall_mem_cons.mpr ⟨wd_95, List.forall_mem_cons.mpr ⟨wd_97, List.forall_mem_cons.mpr ⟨wd_99, fun _ h => absurd h List.not_mem_nil⟩⟩⟩⟩
theorem inX1 : ∀ w ∈ u_ws RX1 TX1 10, w ∈ w0 := List.forall_mem_cons.mpr ⟨wd_121, List.forall_mem_cons.mpr ⟨wd_123, List.forall_mem_cons.mpr ⟨wd_125, List.forall_mem_cons.mpr ⟨wd_127, List.forall_mem_cons.mpr ⟨wd_129, List.forall_mem_cons.mpr ⟨wd_131, List.forall_mem_cons.mpr ⟨wd_133, List.forall_mem_cons.mpr ⟨wd_135, List.forall_mem_cons.mpr ⟨wd_137, List.forall_mem_cons.mpr ⟨wd_139, fun _ h => absurd h List.not_mem_nil⟩⟩⟩⟩⟩⟩⟩⟩⟩⟩
theorem inX2 : ∀ w ∈ u_ws RX2 TX2 10, w ∈ w0 := List.forall_mem_cons.mpr ⟨wd_55, List.forall_mem_cons.mpr ⟨wd_57, List.forall_mem_cons.mpr ⟨wd_59, List.forall_mem_cons.mpr ⟨wd_61, List.forall_mem_cons.mpr ⟨wd_63, List.forall_mem_cons.mpr ⟨wd_65, List.forall_mem_cons.mpr ⟨wd_67, List.forall_mem_cons.mpr ⟨wd_69, List.forall_mem_cons.mpr ⟨wd_71, List.forall_mem_cons.mpr ⟨wd_73, fun _ h => absurd h List.not_mem_nil⟩⟩⟩⟩⟩⟩⟩⟩⟩⟩
theorem inX3 : ∀ w ∈ u_ws RX3 TX3 4, w ∈ w0 := List.forall_mem_cons.mpr ⟨wd_146, List.forall_mem_cons.mpr ⟨wd_148, List.forall_mem_cons.mpr ⟨wd_150, List.forall_mem_cons.mpr ⟨wd_152, fun _ h => absurd h List.not_mem_nil⟩⟩⟩⟩
theorem inX4 : ∀ w ∈ u_ws RX4 TX4 15, w ∈ w0 := List.forall_mem_cons.mpr ⟨wd_508, List.forall_mem_cons.mpr ⟨wd_510, List.forall_mem_cons.mpr ⟨wd_512, List.forall_mem_cons.mpr ⟨wd_514, List.forall_mem_cons.mpr ⟨wd_516, List.forall_mem_cons.mpr ⟨wd_518, List.forall_mem_cons.mpr ⟨wd_520, List.forall_mem_cons.mpr ⟨wd_522, List.forall_mem_cons.mpr ⟨wd_524, List.forall_mem_cons.mpr ⟨wd_526, List.forall_mem_cons.mpr ⟨wd_528, List.forall_mem_cons.mpr ⟨wd_530, List.forall_mem_cons.mpr ⟨wd_532, List.forall_mem_cons.mpr ⟨wd_534, List.forall_mem_cons.mpr ⟨wd_536, fun _ h => absurd h List.not_mem_nil⟩⟩⟩⟩⟩⟩⟩⟩⟩⟩⟩⟩⟩⟩⟩
