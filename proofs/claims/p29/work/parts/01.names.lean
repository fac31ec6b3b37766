/-- a private method of a class that the tables say can be made, by its rows of tables_1 -/
def lw_okq (q : MethodName × Nat) : Prop := (q.1.cls ≠ "java/lang/invoke/MethodHandle" ∧ q.1.cls ≠ "java/lang/invoke/VarHandle") ∧ Cond.instantiable q.1.cls q.2 ∈ tables_1 ∧ Cond.privateMethod q.1 ∈ tables_1 ∧ Cond.instanceMethod q.1 ∈ tables_1
theorem lw_p0 : lw_okq (⟨"PartedSums", "freshTrial", "()LPartedSums$State;"⟩, 6) := ⟨⟨by decide +kernel, by decide +kernel⟩, List.mem_of_getElem? (i := 9) (by decide +kernel), List.mem_of_getElem? (i := 225) (by decide +kernel), List.mem_of_getElem? (i := 226) (by decide +kernel)⟩
theorem lw_p1 : lw_okq (⟨"PartedSums", "settle", "(I)I"⟩, 6) := ⟨⟨by decide +kernel, by decide +kernel⟩, List.mem_of_getElem? (i := 9) (by decide +kernel), List.mem_of_getElem? (i := 263) (by decide +kernel), List.mem_of_getElem? (i := 264) (by decide +kernel)⟩
theorem lw_p2 : lw_okq (⟨"PartedSums$State", "insertLetter", "(I)LPartedSums$Letter;"⟩, 11) := ⟨⟨by decide +kernel, by decide +kernel⟩, List.mem_of_getElem? (i := 17) (by decide +kernel), List.mem_of_getElem? (i := 411) (by decide +kernel), List.mem_of_getElem? (i := 412) (by decide +kernel)⟩
theorem lw_p3 : lw_okq (⟨"PartedSums$State", "receive", "(LPartedSums$Letter;)V"⟩, 11) := ⟨⟨by decide +kernel, by decide +kernel⟩, List.mem_of_getElem? (i := 17) (by decide +kernel), List.mem_of_getElem? (i := 423) (by decide +kernel), List.mem_of_getElem? (i := 424) (by decide +kernel)⟩
theorem lw_p4 : lw_okq (⟨"PartedSums$State", "removeLetters", "(I)V"⟩, 11) := ⟨⟨by decide +kernel, by decide +kernel⟩, List.mem_of_getElem? (i := 17) (by decide +kernel), List.mem_of_getElem? (i := 427) (by decide +kernel), List.mem_of_getElem? (i := 428) (by decide +kernel)⟩
def lw_privs_1 : List (MethodName × Nat) := [(⟨"PartedSums", "freshTrial", "()LPartedSums$State;"⟩, 6), (⟨"PartedSums", "settle", "(I)I"⟩, 6), (⟨"PartedSums$State", "insertLetter", "(I)LPartedSums$Letter;"⟩, 11), (⟨"PartedSums$State", "receive", "(LPartedSums$Letter;)V"⟩, 11), (⟨"PartedSums$State", "removeLetters", "(I)V"⟩, 11)]
theorem lw_r1 : ∀ q ∈ lw_privs_1, lw_okq q := List.forall_mem_cons.mpr ⟨lw_p0, List.forall_mem_cons.mpr ⟨lw_p1, List.forall_mem_cons.mpr ⟨lw_p2, List.forall_mem_cons.mpr ⟨lw_p3, List.forall_mem_cons.mpr ⟨lw_p4, fun _ h => absurd h List.not_mem_nil⟩⟩⟩⟩⟩
def lw_privs : List (MethodName × Nat) := lw_privs_1
def lw_tbl : List Cond := k2_sels lw_privs ++ tables_1
theorem lw_privs_ok : ∀ q ∈ lw_privs, lw_okq q := lw_r1
def RX0 : String := "PartedSums$Knowledge"
def TX0 : u_T := fun k => match k with
  | 0 => ("PartedSums$Knowledge", "versions", "[I", true)
  | 1 => ("PartedSums$Knowledge", "added", "[I", true)
  | 2 => ("PartedSums$Knowledge", "taken", "[I", true)
  | _ => ("PartedSums$Knowledge", "graves", "I", false)
def tyX0 : Nat → FieldType := fun k => match k with
  | 0 => .array .int
  | 1 => .array .int
  | 2 => .array .int
  | _ => .int
abbrev wsX00 : List Cond := u_ws RX0 TX0 4
theorem nmX0 : ∀ a, a < 4 → ∀ b, b < 4 → a ≠ b → (TX0 a).2.1 ≠ (TX0 b).2.1 := by decide +kernel
theorem tyX0_ok : ∀ k, k < 4 → parseFieldDescriptor (TX0 k).2.2.1 = some (tyX0 k) := by decide +kernel
abbrev cX0_init : ByteArray := prog_2_method_1_code
def yX0_init : MethodName := ⟨RX0, "<init>", "()V"⟩
abbrev cX0_copyFrom : ByteArray := prog_2_method_2_code
def yX0_copyFrom : MethodName := ⟨RX0, "copyFrom", "(LPartedSums$Knowledge;)V"⟩
abbrev cX0_forgetPart : ByteArray := prog_2_method_4_code
def yX0_forgetPart : MethodName := ⟨RX0, "forgetPart", "(I)V"⟩
abbrev cX0_knows : ByteArray := prog_2_method_5_code
def yX0_knows : MethodName := ⟨RX0, "knows", "(I)Z"⟩
abbrev cX0_hasGrave : ByteArray := prog_2_method_6_code
def yX0_hasGrave : MethodName := ⟨RX0, "hasGrave", "(I)Z"⟩
abbrev cX0_raise : ByteArray := prog_2_method_7_code
def yX0_raise : MethodName := ⟨RX0, "raise", "(III)V"⟩
abbrev cX0_bequeath : ByteArray := prog_2_method_8_code
def yX0_bequeath : MethodName := ⟨RX0, "bequeath", "(II)V"⟩
abbrev cX0_takeIn : ByteArray := prog_2_method_9_code
def yX0_takeIn : MethodName := ⟨RX0, "takeIn", "(LPartedSums$Knowledge;)I"⟩
abbrev cX0_knowsTheSameAs : ByteArray := prog_2_method_10_code
def yX0_knowsTheSameAs : MethodName := ⟨RX0, "knowsTheSameAs", "(LPartedSums$Knowledge;)Z"⟩
abbrev cX0_allAdded : ByteArray := prog_2_method_11_code
def yX0_allAdded : MethodName := ⟨RX0, "allAdded", "()I"⟩
abbrev cX0_allTaken : ByteArray := prog_2_method_12_code
def yX0_allTaken : MethodName := ⟨RX0, "allTaken", "()I"⟩
abbrev cX0_sum : ByteArray := prog_2_method_13_code
def yX0_sum : MethodName := ⟨RX0, "sum", "()I"⟩
abbrev cX0_knownWriters : ByteArray := prog_2_method_14_code
def yX0_knownWriters : MethodName := ⟨RX0, "knownWriters", "()I"⟩
def RX1 : String := "PartedSums$Letter"
def TX1 : u_T := fun k => match k with
  | 0 => ("PartedSums$Letter", "from", "I", false)
  | 1 => ("PartedSums$Letter", "to", "I", false)
  | 2 => ("PartedSums$Letter", "arrival", "I", false)
  | 3 => ("PartedSums$Letter", "lost", "Z", false)
  | _ => ("PartedSums$Letter", "told", "LPartedSums$Knowledge;", true)
def tyX1 : Nat → FieldType := fun k => match k with
  | 0 => .int
  | 1 => .int
  | 2 => .int
  | 3 => .boolean
  | _ => .object "PartedSums$Knowledge"
abbrev wsX10 : List Cond := u_ws RX1 TX1 5
theorem nmX1 : ∀ a, a < 5 → ∀ b, b < 5 → a ≠ b → (TX1 a).2.1 ≠ (TX1 b).2.1 := by decide +kernel
theorem tyX1_ok : ∀ k, k < 5 → parseFieldDescriptor (TX1 k).2.2.1 = some (tyX1 k) := by decide +kernel
abbrev cX1_init : ByteArray := prog_3_method_1_code
def yX1_init : MethodName := ⟨RX1, "<init>", "()V"⟩
abbrev cX1_copyFrom : ByteArray := prog_3_method_2_code
def yX1_copyFrom : MethodName := ⟨RX1, "copyFrom", "(LPartedSums$Letter;)V"⟩
def RX2 : String := "PartedSums$Script"
def TX2 : u_T := fun k => match k with
  | 0 => ("PartedSums$Script", "characters", "[I", true)
  | 1 => ("PartedSums$Script", "length", "I", false)
  | 2 => ("PartedSums$Script", "orders", "I", false)
  | 3 => ("PartedSums$Script", "faultAt", "I", false)
  | 4 => ("PartedSums$Script", "faultReason", "I", false)
  | 5 => ("PartedSums$Script", "faultCause", "I", false)
  | 6 => ("PartedSums$Script", "kind", "I", false)
  | 7 => ("PartedSums$Script", "numbers", "[I", true)
  | _ => ("PartedSums$Script", "at", "I", false)
def tyX2 : Nat → FieldType := fun k => match k with
  | 0 => .array .int
  | 1 => .int
  | 2 => .int
  | 3 => .int
  | 4 => .int
  | 5 => .int
  | 6 => .int
  | 7 => .array .int
  | _ => .int
abbrev wsX20 : List Cond := u_ws RX2 TX2 9
theorem nmX2 : ∀ a, a < 9 → ∀ b, b < 9 → a ≠ b → (TX2 a).2.1 ≠ (TX2 b).2.1 := by decide +kernel
theorem tyX2_ok : ∀ k, k < 9 → parseFieldDescriptor (TX2 k).2.2.1 = some (tyX2 k) := by decide +kernel
abbrev cX2_init : ByteArray := prog_4_method_1_code
def yX2_init : MethodName := ⟨RX2, "<init>", "()V"⟩
def RX3 : String := "PartedSums$State"
def TX3 : u_T := fun k => match k with
  | 0 => ("PartedSums$State", "views", "[LPartedSums$Knowledge;", true)
  | 1 => ("PartedSums$State", "viewSet", "I", false)
  | 2 => ("PartedSums$State", "homes", "[I", true)
  | 3 => ("PartedSums$State", "heirs", "[I", true)
  | 4 => ("PartedSums$State", "writers", "I", false)
  | 5 => ("PartedSums$State", "letters", "[LPartedSums$Letter;", true)
  | 6 => ("PartedSums$State", "letterCount", "I", false)
  | 7 => ("PartedSums$State", "time", "I", false)
  | 8 => ("PartedSums$State", "lettersTakenIn", "I", false)
  | 9 => ("PartedSums$State", "lettersLost", "I", false)
  | _ => ("PartedSums$State", "partsMerged", "I", false)
def tyX3 : Nat → FieldType := fun k => match k with
  | 0 => .array (.object "PartedSums$Knowledge")
  | 1 => .int
  | 2 => .array .int
  | 3 => .array .int
  | 4 => .int
  | 5 => .array (.object "PartedSums$Letter")
  | 6 => .int
  | 7 => .int
  | 8 => .int
  | 9 => .int
  | _ => .int
abbrev wsX30 : List Cond := u_ws RX3 TX3 11
theorem nmX3 : ∀ a, a < 11 → ∀ b, b < 11 → a ≠ b → (TX3 a).2.1 ≠ (TX3 b).2.1 := by decide +kernel
theorem tyX3_ok : ∀ k, k < 11 → parseFieldDescriptor (TX3 k).2.2.1 = some (tyX3 k) := by decide +kernel
abbrev cX3_init : ByteArray := prog_5_method_1_code
def yX3_init : MethodName := ⟨RX3, "<init>", "()V"⟩
abbrev cX3_copyFrom : ByteArray := prog_5_method_2_code
def yX3_copyFrom : MethodName := ⟨RX3, "copyFrom", "(LPartedSums$State;)V"⟩
abbrev cX3_hasView : ByteArray := prog_5_method_3_code
def yX3_hasView : MethodName := ⟨RX3, "hasView", "(I)Z"⟩
abbrev cX3_hasWriter : ByteArray := prog_5_method_4_code
def yX3_hasWriter : MethodName := ⟨RX3, "hasWriter", "(I)Z"⟩
abbrev cX3_hasRetired : ByteArray := prog_5_method_5_code
def yX3_hasRetired : MethodName := ⟨RX3, "hasRetired", "(I)Z"⟩
abbrev cX3_countViews : ByteArray := prog_5_method_6_code
def yX3_countViews : MethodName := ⟨RX3, "countViews", "()I"⟩
abbrev cX3_countActiveWriters : ByteArray := prog_5_method_7_code
def yX3_countActiveWriters : MethodName := ⟨RX3, "countActiveWriters", "()I"⟩
abbrev cX3_homeOf : ByteArray := prog_5_method_8_code
def yX3_homeOf : MethodName := ⟨RX3, "homeOf", "(I)LPartedSums$Knowledge;"⟩
abbrev cX3_homeVersion : ByteArray := prog_5_method_9_code
def yX3_homeVersion : MethodName := ⟨RX3, "homeVersion", "(I)I"⟩
abbrev cX3_writersAtHome : ByteArray := prog_5_method_10_code
def yX3_writersAtHome : MethodName := ⟨RX3, "writersAtHome", "(I)I"⟩
abbrev cX3_viewsThatKnowTheSame : ByteArray := prog_5_method_11_code
def yX3_viewsThatKnowTheSame : MethodName := ⟨RX3, "viewsThatKnowTheSame", "(I)I"⟩
abbrev cX3_viewsUpToDate : ByteArray := prog_5_method_12_code
def yX3_viewsUpToDate : MethodName := ⟨RX3, "viewsUpToDate", "(I)I"⟩
abbrev cX3_viewsWithGrave : ByteArray := prog_5_method_13_code
def yX3_viewsWithGrave : MethodName := ⟨RX3, "viewsWithGrave", "(I)I"⟩
abbrev cX3_bringWriter : ByteArray := prog_5_method_15_code
def yX3_bringWriter : MethodName := ⟨RX3, "bringWriter", "(I)I"⟩
abbrev cX3_addAmount : ByteArray := prog_5_method_16_code
def yX3_addAmount : MethodName := ⟨RX3, "addAmount", "(II)I"⟩
abbrev cX3_takeAmount : ByteArray := prog_5_method_17_code
def yX3_takeAmount : MethodName := ⟨RX3, "takeAmount", "(II)I"⟩
abbrev cX3_retireWriter : ByteArray := prog_5_method_18_code
def yX3_retireWriter : MethodName := ⟨RX3, "retireWriter", "(II)I"⟩
abbrev cX3_moveWriter : ByteArray := prog_5_method_19_code
def yX3_moveWriter : MethodName := ⟨RX3, "moveWriter", "(II)I"⟩
abbrev cX3_copyView : ByteArray := prog_5_method_20_code
def yX3_copyView : MethodName := ⟨RX3, "copyView", "(I)I"⟩
abbrev cX3_dropView : ByteArray := prog_5_method_21_code
def yX3_dropView : MethodName := ⟨RX3, "dropView", "(I)I"⟩
abbrev cX3_mergeViews : ByteArray := prog_5_method_22_code
def yX3_mergeViews : MethodName := ⟨RX3, "mergeViews", "(II)I"⟩
abbrev cX3_postLetter : ByteArray := prog_5_method_23_code
def yX3_postLetter : MethodName := ⟨RX3, "postLetter", "(III)I"⟩
abbrev cX3_insertLetter : ByteArray := prog_5_method_24_code
def yX3_insertLetter : MethodName := ⟨RX3, "insertLetter", "(I)LPartedSums$Letter;"⟩
abbrev cX3_passTicks : ByteArray := prog_5_method_25_code
def yX3_passTicks : MethodName := ⟨RX3, "passTicks", "(I)I"⟩
abbrev cX3_receive : ByteArray := prog_5_method_26_code
def yX3_receive : MethodName := ⟨RX3, "receive", "(LPartedSums$Letter;)V"⟩
abbrev cX3_removeLetters : ByteArray := prog_5_method_27_code
def yX3_removeLetters : MethodName := ⟨RX3, "removeLetters", "(I)V"⟩
def RX4 : String := "PartedSums"
def TX4 : u_T := fun k => match k with
  | 0 => ("PartedSums", "now", "LPartedSums$State;", false)
  | 1 => ("PartedSums", "trial", "LPartedSums$State;", false)
  | 2 => ("PartedSums", "past", "[LPartedSums$State;", true)
  | 3 => ("PartedSums", "pastStates", "I", false)
  | 4 => ("PartedSums", "scratch", "LPartedSums$Knowledge;", true)
  | _ => ("PartedSums", "script", "LPartedSums$Script;", true)
def tyX4 : Nat → FieldType := fun k => match k with
  | 0 => .object "PartedSums$State"
  | 1 => .object "PartedSums$State"
  | 2 => .array (.object "PartedSums$State")
  | 3 => .int
  | 4 => .object "PartedSums$Knowledge"
  | _ => .object "PartedSums$Script"
abbrev wsX40 : List Cond := u_ws RX4 TX4 6
theorem nmX4 : ∀ a, a < 6 → ∀ b, b < 6 → a ≠ b → (TX4 a).2.1 ≠ (TX4 b).2.1 := by decide +kernel
theorem tyX4_ok : ∀ k, k < 6 → parseFieldDescriptor (TX4 k).2.2.1 = some (tyX4 k) := by decide +kernel
abbrev cX4_init : ByteArray := prog_1_method_1_code
def yX4_init : MethodName := ⟨RX4, "<init>", "()V"⟩
abbrev cX4_writer : ByteArray := prog_1_method_2_code
def yX4_writer : MethodName := ⟨RX4, "writer", "(I)I"⟩
abbrev cX4_add : ByteArray := prog_1_method_3_code
def yX4_add : MethodName := ⟨RX4, "add", "(II)I"⟩
abbrev cX4_take : ByteArray := prog_1_method_4_code
def yX4_take : MethodName := ⟨RX4, "take", "(II)I"⟩
abbrev cX4_retire : ByteArray := prog_1_method_5_code
def yX4_retire : MethodName := ⟨RX4, "retire", "(II)I"⟩
abbrev cX4_move : ByteArray := prog_1_method_6_code
def yX4_move : MethodName := ⟨RX4, "move", "(II)I"⟩
abbrev cX4_view : ByteArray := prog_1_method_7_code
def yX4_view : MethodName := ⟨RX4, "view", "(I)I"⟩
abbrev cX4_drop : ByteArray := prog_1_method_8_code
def yX4_drop : MethodName := ⟨RX4, "drop", "(I)I"⟩
abbrev cX4_merge : ByteArray := prog_1_method_9_code
def yX4_merge : MethodName := ⟨RX4, "merge", "(II)I"⟩
abbrev cX4_post : ByteArray := prog_1_method_10_code
def yX4_post : MethodName := ⟨RX4, "post", "(III)I"⟩
abbrev cX4_tick : ByteArray := prog_1_method_11_code
def yX4_tick : MethodName := ⟨RX4, "tick", "(I)I"⟩
abbrev cX4_viewOf : ByteArray := prog_1_method_12_code
def yX4_viewOf : MethodName := ⟨RX4, "viewOf", "(II)I"⟩
abbrev cX4_partOf : ByteArray := prog_1_method_13_code
def yX4_partOf : MethodName := ⟨RX4, "partOf", "(III)I"⟩
abbrev cX4_writerOf : ByteArray := prog_1_method_14_code
def yX4_writerOf : MethodName := ⟨RX4, "writerOf", "(II)I"⟩
abbrev cX4_letterOf : ByteArray := prog_1_method_15_code
def yX4_letterOf : MethodName := ⟨RX4, "letterOf", "(II)I"⟩
abbrev cX4_count : ByteArray := prog_1_method_22_code
def yX4_count : MethodName := ⟨RX4, "count", "(I)I"⟩
abbrev cX4_freshTrial : ByteArray := prog_1_method_28_code
def yX4_freshTrial : MethodName := ⟨RX4, "freshTrial", "()LPartedSums$State;"⟩
abbrev cX4_settle : ByteArray := prog_1_method_29_code
def yX4_settle : MethodName := ⟨RX4, "settle", "(I)I"⟩
abbrev cX4_isWithin : ByteArray := prog_1_method_32_code
def yX4_isWithin : MethodName := ⟨RX4, "isWithin", "(III)Z"⟩
abbrev cX4_isError : ByteArray := prog_1_method_33_code
def yX4_isError : MethodName := ⟨RX4, "isError", "(I)Z"⟩
def RX5 : String := "PartedSumsModel"
def TX5 : u_T := fun k => match k with
  | _ => ("", "", "", false)
def tyX5 : Nat → FieldType := fun k => match k with
  | _ => .int
abbrev wsX50 : List Cond := u_ws RX5 TX5 0
theorem nmX5 : ∀ a, a < 0 → ∀ b, b < 0 → a ≠ b → (TX5 a).2.1 ≠ (TX5 b).2.1 := by decide +kernel
theorem tyX5_ok : ∀ k, k < 0 → parseFieldDescriptor (TX5 k).2.2.1 = some (tyX5 k) := by decide +kernel
def RJ6 : String := "java/lang/Integer"
def TJ6 : u_T := fun k => match k with
  | _ => ("", "", "", false)
def tyJ6 : Nat → FieldType := fun k => match k with
  | _ => .int
abbrev wsJ60 : List Cond := u_ws RJ6 TJ6 0
theorem nmJ6 : ∀ a, a < 0 → ∀ b, b < 0 → a ≠ b → (TJ6 a).2.1 ≠ (TJ6 b).2.1 := by decide +kernel
theorem tyJ6_ok : ∀ k, k < 0 → parseFieldDescriptor (TJ6 k).2.2.1 = some (tyJ6 k) := by decide +kernel
abbrev cJ6_bitCount_0f7a4 : ByteArray := prog_8_method_49_code
def yJ6_bitCount_0f7a4 : MethodName := ⟨RJ6, "bitCount", "(I)I"⟩
def RJ10 : String := "java/lang/System"
def TJ10 : u_T := fun k => match k with
  | _ => ("", "", "", false)
def tyJ10 : Nat → FieldType := fun k => match k with
  | _ => .int
abbrev wsJ100 : List Cond := u_ws RJ10 TJ10 0
theorem nmJ10 : ∀ a, a < 0 → ∀ b, b < 0 → a ≠ b → (TJ10 a).2.1 ≠ (TJ10 b).2.1 := by decide +kernel
theorem tyJ10_ok : ∀ k, k < 0 → parseFieldDescriptor (TJ10 k).2.2.1 = some (tyJ10 k) := by decide +kernel
def RL : String := "PartedSumsLaw"
abbrev cL_cell : ByteArray := method_2_code
def yL_cell : MethodName := ⟨RL, "cell", "([II)I"⟩
abbrev cL_low : ByteArray := method_3_code
def yL_low : MethodName := ⟨RL, "low", "(II)I"⟩
abbrev cL_ones : ByteArray := method_4_code
def yL_ones : MethodName := ⟨RL, "ones", "(I)I"⟩
abbrev cL_sum : ByteArray := method_5_code
def yL_sum : MethodName := ⟨RL, "sum", "([I[I[II)I"⟩
abbrev cL_views : ByteArray := method_6_code
def yL_views : MethodName := ⟨RL, "views", "([I)I"⟩
abbrev cL_merge : ByteArray := method_7_code
def yL_merge : MethodName := ⟨RL, "merge", "([I[I[III[I[I[II)I"⟩
abbrev cL_same : ByteArray := method_8_code
def yL_same : MethodName := ⟨RL, "same", "([I[III)Z"⟩
abbrev cL_homers : ByteArray := method_9_code
def yL_homers : MethodName := ⟨RL, "homers", "([I[I[II)I"⟩
abbrev cL_drop : ByteArray := method_10_code
def yL_drop : MethodName := ⟨RL, "drop", "([I[I[I[I[II)V"⟩
abbrev cL_next : ByteArray := method_11_code
def yL_next : MethodName := ⟨RL, "next", "([I[I)I"⟩
abbrev cL_tick : ByteArray := method_12_code
def yL_tick : MethodName := ⟨RL, "tick", "([I[I[I[I[I[I[I[I[I[II)I"⟩
abbrev cL_writers : ByteArray := method_13_code
def yL_writers : MethodName := ⟨RL, "writers", "(LPartedSums;[I[I[I[I[I[I[I[III)Z"⟩
abbrev cL_rooms : ByteArray := method_14_code
def yL_rooms : MethodName := ⟨RL, "rooms", "(LPartedSums;[I[I[I[I[I[I[I[III)Z"⟩
abbrev cL_letters : ByteArray := method_15_code
def yL_letters : MethodName := ⟨RL, "letters", "(LPartedSums;[I[I[I[I[I[I[I[I[I[II)Z"⟩
abbrev cL_acts : ByteArray := method_16_code
def yL_acts : MethodName := ⟨RL, "acts", "(LPartedSums;[I[I[I[I[I[I[I[I[I[I[I[II)Z"⟩
abbrev cL_areViews : ByteArray := method_17_code
def yL_areViews : MethodName := ⟨RL, "areViews", "(LPartedSums;[I[I[I[I[I[I[I[I)Z"⟩
abbrev cL_areWriters : ByteArray := method_18_code
def yL_areWriters : MethodName := ⟨RL, "areWriters", "(LPartedSums;[I[I[I[I[I[I)Z"⟩
abbrev cL_areLetters : ByteArray := method_19_code
def yL_areLetters : MethodName := ⟨RL, "areLetters", "(LPartedSums;[I[I[I[I[I[I)Z"⟩
abbrev cL_isSo : ByteArray := method_20_code
def yL_isSo : MethodName := ⟨RL, "isSo", "(LPartedSums;[I[I[I[I[I[I[I[I[I[I[I[I)Z"⟩
abbrev cL_law : ByteArray := code
def yL_law : MethodName := ⟨RL, "law", "([I)Z"⟩
abbrev vwCl : List vw_C := [(RX0, TX0, 4), (RX1, TX1, 5), (RX2, TX2, 9), (RX3, TX3, 11), (RX4, TX4, 6)]
