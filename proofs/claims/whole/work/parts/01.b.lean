theorem goodIn_r {big : List Cond} (ws : List Cond) (ps : List Nat) (hp : ws = ps.filterMap (fun i => big[i]?)) (h : ws.all goodWord = true) : GoodIn big ws := by
  intro w hw
  have h1 := List.all_eq_true.mp h w hw
  rw [hp] at hw
  obtain ⟨i, -, hi⟩ := List.mem_filterMap.mp hw
  have hm : w ∈ big := by first | exact List.mem_of_getElem? hi | exact List.getElem?_mem hi
  exact ⟨hm, good_of_word h1⟩
theorem goodIn_app {big a b : List Cond} (ha : GoodIn big a) (hb : GoodIn big b) : GoodIn big (a ++ b) := fun w h => (List.mem_append.mp h).elim (ha w) (hb w)
theorem goodIn_ca {big a b : List Cond} {c : Cond} (ha : GoodIn big (c :: a)) (hb : GoodIn big b) : GoodIn big (c :: (a ++ b)) := fun w h => (List.mem_cons.mp h).elim (fun e => ha w (List.mem_cons.mpr (Or.inl e))) (fun h => (List.mem_append.mp h).elim (fun h => ha w (List.mem_cons.mpr (Or.inr h))) (hb w))
theorem goodIn_sub {big ws : List Cond} (hm : ∀ w ∈ ws, w ∈ big) (h : ws.all goodWord = true) : GoodIn big ws := fun w hw => ⟨hm w hw, good_of_word (List.all_eq_true.mp h w hw)⟩
def RX0 : String := "PayScales$Agreement"
def TX0 : u_T := fun k => match k with
  | 0 => ("PayScales$Agreement", "number", "I", true)
  | 1 => ("PayScales$Agreement", "from", "I", true)
  | 2 => ("PayScales$Agreement", "told", "I", true)
  | _ => ("PayScales$Agreement", "lines", "Ljava/util/ArrayList;", true)
def tyX0 : Nat → FieldType := fun k => match k with
  | 0 => .int
  | 1 => .int
  | 2 => .int
  | _ => .object "java/util/ArrayList"
abbrev wsX00 : List Cond := u_ws RX0 TX0 4
theorem nmX0 : ∀ a, a < 4 → ∀ b, b < 4 → a ≠ b → (TX0 a).2.1 ≠ (TX0 b).2.1 := by decide +kernel
theorem tyX0_ok : ∀ k, k < 4 → parseFieldDescriptor (TX0 k).2.2.1 = some (tyX0 k) := by decide +kernel
abbrev cX0_init : ByteArray := prog_2_method_1_code
def yX0_init : MethodName := ⟨RX0, "<init>", "(IIILjava/util/ArrayList;)V"⟩
def RX1 : String := "PayScales$Appraisal"
def TX1 : u_T := fun k => match k with
  | 0 => ("PayScales$Appraisal", "scale", "LPayScales$Line;", false)
  | 1 => ("PayScales$Appraisal", "stepDays", "I", false)
  | 2 => ("PayScales$Appraisal", "points", "I", false)
  | 3 => ("PayScales$Appraisal", "grade", "I", false)
  | 4 => ("PayScales$Appraisal", "step", "I", false)
  | 5 => ("PayScales$Appraisal", "base", "I", false)
  | _ => ("PayScales$Appraisal", "amount", "I", false)
def tyX1 : Nat → FieldType := fun k => match k with
  | 0 => .object "PayScales$Line"
  | 1 => .int
  | 2 => .int
  | 3 => .int
  | 4 => .int
  | 5 => .int
  | _ => .int
abbrev wsX10 : List Cond := u_ws RX1 TX1 7
theorem nmX1 : ∀ a, a < 7 → ∀ b, b < 7 → a ≠ b → (TX1 a).2.1 ≠ (TX1 b).2.1 := by decide +kernel
theorem tyX1_ok : ∀ k, k < 7 → parseFieldDescriptor (TX1 k).2.2.1 = some (tyX1 k) := by decide +kernel
abbrev cX1_init : ByteArray := prog_3_method_1_code
def yX1_init : MethodName := ⟨RX1, "<init>", "()V"⟩
abbrev cX1_renew : ByteArray := prog_3_method_2_code
def yX1_renew : MethodName := ⟨RX1, "renew", "(LPayScales$Rules;[II)V"⟩
abbrev cX1_follow : ByteArray := prog_3_method_3_code
def yX1_follow : MethodName := ⟨RX1, "follow", "(LPayScales$Rules;[II)V"⟩
abbrev cX1_daysToNextStep : ByteArray := prog_3_method_4_code
def yX1_daysToNextStep : MethodName := ⟨RX1, "daysToNextStep", "(I)I"⟩
abbrev cX1_stepAfter : ByteArray := prog_3_method_5_code
def yX1_stepAfter : MethodName := ⟨RX1, "stepAfter", "(I)I"⟩
abbrev cX1_moveStep : ByteArray := prog_3_method_6_code
def yX1_moveStep : MethodName := ⟨RX1, "moveStep", "(LPayScales$Rules;[II)V"⟩
def RX2 : String := "PayScales$Line"
def TX2 : u_T := fun k => match k with
  | 0 => ("PayScales$Line", "sort", "I", true)
  | 1 => ("PayScales$Line", "ends", "Z", true)
  | 2 => ("PayScales$Line", "scaleNumbers", "[I", true)
  | 3 => ("PayScales$Line", "scaleLength", "I", false)
  | 4 => ("PayScales$Line", "name", "I", false)
  | 5 => ("PayScales$Line", "fact", "I", false)
  | 6 => ("PayScales$Line", "sign", "I", false)
  | 7 => ("PayScales$Line", "bound", "I", false)
  | 8 => ("PayScales$Line", "number", "I", false)
  | _ => ("PayScales$Line", "percent", "Z", false)
def tyX2 : Nat → FieldType := fun k => match k with
  | 0 => .int
  | 1 => .boolean
  | 2 => .array .int
  | 3 => .int
  | 4 => .int
  | 5 => .int
  | 6 => .int
  | 7 => .int
  | 8 => .int
  | _ => .boolean
abbrev wsX20 : List Cond := u_ws RX2 TX2 10
theorem nmX2 : ∀ a, a < 10 → ∀ b, b < 10 → a ≠ b → (TX2 a).2.1 ≠ (TX2 b).2.1 := by decide +kernel
theorem tyX2_ok : ∀ k, k < 10 → parseFieldDescriptor (TX2 k).2.2.1 = some (tyX2 k) := by decide +kernel
abbrev cX2_init : ByteArray := prog_4_method_1_code
def yX2_init : MethodName := ⟨RX2, "<init>", "(IZ)V"⟩
abbrev cX2_key : ByteArray := prog_4_method_2_code
def yX2_key : MethodName := ⟨RX2, "key", "()I"⟩
abbrev cX2_holds : ByteArray := prog_4_method_3_code
def yX2_holds : MethodName := ⟨RX2, "holds", "([I)Z"⟩
abbrev cX2_addToScale : ByteArray := prog_4_method_4_code
def yX2_addToScale : MethodName := ⟨RX2, "addToScale", "(I)V"⟩
abbrev cX2_scaleNumber : ByteArray := prog_4_method_5_code
def yX2_scaleNumber : MethodName := ⟨RX2, "scaleNumber", "(I)I"⟩
def RX3 : String := "PayScales$Note"
def TX3 : u_T := fun k => match k with
  | 0 => ("PayScales$Note", "post", "I", true)
  | 1 => ("PayScales$Note", "what", "I", true)
  | 2 => ("PayScales$Note", "from", "I", true)
  | 3 => ("PayScales$Note", "told", "I", true)
  | _ => ("PayScales$Note", "value", "I", true)
def tyX3 : Nat → FieldType := fun k => match k with
  | 0 => .int
  | 1 => .int
  | 2 => .int
  | 3 => .int
  | _ => .int
abbrev wsX30 : List Cond := u_ws RX3 TX3 5
theorem nmX3 : ∀ a, a < 5 → ∀ b, b < 5 → a ≠ b → (TX3 a).2.1 ≠ (TX3 b).2.1 := by decide +kernel
theorem tyX3_ok : ∀ k, k < 5 → parseFieldDescriptor (TX3 k).2.2.1 = some (tyX3 k) := by decide +kernel
abbrev cX3_init : ByteArray := prog_5_method_1_code
def yX3_init : MethodName := ⟨RX3, "<init>", "(IIIII)V"⟩
def RX4 : String := "PayScales$Reader"
def TX4 : u_T := fun k => match k with
  | 0 => ("PayScales$Reader", "text", "[B", true)
  | 1 => ("PayScales$Reader", "seenKeys", "[Z", true)
  | 2 => ("PayScales$Reader", "length", "I", false)
  | 3 => ("PayScales$Reader", "start", "I", false)
  | 4 => ("PayScales$Reader", "behind", "I", false)
  | 5 => ("PayScales$Reader", "kind", "I", false)
  | 6 => ("PayScales$Reader", "fault", "I", false)
  | _ => ("PayScales$Reader", "place", "I", false)
def tyX4 : Nat → FieldType := fun k => match k with
  | 0 => .array .byte
  | 1 => .array .boolean
  | 2 => .int
  | 3 => .int
  | 4 => .int
  | 5 => .int
  | 6 => .int
  | _ => .int
abbrev wsX40 : List Cond := u_ws RX4 TX4 8
theorem nmX4 : ∀ a, a < 8 → ∀ b, b < 8 → a ≠ b → (TX4 a).2.1 ≠ (TX4 b).2.1 := by decide +kernel
theorem tyX4_ok : ∀ k, k < 8 → parseFieldDescriptor (TX4 k).2.2.1 = some (tyX4 k) := by decide +kernel
abbrev cX4_init : ByteArray := prog_6_method_1_code
def yX4_init : MethodName := ⟨RX4, "<init>", "([B)V"⟩
abbrev cX4_read : ByteArray := prog_6_method_2_code
def yX4_read : MethodName := ⟨RX4, "read", "(I)Ljava/util/ArrayList;"⟩
abbrev cX4_begin : ByteArray := prog_6_method_3_code
def yX4_begin : MethodName := ⟨RX4, "begin", "(I)V"⟩
abbrev cX4_takeFirstWord : ByteArray := prog_6_method_4_code
def yX4_takeFirstWord : MethodName := ⟨RX4, "takeFirstWord", "(I)I"⟩
abbrev cX4_readEnd : ByteArray := prog_6_method_5_code
def yX4_readEnd : MethodName := ⟨RX4, "readEnd", "()LPayScales$Line;"⟩
abbrev cX4_readBody : ByteArray := prog_6_method_6_code
def yX4_readBody : MethodName := ⟨RX4, "readBody", "(I)LPayScales$Line;"⟩
abbrev cX4_readCondition : ByteArray := prog_6_method_7_code
def yX4_readCondition : MethodName := ⟨RX4, "readCondition", "(LPayScales$Line;)V"⟩
abbrev cX4_readScale : ByteArray := prog_6_method_8_code
def yX4_readScale : MethodName := ⟨RX4, "readScale", "(LPayScales$Line;)V"⟩
abbrev cX4_readStepDays : ByteArray := prog_6_method_9_code
def yX4_readStepDays : MethodName := ⟨RX4, "readStepDays", "(LPayScales$Line;)V"⟩
abbrev cX4_readPlusNumber : ByteArray := prog_6_method_10_code
def yX4_readPlusNumber : MethodName := ⟨RX4, "readPlusNumber", "(LPayScales$Line;)V"⟩
abbrev cX4_checkKey : ByteArray := prog_6_method_11_code
def yX4_checkKey : MethodName := ⟨RX4, "checkKey", "(II)V"⟩
abbrev cX4_refuse : ByteArray := prog_6_method_12_code
def yX4_refuse : MethodName := ⟨RX4, "refuse", "(II)V"⟩
abbrev cX4_takeLetter : ByteArray := prog_6_method_13_code
def yX4_takeLetter : MethodName := ⟨RX4, "takeLetter", "(II)I"⟩
abbrev cX4_takeRelation : ByteArray := prog_6_method_14_code
def yX4_takeRelation : MethodName := ⟨RX4, "takeRelation", "()I"⟩
abbrev cX4_takeNumber : ByteArray := prog_6_method_15_code
def yX4_takeNumber : MethodName := ⟨RX4, "takeNumber", "()I"⟩
abbrev cX4_takeSign : ByteArray := prog_6_method_16_code
def yX4_takeSign : MethodName := ⟨RX4, "takeSign", "(I)V"⟩
abbrev cX4_takeFrom : ByteArray := prog_6_method_17_code
def yX4_takeFrom : MethodName := ⟨RX4, "takeFrom", "()V"⟩
abbrev cX4_wordOfToken : ByteArray := prog_6_method_18_code
def yX4_wordOfToken : MethodName := ⟨RX4, "wordOfToken", "()I"⟩
abbrev cX4_spelling : ByteArray := prog_6_method_19_code
def yX4_spelling : MethodName := ⟨RX4, "spelling", "(I)Ljava/lang/String;"⟩
abbrev cX4_tokenIs : ByteArray := prog_6_method_20_code
def yX4_tokenIs : MethodName := ⟨RX4, "tokenIs", "(Ljava/lang/String;)Z"⟩
abbrev cX4_numberOfToken : ByteArray := prog_6_method_21_code
def yX4_numberOfToken : MethodName := ⟨RX4, "numberOfToken", "()I"⟩
abbrev cX4_advance : ByteArray := prog_6_method_22_code
def yX4_advance : MethodName := ⟨RX4, "advance", "()V"⟩
abbrev cX4_kindAt : ByteArray := prog_6_method_23_code
def yX4_kindAt : MethodName := ⟨RX4, "kindAt", "(I)I"⟩
abbrev cX4_byteAt : ByteArray := prog_6_method_24_code
def yX4_byteAt : MethodName := ⟨RX4, "byteAt", "(I)I"⟩
def RX5 : String := "PayScales$Rows"
def TX5 : u_T := fun k => match k with
  | 0 => ("PayScales$Rows", "width", "I", true)
  | 1 => ("PayScales$Rows", "cells", "[J", true)
  | _ => ("PayScales$Rows", "size", "I", false)
def tyX5 : Nat → FieldType := fun k => match k with
  | 0 => .int
  | 1 => .array .long
  | _ => .int
abbrev wsX50 : List Cond := u_ws RX5 TX5 3
theorem nmX5 : ∀ a, a < 3 → ∀ b, b < 3 → a ≠ b → (TX5 a).2.1 ≠ (TX5 b).2.1 := by decide +kernel
theorem tyX5_ok : ∀ k, k < 3 → parseFieldDescriptor (TX5 k).2.2.1 = some (tyX5 k) := by decide +kernel
abbrev cX5_init : ByteArray := prog_7_method_1_code
def yX5_init : MethodName := ⟨RX5, "<init>", "(II)V"⟩
abbrev cX5_clear : ByteArray := prog_7_method_2_code
def yX5_clear : MethodName := ⟨RX5, "clear", "()V"⟩
abbrev cX5_add : ByteArray := prog_7_method_3_code
def yX5_add : MethodName := ⟨RX5, "add", "(JJJJ)V"⟩
abbrev cX5_cell : ByteArray := prog_7_method_4_code
def yX5_cell : MethodName := ⟨RX5, "cell", "(II)J"⟩
abbrev cX5_put : ByteArray := prog_7_method_5_code
def yX5_put : MethodName := ⟨RX5, "put", "(IJ)V"⟩
def RX6 : String := "PayScales$Rules"
def TX6 : u_T := fun k => match k with
  | 0 => ("PayScales$Rules", "winners", "[LPayScales$Line;", true)
  | 1 => ("PayScales$Rules", "winnerAgreements", "[I", true)
  | _ => ("PayScales$Rules", "lineCounts", "[I", true)
def tyX6 : Nat → FieldType := fun k => match k with
  | 0 => .array (.object "PayScales$Line")
  | 1 => .array .int
  | _ => .array .int
abbrev wsX60 : List Cond := u_ws RX6 TX6 3
theorem nmX6 : ∀ a, a < 3 → ∀ b, b < 3 → a ≠ b → (TX6 a).2.1 ≠ (TX6 b).2.1 := by decide +kernel
theorem tyX6_ok : ∀ k, k < 3 → parseFieldDescriptor (TX6 k).2.2.1 = some (tyX6 k) := by decide +kernel
abbrev cX6_init : ByteArray := prog_8_method_1_code
def yX6_init : MethodName := ⟨RX6, "<init>", "()V"⟩
abbrev cX6_clear : ByteArray := prog_8_method_2_code
def yX6_clear : MethodName := ⟨RX6, "clear", "()V"⟩
abbrev cX6_take : ByteArray := prog_8_method_3_code
def yX6_take : MethodName := ⟨RX6, "take", "(LPayScales$Agreement;)V"⟩
abbrev cX6_winnerOf : ByteArray := prog_8_method_4_code
def yX6_winnerOf : MethodName := ⟨RX6, "winnerOf", "(I)LPayScales$Line;"⟩
abbrev cX6_agreementOf : ByteArray := prog_8_method_5_code
def yX6_agreementOf : MethodName := ⟨RX6, "agreementOf", "(I)I"⟩
abbrev cX6_linesOf : ByteArray := prog_8_method_6_code
def yX6_linesOf : MethodName := ⟨RX6, "linesOf", "(I)I"⟩
abbrev cX6_lineOf : ByteArray := prog_8_method_7_code
def yX6_lineOf : MethodName := ⟨RX6, "lineOf", "(II)LPayScales$Line;"⟩
abbrev cX6_numberOf : ByteArray := prog_8_method_8_code
def yX6_numberOf : MethodName := ⟨RX6, "numberOf", "(II)I"⟩
abbrev cX6_pointsBy : ByteArray := prog_8_method_9_code
def yX6_pointsBy : MethodName := ⟨RX6, "pointsBy", "([I)I"⟩
abbrev cX6_gradeBy : ByteArray := prog_8_method_10_code
def yX6_gradeBy : MethodName := ⟨RX6, "gradeBy", "(I)I"⟩
abbrev cX6_amountBy : ByteArray := prog_8_method_11_code
def yX6_amountBy : MethodName := ⟨RX6, "amountBy", "(I[I)I"⟩
def RX7 : String := "PayScales$Walk"
def TX7 : u_T := fun k => match k with
  | 0 => ("PayScales$Walk", "agreements", "Ljava/util/ArrayList;", true)
  | 1 => ("PayScales$Walk", "notes", "Ljava/util/ArrayList;", true)
  | 2 => ("PayScales$Walk", "persons", "[I", true)
  | 3 => ("PayScales$Walk", "rules", "LPayScales$Rules;", true)
  | 4 => ("PayScales$Walk", "appraisal", "LPayScales$Appraisal;", true)
  | 5 => ("PayScales$Walk", "values", "[I", true)
  | 6 => ("PayScales$Walk", "heldPosts", "[I", true)
  | 7 => ("PayScales$Walk", "post", "I", false)
  | 8 => ("PayScales$Walk", "known", "I", false)
  | 9 => ("PayScales$Walk", "day", "I", false)
  | 10 => ("PayScales$Walk", "agreementsPassed", "I", false)
  | 11 => ("PayScales$Walk", "notesPassed", "I", false)
  | 12 => ("PayScales$Walk", "changed", "Z", false)
  | 13 => ("PayScales$Walk", "protectBegins", "Z", false)
  | 14 => ("PayScales$Walk", "service", "I", false)
  | 15 => ("PayScales$Walk", "daysWithout", "I", false)
  | 16 => ("PayScales$Walk", "floor", "I", false)
  | _ => ("PayScales$Walk", "given", "I", false)
def tyX7 : Nat → FieldType := fun k => match k with
  | 0 => .object "java/util/ArrayList"
  | 1 => .object "java/util/ArrayList"
  | 2 => .array .int
  | 3 => .object "PayScales$Rules"
  | 4 => .object "PayScales$Appraisal"
  | 5 => .array .int
  | 6 => .array .int
  | 7 => .int
  | 8 => .int
  | 9 => .int
  | 10 => .int
  | 11 => .int
  | 12 => .boolean
  | 13 => .boolean
  | 14 => .int
  | 15 => .int
  | 16 => .int
  | _ => .int
abbrev wsX70 : List Cond := u_ws RX7 TX7 18
theorem nmX7 : ∀ a, a < 18 → ∀ b, b < 18 → a ≠ b → (TX7 a).2.1 ≠ (TX7 b).2.1 := by decide +kernel
theorem tyX7_ok : ∀ k, k < 18 → parseFieldDescriptor (TX7 k).2.2.1 = some (tyX7 k) := by decide +kernel
abbrev cX7_init : ByteArray := prog_9_method_1_code
def yX7_init : MethodName := ⟨RX7, "<init>", "(Ljava/util/ArrayList;Ljava/util/ArrayList;[ILPayScales$Rules;)V"⟩
abbrev cX7_begin : ByteArray := prog_9_method_2_code
def yX7_begin : MethodName := ⟨RX7, "begin", "(II)V"⟩
abbrev cX7_goTo : ByteArray := prog_9_method_3_code
def yX7_goTo : MethodName := ⟨RX7, "goTo", "(I)V"⟩
abbrev cX7_payOfDays : ByteArray := prog_9_method_4_code
def yX7_payOfDays : MethodName := ⟨RX7, "payOfDays", "(I)J"⟩
abbrev cX7_payOfDay : ByteArray := prog_9_method_5_code
def yX7_payOfDay : MethodName := ⟨RX7, "payOfDay", "()J"⟩
abbrev cX7_isHeld : ByteArray := prog_9_method_6_code
def yX7_isHeld : MethodName := ⟨RX7, "isHeld", "()Z"⟩
abbrev cX7_tell : ByteArray := prog_9_method_7_code
def yX7_tell : MethodName := ⟨RX7, "tell", "(I)I"⟩
abbrev cX7_daysAlike : ByteArray := prog_9_method_8_code
def yX7_daysAlike : MethodName := ⟨RX7, "daysAlike", "(I)I"⟩
abbrev cX7_passDays : ByteArray := prog_9_method_9_code
def yX7_passDays : MethodName := ⟨RX7, "passDays", "(I)V"⟩
abbrev cX7_isServing : ByteArray := prog_9_method_10_code
def yX7_isServing : MethodName := ⟨RX7, "isServing", "()Z"⟩
abbrev cX7_openDay : ByteArray := prog_9_method_11_code
def yX7_openDay : MethodName := ⟨RX7, "openDay", "()V"⟩
abbrev cX7_takeAgreements : ByteArray := prog_9_method_12_code
def yX7_takeAgreements : MethodName := ⟨RX7, "takeAgreements", "()V"⟩
abbrev cX7_takeNotes : ByteArray := prog_9_method_13_code
def yX7_takeNotes : MethodName := ⟨RX7, "takeNotes", "()V"⟩
abbrev cX7_takeNote : ByteArray := prog_9_method_14_code
def yX7_takeNote : MethodName := ⟨RX7, "takeNote", "(LPayScales$Note;)V"⟩
abbrev cX7_give : ByteArray := prog_9_method_15_code
def yX7_give : MethodName := ⟨RX7, "give", "()V"⟩
def RX8 : String := "PayScales"
def TX8 : u_T := fun k => match k with
  | 0 => ("PayScales", "tape", "[B", true)
  | 1 => ("PayScales", "reader", "LPayScales$Reader;", true)
  | 2 => ("PayScales", "agreements", "Ljava/util/ArrayList;", true)
  | 3 => ("PayScales", "notes", "Ljava/util/ArrayList;", true)
  | 4 => ("PayScales", "persons", "[I", true)
  | 5 => ("PayScales", "rules", "LPayScales$Rules;", true)
  | 6 => ("PayScales", "walk", "LPayScales$Walk;", true)
  | 7 => ("PayScales", "paidSums", "[J", true)
  | 8 => ("PayScales", "payments", "LPayScales$Rows;", true)
  | 9 => ("PayScales", "pairs", "LPayScales$Rows;", true)
  | 10 => ("PayScales", "meetings", "LPayScales$Rows;", true)
  | 11 => ("PayScales", "pointsOfPosts", "[I", true)
  | 12 => ("PayScales", "amountsOfPosts", "[I", true)
  | 13 => ("PayScales", "today", "I", false)
  | 14 => ("PayScales", "tapeLength", "I", false)
  | 15 => ("PayScales", "lineCount", "I", false)
  | 16 => ("PayScales", "postCount", "I", false)
  | _ => ("PayScales", "runCount", "I", false)
def tyX8 : Nat → FieldType := fun k => match k with
  | 0 => .array .byte
  | 1 => .object "PayScales$Reader"
  | 2 => .object "java/util/ArrayList"
  | 3 => .object "java/util/ArrayList"
  | 4 => .array .int
  | 5 => .object "PayScales$Rules"
  | 6 => .object "PayScales$Walk"
  | 7 => .array .long
  | 8 => .object "PayScales$Rows"
  | 9 => .object "PayScales$Rows"
  | 10 => .object "PayScales$Rows"
  | 11 => .array .int
  | 12 => .array .int
  | 13 => .int
  | 14 => .int
  | 15 => .int
  | 16 => .int
  | _ => .int
abbrev wsX80 : List Cond := u_ws RX8 TX8 18
theorem nmX8 : ∀ a, a < 18 → ∀ b, b < 18 → a ≠ b → (TX8 a).2.1 ≠ (TX8 b).2.1 := by decide +kernel
theorem tyX8_ok : ∀ k, k < 18 → parseFieldDescriptor (TX8 k).2.2.1 = some (tyX8 k) := by decide +kernel
abbrev cX8_init : ByteArray := prog_1_method_1_code
def yX8_init : MethodName := ⟨RX8, "<init>", "()V"⟩
abbrev cX8_feed : ByteArray := prog_1_method_2_code
def yX8_feed : MethodName := ⟨RX8, "feed", "(IIIII)I"⟩
abbrev cX8_agree : ByteArray := prog_1_method_3_code
def yX8_agree : MethodName := ⟨RX8, "agree", "(II)I"⟩
abbrev cX8_fault : ByteArray := prog_1_method_4_code
def yX8_fault : MethodName := ⟨RX8, "fault", "(I)I"⟩
abbrev cX8_pass : ByteArray := prog_1_method_5_code
def yX8_pass : MethodName := ⟨RX8, "pass", "(I)I"⟩
abbrev cX8_post : ByteArray := prog_1_method_6_code
def yX8_post : MethodName := ⟨RX8, "post", "(I)I"⟩
abbrev cX8_note : ByteArray := prog_1_method_7_code
def yX8_note : MethodName := ⟨RX8, "note", "(IIII)I"⟩
abbrev cX8_look : ByteArray := prog_1_method_8_code
def yX8_look : MethodName := ⟨RX8, "look", "(IIII)I"⟩
abbrev cX8_pay : ByteArray := prog_1_method_9_code
def yX8_pay : MethodName := ⟨RX8, "pay", "(III)J"⟩
abbrev cX8_due : ByteArray := prog_1_method_10_code
def yX8_due : MethodName := ⟨RX8, "due", "(III)J"⟩
abbrev cX8_run : ByteArray := prog_1_method_11_code
def yX8_run : MethodName := ⟨RX8, "run", "()I"⟩
abbrev cX8_payment : ByteArray := prog_1_method_12_code
def yX8_payment : MethodName := ⟨RX8, "payment", "(II)J"⟩
abbrev cX8_paid : ByteArray := prog_1_method_13_code
def yX8_paid : MethodName := ⟨RX8, "paid", "(II)J"⟩
abbrev cX8_cost : ByteArray := prog_1_method_14_code
def yX8_cost : MethodName := ⟨RX8, "cost", "(III)J"⟩
abbrev cX8_like : ByteArray := prog_1_method_15_code
def yX8_like : MethodName := ⟨RX8, "like", "(III)I"⟩
abbrev cX8_pair : ByteArray := prog_1_method_16_code
def yX8_pair : MethodName := ⟨RX8, "pair", "(II)I"⟩
abbrev cX8_meet : ByteArray := prog_1_method_17_code
def yX8_meet : MethodName := ⟨RX8, "meet", "(II)I"⟩
abbrev cX8_met : ByteArray := prog_1_method_18_code
def yX8_met : MethodName := ⟨RX8, "met", "(II)I"⟩
abbrev cX8_count : ByteArray := prog_1_method_19_code
def yX8_count : MethodName := ⟨RX8, "count", "(I)I"⟩
abbrev cX8_isPost : ByteArray := prog_1_method_20_code
def yX8_isPost : MethodName := ⟨RX8, "isPost", "(I)Z"⟩
abbrev cX8_isDay : ByteArray := prog_1_method_21_code
def yX8_isDay : MethodName := ⟨RX8, "isDay", "(I)Z"⟩
abbrev cX8_isMonth : ByteArray := prog_1_method_22_code
def yX8_isMonth : MethodName := ⟨RX8, "isMonth", "(I)Z"⟩
abbrev cX8_isKnown : ByteArray := prog_1_method_23_code
def yX8_isKnown : MethodName := ⟨RX8, "isKnown", "(I)Z"⟩
abbrev cX8_feedNumber : ByteArray := prog_1_method_24_code
def yX8_feedNumber : MethodName := ⟨RX8, "feedNumber", "(I)V"⟩
abbrev cX8_canBecome : ByteArray := prog_1_method_25_code
def yX8_canBecome : MethodName := ⟨RX8, "canBecome", "(II)Z"⟩
abbrev cX8_isPart : ByteArray := prog_1_method_26_code
def yX8_isPart : MethodName := ⟨RX8, "isPart", "(I)Z"⟩
abbrev cX8_placeOfAgreement : ByteArray := prog_1_method_27_code
def yX8_placeOfAgreement : MethodName := ⟨RX8, "placeOfAgreement", "(I)I"⟩
abbrev cX8_placeOfNote : ByteArray := prog_1_method_28_code
def yX8_placeOfNote : MethodName := ⟨RX8, "placeOfNote", "(I)I"⟩
abbrev cX8_dueOfMonths : ByteArray := prog_1_method_29_code
def yX8_dueOfMonths : MethodName := ⟨RX8, "dueOfMonths", "(IIII)J"⟩
abbrev cX8_settle : ByteArray := prog_1_method_30_code
def yX8_settle : MethodName := ⟨RX8, "settle", "(IIJ)V"⟩
abbrev cX8_areLike : ByteArray := prog_1_method_31_code
def yX8_areLike : MethodName := ⟨RX8, "areLike", "(III)Z"⟩
abbrev cX8_addPair : ByteArray := prog_1_method_32_code
def yX8_addPair : MethodName := ⟨RX8, "addPair", "(II)V"⟩
abbrev cX8_commonDivisor : ByteArray := prog_1_method_33_code
def yX8_commonDivisor : MethodName := ⟨RX8, "commonDivisor", "(II)I"⟩
def RX9 : String := "PayScalesModel"
def TX9 : u_T := fun k => match k with
  | 0 => ("PayScalesModel", "thrown", "I", false)
  | 1 => ("PayScalesModel", "tape", "[I", true)
  | 2 => ("PayScalesModel", "taped", "I", false)
  | 3 => ("PayScalesModel", "today", "I", false)
  | 4 => ("PayScalesModel", "toldOn", "[I", true)
  | 5 => ("PayScalesModel", "fromDay", "[I", true)
  | 6 => ("PayScalesModel", "firstLine", "[I", true)
  | 7 => ("PayScalesModel", "agreements", "I", false)
  | 8 => ("PayScalesModel", "lineKey", "[I", true)
  | 9 => ("PayScalesModel", "isEnd", "[Z", true)
  | 10 => ("PayScalesModel", "lineFact", "[I", true)
  | 11 => ("PayScalesModel", "lineSign", "[I", true)
  | 12 => ("PayScalesModel", "lineBy", "[I", true)
  | 13 => ("PayScalesModel", "lineNumber", "[I", true)
  | 14 => ("PayScalesModel", "isShare", "[Z", true)
  | 15 => ("PayScalesModel", "scales", "[I", true)
  | 16 => ("PayScalesModel", "scaleMany", "[I", true)
  | 17 => ("PayScalesModel", "size", "I", false)
  | 18 => ("PayScalesModel", "at", "I", false)
  | 19 => ("PayScalesModel", "place", "I", false)
  | 20 => ("PayScalesModel", "sort", "I", false)
  | 21 => ("PayScalesModel", "value", "I", false)
  | 22 => ("PayScalesModel", "fault", "I", false)
  | 23 => ("PayScalesModel", "faultPlace", "I", false)
  | 24 => ("PayScalesModel", "lastFault", "I", false)
  | 25 => ("PayScalesModel", "lastPlace", "I", false)
  | 26 => ("PayScalesModel", "lines", "I", false)
  | 27 => ("PayScalesModel", "personOf", "[I", true)
  | 28 => ("PayScalesModel", "posts", "I", false)
  | 29 => ("PayScalesModel", "notePost", "[I", true)
  | 30 => ("PayScalesModel", "noteWhat", "[I", true)
  | 31 => ("PayScalesModel", "noteFrom", "[I", true)
  | 32 => ("PayScalesModel", "noteTold", "[I", true)
  | 33 => ("PayScalesModel", "noteValue", "[I", true)
  | 34 => ("PayScalesModel", "notes", "I", false)
  | 35 => ("PayScalesModel", "wins", "[I", true)
  | 36 => ("PayScalesModel", "winner", "[I", true)
  | 37 => ("PayScalesModel", "meets", "[I", true)
  | 38 => ("PayScalesModel", "now", "[I", true)
  | 39 => ("PayScalesModel", "service", "[I", true)
  | 40 => ("PayScalesModel", "away", "[I", true)
  | 41 => ("PayScalesModel", "points", "[I", true)
  | 42 => ("PayScalesModel", "grade", "[I", true)
  | 43 => ("PayScalesModel", "step", "[I", true)
  | 44 => ("PayScalesModel", "basePay", "[I", true)
  | 45 => ("PayScalesModel", "amount", "[I", true)
  | 46 => ("PayScalesModel", "given", "[I", true)
  | 47 => ("PayScalesModel", "floor", "[I", true)
  | 48 => ("PayScalesModel", "hasFloor", "[Z", true)
  | 49 => ("PayScalesModel", "dues", "[J", true)
  | 50 => ("PayScalesModel", "paid", "[J", true)
  | 51 => ("PayScalesModel", "paymentPost", "[I", true)
  | 52 => ("PayScalesModel", "paymentMonth", "[I", true)
  | 53 => ("PayScalesModel", "payments", "[J", true)
  | 54 => ("PayScalesModel", "paymentMany", "I", false)
  | 55 => ("PayScalesModel", "runs", "I", false)
  | 56 => ("PayScalesModel", "pairs", "[I", true)
  | 57 => ("PayScalesModel", "pairMany", "I", false)
  | 58 => ("PayScalesModel", "mets", "[I", true)
  | _ => ("PayScalesModel", "metMany", "I", false)
def tyX9 : Nat → FieldType := fun k => match k with
  | 0 => .int
  | 1 => .array .int
  | 2 => .int
  | 3 => .int
  | 4 => .array .int
  | 5 => .array .int
  | 6 => .array .int
  | 7 => .int
  | 8 => .array .int
  | 9 => .array .boolean
  | 10 => .array .int
  | 11 => .array .int
  | 12 => .array .int
  | 13 => .array .int
  | 14 => .array .boolean
  | 15 => .array .int
  | 16 => .array .int
  | 17 => .int
  | 18 => .int
  | 19 => .int
  | 20 => .int
  | 21 => .int
  | 22 => .int
  | 23 => .int
  | 24 => .int
  | 25 => .int
  | 26 => .int
  | 27 => .array .int
  | 28 => .int
  | 29 => .array .int
  | 30 => .array .int
  | 31 => .array .int
  | 32 => .array .int
  | 33 => .array .int
  | 34 => .int
  | 35 => .array .int
  | 36 => .array .int
  | 37 => .array .int
  | 38 => .array .int
  | 39 => .array .int
  | 40 => .array .int
  | 41 => .array .int
  | 42 => .array .int
  | 43 => .array .int
  | 44 => .array .int
  | 45 => .array .int
  | 46 => .array .int
  | 47 => .array .int
  | 48 => .array .boolean
  | 49 => .array .long
  | 50 => .array .long
  | 51 => .array .int
  | 52 => .array .int
  | 53 => .array .long
  | 54 => .int
  | 55 => .int
  | 56 => .array .int
  | 57 => .int
  | 58 => .array .int
  | _ => .int
abbrev wsX90 : List Cond := u_ws RX9 TX9 60
theorem nmX9 : ∀ a, a < 60 → ∀ b, b < 60 → a ≠ b → (TX9 a).2.1 ≠ (TX9 b).2.1 := by decide +kernel
theorem tyX9_ok : ∀ k, k < 60 → parseFieldDescriptor (TX9 k).2.2.1 = some (tyX9 k) := by decide +kernel
abbrev cX9_init : ByteArray := prog_11_method_1_code
def yX9_init : MethodName := ⟨RX9, "<init>", "()V"⟩
abbrev cX9_feed : ByteArray := prog_11_method_3_code
def yX9_feed : MethodName := ⟨RX9, "feed", "(IIIII)I"⟩
abbrev cX9_here : ByteArray := prog_11_method_4_code
def yX9_here : MethodName := ⟨RX9, "here", "()I"⟩
abbrev cX9_isLetter : ByteArray := prog_11_method_5_code
def yX9_isLetter : MethodName := ⟨RX9, "isLetter", "(I)Z"⟩
abbrev cX9_isDigit : ByteArray := prog_11_method_6_code
def yX9_isDigit : MethodName := ⟨RX9, "isDigit", "(I)Z"⟩
abbrev cX9_next : ByteArray := prog_11_method_7_code
def yX9_next : MethodName := ⟨RX9, "next", "()V"⟩
abbrev cX9_word : ByteArray := prog_11_method_8_code
def yX9_word : MethodName := ⟨RX9, "word", "(I)V"⟩
abbrev cX9_wrong : ByteArray := prog_11_method_9_code
def yX9_wrong : MethodName := ⟨RX9, "wrong", "(II)V"⟩
abbrev cX9_takes : ByteArray := prog_11_method_10_code
def yX9_takes : MethodName := ⟨RX9, "takes", "(I)I"⟩
abbrev cX9_isSign : ByteArray := prog_11_method_11_code
def yX9_isSign : MethodName := ⟨RX9, "isSign", "(I)Z"⟩
abbrev cX9_wants : ByteArray := prog_11_method_12_code
def yX9_wants : MethodName := ⟨RX9, "wants", "(I)V"⟩
abbrev cX9_parses : ByteArray := prog_11_method_13_code
def yX9_parses : MethodName := ⟨RX9, "parses", "()V"⟩
abbrev cX9_line : ByteArray := prog_11_method_14_code
def yX9_line : MethodName := ⟨RX9, "line", "(I)V"⟩
abbrev cX9_named : ByteArray := prog_11_method_15_code
def yX9_named : MethodName := ⟨RX9, "named", "(II)V"⟩
abbrev cX9_scaleNumber : ByteArray := prog_11_method_16_code
def yX9_scaleNumber : MethodName := ⟨RX9, "scaleNumber", "(I)V"⟩
abbrev cX9_factOf : ByteArray := prog_11_method_17_code
def yX9_factOf : MethodName := ⟨RX9, "factOf", "(I)V"⟩
abbrev cX9_agree : ByteArray := prog_11_method_18_code
def yX9_agree : MethodName := ⟨RX9, "agree", "(II)I"⟩
abbrev cX9_fault : ByteArray := prog_11_method_19_code
def yX9_fault : MethodName := ⟨RX9, "fault", "(I)I"⟩
abbrev cX9_pass : ByteArray := prog_11_method_20_code
def yX9_pass : MethodName := ⟨RX9, "pass", "(I)I"⟩
abbrev cX9_post : ByteArray := prog_11_method_21_code
def yX9_post : MethodName := ⟨RX9, "post", "(I)I"⟩
abbrev cX9_isValue : ByteArray := prog_11_method_22_code
def yX9_isValue : MethodName := ⟨RX9, "isValue", "(II)Z"⟩
abbrev cX9_note : ByteArray := prog_11_method_23_code
def yX9_note : MethodName := ⟨RX9, "note", "(IIII)I"⟩
abbrev cX9_lawsOf : ByteArray := prog_11_method_24_code
def yX9_lawsOf : MethodName := ⟨RX9, "lawsOf", "(II)V"⟩
abbrev cX9_isBeginning : ByteArray := prog_11_method_25_code
def yX9_isBeginning : MethodName := ⟨RX9, "isBeginning", "(I)Z"⟩
abbrev cX9_numberOf : ByteArray := prog_11_method_26_code
def yX9_numberOf : MethodName := ⟨RX9, "numberOf", "(II)I"⟩
abbrev cX9_holds : ByteArray := prog_11_method_27_code
def yX9_holds : MethodName := ⟨RX9, "holds", "(II)Z"⟩
abbrev cX9_passes : ByteArray := prog_11_method_28_code
def yX9_passes : MethodName := ⟨RX9, "passes", "(II)V"⟩
abbrev cX9_serves : ByteArray := prog_11_method_29_code
def yX9_serves : MethodName := ⟨RX9, "serves", "()V"⟩
abbrev cX9_notesOf : ByteArray := prog_11_method_30_code
def yX9_notesOf : MethodName := ⟨RX9, "notesOf", "(II)V"⟩
abbrev cX9_stands : ByteArray := prog_11_method_31_code
def yX9_stands : MethodName := ⟨RX9, "stands", "(I)V"⟩
abbrev cX9_gives : ByteArray := prog_11_method_32_code
def yX9_gives : MethodName := ⟨RX9, "gives", "(I)V"⟩
abbrev cX9_isDay : ByteArray := prog_11_method_33_code
def yX9_isDay : MethodName := ⟨RX9, "isDay", "(I)Z"⟩
abbrev cX9_isKnown : ByteArray := prog_11_method_34_code
def yX9_isKnown : MethodName := ⟨RX9, "isKnown", "(I)Z"⟩
abbrev cX9_isPost : ByteArray := prog_11_method_35_code
def yX9_isPost : MethodName := ⟨RX9, "isPost", "(I)Z"⟩
abbrev cX9_look : ByteArray := prog_11_method_36_code
def yX9_look : MethodName := ⟨RX9, "look", "(IIII)I"⟩
abbrev cX9_pay : ByteArray := prog_11_method_37_code
def yX9_pay : MethodName := ⟨RX9, "pay", "(III)J"⟩
abbrev cX9_due : ByteArray := prog_11_method_38_code
def yX9_due : MethodName := ⟨RX9, "due", "(III)J"⟩
abbrev cX9_run : ByteArray := prog_11_method_39_code
def yX9_run : MethodName := ⟨RX9, "run", "()I"⟩
abbrev cX9_payment : ByteArray := prog_11_method_40_code
def yX9_payment : MethodName := ⟨RX9, "payment", "(II)J"⟩
abbrev cX9_paid : ByteArray := prog_11_method_41_code
def yX9_paid : MethodName := ⟨RX9, "paid", "(II)J"⟩
abbrev cX9_cost : ByteArray := prog_11_method_42_code
def yX9_cost : MethodName := ⟨RX9, "cost", "(III)J"⟩
abbrev cX9_common : ByteArray := prog_11_method_43_code
def yX9_common : MethodName := ⟨RX9, "common", "(II)I"⟩
abbrev cX9_like : ByteArray := prog_11_method_44_code
def yX9_like : MethodName := ⟨RX9, "like", "(III)I"⟩
abbrev cX9_pair : ByteArray := prog_11_method_45_code
def yX9_pair : MethodName := ⟨RX9, "pair", "(II)I"⟩
abbrev cX9_meet : ByteArray := prog_11_method_46_code
def yX9_meet : MethodName := ⟨RX9, "meet", "(II)I"⟩
abbrev cX9_met : ByteArray := prog_11_method_47_code
def yX9_met : MethodName := ⟨RX9, "met", "(II)I"⟩
abbrev cX9_count : ByteArray := prog_11_method_48_code
def yX9_count : MethodName := ⟨RX9, "count", "(I)I"⟩
def RJx145de : String := "java/io/Serializable"
def TJx145de : u_T := fun k => match k with
  | _ => ("", "", "", false)
def tyJx145de : Nat → FieldType := fun k => match k with
  | _ => .int
abbrev wsJx145de0 : List Cond := u_ws RJx145de TJx145de 0
theorem nmJx145de : ∀ a, a < 0 → ∀ b, b < 0 → a ≠ b → (TJx145de a).2.1 ≠ (TJx145de b).2.1 := by decide +kernel
theorem tyJx145de_ok : ∀ k, k < 0 → parseFieldDescriptor (TJx145de k).2.2.1 = some (tyJx145de k) := by decide +kernel
def RJx8e188 : String := "java/lang/Cloneable"
def TJx8e188 : u_T := fun k => match k with
  | _ => ("", "", "", false)
def tyJx8e188 : Nat → FieldType := fun k => match k with
  | _ => .int
abbrev wsJx8e1880 : List Cond := u_ws RJx8e188 TJx8e188 0
theorem nmJx8e188 : ∀ a, a < 0 → ∀ b, b < 0 → a ≠ b → (TJx8e188 a).2.1 ≠ (TJx8e188 b).2.1 := by decide +kernel
theorem tyJx8e188_ok : ∀ k, k < 0 → parseFieldDescriptor (TJx8e188 k).2.2.1 = some (tyJx8e188 k) := by decide +kernel
def RJxab1ab : String := "java/lang/Iterable"
def TJxab1ab : u_T := fun k => match k with
  | _ => ("", "", "", false)
def tyJxab1ab : Nat → FieldType := fun k => match k with
  | _ => .int
abbrev wsJxab1ab0 : List Cond := u_ws RJxab1ab TJxab1ab 0
theorem nmJxab1ab : ∀ a, a < 0 → ∀ b, b < 0 → a ≠ b → (TJxab1ab a).2.1 ≠ (TJxab1ab b).2.1 := by decide +kernel
theorem tyJxab1ab_ok : ∀ k, k < 0 → parseFieldDescriptor (TJxab1ab k).2.2.1 = some (tyJxab1ab k) := by decide +kernel
def RJ9 : String := "java/lang/Math"
def TJ9 : u_T := fun k => match k with
  | _ => ("", "", "", false)
def tyJ9 : Nat → FieldType := fun k => match k with
  | _ => .int
abbrev wsJ90 : List Cond := u_ws RJ9 TJ9 0
theorem nmJ9 : ∀ a, a < 0 → ∀ b, b < 0 → a ≠ b → (TJ9 a).2.1 ≠ (TJ9 b).2.1 := by decide +kernel
theorem tyJ9_ok : ∀ k, k < 0 → parseFieldDescriptor (TJ9 k).2.2.1 = some (tyJ9 k) := by decide +kernel
abbrev cJ9_abs_0f7a4 : ByteArray := prog_15_method_59_code
def yJ9_abs_0f7a4 : MethodName := ⟨RJ9, "abs", "(I)I"⟩
abbrev cJ9_max_7cf53 : ByteArray := prog_15_method_65_code
def yJ9_max_7cf53 : MethodName := ⟨RJ9, "max", "(II)I"⟩
abbrev cJ9_min_7cf53 : ByteArray := prog_15_method_69_code
def yJ9_min_7cf53 : MethodName := ⟨RJ9, "min", "(II)I"⟩
def RJ0 : String := "java/lang/String"
def TJ0 : u_T := fun k => match k with
  | _ => ("", "", "", false)
def tyJ0 : Nat → FieldType := fun k => match k with
  | _ => .int
abbrev wsJ00 : List Cond := u_ws RJ0 TJ0 0
theorem nmJ0 : ∀ a, a < 0 → ∀ b, b < 0 → a ≠ b → (TJ0 a).2.1 ≠ (TJ0 b).2.1 := by decide +kernel
theorem tyJ0_ok : ∀ k, k < 0 → parseFieldDescriptor (TJ0 k).2.2.1 = some (tyJ0 k) := by decide +kernel
abbrev cJ0_length_8abf5 : ByteArray := prog_16_method_54_code
def yJ0_length_8abf5 : MethodName := ⟨RJ0, "length", "()I"⟩
abbrev cJ0_charAt_5068e : ByteArray := prog_16_method_56_code
def yJ0_charAt_5068e : MethodName := ⟨RJ0, "charAt", "(I)C"⟩
abbrev cJ0_coder_7d493 : ByteArray := prog_16_method_152_code
def yJ0_coder_7d493 : MethodName := ⟨RJ0, "coder", "()B"⟩
abbrev cJ0_isLatin1_aae02 : ByteArray := prog_16_method_154_code
def yJ0_isLatin1_aae02 : MethodName := ⟨RJ0, "isLatin1", "()Z"⟩
abbrev cJ0_checkIndex_df160 : ByteArray := prog_16_method_155_code
def yJ0_checkIndex_df160 : MethodName := ⟨RJ0, "checkIndex", "(II)V"⟩
def RJ1 : String := "java/lang/StringLatin1"
def TJ1 : u_T := fun k => match k with
  | _ => ("", "", "", false)
def tyJ1 : Nat → FieldType := fun k => match k with
  | _ => .int
abbrev wsJ10 : List Cond := u_ws RJ1 TJ1 0
theorem nmJ1 : ∀ a, a < 0 → ∀ b, b < 0 → a ≠ b → (TJ1 a).2.1 ≠ (TJ1 b).2.1 := by decide +kernel
theorem tyJ1_ok : ∀ k, k < 0 → parseFieldDescriptor (TJ1 k).2.2.1 = some (tyJ1 k) := by decide +kernel
abbrev cJ1_charAt_3b067 : ByteArray := prog_17_method_2_code
def yJ1_charAt_3b067 : MethodName := ⟨RJ1, "charAt", "([BI)C"⟩
def RJ2 : String := "java/lang/StringUTF16"
def TJ2 : u_T := fun k => match k with
  | _ => ("", "", "", false)
def tyJ2 : Nat → FieldType := fun k => match k with
  | _ => .int
abbrev wsJ20 : List Cond := u_ws RJ2 TJ2 0
theorem nmJ2 : ∀ a, a < 0 → ∀ b, b < 0 → a ≠ b → (TJ2 a).2.1 ≠ (TJ2 b).2.1 := by decide +kernel
theorem tyJ2_ok : ∀ k, k < 0 → parseFieldDescriptor (TJ2 k).2.2.1 = some (tyJ2 k) := by decide +kernel
abbrev cJ2_getChar_3b067 : ByteArray := prog_18_method_5_code
def yJ2_getChar_3b067 : MethodName := ⟨RJ2, "getChar", "([BI)C"⟩
abbrev cJ2_length_9d52b : ByteArray := prog_18_method_6_code
def yJ2_length_9d52b : MethodName := ⟨RJ2, "length", "([B)I"⟩
abbrev cJ2_charAt_3b067 : ByteArray := prog_18_method_83_code
def yJ2_charAt_3b067 : MethodName := ⟨RJ2, "charAt", "([BI)C"⟩
abbrev cJ2_checkIndex_2214a : ByteArray := prog_18_method_91_code
def yJ2_checkIndex_2214a : MethodName := ⟨RJ2, "checkIndex", "(I[B)V"⟩
def RJ10 : String := "java/lang/System"
def TJ10 : u_T := fun k => match k with
  | _ => ("", "", "", false)
def tyJ10 : Nat → FieldType := fun k => match k with
  | _ => .int
abbrev wsJ100 : List Cond := u_ws RJ10 TJ10 0
theorem nmJ10 : ∀ a, a < 0 → ∀ b, b < 0 → a ≠ b → (TJ10 a).2.1 ≠ (TJ10 b).2.1 := by decide +kernel
theorem tyJ10_ok : ∀ k, k < 0 → parseFieldDescriptor (TJ10 k).2.2.1 = some (tyJ10 k) := by decide +kernel
def RJxa1e45 : String := "java/util/AbstractCollection"
def TJxa1e45 : u_T := fun k => match k with
  | _ => ("", "", "", false)
def tyJxa1e45 : Nat → FieldType := fun k => match k with
  | _ => .int
abbrev wsJxa1e450 : List Cond := u_ws RJxa1e45 TJxa1e45 0
theorem nmJxa1e45 : ∀ a, a < 0 → ∀ b, b < 0 → a ≠ b → (TJxa1e45 a).2.1 ≠ (TJxa1e45 b).2.1 := by decide +kernel
theorem tyJxa1e45_ok : ∀ k, k < 0 → parseFieldDescriptor (TJxa1e45 k).2.2.1 = some (tyJxa1e45 k) := by decide +kernel
abbrev cJxa1e45_init_da8c8 : ByteArray := prog_20_method_1_code
def yJxa1e45_init_da8c8 : MethodName := ⟨RJxa1e45, "<init>", "()V"⟩
def RJxc12de : String := "java/util/AbstractList"
def TJxc12de : u_T := fun k => match k with
  | _ => ("", "", "", false)
def tyJxc12de : Nat → FieldType := fun k => match k with
  | _ => .int
abbrev wsJxc12de0 : List Cond := u_ws RJxc12de TJxc12de 0
theorem nmJxc12de : ∀ a, a < 0 → ∀ b, b < 0 → a ≠ b → (TJxc12de a).2.1 ≠ (TJxc12de b).2.1 := by decide +kernel
theorem tyJxc12de_ok : ∀ k, k < 0 → parseFieldDescriptor (TJxc12de k).2.2.1 = some (tyJxc12de k) := by decide +kernel
abbrev cJxc12de_init_da8c8 : ByteArray := prog_21_method_1_code
def yJxc12de_init_da8c8 : MethodName := ⟨RJxc12de, "<init>", "()V"⟩
def RJx4a65c : String := "java/util/ArrayList"
def TJx4a65c : u_T := fun k => match k with
  | 0 => ("java/util/AbstractList", "modCount", "I", false)
  | 1 => ("java/util/ArrayList", "elementData", "[Ljava/lang/Object;", false)
  | _ => ("java/util/ArrayList", "size", "I", false)
def tyJx4a65c : Nat → FieldType := fun k => match k with
  | 0 => .int
  | 1 => .array (.object "java/lang/Object")
  | _ => .int
abbrev wsJx4a65c0 : List Cond := u_ws RJx4a65c TJx4a65c 3
theorem nmJx4a65c : ∀ a, a < 3 → ∀ b, b < 3 → a ≠ b → (TJx4a65c a).2.1 ≠ (TJx4a65c b).2.1 := by decide +kernel
theorem tyJx4a65c_ok : ∀ k, k < 3 → parseFieldDescriptor (TJx4a65c k).2.2.1 = some (tyJx4a65c k) := by decide +kernel
abbrev cJx4a65c_init_da8c8 : ByteArray := prog_22_method_2_code
def yJx4a65c_init_da8c8 : MethodName := ⟨RJx4a65c, "<init>", "()V"⟩
abbrev cJx4a65c_grow_92f84 : ByteArray := prog_22_method_6_code
def yJx4a65c_grow_92f84 : MethodName := ⟨RJx4a65c, "grow", "(I)[Ljava/lang/Object;"⟩
abbrev cJx4a65c_grow_d5877 : ByteArray := prog_22_method_7_code
def yJx4a65c_grow_d5877 : MethodName := ⟨RJx4a65c, "grow", "()[Ljava/lang/Object;"⟩
abbrev cJx4a65c_size_8abf5 : ByteArray := prog_22_method_8_code
def yJx4a65c_size_8abf5 : MethodName := ⟨RJx4a65c, "size", "()I"⟩
abbrev cJx4a65c_elementData_915e3 : ByteArray := prog_22_method_18_code
def yJx4a65c_elementData_915e3 : MethodName := ⟨RJx4a65c, "elementData", "(I)Ljava/lang/Object;"⟩
abbrev cJx4a65c_get_915e3 : ByteArray := prog_22_method_20_code
def yJx4a65c_get_915e3 : MethodName := ⟨RJx4a65c, "get", "(I)Ljava/lang/Object;"⟩
abbrev cJx4a65c_add_72be8 : ByteArray := prog_22_method_24_code
def yJx4a65c_add_72be8 : MethodName := ⟨RJx4a65c, "add", "(Ljava/lang/Object;[Ljava/lang/Object;I)V"⟩
abbrev cJx4a65c_add_9ea2d : ByteArray := prog_22_method_25_code
def yJx4a65c_add_9ea2d : MethodName := ⟨RJx4a65c, "add", "(Ljava/lang/Object;)Z"⟩
abbrev cJx4a65c_add_7a177 : ByteArray := prog_22_method_26_code
def yJx4a65c_add_7a177 : MethodName := ⟨RJx4a65c, "add", "(ILjava/lang/Object;)V"⟩
abbrev cJx4a65c_rangeCheckForAdd_d00df : ByteArray := prog_22_method_45_code
def yJx4a65c_rangeCheckForAdd_d00df : MethodName := ⟨RJx4a65c, "rangeCheckForAdd", "(I)V"⟩
def RJ7 : String := "java/util/Arrays"
def TJ7 : u_T := fun k => match k with
  | _ => ("", "", "", false)
def tyJ7 : Nat → FieldType := fun k => match k with
  | _ => .int
abbrev wsJ70 : List Cond := u_ws RJ7 TJ7 0
theorem nmJ7 : ∀ a, a < 0 → ∀ b, b < 0 → a ≠ b → (TJ7 a).2.1 ≠ (TJ7 b).2.1 := by decide +kernel
theorem tyJ7_ok : ∀ k, k < 0 → parseFieldDescriptor (TJ7 k).2.2.1 = some (tyJ7 k) := by decide +kernel
abbrev cJ7_fill_53178 : ByteArray := prog_23_method_103_code
def yJ7_fill_53178 : MethodName := ⟨RJ7, "fill", "([II)V"⟩
abbrev cJ7_copyOf_1904c : ByteArray := prog_23_method_119_code
def yJ7_copyOf_1904c : MethodName := ⟨RJ7, "copyOf", "([Ljava/lang/Object;I)[Ljava/lang/Object;"⟩
abbrev cJ7_copyOf_6403c : ByteArray := prog_23_method_120_code
def yJ7_copyOf_6403c : MethodName := ⟨RJ7, "copyOf", "([Ljava/lang/Object;ILjava/lang/Class;)[Ljava/lang/Object;"⟩
def RJx5ef63 : String := "java/util/Collection"
def TJx5ef63 : u_T := fun k => match k with
  | _ => ("", "", "", false)
def tyJx5ef63 : Nat → FieldType := fun k => match k with
  | _ => .int
abbrev wsJx5ef630 : List Cond := u_ws RJx5ef63 TJx5ef63 0
theorem nmJx5ef63 : ∀ a, a < 0 → ∀ b, b < 0 → a ≠ b → (TJx5ef63 a).2.1 ≠ (TJx5ef63 b).2.1 := by decide +kernel
theorem tyJx5ef63_ok : ∀ k, k < 0 → parseFieldDescriptor (TJx5ef63 k).2.2.1 = some (tyJx5ef63 k) := by decide +kernel
def RJxbd725 : String := "java/util/List"
def TJxbd725 : u_T := fun k => match k with
  | _ => ("", "", "", false)
def tyJxbd725 : Nat → FieldType := fun k => match k with
  | _ => .int
abbrev wsJxbd7250 : List Cond := u_ws RJxbd725 TJxbd725 0
theorem nmJxbd725 : ∀ a, a < 0 → ∀ b, b < 0 → a ≠ b → (TJxbd725 a).2.1 ≠ (TJxbd725 b).2.1 := by decide +kernel
theorem tyJxbd725_ok : ∀ k, k < 0 → parseFieldDescriptor (TJxbd725 k).2.2.1 = some (tyJxbd725 k) := by decide +kernel
def RJ15 : String := "java/util/Objects"
def TJ15 : u_T := fun k => match k with
  | _ => ("", "", "", false)
def tyJ15 : Nat → FieldType := fun k => match k with
  | _ => .int
abbrev wsJ150 : List Cond := u_ws RJ15 TJ15 0
theorem nmJ15 : ∀ a, a < 0 → ∀ b, b < 0 → a ≠ b → (TJ15 a).2.1 ≠ (TJ15 b).2.1 := by decide +kernel
theorem tyJ15_ok : ∀ k, k < 0 → parseFieldDescriptor (TJ15 k).2.2.1 = some (tyJ15 k) := by decide +kernel
abbrev cJ15_checkIndex_7cf53 : ByteArray := prog_26_method_17_code
def yJ15_checkIndex_7cf53 : MethodName := ⟨RJ15, "checkIndex", "(II)I"⟩
def RJxf0a74 : String := "java/util/RandomAccess"
def TJxf0a74 : u_T := fun k => match k with
  | _ => ("", "", "", false)
def tyJxf0a74 : Nat → FieldType := fun k => match k with
  | _ => .int
abbrev wsJxf0a740 : List Cond := u_ws RJxf0a74 TJxf0a74 0
theorem nmJxf0a74 : ∀ a, a < 0 → ∀ b, b < 0 → a ≠ b → (TJxf0a74 a).2.1 ≠ (TJxf0a74 b).2.1 := by decide +kernel
theorem tyJxf0a74_ok : ∀ k, k < 0 → parseFieldDescriptor (TJxf0a74 k).2.2.1 = some (tyJxf0a74 k) := by decide +kernel
def RJxa66e6 : String := "java/util/SequencedCollection"
def TJxa66e6 : u_T := fun k => match k with
  | _ => ("", "", "", false)
def tyJxa66e6 : Nat → FieldType := fun k => match k with
  | _ => .int
abbrev wsJxa66e60 : List Cond := u_ws RJxa66e6 TJxa66e6 0
theorem nmJxa66e6 : ∀ a, a < 0 → ∀ b, b < 0 → a ≠ b → (TJxa66e6 a).2.1 ≠ (TJxa66e6 b).2.1 := by decide +kernel
theorem tyJxa66e6_ok : ∀ k, k < 0 → parseFieldDescriptor (TJxa66e6 k).2.2.1 = some (tyJxa66e6 k) := by decide +kernel
def RJ8 : String := "jdk/internal/util/ArraysSupport"
def TJ8 : u_T := fun k => match k with
  | _ => ("", "", "", false)
def tyJ8 : Nat → FieldType := fun k => match k with
  | _ => .int
abbrev wsJ80 : List Cond := u_ws RJ8 TJ8 0
theorem nmJ8 : ∀ a, a < 0 → ∀ b, b < 0 → a ≠ b → (TJ8 a).2.1 ≠ (TJ8 b).2.1 := by decide +kernel
theorem tyJ8_ok : ∀ k, k < 0 → parseFieldDescriptor (TJ8 k).2.2.1 = some (tyJ8 k) := by decide +kernel
abbrev cJ8_newLength_cabcc : ByteArray := prog_29_method_27_code
def yJ8_newLength_cabcc : MethodName := ⟨RJ8, "newLength", "(III)I"⟩
abbrev cJ8_hugeLength_7cf53 : ByteArray := prog_29_method_28_code
def yJ8_hugeLength_7cf53 : MethodName := ⟨RJ8, "hugeLength", "(II)I"⟩
def RJ3 : String := "jdk/internal/util/Preconditions"
def TJ3 : u_T := fun k => match k with
  | _ => ("", "", "", false)
def tyJ3 : Nat → FieldType := fun k => match k with
  | _ => .int
abbrev wsJ30 : List Cond := u_ws RJ3 TJ3 0
theorem nmJ3 : ∀ a, a < 0 → ∀ b, b < 0 → a ≠ b → (TJ3 a).2.1 ≠ (TJ3 b).2.1 := by decide +kernel
theorem tyJ3_ok : ∀ k, k < 0 → parseFieldDescriptor (TJ3 k).2.2.1 = some (tyJ3 k) := by decide +kernel
abbrev cJ3_checkIndex_8e157 : ByteArray := prog_30_method_11_code
def yJ3_checkIndex_8e157 : MethodName := ⟨RJ3, "checkIndex", "(IILjava/util/function/BiFunction;)I"⟩
def RL : String := "PayScalesLaw"
abbrev cL_law : ByteArray := code
def yL_law : MethodName := ⟨RL, "law", "([I)Z"⟩
def wsJ0_checkIndex_df160 : List Cond := .code yJ0_checkIndex_df160 cJ0_checkIndex_df160 2 none :: ([.fieldLink RJ0 1053 "jdk/internal/util/Preconditions" "SIOOBE_FORMATTER" "Ljava/util/function/BiFunction;", .methodLink RJ0 1059 yJ3_checkIndex_8e157, .static yJ3_checkIndex_8e157, .initialized RJ3, .code yJ3_checkIndex_8e157 cJ3_checkIndex_8e157 3 (some .int)])

