/-! ===== BEGIN words of one list among another's, by their places ===== -/
theorem goodIn_r {big : List Cond} (ws : List Cond) (ps : List Nat) (hp : ws = ps.filterMap (fun i => big[i]?)) (h : ws.all goodWord = true) : GoodIn big ws := by
  intro w hw
  have h1 := List.all_eq_true.mp h w hw
  rw [hp] at hw
  obtain ⟨i, -, hi⟩ := List.mem_filterMap.mp hw
  have hm : w ∈ big := by first | exact List.mem_of_getElem? hi | exact List.getElem?_mem hi
  exact ⟨hm, good_of_word h1⟩
theorem goodIn_app {big a b : List Cond} (ha : GoodIn big a) (hb : GoodIn big b) : GoodIn big (a ++ b) := fun w h => (List.mem_append.mp h).elim (ha w) (hb w)
theorem goodIn_ca {big a b : List Cond} {c : Cond} (ha : GoodIn big (c :: a)) (hb : GoodIn big b) : GoodIn big (c :: (a ++ b)) := fun w h => (List.mem_cons.mp h).elim (fun e => ha w (List.mem_cons.mpr (Or.inl e))) (fun h => (List.mem_append.mp h).elim (fun h => ha w (List.mem_cons.mpr (Or.inr h))) (hb w))
theorem goodIn_sub {big ws : List Cond} (hm : ∀ w ∈ ws, w ∈ big) (h : ws.all goodWord = true) : GoodIn big ws := fun w hw => ⟨hm w hw, good_of_word (List.all_eq_true.mp h w hw)⟩
/-! ===== END ===== -/

/-! ===== BEGIN printed: names, fields, word lists, decode rows ===== -/
def RX0 : String := "RoundStool$Beats"
def TX0 : u_T := fun k => match k with
  | 0 => ("RoundStool$Beats", "beatOfMove", "[I", true)
  | _ => ("RoundStool$Beats", "moving", "[I", true)
def tyX0 : Nat → FieldType := fun k => match k with
  | 0 => .array .int
  | _ => .array .int
abbrev wsX00 : List Cond := u_ws RX0 TX0 2
theorem nmX0 : ∀ a, a < 2 → ∀ b, b < 2 → a ≠ b → (TX0 a).2.1 ≠ (TX0 b).2.1 := by decide +kernel
theorem tyX0_ok : ∀ k, k < 2 → parseFieldDescriptor (TX0 k).2.2.1 = some (tyX0 k) := by decide +kernel
abbrev cX0_init : ByteArray := prog_2_method_1_code
def yX0_init : MethodName := ⟨RX0, "<init>", "()V"⟩
abbrev cX0_needed : ByteArray := prog_2_method_2_code
def yX0_needed : MethodName := ⟨RX0, "needed", "(LRoundStool$Song;I)I"⟩
abbrev cX0_earliest : ByteArray := prog_2_method_3_code
def yX0_earliest : MethodName := ⟨RX0, "earliest", "(LRoundStool$Song;II)I"⟩
def RX1 : String := "RoundStool$Cord"
def TX1 : u_T := fun k => match k with
  | 0 => ("RoundStool$Cord", "ring", "J", false)
  | 1 => ("RoundStool$Cord", "state", "I", false)
  | 2 => ("RoundStool$Cord", "sung", "I", false)
  | 3 => ("RoundStool$Cord", "rows", "I", false)
  | 4 => ("RoundStool$Cord", "moved", "[I", true)
  | _ => ("RoundStool$Cord", "overs", "[I", true)
def tyX1 : Nat → FieldType := fun k => match k with
  | 0 => .long
  | 1 => .int
  | 2 => .int
  | 3 => .int
  | 4 => .array .int
  | _ => .array .int
abbrev wsX10 : List Cond := u_ws RX1 TX1 6
theorem nmX1 : ∀ a, a < 6 → ∀ b, b < 6 → a ≠ b → (TX1 a).2.1 ≠ (TX1 b).2.1 := by decide +kernel
theorem tyX1_ok : ∀ k, k < 6 → parseFieldDescriptor (TX1 k).2.2.1 = some (tyX1 k) := by decide +kernel
abbrev cX1_init : ByteArray := prog_3_method_1_code
def yX1_init : MethodName := ⟨RX1, "<init>", "()V"⟩
abbrev cX1_startAnew : ByteArray := prog_3_method_2_code
def yX1_startAnew : MethodName := ⟨RX1, "startAnew", "(I)V"⟩
abbrev cX1_copy : ByteArray := prog_3_method_3_code
def yX1_copy : MethodName := ⟨RX1, "copy", "(LRoundStool$Cord;)V"⟩
abbrev cX1_timesOver : ByteArray := prog_3_method_4_code
def yX1_timesOver : MethodName := ⟨RX1, "timesOver", "(II)I"⟩
abbrev cX1_isOverLike : ByteArray := prog_3_method_5_code
def yX1_isOverLike : MethodName := ⟨RX1, "isOverLike", "(LRoundStool$Cord;)Z"⟩
abbrev cX1_draw : ByteArray := prog_3_method_6_code
def yX1_draw : MethodName := ⟨RX1, "draw", "(I)I"⟩
abbrev cX1_singInThought : ByteArray := prog_3_method_7_code
def yX1_singInThought : MethodName := ⟨RX1, "singInThought", "(LRoundStool$Song;JI)V"⟩
abbrev cX1_make : ByteArray := prog_3_method_8_code
def yX1_make : MethodName := ⟨RX1, "make", "(IJI)Z"⟩
abbrev cX1_countOver : ByteArray := prog_3_method_9_code
def yX1_countOver : MethodName := ⟨RX1, "countOver", "(I)V"⟩
abbrev cX1_leastFree : ByteArray := prog_3_method_10_code
def yX1_leastFree : MethodName := ⟨RX1, "leastFree", "(II)I"⟩
abbrev cX1_isCovered : ByteArray := prog_3_method_11_code
def yX1_isCovered : MethodName := ⟨RX1, "isCovered", "(III)Z"⟩
def RX2 : String := "RoundStool$History"
def TX2 : u_T := fun k => match k with
  | 0 => ("RoundStool$History", "count", "I", false)
  | 1 => ("RoundStool$History", "next", "I", false)
  | _ => ("RoundStool$History", "cords", "[LRoundStool$Cord;", true)
def tyX2 : Nat → FieldType := fun k => match k with
  | 0 => .int
  | 1 => .int
  | _ => .array (.object "RoundStool$Cord")
abbrev wsX20 : List Cond := u_ws RX2 TX2 3
theorem nmX2 : ∀ a, a < 3 → ∀ b, b < 3 → a ≠ b → (TX2 a).2.1 ≠ (TX2 b).2.1 := by decide +kernel
theorem tyX2_ok : ∀ k, k < 3 → parseFieldDescriptor (TX2 k).2.2.1 = some (tyX2 k) := by decide +kernel
abbrev cX2_init : ByteArray := prog_4_method_1_code
def yX2_init : MethodName := ⟨RX2, "<init>", "()V"⟩
abbrev cX2_remember : ByteArray := prog_4_method_2_code
def yX2_remember : MethodName := ⟨RX2, "remember", "(LRoundStool$Cord;)V"⟩
abbrev cX2_goBack : ByteArray := prog_4_method_3_code
def yX2_goBack : MethodName := ⟨RX2, "goBack", "(LRoundStool$Cord;)Z"⟩
abbrev cX2_forget : ByteArray := prog_4_method_4_code
def yX2_forget : MethodName := ⟨RX2, "forget", "()V"⟩
def RX3 : String := "RoundStool$Lifts"
def TX3 : u_T := fun k => match k with
  | _ => ("RoundStool$Lifts", "common", "[I", true)
def tyX3 : Nat → FieldType := fun k => match k with
  | _ => .array .int
abbrev wsX30 : List Cond := u_ws RX3 TX3 1
theorem nmX3 : ∀ a, a < 1 → ∀ b, b < 1 → a ≠ b → (TX3 a).2.1 ≠ (TX3 b).2.1 := by decide +kernel
theorem tyX3_ok : ∀ k, k < 1 → parseFieldDescriptor (TX3 k).2.2.1 = some (tyX3 k) := by decide +kernel
abbrev cX3_init : ByteArray := prog_5_method_1_code
def yX3_init : MethodName := ⟨RX3, "<init>", "()V"⟩
abbrev cX3_needed : ByteArray := prog_5_method_2_code
def yX3_needed : MethodName := ⟨RX3, "needed", "(JJI)I"⟩
abbrev cX3_firstOf : ByteArray := prog_5_method_3_code
def yX3_firstOf : MethodName := ⟨RX3, "firstOf", "(IJJI)I"⟩
abbrev cX3_isSameColours : ByteArray := prog_5_method_4_code
def yX3_isSameColours : MethodName := ⟨RX3, "isSameColours", "(JJI)Z"⟩
abbrev cX3_countOf : ByteArray := prog_5_method_5_code
def yX3_countOf : MethodName := ⟨RX3, "countOf", "(IJI)I"⟩
abbrev cX3_longestCommon : ByteArray := prog_5_method_6_code
def yX3_longestCommon : MethodName := ⟨RX3, "longestCommon", "(JJI)I"⟩
def RX4 : String := "RoundStool$Move"
def TX4 : u_T := fun k => match k with
  | _ => ("", "", "", false)
def tyX4 : Nat → FieldType := fun k => match k with
  | _ => .int
abbrev wsX40 : List Cond := u_ws RX4 TX4 0
theorem nmX4 : ∀ a, a < 0 → ∀ b, b < 0 → a ≠ b → (TX4 a).2.1 ≠ (TX4 b).2.1 := by decide +kernel
theorem tyX4_ok : ∀ k, k < 0 → parseFieldDescriptor (TX4 k).2.2.1 = some (tyX4 k) := by decide +kernel
abbrev cX4_packed : ByteArray := prog_6_method_2_code
def yX4_packed : MethodName := ⟨RX4, "packed", "(IIII)I"⟩
abbrev cX4_kind : ByteArray := prog_6_method_3_code
def yX4_kind : MethodName := ⟨RX4, "kind", "(I)I"⟩
abbrev cX4_from : ByteArray := prog_6_method_4_code
def yX4_from : MethodName := ⟨RX4, "from", "(I)I"⟩
abbrev cX4_to : ByteArray := prog_6_method_5_code
def yX4_to : MethodName := ⟨RX4, "to", "(I)I"⟩
abbrev cX4_asked : ByteArray := prog_6_method_6_code
def yX4_asked : MethodName := ⟨RX4, "asked", "(I)I"⟩
abbrev cX4_withoutAsking : ByteArray := prog_6_method_7_code
def yX4_withoutAsking : MethodName := ⟨RX4, "withoutAsking", "(I)I"⟩
abbrev cX4_mirrored : ByteArray := prog_6_method_8_code
def yX4_mirrored : MethodName := ⟨RX4, "mirrored", "(II)I"⟩
abbrev cX4_isTurn : ByteArray := prog_6_method_9_code
def yX4_isTurn : MethodName := ⟨RX4, "isTurn", "(I)Z"⟩
abbrev cX4_findsColour : ByteArray := prog_6_method_10_code
def yX4_findsColour : MethodName := ⟨RX4, "findsColour", "(IJJ)Z"⟩
abbrev cX4_madeOn : ByteArray := prog_6_method_11_code
def yX4_madeOn : MethodName := ⟨RX4, "madeOn", "(JIJI)J"⟩
abbrev cX4_cross : ByteArray := prog_6_method_12_code
def yX4_cross : MethodName := ⟨RX4, "cross", "(II)Z"⟩
abbrev cX4_isBetween : ByteArray := prog_6_method_13_code
def yX4_isBetween : MethodName := ⟨RX4, "isBetween", "(III)Z"⟩
def RX5 : String := "RoundStool$Reader"
def TX5 : u_T := fun k => match k with
  | 0 => ("RoundStool$Reader", "fault", "I", false)
  | 1 => ("RoundStool$Reader", "place", "I", false)
  | 2 => ("RoundStool$Reader", "tape", "LRoundStool$Tape;", true)
  | 3 => ("RoundStool$Reader", "draft", "LRoundStool$Song;", true)
  | 4 => ("RoundStool$Reader", "slots", "I", false)
  | 5 => ("RoundStool$Reader", "taken", "I", false)
  | 6 => ("RoundStool$Reader", "kind", "I", false)
  | 7 => ("RoundStool$Reader", "number", "I", false)
  | 8 => ("RoundStool$Reader", "tooMany", "Z", false)
  | 9 => ("RoundStool$Reader", "open", "I", false)
  | 10 => ("RoundStool$Reader", "bodyStart", "[I", true)
  | _ => ("RoundStool$Reader", "repeats", "[I", true)
def tyX5 : Nat → FieldType := fun k => match k with
  | 0 => .int
  | 1 => .int
  | 2 => .object "RoundStool$Tape"
  | 3 => .object "RoundStool$Song"
  | 4 => .int
  | 5 => .int
  | 6 => .int
  | 7 => .int
  | 8 => .boolean
  | 9 => .int
  | 10 => .array .int
  | _ => .array .int
abbrev wsX50 : List Cond := u_ws RX5 TX5 12
theorem nmX5 : ∀ a, a < 12 → ∀ b, b < 12 → a ≠ b → (TX5 a).2.1 ≠ (TX5 b).2.1 := by decide +kernel
theorem tyX5_ok : ∀ k, k < 12 → parseFieldDescriptor (TX5 k).2.2.1 = some (tyX5 k) := by decide +kernel
abbrev cX5_init : ByteArray := prog_7_method_1_code
def yX5_init : MethodName := ⟨RX5, "<init>", "()V"⟩
abbrev cX5_forgetFault : ByteArray := prog_7_method_2_code
def yX5_forgetFault : MethodName := ⟨RX5, "forgetFault", "()V"⟩
abbrev cX5_read : ByteArray := prog_7_method_3_code
def yX5_read : MethodName := ⟨RX5, "read", "(I)Z"⟩
abbrev cX5_fail : ByteArray := prog_7_method_4_code
def yX5_fail : MethodName := ⟨RX5, "fail", "(I)Z"⟩
abbrev cX5_take : ByteArray := prog_7_method_5_code
def yX5_take : MethodName := ⟨RX5, "take", "()V"⟩
abbrev cX5_readToken : ByteArray := prog_7_method_6_code
def yX5_readToken : MethodName := ⟨RX5, "readToken", "(I)Z"⟩
abbrev cX5_readNumber : ByteArray := prog_7_method_7_code
def yX5_readNumber : MethodName := ⟨RX5, "readNumber", "(II)Z"⟩
abbrev cX5_readEnd : ByteArray := prog_7_method_8_code
def yX5_readEnd : MethodName := ⟨RX5, "readEnd", "()Z"⟩
abbrev cX5_readLift : ByteArray := prog_7_method_9_code
def yX5_readLift : MethodName := ⟨RX5, "readLift", "()Z"⟩
abbrev cX5_readSwap : ByteArray := prog_7_method_10_code
def yX5_readSwap : MethodName := ⟨RX5, "readSwap", "()Z"⟩
abbrev cX5_readAsked : ByteArray := prog_7_method_11_code
def yX5_readAsked : MethodName := ⟨RX5, "readAsked", "(III)Z"⟩
abbrev cX5_readTurn : ByteArray := prog_7_method_12_code
def yX5_readTurn : MethodName := ⟨RX5, "readTurn", "()Z"⟩
abbrev cX5_readTimes : ByteArray := prog_7_method_13_code
def yX5_readTimes : MethodName := ⟨RX5, "readTimes", "()Z"⟩
abbrev cX5_readClosing : ByteArray := prog_7_method_14_code
def yX5_readClosing : MethodName := ⟨RX5, "readClosing", "()Z"⟩
abbrev cX5_append : ByteArray := prog_7_method_15_code
def yX5_append : MethodName := ⟨RX5, "append", "(I)V"⟩
def RX6 : String := "RoundStool$Ring"
def TX6 : u_T := fun k => match k with
  | _ => ("", "", "", false)
def tyX6 : Nat → FieldType := fun k => match k with
  | _ => .int
abbrev wsX60 : List Cond := u_ws RX6 TX6 0
theorem nmX6 : ∀ a, a < 0 → ∀ b, b < 0 → a ≠ b → (TX6 a).2.1 ≠ (TX6 b).2.1 := by decide +kernel
theorem tyX6_ok : ∀ k, k < 0 → parseFieldDescriptor (TX6 k).2.2.1 = some (tyX6 k) := by decide +kernel
abbrev cX6_home : ByteArray := prog_8_method_2_code
def yX6_home : MethodName := ⟨RX6, "home", "(I)J"⟩
abbrev cX6_get : ByteArray := prog_8_method_3_code
def yX6_get : MethodName := ⟨RX6, "get", "(JI)I"⟩
abbrev cX6_with : ByteArray := prog_8_method_4_code
def yX6_with : MethodName := ⟨RX6, "with", "(JII)J"⟩
abbrev cX6_slotWith : ByteArray := prog_8_method_5_code
def yX6_slotWith : MethodName := ⟨RX6, "slotWith", "(JII)I"⟩
abbrev cX6_lifted : ByteArray := prog_8_method_6_code
def yX6_lifted : MethodName := ⟨RX6, "lifted", "(JII)J"⟩
abbrev cX6_swapped : ByteArray := prog_8_method_7_code
def yX6_swapped : MethodName := ⟨RX6, "swapped", "(JII)J"⟩
abbrev cX6_turned : ByteArray := prog_8_method_8_code
def yX6_turned : MethodName := ⟨RX6, "turned", "(JII)J"⟩
abbrev cX6_lowest : ByteArray := prog_8_method_9_code
def yX6_lowest : MethodName := ⟨RX6, "lowest", "(I)J"⟩
def RX7 : String := "RoundStool$Song"
def TX7 : u_T := fun k => match k with
  | 0 => ("RoundStool$Song", "size", "I", false)
  | _ => ("RoundStool$Song", "moves", "[I", true)
def tyX7 : Nat → FieldType := fun k => match k with
  | 0 => .int
  | _ => .array .int
abbrev wsX70 : List Cond := u_ws RX7 TX7 2
theorem nmX7 : ∀ a, a < 2 → ∀ b, b < 2 → a ≠ b → (TX7 a).2.1 ≠ (TX7 b).2.1 := by decide +kernel
theorem tyX7_ok : ∀ k, k < 2 → parseFieldDescriptor (TX7 k).2.2.1 = some (tyX7 k) := by decide +kernel
abbrev cX7_init : ByteArray := prog_9_method_1_code
def yX7_init : MethodName := ⟨RX7, "<init>", "()V"⟩
abbrev cX7_copy : ByteArray := prog_9_method_2_code
def yX7_copy : MethodName := ⟨RX7, "copy", "(LRoundStool$Song;)V"⟩
abbrev cX7_add : ByteArray := prog_9_method_3_code
def yX7_add : MethodName := ⟨RX7, "add", "(I)Z"⟩
abbrev cX7_sungFrom : ByteArray := prog_9_method_4_code
def yX7_sungFrom : MethodName := ⟨RX7, "sungFrom", "(JJII)J"⟩
abbrev cX7_mirroredFrom : ByteArray := prog_9_method_5_code
def yX7_mirroredFrom : MethodName := ⟨RX7, "mirroredFrom", "(JJI)J"⟩
abbrev cX7_singingsBack : ByteArray := prog_9_method_6_code
def yX7_singingsBack : MethodName := ⟨RX7, "singingsBack", "(JJI)I"⟩
def RX8 : String := "RoundStool$Stool"
def TX8 : u_T := fun k => match k with
  | 0 => ("RoundStool$Stool", "slots", "I", false)
  | 1 => ("RoundStool$Stool", "slip", "I", false)
  | 2 => ("RoundStool$Stool", "dye", "J", false)
  | 3 => ("RoundStool$Stool", "wanted", "J", false)
  | 4 => ("RoundStool$Stool", "nameRows", "[I", true)
  | 5 => ("RoundStool$Stool", "songs", "[LRoundStool$Song;", true)
  | 6 => ("RoundStool$Stool", "cord", "LRoundStool$Cord;", true)
  | 7 => ("RoundStool$Stool", "outsideRows", "[I", true)
  | _ => ("RoundStool$Stool", "laidRows", "[I", true)
def tyX8 : Nat → FieldType := fun k => match k with
  | 0 => .int
  | 1 => .int
  | 2 => .long
  | 3 => .long
  | 4 => .array .int
  | 5 => .array (.object "RoundStool$Song")
  | 6 => .object "RoundStool$Cord"
  | 7 => .array .int
  | _ => .array .int
abbrev wsX80 : List Cond := u_ws RX8 TX8 9
theorem nmX8 : ∀ a, a < 9 → ∀ b, b < 9 → a ≠ b → (TX8 a).2.1 ≠ (TX8 b).2.1 := by decide +kernel
theorem tyX8_ok : ∀ k, k < 9 → parseFieldDescriptor (TX8 k).2.2.1 = some (tyX8 k) := by decide +kernel
abbrev cX8_init : ByteArray := prog_10_method_1_code
def yX8_init : MethodName := ⟨RX8, "<init>", "()V"⟩
abbrev cX8_startAnew : ByteArray := prog_10_method_2_code
def yX8_startAnew : MethodName := ⟨RX8, "startAnew", "(I)V"⟩
abbrev cX8_copy : ByteArray := prog_10_method_3_code
def yX8_copy : MethodName := ⟨RX8, "copy", "(LRoundStool$Stool;)V"⟩
abbrev cX8_seen : ByteArray := prog_10_method_4_code
def yX8_seen : MethodName := ⟨RX8, "seen", "(J)J"⟩
abbrev cX8_singOnce : ByteArray := prog_10_method_5_code
def yX8_singOnce : MethodName := ⟨RX8, "singOnce", "(LRoundStool$Song;)I"⟩
abbrev cX8_addRow : ByteArray := prog_10_method_6_code
def yX8_addRow : MethodName := ⟨RX8, "addRow", "(I)V"⟩
abbrev cX8_rowPart : ByteArray := prog_10_method_7_code
def yX8_rowPart : MethodName := ⟨RX8, "rowPart", "(II)I"⟩
abbrev cX8_rowsComeAgain : ByteArray := prog_10_method_8_code
def yX8_rowsComeAgain : MethodName := ⟨RX8, "rowsComeAgain", "(II)Z"⟩
abbrev cX8_strandsToDye : ByteArray := prog_10_method_9_code
def yX8_strandsToDye : MethodName := ⟨RX8, "strandsToDye", "(LRoundStool$Song;)I"⟩
abbrev cX8_layRows : ByteArray := prog_10_method_10_code
def yX8_layRows : MethodName := ⟨RX8, "layRows", "(LRoundStool$Song;)I"⟩
abbrev cX8_countUnlike : ByteArray := prog_10_method_11_code
def yX8_countUnlike : MethodName := ⟨RX8, "countUnlike", "(J)I"⟩
def RX9 : String := "RoundStool$Tape"
def TX9 : u_T := fun k => match k with
  | 0 => ("RoundStool$Tape", "length", "I", false)
  | 1 => ("RoundStool$Tape", "tokens", "I", false)
  | 2 => ("RoundStool$Tape", "kinds", "[I", true)
  | 3 => ("RoundStool$Tape", "places", "[I", true)
  | 4 => ("RoundStool$Tape", "numbers", "[I", true)
  | _ => ("RoundStool$Tape", "bytes", "[B", true)
def tyX9 : Nat → FieldType := fun k => match k with
  | 0 => .int
  | 1 => .int
  | 2 => .array .int
  | 3 => .array .int
  | 4 => .array .int
  | _ => .array .byte
abbrev wsX90 : List Cond := u_ws RX9 TX9 6
theorem nmX9 : ∀ a, a < 6 → ∀ b, b < 6 → a ≠ b → (TX9 a).2.1 ≠ (TX9 b).2.1 := by decide +kernel
theorem tyX9_ok : ∀ k, k < 6 → parseFieldDescriptor (TX9 k).2.2.1 = some (tyX9 k) := by decide +kernel
abbrev cX9_init : ByteArray := prog_11_method_1_code
def yX9_init : MethodName := ⟨RX9, "<init>", "()V"⟩
abbrev cX9_add : ByteArray := prog_11_method_2_code
def yX9_add : MethodName := ⟨RX9, "add", "(I)V"⟩
abbrev cX9_findTokens : ByteArray := prog_11_method_3_code
def yX9_findTokens : MethodName := ⟨RX9, "findTokens", "()V"⟩
abbrev cX9_addToken : ByteArray := prog_11_method_4_code
def yX9_addToken : MethodName := ⟨RX9, "addToken", "(III)V"⟩
abbrev cX9_endOfRun : ByteArray := prog_11_method_5_code
def yX9_endOfRun : MethodName := ⟨RX9, "endOfRun", "(I)I"⟩
abbrev cX9_kindOfRun : ByteArray := prog_11_method_6_code
def yX9_kindOfRun : MethodName := ⟨RX9, "kindOfRun", "(II)I"⟩
abbrev cX9_kindOfWord : ByteArray := prog_11_method_7_code
def yX9_kindOfWord : MethodName := ⟨RX9, "kindOfWord", "(II)I"⟩
abbrev cX9_isWord : ByteArray := prog_11_method_8_code
def yX9_isWord : MethodName := ⟨RX9, "isWord", "(Ljava/lang/String;II)Z"⟩
abbrev cX9_numberOfRun : ByteArray := prog_11_method_9_code
def yX9_numberOfRun : MethodName := ⟨RX9, "numberOfRun", "(II)I"⟩
abbrev cX9_isBlank : ByteArray := prog_11_method_10_code
def yX9_isBlank : MethodName := ⟨RX9, "isBlank", "(I)Z"⟩
abbrev cX9_isLetter : ByteArray := prog_11_method_11_code
def yX9_isLetter : MethodName := ⟨RX9, "isLetter", "(I)Z"⟩
abbrev cX9_isDigit : ByteArray := prog_11_method_12_code
def yX9_isDigit : MethodName := ⟨RX9, "isDigit", "(I)Z"⟩
def RX10 : String := "RoundStool"
def TX10 : u_T := fun k => match k with
  | 0 => ("RoundStool", "reader", "LRoundStool$Reader;", true)
  | 1 => ("RoundStool", "now", "LRoundStool$Stool;", true)
  | 2 => ("RoundStool", "history", "LRoundStool$History;", true)
  | 3 => ("RoundStool", "lifts", "LRoundStool$Lifts;", true)
  | 4 => ("RoundStool", "beatRows", "LRoundStool$Beats;", true)
  | 5 => ("RoundStool", "oneCord", "LRoundStool$Cord;", true)
  | 6 => ("RoundStool", "otherCord", "LRoundStool$Cord;", true)
  | _ => ("RoundStool", "imageTaken", "LRoundStool$Stool;", false)
def tyX10 : Nat → FieldType := fun k => match k with
  | 0 => .object "RoundStool$Reader"
  | 1 => .object "RoundStool$Stool"
  | 2 => .object "RoundStool$History"
  | 3 => .object "RoundStool$Lifts"
  | 4 => .object "RoundStool$Beats"
  | 5 => .object "RoundStool$Cord"
  | 6 => .object "RoundStool$Cord"
  | _ => .object "RoundStool$Stool"
abbrev wsX100 : List Cond := u_ws RX10 TX10 8
theorem nmX10 : ∀ a, a < 8 → ∀ b, b < 8 → a ≠ b → (TX10 a).2.1 ≠ (TX10 b).2.1 := by decide +kernel
theorem tyX10_ok : ∀ k, k < 8 → parseFieldDescriptor (TX10 k).2.2.1 = some (tyX10 k) := by decide +kernel
abbrev cX10_init : ByteArray := prog_1_method_1_code
def yX10_init : MethodName := ⟨RX10, "<init>", "()V"⟩
abbrev cX10_state : ByteArray := prog_1_method_2_code
def yX10_state : MethodName := ⟨RX10, "state", "(I)I"⟩
abbrev cX10_stool : ByteArray := prog_1_method_3_code
def yX10_stool : MethodName := ⟨RX10, "stool", "(I)Z"⟩
abbrev cX10_colour : ByteArray := prog_1_method_4_code
def yX10_colour : MethodName := ⟨RX10, "colour", "(II)Z"⟩
abbrev cX10_slip : ByteArray := prog_1_method_5_code
def yX10_slip : MethodName := ⟨RX10, "slip", "(I)Z"⟩
abbrev cX10_feed : ByteArray := prog_1_method_6_code
def yX10_feed : MethodName := ⟨RX10, "feed", "(IIIII)I"⟩
abbrev cX10_end : ByteArray := prog_1_method_7_code
def yX10_end : MethodName := ⟨RX10, "end", "(I)Z"⟩
abbrev cX10_text : ByteArray := prog_1_method_8_code
def yX10_text : MethodName := ⟨RX10, "text", "(I)I"⟩
abbrev cX10_fault : ByteArray := prog_1_method_9_code
def yX10_fault : MethodName := ⟨RX10, "fault", "(I)I"⟩
abbrev cX10_sing : ByteArray := prog_1_method_10_code
def yX10_sing : MethodName := ⟨RX10, "sing", "(II)I"⟩
abbrev cX10_at : ByteArray := prog_1_method_11_code
def yX10_at : MethodName := ⟨RX10, "at", "(II)I"⟩
abbrev cX10_of : ByteArray := prog_1_method_12_code
def yX10_of : MethodName := ⟨RX10, "of", "(II)I"⟩
abbrev cX10_over : ByteArray := prog_1_method_13_code
def yX10_over : MethodName := ⟨RX10, "over", "(II)I"⟩
abbrev cX10_outside : ByteArray := prog_1_method_14_code
def yX10_outside : MethodName := ⟨RX10, "outside", "(II)I"⟩
abbrev cX10_back : ByteArray := prog_1_method_15_code
def yX10_back : MethodName := ⟨RX10, "back", "(II)I"⟩
abbrev cX10_where : ByteArray := prog_1_method_16_code
def yX10_where : MethodName := ⟨RX10, "where", "(IIIZ)I"⟩
abbrev cX10_want : ByteArray := prog_1_method_17_code
def yX10_want : MethodName := ⟨RX10, "want", "(II)Z"⟩
abbrev cX10_fewest : ByteArray := prog_1_method_18_code
def yX10_fewest : MethodName := ⟨RX10, "fewest", "(I)I"⟩
abbrev cX10_cut : ByteArray := prog_1_method_19_code
def yX10_cut : MethodName := ⟨RX10, "cut", "(I)I"⟩
abbrev cX10_dropped : ByteArray := prog_1_method_20_code
def yX10_dropped : MethodName := ⟨RX10, "dropped", "(III)I"⟩
abbrev cX10_beats : ByteArray := prog_1_method_21_code
def yX10_beats : MethodName := ⟨RX10, "beats", "(II)I"⟩
abbrev cX10_name : ByteArray := prog_1_method_22_code
def yX10_name : MethodName := ⟨RX10, "name", "(II)Z"⟩
abbrev cX10_lay : ByteArray := prog_1_method_23_code
def yX10_lay : MethodName := ⟨RX10, "lay", "(I)I"⟩
abbrev cX10_pulled : ByteArray := prog_1_method_24_code
def yX10_pulled : MethodName := ⟨RX10, "pulled", "(I)I"⟩
abbrev cX10_loops : ByteArray := prog_1_method_25_code
def yX10_loops : MethodName := ⟨RX10, "loops", "(I)I"⟩
abbrev cX10_alike : ByteArray := prog_1_method_26_code
def yX10_alike : MethodName := ⟨RX10, "alike", "(II)I"⟩
abbrev cX10_period : ByteArray := prog_1_method_27_code
def yX10_period : MethodName := ⟨RX10, "period", "(I)I"⟩
abbrev cX10_undo : ByteArray := prog_1_method_28_code
def yX10_undo : MethodName := ⟨RX10, "undo", "()Z"⟩
abbrev cX10_image : ByteArray := prog_1_method_29_code
def yX10_image : MethodName := ⟨RX10, "image", "(Z)Z"⟩
abbrev cX10_look : ByteArray := prog_1_method_30_code
def yX10_look : MethodName := ⟨RX10, "look", "(I)I"⟩
abbrev cX10_isSlot : ByteArray := prog_1_method_31_code
def yX10_isSlot : MethodName := ⟨RX10, "isSlot", "(I)Z"⟩
abbrev cX10_isColour : ByteArray := prog_1_method_32_code
def yX10_isColour : MethodName := ⟨RX10, "isColour", "(I)Z"⟩
abbrev cX10_isSong : ByteArray := prog_1_method_33_code
def yX10_isSong : MethodName := ⟨RX10, "isSong", "(I)Z"⟩
abbrev cX10_oneOfThree : ByteArray := prog_1_method_34_code
def yX10_oneOfThree : MethodName := ⟨RX10, "oneOfThree", "(IIII)I"⟩
abbrev cX10_fitsWithout : ByteArray := prog_1_method_35_code
def yX10_fitsWithout : MethodName := ⟨RX10, "fitsWithout", "(IJLRoundStool$Song;I)Z"⟩
abbrev cX10_ringOf : ByteArray := prog_1_method_36_code
def yX10_ringOf : MethodName := ⟨RX10, "ringOf", "(I)I"⟩
abbrev cX10_countRings : ByteArray := prog_1_method_37_code
def yX10_countRings : MethodName := ⟨RX10, "countRings", "()I"⟩
def RX11 : String := "RoundStoolModel"
def TX11 : u_T := fun k => match k with
  | 0 => ("RoundStoolModel", "w", "[I", true)
  | 1 => ("RoundStoolModel", "kept", "[I", true)
  | 2 => ("RoundStoolModel", "back", "[I", true)
  | 3 => ("RoundStoolModel", "backMany", "I", false)
  | 4 => ("RoundStoolModel", "hasImage", "Z", false)
  | 5 => ("RoundStoolModel", "fresh", "[I", true)
  | 6 => ("RoundStoolModel", "tape", "[I", true)
  | 7 => ("RoundStoolModel", "made", "I", false)
  | 8 => ("RoundStoolModel", "taped", "I", false)
  | 9 => ("RoundStoolModel", "at", "I", false)
  | 10 => ("RoundStoolModel", "token", "I", false)
  | 11 => ("RoundStoolModel", "tokenAt", "I", false)
  | 12 => ("RoundStoolModel", "value", "I", false)
  | 13 => ("RoundStoolModel", "wrong", "I", false)
  | 14 => ("RoundStoolModel", "wrongAt", "I", false)
  | 15 => ("RoundStoolModel", "faultKind", "I", false)
  | 16 => ("RoundStoolModel", "faultPlace", "I", false)
  | 17 => ("RoundStoolModel", "seat", "[I", true)
  | 18 => ("RoundStoolModel", "other", "[I", true)
  | 19 => ("RoundStoolModel", "found", "[I", true)
  | 20 => ("RoundStoolModel", "far", "[I", true)
  | 21 => ("RoundStoolModel", "queue", "[I", true)
  | 22 => ("RoundStoolModel", "row", "[I", true)
  | 23 => ("RoundStoolModel", "queued", "I", false)
  | 24 => ("RoundStoolModel", "overNow", "[I", true)
  | 25 => ("RoundStoolModel", "overOne", "[I", true)
  | 26 => ("RoundStoolModel", "seatOne", "[I", true)
  | 27 => ("RoundStoolModel", "beat", "[I", true)
  | 28 => ("RoundStoolModel", "busy", "[I", true)
  | _ => ("RoundStoolModel", "laid", "[I", true)
def tyX11 : Nat → FieldType := fun k => match k with
  | 0 => .array .int
  | 1 => .array .int
  | 2 => .array .int
  | 3 => .int
  | 4 => .boolean
  | 5 => .array .int
  | 6 => .array .int
  | 7 => .int
  | 8 => .int
  | 9 => .int
  | 10 => .int
  | 11 => .int
  | 12 => .int
  | 13 => .int
  | 14 => .int
  | 15 => .int
  | 16 => .int
  | 17 => .array .int
  | 18 => .array .int
  | 19 => .array .int
  | 20 => .array .int
  | 21 => .array .int
  | 22 => .array .int
  | 23 => .int
  | 24 => .array .int
  | 25 => .array .int
  | 26 => .array .int
  | 27 => .array .int
  | 28 => .array .int
  | _ => .array .int
abbrev wsX110 : List Cond := u_ws RX11 TX11 30
theorem nmX11 : ∀ a, a < 30 → ∀ b, b < 30 → a ≠ b → (TX11 a).2.1 ≠ (TX11 b).2.1 := by decide +kernel
theorem tyX11_ok : ∀ k, k < 30 → parseFieldDescriptor (TX11 k).2.2.1 = some (tyX11 k) := by decide +kernel
abbrev cX11_init : ByteArray := prog_13_method_1_code
def yX11_init : MethodName := ⟨RX11, "<init>", "()V"⟩
abbrev cX11_begins : ByteArray := prog_13_method_2_code
def yX11_begins : MethodName := ⟨RX11, "begins", "(I)V"⟩
abbrev cX11_isIn : ByteArray := prog_13_method_3_code
def yX11_isIn : MethodName := ⟨RX11, "isIn", "(III)Z"⟩
abbrev cX11_isSlot : ByteArray := prog_13_method_4_code
def yX11_isSlot : MethodName := ⟨RX11, "isSlot", "(I)Z"⟩
abbrev cX11_isSong : ByteArray := prog_13_method_5_code
def yX11_isSong : MethodName := ⟨RX11, "isSong", "(I)Z"⟩
abbrev cX11_state : ByteArray := prog_13_method_6_code
def yX11_state : MethodName := ⟨RX11, "state", "(I)I"⟩
abbrev cX11_draw : ByteArray := prog_13_method_7_code
def yX11_draw : MethodName := ⟨RX11, "draw", "(I)I"⟩
abbrev cX11_stool : ByteArray := prog_13_method_8_code
def yX11_stool : MethodName := ⟨RX11, "stool", "(I)Z"⟩
abbrev cX11_colour : ByteArray := prog_13_method_9_code
def yX11_colour : MethodName := ⟨RX11, "colour", "(II)Z"⟩
abbrev cX11_slip : ByteArray := prog_13_method_10_code
def yX11_slip : MethodName := ⟨RX11, "slip", "(I)Z"⟩
abbrev cX11_feed : ByteArray := prog_13_method_11_code
def yX11_feed : MethodName := ⟨RX11, "feed", "(IIIII)I"⟩
abbrev cX11_end : ByteArray := prog_13_method_12_code
def yX11_end : MethodName := ⟨RX11, "end", "(I)Z"⟩
abbrev cX11_see : ByteArray := prog_13_method_13_code
def yX11_see : MethodName := ⟨RX11, "see", "(I)I"⟩
abbrev cX11_isLetter : ByteArray := prog_13_method_14_code
def yX11_isLetter : MethodName := ⟨RX11, "isLetter", "(I)Z"⟩
abbrev cX11_isDigit : ByteArray := prog_13_method_15_code
def yX11_isDigit : MethodName := ⟨RX11, "isDigit", "(I)Z"⟩
abbrev cX11_is : ByteArray := prog_13_method_16_code
def yX11_is : MethodName := ⟨RX11, "is", "(Ljava/lang/String;)Z"⟩
abbrev cX11_word : ByteArray := prog_13_method_17_code
def yX11_word : MethodName := ⟨RX11, "word", "()I"⟩
abbrev cX11_next0 : ByteArray := prog_13_method_18_code
def yX11_next0 : MethodName := ⟨RX11, "next0", "()V"⟩
abbrev cX11_bad : ByteArray := prog_13_method_19_code
def yX11_bad : MethodName := ⟨RX11, "bad", "(I)Z"⟩
abbrev cX11_need : ByteArray := prog_13_method_20_code
def yX11_need : MethodName := ⟨RX11, "need", "(I)Z"⟩
abbrev cX11_number : ByteArray := prog_13_method_21_code
def yX11_number : MethodName := ⟨RX11, "number", "(II)Z"⟩
abbrev cX11_puts : ByteArray := prog_13_method_22_code
def yX11_puts : MethodName := ⟨RX11, "puts", "(IIII)V"⟩
abbrev cX11_aMove : ByteArray := prog_13_method_23_code
def yX11_aMove : MethodName := ⟨RX11, "aMove", "(I)Z"⟩
abbrev cX11_aTurn : ByteArray := prog_13_method_24_code
def yX11_aTurn : MethodName := ⟨RX11, "aTurn", "()Z"⟩
abbrev cX11_someTimes : ByteArray := prog_13_method_25_code
def yX11_someTimes : MethodName := ⟨RX11, "someTimes", "(I)Z"⟩
abbrev cX11_someSteps : ByteArray := prog_13_method_26_code
def yX11_someSteps : MethodName := ⟨RX11, "someSteps", "(I)Z"⟩
abbrev cX11_text : ByteArray := prog_13_method_27_code
def yX11_text : MethodName := ⟨RX11, "text", "(I)I"⟩
abbrev cX11_fault : ByteArray := prog_13_method_28_code
def yX11_fault : MethodName := ⟨RX11, "fault", "(I)I"⟩
abbrev cX11_ofMove : ByteArray := prog_13_method_29_code
def yX11_ofMove : MethodName := ⟨RX11, "ofMove", "(III)I"⟩
abbrev cX11_sitsNow : ByteArray := prog_13_method_30_code
def yX11_sitsNow : MethodName := ⟨RX11, "sitsNow", "()V"⟩
abbrev cX11_sitsAtFirst : ByteArray := prog_13_method_31_code
def yX11_sitsAtFirst : MethodName := ⟨RX11, "sitsAtFirst", "()V"⟩
abbrev cX11_turns : ByteArray := prog_13_method_32_code
def yX11_turns : MethodName := ⟨RX11, "turns", "(I)V"⟩
abbrev cX11_goesOver : ByteArray := prog_13_method_33_code
def yX11_goesOver : MethodName := ⟨RX11, "goesOver", "(IIZ)V"⟩
abbrev cX11_lifts : ByteArray := prog_13_method_34_code
def yX11_lifts : MethodName := ⟨RX11, "lifts", "(IIZ)V"⟩
abbrev cX11_swaps : ByteArray := prog_13_method_35_code
def yX11_swaps : MethodName := ⟨RX11, "swaps", "(IIZ)V"⟩
abbrev cX11_moves : ByteArray := prog_13_method_36_code
def yX11_moves : MethodName := ⟨RX11, "moves", "(IIZZIZ)I"⟩
abbrev cX11_sings : ByteArray := prog_13_method_37_code
def yX11_sings : MethodName := ⟨RX11, "sings", "(IZI)V"⟩
abbrev cX11_writes : ByteArray := prog_13_method_38_code
def yX11_writes : MethodName := ⟨RX11, "writes", "(I)V"⟩
abbrev cX11_keeps : ByteArray := prog_13_method_39_code
def yX11_keeps : MethodName := ⟨RX11, "keeps", "()V"⟩
abbrev cX11_singsTruly : ByteArray := prog_13_method_40_code
def yX11_singsTruly : MethodName := ⟨RX11, "singsTruly", "(I)I"⟩
abbrev cX11_sing : ByteArray := prog_13_method_41_code
def yX11_sing : MethodName := ⟨RX11, "sing", "(II)I"⟩
abbrev cX11_undo : ByteArray := prog_13_method_42_code
def yX11_undo : MethodName := ⟨RX11, "undo", "()Z"⟩
abbrev cX11_at : ByteArray := prog_13_method_43_code
def yX11_at : MethodName := ⟨RX11, "at", "(II)I"⟩
abbrev cX11_slotOf : ByteArray := prog_13_method_44_code
def yX11_slotOf : MethodName := ⟨RX11, "slotOf", "(I)I"⟩
abbrev cX11_of : ByteArray := prog_13_method_45_code
def yX11_of : MethodName := ⟨RX11, "of", "(II)I"⟩
abbrev cX11_over : ByteArray := prog_13_method_46_code
def yX11_over : MethodName := ⟨RX11, "over", "(II)I"⟩
abbrev cX11_outside : ByteArray := prog_13_method_47_code
def yX11_outside : MethodName := ⟨RX11, "outside", "(II)I"⟩
abbrev cX11_isAsNow : ByteArray := prog_13_method_48_code
def yX11_isAsNow : MethodName := ⟨RX11, "isAsNow", "(I)Z"⟩
abbrev cX11_back : ByteArray := prog_13_method_49_code
def yX11_back : MethodName := ⟨RX11, "back", "(II)I"⟩
abbrev cX11_where : ByteArray := prog_13_method_50_code
def yX11_where : MethodName := ⟨RX11, "where", "(IIIZ)I"⟩
abbrev cX11_want : ByteArray := prog_13_method_51_code
def yX11_want : MethodName := ⟨RX11, "want", "(II)Z"⟩
abbrev cX11_placeOf : ByteArray := prog_13_method_52_code
def yX11_placeOf : MethodName := ⟨RX11, "placeOf", "(I)I"⟩
abbrev cX11_liftedOf : ByteArray := prog_13_method_53_code
def yX11_liftedOf : MethodName := ⟨RX11, "liftedOf", "(III)I"⟩
abbrev cX11_comes : ByteArray := prog_13_method_54_code
def yX11_comes : MethodName := ⟨RX11, "comes", "(II)V"⟩
abbrev cX11_laysFar : ByteArray := prog_13_method_55_code
def yX11_laysFar : MethodName := ⟨RX11, "laysFar", "()V"⟩
abbrev cX11_farOf : ByteArray := prog_13_method_56_code
def yX11_farOf : MethodName := ⟨RX11, "farOf", "(I)I"⟩
abbrev cX11_fewest : ByteArray := prog_13_method_57_code
def yX11_fewest : MethodName := ⟨RX11, "fewest", "(I)I"⟩
abbrev cX11_isWanted : ByteArray := prog_13_method_58_code
def yX11_isWanted : MethodName := ⟨RX11, "isWanted", "()Z"⟩
abbrev cX11_cut : ByteArray := prog_13_method_59_code
def yX11_cut : MethodName := ⟨RX11, "cut", "(I)I"⟩
abbrev cX11_isWantedBehind : ByteArray := prog_13_method_60_code
def yX11_isWantedBehind : MethodName := ⟨RX11, "isWantedBehind", "(IIII)Z"⟩
abbrev cX11_dropped : ByteArray := prog_13_method_61_code
def yX11_dropped : MethodName := ⟨RX11, "dropped", "(III)I"⟩
abbrev cX11_singsAlone : ByteArray := prog_13_method_62_code
def yX11_singsAlone : MethodName := ⟨RX11, "singsAlone", "(I)V"⟩
abbrev cX11_alike : ByteArray := prog_13_method_63_code
def yX11_alike : MethodName := ⟨RX11, "alike", "(II)I"⟩
abbrev cX11_comesAgain : ByteArray := prog_13_method_64_code
def yX11_comesAgain : MethodName := ⟨RX11, "comesAgain", "(II)Z"⟩
abbrev cX11_period : ByteArray := prog_13_method_65_code
def yX11_period : MethodName := ⟨RX11, "period", "(I)I"⟩
abbrev cX11_isWithin : ByteArray := prog_13_method_66_code
def yX11_isWithin : MethodName := ⟨RX11, "isWithin", "(III)Z"⟩
abbrev cX11_doCross : ByteArray := prog_13_method_67_code
def yX11_doCross : MethodName := ⟨RX11, "doCross", "(III)Z"⟩
abbrev cX11_beats : ByteArray := prog_13_method_68_code
def yX11_beats : MethodName := ⟨RX11, "beats", "(II)I"⟩
abbrev cX11_name : ByteArray := prog_13_method_69_code
def yX11_name : MethodName := ⟨RX11, "name", "(II)Z"⟩
abbrev cX11_lay : ByteArray := prog_13_method_70_code
def yX11_lay : MethodName := ⟨RX11, "lay", "(I)I"⟩
abbrev cX11_isFree : ByteArray := prog_13_method_71_code
def yX11_isFree : MethodName := ⟨RX11, "isFree", "(II)Z"⟩
abbrev cX11_pulled : ByteArray := prog_13_method_72_code
def yX11_pulled : MethodName := ⟨RX11, "pulled", "(I)I"⟩
abbrev cX11_ring : ByteArray := prog_13_method_73_code
def yX11_ring : MethodName := ⟨RX11, "ring", "(I)I"⟩
abbrev cX11_isLeast : ByteArray := prog_13_method_74_code
def yX11_isLeast : MethodName := ⟨RX11, "isLeast", "(I)Z"⟩
abbrev cX11_loops : ByteArray := prog_13_method_75_code
def yX11_loops : MethodName := ⟨RX11, "loops", "(I)I"⟩
abbrev cX11_image : ByteArray := prog_13_method_76_code
def yX11_image : MethodName := ⟨RX11, "image", "(Z)Z"⟩
abbrev cX11_look : ByteArray := prog_13_method_77_code
def yX11_look : MethodName := ⟨RX11, "look", "(I)I"⟩
def RJx145de : String := "java/io/Serializable"
def TJx145de : u_T := fun k => match k with
  | _ => ("", "", "", false)
def tyJx145de : Nat → FieldType := fun k => match k with
  | _ => .int
abbrev wsJx145de0 : List Cond := u_ws RJx145de TJx145de 0
theorem nmJx145de : ∀ a, a < 0 → ∀ b, b < 0 → a ≠ b → (TJx145de a).2.1 ≠ (TJx145de b).2.1 := by decide +kernel
theorem tyJx145de_ok : ∀ k, k < 0 → parseFieldDescriptor (TJx145de k).2.2.1 = some (tyJx145de k) := by decide +kernel
def RJx9f9b0 : String := "java/lang/CharSequence"
def TJx9f9b0 : u_T := fun k => match k with
  | _ => ("", "", "", false)
def tyJx9f9b0 : Nat → FieldType := fun k => match k with
  | _ => .int
abbrev wsJx9f9b00 : List Cond := u_ws RJx9f9b0 TJx9f9b0 0
theorem nmJx9f9b0 : ∀ a, a < 0 → ∀ b, b < 0 → a ≠ b → (TJx9f9b0 a).2.1 ≠ (TJx9f9b0 b).2.1 := by decide +kernel
theorem tyJx9f9b0_ok : ∀ k, k < 0 → parseFieldDescriptor (TJx9f9b0 k).2.2.1 = some (tyJx9f9b0 k) := by decide +kernel
def RJxb160c : String := "java/lang/Comparable"
def TJxb160c : u_T := fun k => match k with
  | _ => ("", "", "", false)
def tyJxb160c : Nat → FieldType := fun k => match k with
  | _ => .int
abbrev wsJxb160c0 : List Cond := u_ws RJxb160c TJxb160c 0
theorem nmJxb160c : ∀ a, a < 0 → ∀ b, b < 0 → a ≠ b → (TJxb160c a).2.1 ≠ (TJxb160c b).2.1 := by decide +kernel
theorem tyJxb160c_ok : ∀ k, k < 0 → parseFieldDescriptor (TJxb160c k).2.2.1 = some (tyJxb160c k) := by decide +kernel
def RJ6 : String := "java/lang/Integer"
def TJ6 : u_T := fun k => match k with
  | _ => ("", "", "", false)
def tyJ6 : Nat → FieldType := fun k => match k with
  | _ => .int
abbrev wsJ60 : List Cond := u_ws RJ6 TJ6 0
theorem nmJ6 : ∀ a, a < 0 → ∀ b, b < 0 → a ≠ b → (TJ6 a).2.1 ≠ (TJ6 b).2.1 := by decide +kernel
theorem tyJ6_ok : ∀ k, k < 0 → parseFieldDescriptor (TJ6 k).2.2.1 = some (tyJ6 k) := by decide +kernel
abbrev cJ6_bitCount_0f7a4 : ByteArray := prog_14_method_49_code
def yJ6_bitCount_0f7a4 : MethodName := ⟨RJ6, "bitCount", "(I)I"⟩
def RJ9 : String := "java/lang/Math"
def TJ9 : u_T := fun k => match k with
  | _ => ("", "", "", false)
def tyJ9 : Nat → FieldType := fun k => match k with
  | _ => .int
abbrev wsJ90 : List Cond := u_ws RJ9 TJ9 0
theorem nmJ9 : ∀ a, a < 0 → ∀ b, b < 0 → a ≠ b → (TJ9 a).2.1 ≠ (TJ9 b).2.1 := by decide +kernel
theorem tyJ9_ok : ∀ k, k < 0 → parseFieldDescriptor (TJ9 k).2.2.1 = some (tyJ9 k) := by decide +kernel
abbrev cJ9_max_7cf53 : ByteArray := prog_15_method_65_code
def yJ9_max_7cf53 : MethodName := ⟨RJ9, "max", "(II)I"⟩
abbrev cJ9_min_7cf53 : ByteArray := prog_15_method_69_code
def yJ9_min_7cf53 : MethodName := ⟨RJ9, "min", "(II)I"⟩
def RJ0 : String := "java/lang/String"
def TJ0 : u_T := fun k => match k with
  | _ => ("", "", "", false)
def tyJ0 : Nat → FieldType := fun k => match k with
  | _ => .int
abbrev wsJ00 : List Cond := u_ws RJ0 TJ0 0
theorem nmJ0 : ∀ a, a < 0 → ∀ b, b < 0 → a ≠ b → (TJ0 a).2.1 ≠ (TJ0 b).2.1 := by decide +kernel
theorem tyJ0_ok : ∀ k, k < 0 → parseFieldDescriptor (TJ0 k).2.2.1 = some (tyJ0 k) := by decide +kernel
abbrev cJ0_length_8abf5 : ByteArray := prog_16_method_54_code
def yJ0_length_8abf5 : MethodName := ⟨RJ0, "length", "()I"⟩
abbrev cJ0_charAt_5068e : ByteArray := prog_16_method_56_code
def yJ0_charAt_5068e : MethodName := ⟨RJ0, "charAt", "(I)C"⟩
abbrev cJ0_coder_7d493 : ByteArray := prog_16_method_152_code
def yJ0_coder_7d493 : MethodName := ⟨RJ0, "coder", "()B"⟩
abbrev cJ0_isLatin1_aae02 : ByteArray := prog_16_method_154_code
def yJ0_isLatin1_aae02 : MethodName := ⟨RJ0, "isLatin1", "()Z"⟩
abbrev cJ0_checkIndex_df160 : ByteArray := prog_16_method_155_code
def yJ0_checkIndex_df160 : MethodName := ⟨RJ0, "checkIndex", "(II)V"⟩
def RJ1 : String := "java/lang/StringLatin1"
def TJ1 : u_T := fun k => match k with
  | _ => ("", "", "", false)
def tyJ1 : Nat → FieldType := fun k => match k with
  | _ => .int
abbrev wsJ10 : List Cond := u_ws RJ1 TJ1 0
theorem nmJ1 : ∀ a, a < 0 → ∀ b, b < 0 → a ≠ b → (TJ1 a).2.1 ≠ (TJ1 b).2.1 := by decide +kernel
theorem tyJ1_ok : ∀ k, k < 0 → parseFieldDescriptor (TJ1 k).2.2.1 = some (tyJ1 k) := by decide +kernel
abbrev cJ1_charAt_3b067 : ByteArray := prog_17_method_2_code
def yJ1_charAt_3b067 : MethodName := ⟨RJ1, "charAt", "([BI)C"⟩
def RJ2 : String := "java/lang/StringUTF16"
def TJ2 : u_T := fun k => match k with
  | _ => ("", "", "", false)
def tyJ2 : Nat → FieldType := fun k => match k with
  | _ => .int
abbrev wsJ20 : List Cond := u_ws RJ2 TJ2 0
theorem nmJ2 : ∀ a, a < 0 → ∀ b, b < 0 → a ≠ b → (TJ2 a).2.1 ≠ (TJ2 b).2.1 := by decide +kernel
theorem tyJ2_ok : ∀ k, k < 0 → parseFieldDescriptor (TJ2 k).2.2.1 = some (tyJ2 k) := by decide +kernel
abbrev cJ2_getChar_3b067 : ByteArray := prog_18_method_5_code
def yJ2_getChar_3b067 : MethodName := ⟨RJ2, "getChar", "([BI)C"⟩
abbrev cJ2_length_9d52b : ByteArray := prog_18_method_6_code
def yJ2_length_9d52b : MethodName := ⟨RJ2, "length", "([B)I"⟩
abbrev cJ2_charAt_3b067 : ByteArray := prog_18_method_83_code
def yJ2_charAt_3b067 : MethodName := ⟨RJ2, "charAt", "([BI)C"⟩
abbrev cJ2_checkIndex_2214a : ByteArray := prog_18_method_91_code
def yJ2_checkIndex_2214a : MethodName := ⟨RJ2, "checkIndex", "(I[B)V"⟩
def RJ10 : String := "java/lang/System"
def TJ10 : u_T := fun k => match k with
  | _ => ("", "", "", false)
def tyJ10 : Nat → FieldType := fun k => match k with
  | _ => .int
abbrev wsJ100 : List Cond := u_ws RJ10 TJ10 0
theorem nmJ10 : ∀ a, a < 0 → ∀ b, b < 0 → a ≠ b → (TJ10 a).2.1 ≠ (TJ10 b).2.1 := by decide +kernel
theorem tyJ10_ok : ∀ k, k < 0 → parseFieldDescriptor (TJ10 k).2.2.1 = some (tyJ10 k) := by decide +kernel
def RJxfd54e : String := "java/lang/constant/Constable"
def TJxfd54e : u_T := fun k => match k with
  | _ => ("", "", "", false)
def tyJxfd54e : Nat → FieldType := fun k => match k with
  | _ => .int
abbrev wsJxfd54e0 : List Cond := u_ws RJxfd54e TJxfd54e 0
theorem nmJxfd54e : ∀ a, a < 0 → ∀ b, b < 0 → a ≠ b → (TJxfd54e a).2.1 ≠ (TJxfd54e b).2.1 := by decide +kernel
theorem tyJxfd54e_ok : ∀ k, k < 0 → parseFieldDescriptor (TJxfd54e k).2.2.1 = some (tyJxfd54e k) := by decide +kernel
def RJx3cf43 : String := "java/lang/constant/ConstantDesc"
def TJx3cf43 : u_T := fun k => match k with
  | _ => ("", "", "", false)
def tyJx3cf43 : Nat → FieldType := fun k => match k with
  | _ => .int
abbrev wsJx3cf430 : List Cond := u_ws RJx3cf43 TJx3cf43 0
theorem nmJx3cf43 : ∀ a, a < 0 → ∀ b, b < 0 → a ≠ b → (TJx3cf43 a).2.1 ≠ (TJx3cf43 b).2.1 := by decide +kernel
theorem tyJx3cf43_ok : ∀ k, k < 0 → parseFieldDescriptor (TJx3cf43 k).2.2.1 = some (tyJx3cf43 k) := by decide +kernel
def RJ7 : String := "java/util/Arrays"
def TJ7 : u_T := fun k => match k with
  | _ => ("", "", "", false)
def tyJ7 : Nat → FieldType := fun k => match k with
  | _ => .int
abbrev wsJ70 : List Cond := u_ws RJ7 TJ7 0
theorem nmJ7 : ∀ a, a < 0 → ∀ b, b < 0 → a ≠ b → (TJ7 a).2.1 ≠ (TJ7 b).2.1 := by decide +kernel
theorem tyJ7_ok : ∀ k, k < 0 → parseFieldDescriptor (TJ7 k).2.2.1 = some (tyJ7 k) := by decide +kernel
abbrev cJ7_fill_53178 : ByteArray := prog_20_method_103_code
def yJ7_fill_53178 : MethodName := ⟨RJ7, "fill", "([II)V"⟩
def RJ3 : String := "jdk/internal/util/Preconditions"
def TJ3 : u_T := fun k => match k with
  | _ => ("", "", "", false)
def tyJ3 : Nat → FieldType := fun k => match k with
  | _ => .int
abbrev wsJ30 : List Cond := u_ws RJ3 TJ3 0
theorem nmJ3 : ∀ a, a < 0 → ∀ b, b < 0 → a ≠ b → (TJ3 a).2.1 ≠ (TJ3 b).2.1 := by decide +kernel
theorem tyJ3_ok : ∀ k, k < 0 → parseFieldDescriptor (TJ3 k).2.2.1 = some (tyJ3 k) := by decide +kernel
abbrev cJ3_checkIndex_8e157 : ByteArray := prog_21_method_11_code
def yJ3_checkIndex_8e157 : MethodName := ⟨RJ3, "checkIndex", "(IILjava/util/function/BiFunction;)I"⟩
def RL : String := "RoundStoolLaw"
abbrev cL_law : ByteArray := code
def yL_law : MethodName := ⟨RL, "law", "([I)Z"⟩
