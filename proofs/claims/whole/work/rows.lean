section
/-! ===== BEGIN words of one list among another's, by their places ===== -/
theorem goodIn_r {big : List Cond} (ws : List Cond) (ps : List Nat) (hp : ws = ps.filterMap (fun i => big[i]?)) (h : ws.all goodWord = true) : GoodIn big ws := by
  intro w hw
  have h1 := List.all_eq_true.mp h w hw
  rw [hp] at hw
  obtain ⟨i, -, hi⟩ := List.mem_filterMap.mp hw
  have hm : w ∈ big := by first | exact List.mem_of_getElem? hi | exact List.getElem?_mem hi
  exact ⟨hm, good_of_word h1⟩
theorem goodIn_app {big a b : List Cond} (ha : GoodIn big a) (hb : GoodIn big b) : GoodIn big (a ++ b) := fun w h => (List.mem_append.mp h).elim (ha w) (hb w)
theorem goodIn_ca {big a b : List Cond} {c : Cond} (ha : GoodIn big (c :: a)) (hb : GoodIn big b) : GoodIn big (c :: (a ++ b)) := fun w h => (List.mem_cons.mp h).elim (fun e => ha w (List.mem_cons.mpr (Or.inl e))) (fun h => (List.mem_append.mp h).elim (fun h => ha w (List.mem_cons.mpr (Or.inr h))) (hb w))
theorem goodIn_sub {big ws : List Cond} (hm : ∀ w ∈ ws, w ∈ big) (h : ws.all goodWord = true) : GoodIn big ws := fun w hw => ⟨hm w hw, good_of_word (List.all_eq_true.mp h w hw)⟩
/-! ===== END ===== -/
/-! ===== BEGIN printed: names, fields, word lists, decode rows ===== -/
def RX0 : String := "TideWords$Cells"
def TX0 : u_T := fun k => match k with
  | _ => ("TideWords$Cells", "cells", "[I", true)
def tyX0 : Nat → FieldType := fun k => match k with
  | _ => .array .int
abbrev wsX00 : List Cond := u_ws RX0 TX0 1
theorem nmX0 : ∀ a, a < 1 → ∀ b, b < 1 → a ≠ b → (TX0 a).2.1 ≠ (TX0 b).2.1 := by decide +kernel
theorem tyX0_ok : ∀ k, k < 1 → parseFieldDescriptor (TX0 k).2.2.1 = some (tyX0 k) := by decide +kernel
abbrev cX0_init : ByteArray := prog_2_method_1_code
def yX0_init : MethodName := ⟨RX0, "<init>", "(I)V"⟩
abbrev cX0_get : ByteArray := prog_2_method_2_code
def yX0_get : MethodName := ⟨RX0, "get", "(I)I"⟩
abbrev cX0_set : ByteArray := prog_2_method_3_code
def yX0_set : MethodName := ⟨RX0, "set", "(II)V"⟩
abbrev cX0_add : ByteArray := prog_2_method_4_code
def yX0_add : MethodName := ⟨RX0, "add", "(II)V"⟩
abbrev cX0_sum : ByteArray := prog_2_method_5_code
def yX0_sum : MethodName := ⟨RX0, "sum", "()I"⟩
abbrev cX0_copyFrom : ByteArray := prog_2_method_6_code
def yX0_copyFrom : MethodName := ⟨RX0, "copyFrom", "(LTideWords$Cells;)V"⟩
def RX1 : String := "TideWords$Gates"
def TX1 : u_T := fun k => match k with
  | 0 => ("TideWords$Gates", "sides", "LTideWords$Cells;", true)
  | 1 => ("TideWords$Gates", "slacks", "LTideWords$Cells;", true)
  | 2 => ("TideWords$Gates", "ways", "LTideWords$Cells;", true)
  | 3 => ("TideWords$Gates", "shuts", "LTideWords$Cells;", true)
  | 4 => ("TideWords$Gates", "held", "LTideWords$Cells;", true)
  | 5 => ("TideWords$Gates", "lettersDone", "LTideWords$Cells;", true)
  | 6 => ("TideWords$Gates", "passedWords", "LTideWords$Cells;", true)
  | _ => ("TideWords$Gates", "vainLetters", "LTideWords$Cells;", true)
def tyX1 : Nat → FieldType := fun k => match k with
  | 0 => .object "TideWords$Cells"
  | 1 => .object "TideWords$Cells"
  | 2 => .object "TideWords$Cells"
  | 3 => .object "TideWords$Cells"
  | 4 => .object "TideWords$Cells"
  | 5 => .object "TideWords$Cells"
  | 6 => .object "TideWords$Cells"
  | _ => .object "TideWords$Cells"
abbrev wsX10 : List Cond := u_ws RX1 TX1 8
theorem nmX1 : ∀ a, a < 8 → ∀ b, b < 8 → a ≠ b → (TX1 a).2.1 ≠ (TX1 b).2.1 := by decide +kernel
theorem tyX1_ok : ∀ k, k < 8 → parseFieldDescriptor (TX1 k).2.2.1 = some (tyX1 k) := by decide +kernel
abbrev cX1_init : ByteArray := prog_3_method_1_code
def yX1_init : MethodName := ⟨RX1, "<init>", "()V"⟩
abbrev cX1_change : ByteArray := prog_3_method_2_code
def yX1_change : MethodName := ⟨RX1, "change", "(IIII)V"⟩
abbrev cX1_isShut : ByteArray := prog_3_method_3_code
def yX1_isShut : MethodName := ⟨RX1, "isShut", "(I)Z"⟩
abbrev cX1_isOpenAcross : ByteArray := prog_3_method_4_code
def yX1_isOpenAcross : MethodName := ⟨RX1, "isOpenAcross", "(II)Z"⟩
abbrev cX1_hasWord : ByteArray := prog_3_method_5_code
def yX1_hasWord : MethodName := ⟨RX1, "hasWord", "(I)Z"⟩
abbrev cX1_release : ByteArray := prog_3_method_6_code
def yX1_release : MethodName := ⟨RX1, "release", "(I)V"⟩
abbrev cX1_wordsInside : ByteArray := prog_3_method_7_code
def yX1_wordsInside : MethodName := ⟨RX1, "wordsInside", "()I"⟩
abbrev cX1_gateWith : ByteArray := prog_3_method_8_code
def yX1_gateWith : MethodName := ⟨RX1, "gateWith", "(I)I"⟩
abbrev cX1_copyFrom : ByteArray := prog_3_method_9_code
def yX1_copyFrom : MethodName := ⟨RX1, "copyFrom", "(LTideWords$Gates;)V"⟩
def RX2 : String := "TideWords$Pad"
def TX2 : u_T := fun k => match k with
  | 0 => ("TideWords$Pad", "codes", "LTideWords$Cells;", true)
  | _ => ("TideWords$Pad", "length", "I", false)
def tyX2 : Nat → FieldType := fun k => match k with
  | 0 => .object "TideWords$Cells"
  | _ => .int
abbrev wsX20 : List Cond := u_ws RX2 TX2 2
theorem nmX2 : ∀ a, a < 2 → ∀ b, b < 2 → a ≠ b → (TX2 a).2.1 ≠ (TX2 b).2.1 := by decide +kernel
theorem tyX2_ok : ∀ k, k < 2 → parseFieldDescriptor (TX2 k).2.2.1 = some (tyX2 k) := by decide +kernel
abbrev cX2_init : ByteArray := prog_4_method_1_code
def yX2_init : MethodName := ⟨RX2, "<init>", "()V"⟩
abbrev cX2_append : ByteArray := prog_4_method_2_code
def yX2_append : MethodName := ⟨RX2, "append", "(I)V"⟩
abbrev cX2_wordsInside : ByteArray := prog_4_method_3_code
def yX2_wordsInside : MethodName := ⟨RX2, "wordsInside", "()I"⟩
abbrev cX2_faultPlace : ByteArray := prog_4_method_4_code
def yX2_faultPlace : MethodName := ⟨RX2, "faultPlace", "()I"⟩
def RX3 : String := "TideWords$Tides"
def TX3 : u_T := fun k => match k with
  | 0 => ("TideWords$Tides", "means", "LTideWords$Cells;", true)
  | 1 => ("TideWords$Tides", "swings", "LTideWords$Cells;", true)
  | 2 => ("TideWords$Tides", "periods", "LTideWords$Cells;", true)
  | _ => ("TideWords$Tides", "lies", "LTideWords$Cells;", true)
def tyX3 : Nat → FieldType := fun k => match k with
  | 0 => .object "TideWords$Cells"
  | 1 => .object "TideWords$Cells"
  | 2 => .object "TideWords$Cells"
  | _ => .object "TideWords$Cells"
abbrev wsX30 : List Cond := u_ws RX3 TX3 4
theorem nmX3 : ∀ a, a < 4 → ∀ b, b < 4 → a ≠ b → (TX3 a).2.1 ≠ (TX3 b).2.1 := by decide +kernel
theorem tyX3_ok : ∀ k, k < 4 → parseFieldDescriptor (TX3 k).2.2.1 = some (tyX3 k) := by decide +kernel
abbrev cX3_init : ByteArray := prog_5_method_1_code
def yX3_init : MethodName := ⟨RX3, "<init>", "()V"⟩
abbrev cX3_change : ByteArray := prog_5_method_2_code
def yX3_change : MethodName := ⟨RX3, "change", "(IIII)V"⟩
abbrev cX3_levelAt : ByteArray := prog_5_method_3_code
def yX3_levelAt : MethodName := ⟨RX3, "levelAt", "(II)I"⟩
abbrev cX3_toldAt : ByteArray := prog_5_method_4_code
def yX3_toldAt : MethodName := ⟨RX3, "toldAt", "(II)I"⟩
abbrev cX3_gapAt : ByteArray := prog_5_method_5_code
def yX3_gapAt : MethodName := ⟨RX3, "gapAt", "(I)I"⟩
abbrev cX3_copyFrom : ByteArray := prog_5_method_6_code
def yX3_copyFrom : MethodName := ⟨RX3, "copyFrom", "(LTideWords$Tides;)V"⟩
def RX4 : String := "TideWords$Words"
def TX4 : u_T := fun k => match k with
  | 0 => ("TideWords$Words", "lengths", "LTideWords$Cells;", true)
  | 1 => ("TideWords$Words", "letters", "LTideWords$Cells;", true)
  | 2 => ("TideWords$Words", "passedSteps", "LTideWords$Cells;", true)
  | 3 => ("TideWords$Words", "passedGates", "LTideWords$Cells;", true)
  | 4 => ("TideWords$Words", "timesBack", "LTideWords$Cells;", true)
  | 5 => ("TideWords$Words", "rows", "LTideWords$Cells;", true)
  | 6 => ("TideWords$Words", "rowLengths", "LTideWords$Cells;", true)
  | _ => ("TideWords$Words", "total", "I", false)
def tyX4 : Nat → FieldType := fun k => match k with
  | 0 => .object "TideWords$Cells"
  | 1 => .object "TideWords$Cells"
  | 2 => .object "TideWords$Cells"
  | 3 => .object "TideWords$Cells"
  | 4 => .object "TideWords$Cells"
  | 5 => .object "TideWords$Cells"
  | 6 => .object "TideWords$Cells"
  | _ => .int
abbrev wsX40 : List Cond := u_ws RX4 TX4 8
theorem nmX4 : ∀ a, a < 8 → ∀ b, b < 8 → a ≠ b → (TX4 a).2.1 ≠ (TX4 b).2.1 := by decide +kernel
theorem tyX4_ok : ∀ k, k < 8 → parseFieldDescriptor (TX4 k).2.2.1 = some (tyX4 k) := by decide +kernel
abbrev cX4_init : ByteArray := prog_6_method_1_code
def yX4_init : MethodName := ⟨RX4, "<init>", "()V"⟩
abbrev cX4_startWord : ByteArray := prog_6_method_2_code
def yX4_startWord : MethodName := ⟨RX4, "startWord", "(I)V"⟩
abbrev cX4_addLetter : ByteArray := prog_6_method_3_code
def yX4_addLetter : MethodName := ⟨RX4, "addLetter", "(I)V"⟩
abbrev cX4_letterOf : ByteArray := prog_6_method_4_code
def yX4_letterOf : MethodName := ⟨RX4, "letterOf", "(II)I"⟩
abbrev cX4_hasPassed : ByteArray := prog_6_method_5_code
def yX4_hasPassed : MethodName := ⟨RX4, "hasPassed", "(I)Z"⟩
abbrev cX4_markPassed : ByteArray := prog_6_method_6_code
def yX4_markPassed : MethodName := ⟨RX4, "markPassed", "(III)V"⟩
abbrev cX4_wordAt : ByteArray := prog_6_method_7_code
def yX4_wordAt : MethodName := ⟨RX4, "wordAt", "(II)I"⟩
abbrev cX4_placeIn : ByteArray := prog_6_method_8_code
def yX4_placeIn : MethodName := ⟨RX4, "placeIn", "(II)I"⟩
abbrev cX4_placeOf : ByteArray := prog_6_method_9_code
def yX4_placeOf : MethodName := ⟨RX4, "placeOf", "(I)I"⟩
abbrev cX4_lettersInRow : ByteArray := prog_6_method_10_code
def yX4_lettersInRow : MethodName := ⟨RX4, "lettersInRow", "(I)I"⟩
abbrev cX4_waitingInRow : ByteArray := prog_6_method_11_code
def yX4_waitingInRow : MethodName := ⟨RX4, "waitingInRow", "(I)I"⟩
abbrev cX4_addLast : ByteArray := prog_6_method_12_code
def yX4_addLast : MethodName := ⟨RX4, "addLast", "(II)V"⟩
abbrev cX4_addFirst : ByteArray := prog_6_method_13_code
def yX4_addFirst : MethodName := ⟨RX4, "addFirst", "(II)V"⟩
abbrev cX4_takeWaiting : ByteArray := prog_6_method_14_code
def yX4_takeWaiting : MethodName := ⟨RX4, "takeWaiting", "(I)I"⟩
abbrev cX4_removeFrom : ByteArray := prog_6_method_15_code
def yX4_removeFrom : MethodName := ⟨RX4, "removeFrom", "(II)V"⟩
abbrev cX4_copyFrom : ByteArray := prog_6_method_16_code
def yX4_copyFrom : MethodName := ⟨RX4, "copyFrom", "(LTideWords$Words;)V"⟩
def RX5 : String := "TideWords$World"
def TX5 : u_T := fun k => match k with
  | 0 => ("TideWords$World", "tides", "LTideWords$Tides;", true)
  | 1 => ("TideWords$World", "gates", "LTideWords$Gates;", true)
  | 2 => ("TideWords$World", "words", "LTideWords$Words;", true)
  | 3 => ("TideWords$World", "steps", "I", false)
  | 4 => ("TideWords$World", "letters", "I", false)
  | _ => ("TideWords$World", "idleSteps", "I", false)
def tyX5 : Nat → FieldType := fun k => match k with
  | 0 => .object "TideWords$Tides"
  | 1 => .object "TideWords$Gates"
  | 2 => .object "TideWords$Words"
  | 3 => .int
  | 4 => .int
  | _ => .int
abbrev wsX50 : List Cond := u_ws RX5 TX5 6
theorem nmX5 : ∀ a, a < 6 → ∀ b, b < 6 → a ≠ b → (TX5 a).2.1 ≠ (TX5 b).2.1 := by decide +kernel
theorem tyX5_ok : ∀ k, k < 6 → parseFieldDescriptor (TX5 k).2.2.1 = some (tyX5 k) := by decide +kernel
abbrev cX5_init : ByteArray := prog_7_method_1_code
def yX5_init : MethodName := ⟨RX5, "<init>", "()V"⟩
abbrev cX5_isOpenAt : ByteArray := prog_7_method_2_code
def yX5_isOpenAt : MethodName := ⟨RX5, "isOpenAt", "(II)Z"⟩
abbrev cX5_openMask : ByteArray := prog_7_method_3_code
def yX5_openMask : MethodName := ⟨RX5, "openMask", "()I"⟩
abbrev cX5_stepsUntilOpen : ByteArray := prog_7_method_4_code
def yX5_stepsUntilOpen : MethodName := ⟨RX5, "stepsUntilOpen", "(I)I"⟩
abbrev cX5_openStepsFrom : ByteArray := prog_7_method_5_code
def yX5_openStepsFrom : MethodName := ⟨RX5, "openStepsFrom", "(II)I"⟩
abbrev cX5_whereIs : ByteArray := prog_7_method_6_code
def yX5_whereIs : MethodName := ⟨RX5, "whereIs", "(I)I"⟩
abbrev cX5_makeSteps : ByteArray := prog_7_method_7_code
def yX5_makeSteps : MethodName := ⟨RX5, "makeSteps", "(I)V"⟩
abbrev cX5_stepAcross : ByteArray := prog_7_method_8_code
def yX5_stepAcross : MethodName := ⟨RX5, "stepAcross", "(I)V"⟩
abbrev cX5_takeWord : ByteArray := prog_7_method_9_code
def yX5_takeWord : MethodName := ⟨RX5, "takeWord", "(I)V"⟩
abbrev cX5_passLetter : ByteArray := prog_7_method_10_code
def yX5_passLetter : MethodName := ⟨RX5, "passLetter", "(I)V"⟩
abbrev cX5_sendBack : ByteArray := prog_7_method_11_code
def yX5_sendBack : MethodName := ⟨RX5, "sendBack", "(I)V"⟩
abbrev cX5_tally : ByteArray := prog_7_method_12_code
def yX5_tally : MethodName := ⟨RX5, "tally", "(I)I"⟩
abbrev cX5_copyFrom : ByteArray := prog_7_method_13_code
def yX5_copyFrom : MethodName := ⟨RX5, "copyFrom", "(LTideWords$World;)V"⟩
def RX6 : String := "TideWords"
def TX6 : u_T := fun k => match k with
  | 0 => ("TideWords", "now", "LTideWords$World;", true)
  | 1 => ("TideWords", "trial", "LTideWords$World;", true)
  | 2 => ("TideWords", "pad", "LTideWords$Pad;", true)
  | 3 => ("TideWords", "history", "[LTideWords$World;", true)
  | 4 => ("TideWords", "slots", "[LTideWords$World;", true)
  | 5 => ("TideWords", "isSaved", "LTideWords$Cells;", true)
  | 6 => ("TideWords", "gapsAhead", "LTideWords$Cells;", true)
  | 7 => ("TideWords", "nextRecord", "I", false)
  | _ => ("TideWords", "records", "I", false)
def tyX6 : Nat → FieldType := fun k => match k with
  | 0 => .object "TideWords$World"
  | 1 => .object "TideWords$World"
  | 2 => .object "TideWords$Pad"
  | 3 => .array (.object "TideWords$World")
  | 4 => .array (.object "TideWords$World")
  | 5 => .object "TideWords$Cells"
  | 6 => .object "TideWords$Cells"
  | 7 => .int
  | _ => .int
abbrev wsX60 : List Cond := u_ws RX6 TX6 9
theorem nmX6 : ∀ a, a < 9 → ∀ b, b < 9 → a ≠ b → (TX6 a).2.1 ≠ (TX6 b).2.1 := by decide +kernel
theorem tyX6_ok : ∀ k, k < 9 → parseFieldDescriptor (TX6 k).2.2.1 = some (tyX6 k) := by decide +kernel
abbrev cX6_init : ByteArray := prog_1_method_1_code
def yX6_init : MethodName := ⟨RX6, "<init>", "()V"⟩
abbrev cX6_tide : ByteArray := prog_1_method_2_code
def yX6_tide : MethodName := ⟨RX6, "tide", "(IIII)I"⟩
abbrev cX6_gauge : ByteArray := prog_1_method_3_code
def yX6_gauge : MethodName := ⟨RX6, "gauge", "(II)I"⟩
abbrev cX6_gate : ByteArray := prog_1_method_4_code
def yX6_gate : MethodName := ⟨RX6, "gate", "(IIII)I"⟩
abbrev cX6_shut : ByteArray := prog_1_method_5_code
def yX6_shut : MethodName := ⟨RX6, "shut", "(IZ)I"⟩
abbrev cX6_put : ByteArray := prog_1_method_6_code
def yX6_put : MethodName := ⟨RX6, "put", "(I)I"⟩
abbrev cX6_run : ByteArray := prog_1_method_7_code
def yX6_run : MethodName := ⟨RX6, "run", "(I)I"⟩
abbrev cX6_store : ByteArray := prog_1_method_8_code
def yX6_store : MethodName := ⟨RX6, "store", "(II)I"⟩
abbrev cX6_gateOf : ByteArray := prog_1_method_9_code
def yX6_gateOf : MethodName := ⟨RX6, "gateOf", "(II)I"⟩
abbrev cX6_word : ByteArray := prog_1_method_10_code
def yX6_word : MethodName := ⟨RX6, "word", "(II)I"⟩
abbrev cX6_at : ByteArray := prog_1_method_11_code
def yX6_at : MethodName := ⟨RX6, "at", "(II)I"⟩
abbrev cX6_count : ByteArray := prog_1_method_12_code
def yX6_count : MethodName := ⟨RX6, "count", "(I)I"⟩
abbrev cX6_untilOpen : ByteArray := prog_1_method_13_code
def yX6_untilOpen : MethodName := ⟨RX6, "untilOpen", "(I)I"⟩
abbrev cX6_openFor : ByteArray := prog_1_method_14_code
def yX6_openFor : MethodName := ⟨RX6, "openFor", "(I)I"⟩
abbrev cX6_untilPassed : ByteArray := prog_1_method_15_code
def yX6_untilPassed : MethodName := ⟨RX6, "untilPassed", "(I)I"⟩
abbrev cX6_ifRun : ByteArray := prog_1_method_16_code
def yX6_ifRun : MethodName := ⟨RX6, "ifRun", "(II)I"⟩
abbrev cX6_leastSlack : ByteArray := prog_1_method_17_code
def yX6_leastSlack : MethodName := ⟨RX6, "leastSlack", "(II)I"⟩
abbrev cX6_bestLie : ByteArray := prog_1_method_18_code
def yX6_bestLie : MethodName := ⟨RX6, "bestLie", "(II)I"⟩
abbrev cX6_write : ByteArray := prog_1_method_19_code
def yX6_write : MethodName := ⟨RX6, "write", "(J)I"⟩
abbrev cX6_wipe : ByteArray := prog_1_method_20_code
def yX6_wipe : MethodName := ⟨RX6, "wipe", "()I"⟩
abbrev cX6_fault : ByteArray := prog_1_method_21_code
def yX6_fault : MethodName := ⟨RX6, "fault", "()I"⟩
abbrev cX6_undo : ByteArray := prog_1_method_22_code
def yX6_undo : MethodName := ⟨RX6, "undo", "()I"⟩
abbrev cX6_save : ByteArray := prog_1_method_23_code
def yX6_save : MethodName := ⟨RX6, "save", "(I)I"⟩
abbrev cX6_restore : ByteArray := prog_1_method_24_code
def yX6_restore : MethodName := ⟨RX6, "restore", "(I)I"⟩
abbrev cX6_isWithin : ByteArray := prog_1_method_25_code
def yX6_isWithin : MethodName := ⟨RX6, "isWithin", "(III)Z"⟩
abbrev cX6_isStore : ByteArray := prog_1_method_26_code
def yX6_isStore : MethodName := ⟨RX6, "isStore", "(I)Z"⟩
abbrev cX6_isGate : ByteArray := prog_1_method_27_code
def yX6_isGate : MethodName := ⟨RX6, "isGate", "(I)Z"⟩
abbrev cX6_isWord : ByteArray := prog_1_method_28_code
def yX6_isWord : MethodName := ⟨RX6, "isWord", "(I)Z"⟩
abbrev cX6_worldIn : ByteArray := prog_1_method_29_code
def yX6_worldIn : MethodName := ⟨RX6, "worldIn", "([LTideWords$World;I)LTideWords$World;"⟩
abbrev cX6_copyInto : ByteArray := prog_1_method_30_code
def yX6_copyInto : MethodName := ⟨RX6, "copyInto", "([LTideWords$World;I)V"⟩
abbrev cX6_record : ByteArray := prog_1_method_31_code
def yX6_record : MethodName := ⟨RX6, "record", "()V"⟩
abbrev cX6_bringWords : ByteArray := prog_1_method_32_code
def yX6_bringWords : MethodName := ⟨RX6, "bringWords", "(I)V"⟩
abbrev cX6_codesIn : ByteArray := prog_1_method_33_code
def yX6_codesIn : MethodName := ⟨RX6, "codesIn", "(J)I"⟩
abbrev cX6_codeAt : ByteArray := prog_1_method_34_code
def yX6_codeAt : MethodName := ⟨RX6, "codeAt", "(JI)I"⟩
abbrev cX6_findGapsAhead : ByteArray := prog_1_method_35_code
def yX6_findGapsAhead : MethodName := ⟨RX6, "findGapsAhead", "()V"⟩
abbrev cX6_hasGapAhead : ByteArray := prog_1_method_36_code
def yX6_hasGapAhead : MethodName := ⟨RX6, "hasGapAhead", "(I)Z"⟩
abbrev cX6_wordsPassingWith : ByteArray := prog_1_method_37_code
def yX6_wordsPassingWith : MethodName := ⟨RX6, "wordsPassingWith", "(II)I"⟩
abbrev cX6_openStepsWith : ByteArray := prog_1_method_38_code
def yX6_openStepsWith : MethodName := ⟨RX6, "openStepsWith", "(III)I"⟩
def RX7 : String := "TideWordsModel"
def TX7 : u_T := fun k => match k with
  | 0 => ("TideWordsModel", "s", "[I", true)
  | 1 => ("TideWordsModel", "aside", "[I", true)
  | 2 => ("TideWordsModel", "history", "[I", true)
  | 3 => ("TideWordsModel", "kept", "I", false)
  | 4 => ("TideWordsModel", "slots", "[I", true)
  | 5 => ("TideWordsModel", "isSaved", "[Z", true)
  | 6 => ("TideWordsModel", "pad", "[I", true)
  | _ => ("TideWordsModel", "length", "I", false)
def tyX7 : Nat → FieldType := fun k => match k with
  | 0 => .array .int
  | 1 => .array .int
  | 2 => .array .int
  | 3 => .int
  | 4 => .array .int
  | 5 => .array .boolean
  | 6 => .array .int
  | _ => .int
abbrev wsX70 : List Cond := u_ws RX7 TX7 8
theorem nmX7 : ∀ a, a < 8 → ∀ b, b < 8 → a ≠ b → (TX7 a).2.1 ≠ (TX7 b).2.1 := by decide +kernel
theorem tyX7_ok : ∀ k, k < 8 → parseFieldDescriptor (TX7 k).2.2.1 = some (tyX7 k) := by decide +kernel
abbrev cX7_init : ByteArray := prog_9_method_1_code
def yX7_init : MethodName := ⟨RX7, "<init>", "()V"⟩
abbrev cX7_in : ByteArray := prog_9_method_3_code
def yX7_in : MethodName := ⟨RX7, "in", "(III)Z"⟩
abbrev cX7_isStore : ByteArray := prog_9_method_4_code
def yX7_isStore : MethodName := ⟨RX7, "isStore", "(I)Z"⟩
abbrev cX7_isGate : ByteArray := prog_9_method_5_code
def yX7_isGate : MethodName := ⟨RX7, "isGate", "(I)Z"⟩
abbrev cX7_isWord : ByteArray := prog_9_method_6_code
def yX7_isWord : MethodName := ⟨RX7, "isWord", "(I)Z"⟩
abbrev cX7_ofStore : ByteArray := prog_9_method_7_code
def yX7_ofStore : MethodName := ⟨RX7, "ofStore", "(II)I"⟩
abbrev cX7_ofGate : ByteArray := prog_9_method_8_code
def yX7_ofGate : MethodName := ⟨RX7, "ofGate", "(II)I"⟩
abbrev cX7_ofWord : ByteArray := prog_9_method_9_code
def yX7_ofWord : MethodName := ⟨RX7, "ofWord", "(II)I"⟩
abbrev cX7_inRow : ByteArray := prog_9_method_10_code
def yX7_inRow : MethodName := ⟨RX7, "inRow", "(II)I"⟩
abbrev cX7_record : ByteArray := prog_9_method_11_code
def yX7_record : MethodName := ⟨RX7, "record", "()V"⟩
abbrev cX7_putAside : ByteArray := prog_9_method_12_code
def yX7_putAside : MethodName := ⟨RX7, "putAside", "()V"⟩
abbrev cX7_putBack : ByteArray := prog_9_method_13_code
def yX7_putBack : MethodName := ⟨RX7, "putBack", "()V"⟩
abbrev cX7_level : ByteArray := prog_9_method_14_code
def yX7_level : MethodName := ⟨RX7, "level", "(II)I"⟩
abbrev cX7_off : ByteArray := prog_9_method_15_code
def yX7_off : MethodName := ⟨RX7, "off", "(I)I"⟩
abbrev cX7_isOpen : ByteArray := prog_9_method_16_code
def yX7_isOpen : MethodName := ⟨RX7, "isOpen", "(II)Z"⟩
abbrev cX7_openNow : ByteArray := prog_9_method_17_code
def yX7_openNow : MethodName := ⟨RX7, "openNow", "()I"⟩
abbrev cX7_lettersOf : ByteArray := prog_9_method_18_code
def yX7_lettersOf : MethodName := ⟨RX7, "lettersOf", "(I)I"⟩
abbrev cX7_letterOf : ByteArray := prog_9_method_19_code
def yX7_letterOf : MethodName := ⟨RX7, "letterOf", "(II)I"⟩
abbrev cX7_hasPassed : ByteArray := prog_9_method_20_code
def yX7_hasPassed : MethodName := ⟨RX7, "hasPassed", "(I)Z"⟩
abbrev cX7_comes : ByteArray := prog_9_method_21_code
def yX7_comes : MethodName := ⟨RX7, "comes", "(II)V"⟩
abbrev cX7_goesBack : ByteArray := prog_9_method_22_code
def yX7_goesBack : MethodName := ⟨RX7, "goesBack", "(II)V"⟩
abbrev cX7_takes : ByteArray := prog_9_method_23_code
def yX7_takes : MethodName := ⟨RX7, "takes", "(I)I"⟩
abbrev cX7_acts : ByteArray := prog_9_method_24_code
def yX7_acts : MethodName := ⟨RX7, "acts", "(I)V"⟩
abbrev cX7_step : ByteArray := prog_9_method_25_code
def yX7_step : MethodName := ⟨RX7, "step", "()V"⟩
abbrev cX7_runs : ByteArray := prog_9_method_26_code
def yX7_runs : MethodName := ⟨RX7, "runs", "(I)V"⟩
abbrev cX7_passedWords : ByteArray := prog_9_method_27_code
def yX7_passedWords : MethodName := ⟨RX7, "passedWords", "()I"⟩
abbrev cX7_backs : ByteArray := prog_9_method_28_code
def yX7_backs : MethodName := ⟨RX7, "backs", "()I"⟩
abbrev cX7_tide : ByteArray := prog_9_method_29_code
def yX7_tide : MethodName := ⟨RX7, "tide", "(IIII)I"⟩
abbrev cX7_lays : ByteArray := prog_9_method_30_code
def yX7_lays : MethodName := ⟨RX7, "lays", "(II)I"⟩
abbrev cX7_gauge : ByteArray := prog_9_method_31_code
def yX7_gauge : MethodName := ⟨RX7, "gauge", "(II)I"⟩
abbrev cX7_gate : ByteArray := prog_9_method_32_code
def yX7_gate : MethodName := ⟨RX7, "gate", "(IIII)I"⟩
abbrev cX7_shut : ByteArray := prog_9_method_33_code
def yX7_shut : MethodName := ⟨RX7, "shut", "(IZ)I"⟩
abbrev cX7_run : ByteArray := prog_9_method_34_code
def yX7_run : MethodName := ⟨RX7, "run", "(I)I"⟩
abbrev cX7_sumOf : ByteArray := prog_9_method_35_code
def yX7_sumOf : MethodName := ⟨RX7, "sumOf", "(II)I"⟩
abbrev cX7_store : ByteArray := prog_9_method_36_code
def yX7_store : MethodName := ⟨RX7, "store", "(II)I"⟩
abbrev cX7_gateOf : ByteArray := prog_9_method_37_code
def yX7_gateOf : MethodName := ⟨RX7, "gateOf", "(II)I"⟩
abbrev cX7_whereIs : ByteArray := prog_9_method_38_code
def yX7_whereIs : MethodName := ⟨RX7, "whereIs", "(I)I"⟩
abbrev cX7_word : ByteArray := prog_9_method_39_code
def yX7_word : MethodName := ⟨RX7, "word", "(II)I"⟩
abbrev cX7_at : ByteArray := prog_9_method_40_code
def yX7_at : MethodName := ⟨RX7, "at", "(II)I"⟩
abbrev cX7_inGates : ByteArray := prog_9_method_41_code
def yX7_inGates : MethodName := ⟨RX7, "inGates", "()I"⟩
abbrev cX7_count : ByteArray := prog_9_method_42_code
def yX7_count : MethodName := ⟨RX7, "count", "(I)I"⟩
abbrev cX7_opensIn : ByteArray := prog_9_method_43_code
def yX7_opensIn : MethodName := ⟨RX7, "opensIn", "(I)I"⟩
abbrev cX7_untilOpen : ByteArray := prog_9_method_44_code
def yX7_untilOpen : MethodName := ⟨RX7, "untilOpen", "(I)I"⟩
abbrev cX7_openFor : ByteArray := prog_9_method_45_code
def yX7_openFor : MethodName := ⟨RX7, "openFor", "(I)I"⟩
abbrev cX7_untilPassed : ByteArray := prog_9_method_46_code
def yX7_untilPassed : MethodName := ⟨RX7, "untilPassed", "(I)I"⟩
abbrev cX7_ifRun : ByteArray := prog_9_method_47_code
def yX7_ifRun : MethodName := ⟨RX7, "ifRun", "(II)I"⟩
abbrev cX7_leastSlack : ByteArray := prog_9_method_48_code
def yX7_leastSlack : MethodName := ⟨RX7, "leastSlack", "(II)I"⟩
abbrev cX7_opensWith : ByteArray := prog_9_method_49_code
def yX7_opensWith : MethodName := ⟨RX7, "opensWith", "(III)I"⟩
abbrev cX7_bestLie : ByteArray := prog_9_method_50_code
def yX7_bestLie : MethodName := ⟨RX7, "bestLie", "(II)I"⟩
abbrev cX7_write : ByteArray := prog_9_method_51_code
def yX7_write : MethodName := ⟨RX7, "write", "(J)I"⟩
abbrev cX7_wipe : ByteArray := prog_9_method_52_code
def yX7_wipe : MethodName := ⟨RX7, "wipe", "()I"⟩
abbrev cX7_behind : ByteArray := prog_9_method_53_code
def yX7_behind : MethodName := ⟨RX7, "behind", "(I)I"⟩
abbrev cX7_wrong : ByteArray := prog_9_method_54_code
def yX7_wrong : MethodName := ⟨RX7, "wrong", "()I"⟩
abbrev cX7_fault : ByteArray := prog_9_method_55_code
def yX7_fault : MethodName := ⟨RX7, "fault", "()I"⟩
abbrev cX7_told : ByteArray := prog_9_method_56_code
def yX7_told : MethodName := ⟨RX7, "told", "()I"⟩
abbrev cX7_put : ByteArray := prog_9_method_57_code
def yX7_put : MethodName := ⟨RX7, "put", "(I)I"⟩
abbrev cX7_undo : ByteArray := prog_9_method_58_code
def yX7_undo : MethodName := ⟨RX7, "undo", "()I"⟩
abbrev cX7_save : ByteArray := prog_9_method_59_code
def yX7_save : MethodName := ⟨RX7, "save", "(I)I"⟩
abbrev cX7_restore : ByteArray := prog_9_method_60_code
def yX7_restore : MethodName := ⟨RX7, "restore", "(I)I"⟩
def RJ9 : String := "java/lang/Math"
def TJ9 : u_T := fun k => match k with
  | _ => ("", "", "", false)
def tyJ9 : Nat → FieldType := fun k => match k with
  | _ => .int
abbrev wsJ90 : List Cond := u_ws RJ9 TJ9 0
theorem nmJ9 : ∀ a, a < 0 → ∀ b, b < 0 → a ≠ b → (TJ9 a).2.1 ≠ (TJ9 b).2.1 := by decide +kernel
theorem tyJ9_ok : ∀ k, k < 0 → parseFieldDescriptor (TJ9 k).2.2.1 = some (tyJ9 k) := by decide +kernel
abbrev cJ9_abs_0f7a4 : ByteArray := prog_10_method_59_code
def yJ9_abs_0f7a4 : MethodName := ⟨RJ9, "abs", "(I)I"⟩
abbrev cJ9_max_7cf53 : ByteArray := prog_10_method_65_code
def yJ9_max_7cf53 : MethodName := ⟨RJ9, "max", "(II)I"⟩
abbrev cJ9_min_7cf53 : ByteArray := prog_10_method_69_code
def yJ9_min_7cf53 : MethodName := ⟨RJ9, "min", "(II)I"⟩
def RJ10 : String := "java/lang/System"
def TJ10 : u_T := fun k => match k with
  | _ => ("", "", "", false)
def tyJ10 : Nat → FieldType := fun k => match k with
  | _ => .int
abbrev wsJ100 : List Cond := u_ws RJ10 TJ10 0
theorem nmJ10 : ∀ a, a < 0 → ∀ b, b < 0 → a ≠ b → (TJ10 a).2.1 ≠ (TJ10 b).2.1 := by decide +kernel
theorem tyJ10_ok : ∀ k, k < 0 → parseFieldDescriptor (TJ10 k).2.2.1 = some (tyJ10 k) := by decide +kernel
def wsX0_init : List Cond := .code yX0_init cX0_init 2 none :: ([.methodLink RX0 1 objectInit, .instanceMethod objectInit, .code objectInit ⟨#[0xb1]⟩ 1 none, .methodLink RX0 7 Lib.Math.max.name, .static Lib.Math.max.name, .initialized "java/lang/Math", .code Lib.Math.max.name Lib.Math.max.code 2 (some .int), .arrayClass .int, .fieldLink RX0 13 "TideWords$Cells" "cells" "[I"] ++ wsX00)
def wsX0_get : List Cond := .code yX0_get cX0_get 2 (some .int) :: ([.fieldLink RX0 13 "TideWords$Cells" "cells" "[I"] ++ wsX00)
def wsX0_set : List Cond := .code yX0_set cX0_set 3 none :: ([.fieldLink RX0 13 "TideWords$Cells" "cells" "[I"] ++ wsX00)
def wsX0_add : List Cond := .code yX0_add cX0_add 3 none :: ([.fieldLink RX0 13 "TideWords$Cells" "cells" "[I"] ++ wsX00)
def wsX0_sum : List Cond := .code yX0_sum cX0_sum 3 (some .int) :: ([.fieldLink RX0 13 "TideWords$Cells" "cells" "[I"] ++ wsX00)
def wsX0_copyFrom : List Cond := .code yX0_copyFrom cX0_copyFrom 2 none :: ([.fieldLink RX0 13 "TideWords$Cells" "cells" "[I", .methodLink RX0 19 Lib.Math.min.name, .static Lib.Math.min.name, .initialized "java/lang/Math", .code Lib.Math.min.name Lib.Math.min.code 2 (some .int), .methodLink RX0 22 arraycopyName, .native arraycopyName, .static arraycopyName, .initialized "java/lang/System"] ++ wsX00)
def wsX1_change : List Cond := .code yX1_change cX1_change 5 none :: ([.fieldLink RX1 14 "TideWords$Gates" "sides" "LTideWords$Cells;", .fieldLink RX1 20 "TideWords$Gates" "slacks" "LTideWords$Cells;", .fieldLink RX1 23 "TideWords$Gates" "ways" "LTideWords$Cells;", .methodLink RX1 45 yX0_set, .instanceMethod yX0_set, .selects RX0 yX0_set yX0_set, .initialized RX0, .code yX0_set cX0_set 3 none, .fieldLink RX0 13 "TideWords$Cells" "cells" "[I"] ++ wsX10 ++ wsX00)
def wsX1_init_r1 : List Cond := [Cond.methodLink RX1 3 objectInit, Cond.instanceMethod objectInit, Cond.code objectInit ⟨#[0xb1]⟩ 1 none, Cond.classLink RX1 9 RX0, Cond.instantiable RX0 1, Cond.initialized RX0, Cond.fieldLink RX1 14 "TideWords$Gates" "sides" "LTideWords$Cells;", Cond.fieldLink RX1 20 "TideWords$Gates" "slacks" "LTideWords$Cells;", Cond.fieldLink RX1 23 "TideWords$Gates" "ways" "LTideWords$Cells;", Cond.fieldLink RX1 26 "TideWords$Gates" "shuts" "LTideWords$Cells;", Cond.fieldLink RX1 29 "TideWords$Gates" "held" "LTideWords$Cells;", Cond.fieldLink RX1 32 "TideWords$Gates" "lettersDone" "LTideWords$Cells;", Cond.fieldLink RX1 35 "TideWords$Gates" "passedWords" "LTideWords$Cells;", Cond.fieldLink RX1 38 "TideWords$Gates" "vainLetters" "LTideWords$Cells;", Cond.methodLink RX1 11 yX0_init, Cond.instanceMethod yX0_init, Cond.code yX0_init cX0_init 2 none, Cond.methodLink RX0 1 objectInit, Cond.methodLink RX0 7 Lib.Math.max.name, Cond.static Lib.Math.max.name, Cond.initialized "java/lang/Math", Cond.code Lib.Math.max.name Lib.Math.max.code 2 (some .int), Cond.arrayClass .int, Cond.fieldLink RX0 13 "TideWords$Cells" "cells" "[I"]
def wsX1_init_r2 : List Cond := [Cond.methodLink RX1 41 yX1_change, Cond.instanceMethod yX1_change, Cond.selects RX1 yX1_change yX1_change, Cond.initialized RX1, Cond.code yX1_change cX1_change 5 none, Cond.methodLink RX1 45 yX0_set, Cond.instanceMethod yX0_set, Cond.selects RX0 yX0_set yX0_set, Cond.code yX0_set cX0_set 3 none]
def wsX1_init : List Cond := .code yX1_init cX1_init 2 none :: ((wsX1_init_r1 ++ wsX1_init_r2) ++ wsX00 ++ wsX10)
def wsX1_isShut : List Cond := .code yX1_isShut cX1_isShut 2 (some .boolean) :: ([.fieldLink RX1 26 "TideWords$Gates" "shuts" "LTideWords$Cells;", .methodLink RX1 49 yX0_get, .instanceMethod yX0_get, .selects RX0 yX0_get yX0_get, .initialized RX0, .code yX0_get cX0_get 2 (some .int), .fieldLink RX0 13 "TideWords$Cells" "cells" "[I"] ++ wsX10 ++ wsX00)
def wsX1_isOpenAcross : List Cond := .code yX1_isOpenAcross cX1_isOpenAcross 3 (some .boolean) :: ([.methodLink RX1 57 Lib.Math.abs.name, .static Lib.Math.abs.name, .initialized "java/lang/Math", .code Lib.Math.abs.name Lib.Math.abs.code 1 (some .int), .fieldLink RX1 20 "TideWords$Gates" "slacks" "LTideWords$Cells;", .methodLink RX1 53 yX1_isShut, .instanceMethod yX1_isShut, .selects RX1 yX1_isShut yX1_isShut, .initialized RX1, .code yX1_isShut cX1_isShut 2 (some .boolean), .fieldLink RX1 26 "TideWords$Gates" "shuts" "LTideWords$Cells;", .methodLink RX1 49 yX0_get, .instanceMethod yX0_get, .selects RX0 yX0_get yX0_get, .initialized RX0, .code yX0_get cX0_get 2 (some .int), .fieldLink RX0 13 "TideWords$Cells" "cells" "[I"] ++ wsX10 ++ wsX00)
def wsX1_hasWord : List Cond := .code yX1_hasWord cX1_hasWord 2 (some .boolean) :: ([.fieldLink RX1 29 "TideWords$Gates" "held" "LTideWords$Cells;", .methodLink RX1 49 yX0_get, .instanceMethod yX0_get, .selects RX0 yX0_get yX0_get, .initialized RX0, .code yX0_get cX0_get 2 (some .int), .fieldLink RX0 13 "TideWords$Cells" "cells" "[I"] ++ wsX10 ++ wsX00)
def wsX1_release : List Cond := .code yX1_release cX1_release 2 none :: ([.fieldLink RX1 29 "TideWords$Gates" "held" "LTideWords$Cells;", .fieldLink RX1 32 "TideWords$Gates" "lettersDone" "LTideWords$Cells;", .methodLink RX1 45 yX0_set, .instanceMethod yX0_set, .selects RX0 yX0_set yX0_set, .initialized RX0, .code yX0_set cX0_set 3 none, .fieldLink RX0 13 "TideWords$Cells" "cells" "[I"] ++ wsX10 ++ wsX00)
def wsX1_wordsInside : List Cond := .code yX1_wordsInside cX1_wordsInside 3 (some .int) :: ([.methodLink RX1 62 yX1_hasWord, .instanceMethod yX1_hasWord, .selects RX1 yX1_hasWord yX1_hasWord, .initialized RX1, .code yX1_hasWord cX1_hasWord 2 (some .boolean), .fieldLink RX1 29 "TideWords$Gates" "held" "LTideWords$Cells;", .methodLink RX1 49 yX0_get, .instanceMethod yX0_get, .selects RX0 yX0_get yX0_get, .initialized RX0, .code yX0_get cX0_get 2 (some .int), .fieldLink RX0 13 "TideWords$Cells" "cells" "[I"] ++ wsX10 ++ wsX00)
def wsX1_gateWith : List Cond := .code yX1_gateWith cX1_gateWith 3 (some .int) :: ([.fieldLink RX1 29 "TideWords$Gates" "held" "LTideWords$Cells;", .methodLink RX1 49 yX0_get, .instanceMethod yX0_get, .selects RX0 yX0_get yX0_get, .initialized RX0, .code yX0_get cX0_get 2 (some .int), .fieldLink RX0 13 "TideWords$Cells" "cells" "[I"] ++ wsX10 ++ wsX00)
def wsX1_copyFrom : List Cond := .code yX1_copyFrom cX1_copyFrom 2 none :: ([.fieldLink RX1 14 "TideWords$Gates" "sides" "LTideWords$Cells;", .fieldLink RX1 20 "TideWords$Gates" "slacks" "LTideWords$Cells;", .fieldLink RX1 23 "TideWords$Gates" "ways" "LTideWords$Cells;", .fieldLink RX1 26 "TideWords$Gates" "shuts" "LTideWords$Cells;", .fieldLink RX1 29 "TideWords$Gates" "held" "LTideWords$Cells;", .fieldLink RX1 32 "TideWords$Gates" "lettersDone" "LTideWords$Cells;", .fieldLink RX1 35 "TideWords$Gates" "passedWords" "LTideWords$Cells;", .fieldLink RX1 38 "TideWords$Gates" "vainLetters" "LTideWords$Cells;", .methodLink RX1 65 yX0_copyFrom, .instanceMethod yX0_copyFrom, .selects RX0 yX0_copyFrom yX0_copyFrom, .initialized RX0, .code yX0_copyFrom cX0_copyFrom 2 none, .fieldLink RX0 13 "TideWords$Cells" "cells" "[I", .methodLink RX0 19 Lib.Math.min.name, .static Lib.Math.min.name, .initialized "java/lang/Math", .code Lib.Math.min.name Lib.Math.min.code 2 (some .int), .methodLink RX0 22 arraycopyName, .native arraycopyName, .static arraycopyName, .initialized "java/lang/System"] ++ wsX10 ++ wsX00)
def wsX2_init : List Cond := .code yX2_init cX2_init 1 none :: ([.methodLink RX2 3 objectInit, .instanceMethod objectInit, .code objectInit ⟨#[0xb1]⟩ 1 none, .classLink RX2 9 RX0, .instantiable RX0 1, .initialized RX0, .fieldLink RX2 14 "TideWords$Pad" "codes" "LTideWords$Cells;", .methodLink RX2 11 yX0_init, .instanceMethod yX0_init, .code yX0_init cX0_init 2 none, .methodLink RX0 1 objectInit, .methodLink RX0 7 Lib.Math.max.name, .static Lib.Math.max.name, .initialized "java/lang/Math", .code Lib.Math.max.name Lib.Math.max.code 2 (some .int), .arrayClass .int, .fieldLink RX0 13 "TideWords$Cells" "cells" "[I"] ++ wsX00 ++ wsX20)
def wsX2_append : List Cond := .code yX2_append cX2_append 2 none :: ([.fieldLink RX2 20 "TideWords$Pad" "length" "I", .fieldLink RX2 14 "TideWords$Pad" "codes" "LTideWords$Cells;", .methodLink RX2 24 yX0_set, .instanceMethod yX0_set, .selects RX0 yX0_set yX0_set, .initialized RX0, .code yX0_set cX0_set 3 none, .fieldLink RX0 13 "TideWords$Cells" "cells" "[I"] ++ wsX20 ++ wsX00)
def wsX2_wordsInside : List Cond := .code yX2_wordsInside cX2_wordsInside 3 (some .int) :: ([.fieldLink RX2 20 "TideWords$Pad" "length" "I", .fieldLink RX2 14 "TideWords$Pad" "codes" "LTideWords$Cells;", .methodLink RX2 28 yX0_get, .instanceMethod yX0_get, .selects RX0 yX0_get yX0_get, .initialized RX0, .code yX0_get cX0_get 2 (some .int), .fieldLink RX0 13 "TideWords$Cells" "cells" "[I"] ++ wsX20 ++ wsX00)
def wsX2_faultPlace : List Cond := .code yX2_faultPlace cX2_faultPlace 6 (some .int) :: ([.fieldLink RX2 20 "TideWords$Pad" "length" "I", .fieldLink RX2 14 "TideWords$Pad" "codes" "LTideWords$Cells;", .methodLink RX2 28 yX0_get, .instanceMethod yX0_get, .selects RX0 yX0_get yX0_get, .initialized RX0, .code yX0_get cX0_get 2 (some .int), .fieldLink RX0 13 "TideWords$Cells" "cells" "[I"] ++ wsX20 ++ wsX00)
def wsX3_change : List Cond := .code yX3_change cX3_change 5 none :: ([.fieldLink RX3 14 "TideWords$Tides" "means" "LTideWords$Cells;", .fieldLink RX3 20 "TideWords$Tides" "swings" "LTideWords$Cells;", .fieldLink RX3 23 "TideWords$Tides" "periods" "LTideWords$Cells;", .methodLink RX3 33 yX0_set, .instanceMethod yX0_set, .selects RX0 yX0_set yX0_set, .initialized RX0, .code yX0_set cX0_set 3 none, .fieldLink RX0 13 "TideWords$Cells" "cells" "[I"] ++ wsX30 ++ wsX00)
def wsX3_init_r1 : List Cond := [Cond.methodLink RX3 3 objectInit, Cond.instanceMethod objectInit, Cond.code objectInit ⟨#[0xb1]⟩ 1 none, Cond.classLink RX3 9 RX0, Cond.instantiable RX0 1, Cond.initialized RX0, Cond.fieldLink RX3 14 "TideWords$Tides" "means" "LTideWords$Cells;", Cond.fieldLink RX3 20 "TideWords$Tides" "swings" "LTideWords$Cells;", Cond.fieldLink RX3 23 "TideWords$Tides" "periods" "LTideWords$Cells;", Cond.fieldLink RX3 26 "TideWords$Tides" "lies" "LTideWords$Cells;", Cond.methodLink RX3 11 yX0_init, Cond.instanceMethod yX0_init, Cond.code yX0_init cX0_init 2 none, Cond.methodLink RX0 1 objectInit, Cond.methodLink RX0 7 Lib.Math.max.name, Cond.static Lib.Math.max.name, Cond.initialized "java/lang/Math", Cond.code Lib.Math.max.name Lib.Math.max.code 2 (some .int), Cond.arrayClass .int, Cond.fieldLink RX0 13 "TideWords$Cells" "cells" "[I", Cond.methodLink RX3 29 yX3_change, Cond.instanceMethod yX3_change, Cond.selects RX3 yX3_change yX3_change, Cond.initialized RX3]
def wsX3_init_r2 : List Cond := [Cond.code yX3_change cX3_change 5 none, Cond.methodLink RX3 33 yX0_set, Cond.instanceMethod yX0_set, Cond.selects RX0 yX0_set yX0_set, Cond.code yX0_set cX0_set 3 none]
def wsX3_init : List Cond := .code yX3_init cX3_init 1 none :: ((wsX3_init_r1 ++ wsX3_init_r2) ++ wsX00 ++ wsX30)
def wsX3_levelAt : List Cond := .code yX3_levelAt cX3_levelAt 6 (some .int) :: ([.fieldLink RX3 23 "TideWords$Tides" "periods" "LTideWords$Cells;", .fieldLink RX3 14 "TideWords$Tides" "means" "LTideWords$Cells;", .fieldLink RX3 20 "TideWords$Tides" "swings" "LTideWords$Cells;", .methodLink RX3 41 Lib.Math.min.name, .static Lib.Math.min.name, .initialized "java/lang/Math", .code Lib.Math.min.name Lib.Math.min.code 2 (some .int), .methodLink RX3 37 yX0_get, .instanceMethod yX0_get, .selects RX0 yX0_get yX0_get, .initialized RX0, .code yX0_get cX0_get 2 (some .int), .fieldLink RX0 13 "TideWords$Cells" "cells" "[I"] ++ wsX30 ++ wsX00)
def wsX3_toldAt : List Cond := .code yX3_toldAt cX3_toldAt 3 (some .int) :: ([.fieldLink RX3 26 "TideWords$Tides" "lies" "LTideWords$Cells;", .methodLink RX3 47 yX3_levelAt, .instanceMethod yX3_levelAt, .selects RX3 yX3_levelAt yX3_levelAt, .initialized RX3, .code yX3_levelAt cX3_levelAt 6 (some .int), .fieldLink RX3 23 "TideWords$Tides" "periods" "LTideWords$Cells;", .fieldLink RX3 14 "TideWords$Tides" "means" "LTideWords$Cells;", .fieldLink RX3 20 "TideWords$Tides" "swings" "LTideWords$Cells;", .methodLink RX3 41 Lib.Math.min.name, .static Lib.Math.min.name, .initialized "java/lang/Math", .code Lib.Math.min.name Lib.Math.min.code 2 (some .int), .methodLink RX3 37 yX0_get, .instanceMethod yX0_get, .selects RX0 yX0_get yX0_get, .initialized RX0, .code yX0_get cX0_get 2 (some .int), .fieldLink RX0 13 "TideWords$Cells" "cells" "[I"] ++ wsX30 ++ wsX00)
def wsX3_gapAt : List Cond := .code yX3_gapAt cX3_gapAt 2 (some .int) :: ([.methodLink RX3 50 yX3_toldAt, .instanceMethod yX3_toldAt, .selects RX3 yX3_toldAt yX3_toldAt, .initialized RX3, .code yX3_toldAt cX3_toldAt 3 (some .int), .fieldLink RX3 26 "TideWords$Tides" "lies" "LTideWords$Cells;", .methodLink RX3 47 yX3_levelAt, .instanceMethod yX3_levelAt, .selects RX3 yX3_levelAt yX3_levelAt, .code yX3_levelAt cX3_levelAt 6 (some .int), .fieldLink RX3 23 "TideWords$Tides" "periods" "LTideWords$Cells;", .fieldLink RX3 14 "TideWords$Tides" "means" "LTideWords$Cells;", .fieldLink RX3 20 "TideWords$Tides" "swings" "LTideWords$Cells;", .methodLink RX3 41 Lib.Math.min.name, .static Lib.Math.min.name, .initialized "java/lang/Math", .code Lib.Math.min.name Lib.Math.min.code 2 (some .int), .methodLink RX3 37 yX0_get, .instanceMethod yX0_get, .selects RX0 yX0_get yX0_get, .initialized RX0, .code yX0_get cX0_get 2 (some .int), .fieldLink RX0 13 "TideWords$Cells" "cells" "[I"] ++ wsX30 ++ wsX00)
def wsX3_copyFrom : List Cond := .code yX3_copyFrom cX3_copyFrom 2 none :: ([.fieldLink RX3 14 "TideWords$Tides" "means" "LTideWords$Cells;", .fieldLink RX3 20 "TideWords$Tides" "swings" "LTideWords$Cells;", .fieldLink RX3 23 "TideWords$Tides" "periods" "LTideWords$Cells;", .fieldLink RX3 26 "TideWords$Tides" "lies" "LTideWords$Cells;", .methodLink RX3 53 yX0_copyFrom, .instanceMethod yX0_copyFrom, .selects RX0 yX0_copyFrom yX0_copyFrom, .initialized RX0, .code yX0_copyFrom cX0_copyFrom 2 none, .fieldLink RX0 13 "TideWords$Cells" "cells" "[I", .methodLink RX0 19 Lib.Math.min.name, .static Lib.Math.min.name, .initialized "java/lang/Math", .code Lib.Math.min.name Lib.Math.min.code 2 (some .int), .methodLink RX0 22 arraycopyName, .native arraycopyName, .static arraycopyName, .initialized "java/lang/System"] ++ wsX30 ++ wsX00)
def wsX4_init : List Cond := .code yX4_init cX4_init 1 none :: ([.methodLink RX4 3 objectInit, .instanceMethod objectInit, .code objectInit ⟨#[0xb1]⟩ 1 none, .classLink RX4 9 RX0, .instantiable RX0 1, .initialized RX0, .fieldLink RX4 14 "TideWords$Words" "lengths" "LTideWords$Cells;", .fieldLink RX4 20 "TideWords$Words" "letters" "LTideWords$Cells;", .fieldLink RX4 23 "TideWords$Words" "passedSteps" "LTideWords$Cells;", .fieldLink RX4 26 "TideWords$Words" "passedGates" "LTideWords$Cells;", .fieldLink RX4 29 "TideWords$Words" "timesBack" "LTideWords$Cells;", .fieldLink RX4 32 "TideWords$Words" "rows" "LTideWords$Cells;", .fieldLink RX4 35 "TideWords$Words" "rowLengths" "LTideWords$Cells;", .methodLink RX4 11 yX0_init, .instanceMethod yX0_init, .code yX0_init cX0_init 2 none, .methodLink RX0 1 objectInit, .methodLink RX0 7 Lib.Math.max.name, .static Lib.Math.max.name, .initialized "java/lang/Math", .code Lib.Math.max.name Lib.Math.max.code 2 (some .int), .arrayClass .int, .fieldLink RX0 13 "TideWords$Cells" "cells" "[I"] ++ wsX00 ++ wsX40)
def wsX4_addLast : List Cond := .code yX4_addLast cX4_addLast 4 none :: ([.fieldLink RX4 35 "TideWords$Words" "rowLengths" "LTideWords$Cells;", .fieldLink RX4 32 "TideWords$Words" "rows" "LTideWords$Cells;", .methodLink RX4 49 yX0_get, .instanceMethod yX0_get, .selects RX0 yX0_get yX0_get, .initialized RX0, .code yX0_get cX0_get 2 (some .int), .fieldLink RX0 13 "TideWords$Cells" "cells" "[I", .methodLink RX4 42 yX0_set, .instanceMethod yX0_set, .selects RX0 yX0_set yX0_set, .code yX0_set cX0_set 3 none] ++ wsX40 ++ wsX00)
def wsX4_startWord : List Cond := .code yX4_startWord cX4_startWord 3 none :: ([.fieldLink RX4 38 "TideWords$Words" "total" "I", .fieldLink RX4 14 "TideWords$Words" "lengths" "LTideWords$Cells;", .fieldLink RX4 23 "TideWords$Words" "passedSteps" "LTideWords$Cells;", .fieldLink RX4 26 "TideWords$Words" "passedGates" "LTideWords$Cells;", .methodLink RX4 42 yX0_set, .instanceMethod yX0_set, .selects RX0 yX0_set yX0_set, .initialized RX0, .code yX0_set cX0_set 3 none, .fieldLink RX0 13 "TideWords$Cells" "cells" "[I", .methodLink RX4 46 yX4_addLast, .instanceMethod yX4_addLast, .selects RX4 yX4_addLast yX4_addLast, .initialized RX4, .code yX4_addLast cX4_addLast 4 none, .fieldLink RX4 35 "TideWords$Words" "rowLengths" "LTideWords$Cells;", .fieldLink RX4 32 "TideWords$Words" "rows" "LTideWords$Cells;", .methodLink RX4 49 yX0_get, .instanceMethod yX0_get, .selects RX0 yX0_get yX0_get, .code yX0_get cX0_get 2 (some .int)] ++ wsX40 ++ wsX00)
def wsX4_addLetter : List Cond := .code yX4_addLetter cX4_addLetter 4 none :: ([.fieldLink RX4 38 "TideWords$Words" "total" "I", .fieldLink RX4 14 "TideWords$Words" "lengths" "LTideWords$Cells;", .fieldLink RX4 20 "TideWords$Words" "letters" "LTideWords$Cells;", .methodLink RX4 49 yX0_get, .instanceMethod yX0_get, .selects RX0 yX0_get yX0_get, .initialized RX0, .code yX0_get cX0_get 2 (some .int), .fieldLink RX0 13 "TideWords$Cells" "cells" "[I", .methodLink RX4 42 yX0_set, .instanceMethod yX0_set, .selects RX0 yX0_set yX0_set, .code yX0_set cX0_set 3 none, .methodLink RX4 53 yX0_add, .instanceMethod yX0_add, .selects RX0 yX0_add yX0_add, .code yX0_add cX0_add 3 none] ++ wsX40 ++ wsX00)
def wsX4_letterOf : List Cond := .code yX4_letterOf cX4_letterOf 4 (some .int) :: ([.fieldLink RX4 14 "TideWords$Words" "lengths" "LTideWords$Cells;", .fieldLink RX4 20 "TideWords$Words" "letters" "LTideWords$Cells;", .methodLink RX4 49 yX0_get, .instanceMethod yX0_get, .selects RX0 yX0_get yX0_get, .initialized RX0, .code yX0_get cX0_get 2 (some .int), .fieldLink RX0 13 "TideWords$Cells" "cells" "[I"] ++ wsX40 ++ wsX00)
def wsX4_hasPassed : List Cond := .code yX4_hasPassed cX4_hasPassed 2 (some .boolean) :: ([.fieldLink RX4 23 "TideWords$Words" "passedSteps" "LTideWords$Cells;", .methodLink RX4 49 yX0_get, .instanceMethod yX0_get, .selects RX0 yX0_get yX0_get, .initialized RX0, .code yX0_get cX0_get 2 (some .int), .fieldLink RX0 13 "TideWords$Cells" "cells" "[I"] ++ wsX40 ++ wsX00)
def wsX4_markPassed : List Cond := .code yX4_markPassed cX4_markPassed 4 none :: ([.fieldLink RX4 23 "TideWords$Words" "passedSteps" "LTideWords$Cells;", .fieldLink RX4 26 "TideWords$Words" "passedGates" "LTideWords$Cells;", .methodLink RX4 42 yX0_set, .instanceMethod yX0_set, .selects RX0 yX0_set yX0_set, .initialized RX0, .code yX0_set cX0_set 3 none, .fieldLink RX0 13 "TideWords$Cells" "cells" "[I"] ++ wsX40 ++ wsX00)
def wsX4_wordAt : List Cond := .code yX4_wordAt cX4_wordAt 3 (some .int) :: ([.fieldLink RX4 32 "TideWords$Words" "rows" "LTideWords$Cells;", .methodLink RX4 49 yX0_get, .instanceMethod yX0_get, .selects RX0 yX0_get yX0_get, .initialized RX0, .code yX0_get cX0_get 2 (some .int), .fieldLink RX0 13 "TideWords$Cells" "cells" "[I"] ++ wsX40 ++ wsX00)
def wsX4_placeIn : List Cond := .code yX4_placeIn cX4_placeIn 5 (some .int) :: ([.fieldLink RX4 35 "TideWords$Words" "rowLengths" "LTideWords$Cells;", .methodLink RX4 49 yX0_get, .instanceMethod yX0_get, .selects RX0 yX0_get yX0_get, .initialized RX0, .code yX0_get cX0_get 2 (some .int), .fieldLink RX0 13 "TideWords$Cells" "cells" "[I", .methodLink RX4 56 yX4_wordAt, .instanceMethod yX4_wordAt, .selects RX4 yX4_wordAt yX4_wordAt, .initialized RX4, .code yX4_wordAt cX4_wordAt 3 (some .int), .fieldLink RX4 32 "TideWords$Words" "rows" "LTideWords$Cells;"] ++ wsX40 ++ wsX00)
def wsX4_placeOf : List Cond := .code yX4_placeOf cX4_placeOf 3 (some .int) :: ([.methodLink RX4 60 yX4_placeIn, .instanceMethod yX4_placeIn, .selects RX4 yX4_placeIn yX4_placeIn, .initialized RX4, .code yX4_placeIn cX4_placeIn 5 (some .int), .fieldLink RX4 35 "TideWords$Words" "rowLengths" "LTideWords$Cells;", .methodLink RX4 49 yX0_get, .instanceMethod yX0_get, .selects RX0 yX0_get yX0_get, .initialized RX0, .code yX0_get cX0_get 2 (some .int), .fieldLink RX0 13 "TideWords$Cells" "cells" "[I", .methodLink RX4 56 yX4_wordAt, .instanceMethod yX4_wordAt, .selects RX4 yX4_wordAt yX4_wordAt, .code yX4_wordAt cX4_wordAt 3 (some .int), .fieldLink RX4 32 "TideWords$Words" "rows" "LTideWords$Cells;"] ++ wsX40 ++ wsX00)
def wsX4_lettersInRow : List Cond := .code yX4_lettersInRow cX4_lettersInRow 5 (some .int) :: ([.fieldLink RX4 35 "TideWords$Words" "rowLengths" "LTideWords$Cells;", .fieldLink RX4 14 "TideWords$Words" "lengths" "LTideWords$Cells;", .methodLink RX4 49 yX0_get, .instanceMethod yX0_get, .selects RX0 yX0_get yX0_get, .initialized RX0, .code yX0_get cX0_get 2 (some .int), .fieldLink RX0 13 "TideWords$Cells" "cells" "[I", .methodLink RX4 56 yX4_wordAt, .instanceMethod yX4_wordAt, .selects RX4 yX4_wordAt yX4_wordAt, .initialized RX4, .code yX4_wordAt cX4_wordAt 3 (some .int), .fieldLink RX4 32 "TideWords$Words" "rows" "LTideWords$Cells;"] ++ wsX40 ++ wsX00)
def wsX4_waitingInRow : List Cond := .code yX4_waitingInRow cX4_waitingInRow 5 (some .int) :: ([.fieldLink RX4 35 "TideWords$Words" "rowLengths" "LTideWords$Cells;", .methodLink RX4 49 yX0_get, .instanceMethod yX0_get, .selects RX0 yX0_get yX0_get, .initialized RX0, .code yX0_get cX0_get 2 (some .int), .fieldLink RX0 13 "TideWords$Cells" "cells" "[I", .methodLink RX4 56 yX4_wordAt, .instanceMethod yX4_wordAt, .selects RX4 yX4_wordAt yX4_wordAt, .initialized RX4, .code yX4_wordAt cX4_wordAt 3 (some .int), .fieldLink RX4 32 "TideWords$Words" "rows" "LTideWords$Cells;", .methodLink RX4 63 yX4_hasPassed, .instanceMethod yX4_hasPassed, .selects RX4 yX4_hasPassed yX4_hasPassed, .code yX4_hasPassed cX4_hasPassed 2 (some .boolean), .fieldLink RX4 23 "TideWords$Words" "passedSteps" "LTideWords$Cells;"] ++ wsX40 ++ wsX00)
def wsX4_addFirst : List Cond := .code yX4_addFirst cX4_addFirst 6 none :: ([.fieldLink RX4 35 "TideWords$Words" "rowLengths" "LTideWords$Cells;", .fieldLink RX4 32 "TideWords$Words" "rows" "LTideWords$Cells;", .methodLink RX4 49 yX0_get, .instanceMethod yX0_get, .selects RX0 yX0_get yX0_get, .initialized RX0, .code yX0_get cX0_get 2 (some .int), .fieldLink RX0 13 "TideWords$Cells" "cells" "[I", .methodLink RX4 42 yX0_set, .instanceMethod yX0_set, .selects RX0 yX0_set yX0_set, .code yX0_set cX0_set 3 none] ++ wsX40 ++ wsX00)
def wsX4_removeFrom : List Cond := .code yX4_removeFrom cX4_removeFrom 6 none :: ([.fieldLink RX4 35 "TideWords$Words" "rowLengths" "LTideWords$Cells;", .fieldLink RX4 32 "TideWords$Words" "rows" "LTideWords$Cells;", .methodLink RX4 49 yX0_get, .instanceMethod yX0_get, .selects RX0 yX0_get yX0_get, .initialized RX0, .code yX0_get cX0_get 2 (some .int), .fieldLink RX0 13 "TideWords$Cells" "cells" "[I", .methodLink RX4 42 yX0_set, .instanceMethod yX0_set, .selects RX0 yX0_set yX0_set, .code yX0_set cX0_set 3 none] ++ wsX40 ++ wsX00)
def wsX4_takeWaiting_r1 : List Cond := [Cond.fieldLink RX4 35 "TideWords$Words" "rowLengths" "LTideWords$Cells;", Cond.methodLink RX4 49 yX0_get, Cond.instanceMethod yX0_get, Cond.selects RX0 yX0_get yX0_get, Cond.initialized RX0, Cond.code yX0_get cX0_get 2 (some .int), Cond.fieldLink RX0 13 "TideWords$Cells" "cells" "[I", Cond.methodLink RX4 56 yX4_wordAt, Cond.instanceMethod yX4_wordAt, Cond.selects RX4 yX4_wordAt yX4_wordAt, Cond.initialized RX4, Cond.code yX4_wordAt cX4_wordAt 3 (some .int), Cond.fieldLink RX4 32 "TideWords$Words" "rows" "LTideWords$Cells;", Cond.methodLink RX4 63 yX4_hasPassed, Cond.instanceMethod yX4_hasPassed, Cond.selects RX4 yX4_hasPassed yX4_hasPassed, Cond.code yX4_hasPassed cX4_hasPassed 2 (some .boolean), Cond.fieldLink RX4 23 "TideWords$Words" "passedSteps" "LTideWords$Cells;", Cond.methodLink RX4 67 yX4_removeFrom, Cond.instanceMethod yX4_removeFrom, Cond.selects RX4 yX4_removeFrom yX4_removeFrom, Cond.code yX4_removeFrom cX4_removeFrom 6 none, Cond.methodLink RX4 42 yX0_set, Cond.instanceMethod yX0_set]
def wsX4_takeWaiting_r2 : List Cond := [Cond.selects RX0 yX0_set yX0_set, Cond.code yX0_set cX0_set 3 none]
def wsX4_takeWaiting : List Cond := .code yX4_takeWaiting cX4_takeWaiting 5 (some .int) :: ((wsX4_takeWaiting_r1 ++ wsX4_takeWaiting_r2) ++ wsX40 ++ wsX00)
def wsX4_copyFrom : List Cond := .code yX4_copyFrom cX4_copyFrom 2 none :: ([.fieldLink RX4 14 "TideWords$Words" "lengths" "LTideWords$Cells;", .fieldLink RX4 20 "TideWords$Words" "letters" "LTideWords$Cells;", .fieldLink RX4 23 "TideWords$Words" "passedSteps" "LTideWords$Cells;", .fieldLink RX4 26 "TideWords$Words" "passedGates" "LTideWords$Cells;", .fieldLink RX4 29 "TideWords$Words" "timesBack" "LTideWords$Cells;", .fieldLink RX4 32 "TideWords$Words" "rows" "LTideWords$Cells;", .fieldLink RX4 35 "TideWords$Words" "rowLengths" "LTideWords$Cells;", .fieldLink RX4 38 "TideWords$Words" "total" "I", .methodLink RX4 70 yX0_copyFrom, .instanceMethod yX0_copyFrom, .selects RX0 yX0_copyFrom yX0_copyFrom, .initialized RX0, .code yX0_copyFrom cX0_copyFrom 2 none, .fieldLink RX0 13 "TideWords$Cells" "cells" "[I", .methodLink RX0 19 Lib.Math.min.name, .static Lib.Math.min.name, .initialized "java/lang/Math", .code Lib.Math.min.name Lib.Math.min.code 2 (some .int), .methodLink RX0 22 arraycopyName, .native arraycopyName, .static arraycopyName, .initialized "java/lang/System"] ++ wsX40 ++ wsX00)
def wsX5_init_r1 : List Cond := [Cond.methodLink RX5 3 objectInit, Cond.instanceMethod objectInit, Cond.code objectInit ⟨#[0xb1]⟩ 1 none, Cond.classLink RX5 9 RX3, Cond.instantiable RX3 4, Cond.initialized RX3, Cond.fieldLink RX5 12 "TideWords$World" "tides" "LTideWords$Tides;", Cond.classLink RX5 18 RX1, Cond.instantiable RX1 8, Cond.initialized RX1, Cond.fieldLink RX5 21 "TideWords$World" "gates" "LTideWords$Gates;", Cond.classLink RX5 25 RX4, Cond.instantiable RX4 8, Cond.initialized RX4, Cond.fieldLink RX5 28 "TideWords$World" "words" "LTideWords$Words;", Cond.methodLink RX5 11 yX3_init, Cond.instanceMethod yX3_init, Cond.code yX3_init cX3_init 1 none, Cond.methodLink RX3 3 objectInit, Cond.classLink RX3 9 RX0, Cond.instantiable RX0 1, Cond.initialized RX0, Cond.fieldLink RX3 14 "TideWords$Tides" "means" "LTideWords$Cells;", Cond.fieldLink RX3 20 "TideWords$Tides" "swings" "LTideWords$Cells;"]
def wsX5_init_r2 : List Cond := [Cond.fieldLink RX3 23 "TideWords$Tides" "periods" "LTideWords$Cells;", Cond.fieldLink RX3 26 "TideWords$Tides" "lies" "LTideWords$Cells;", Cond.methodLink RX3 11 yX0_init, Cond.instanceMethod yX0_init, Cond.code yX0_init cX0_init 2 none, Cond.methodLink RX0 1 objectInit, Cond.methodLink RX0 7 Lib.Math.max.name, Cond.static Lib.Math.max.name, Cond.initialized "java/lang/Math", Cond.code Lib.Math.max.name Lib.Math.max.code 2 (some .int), Cond.arrayClass .int, Cond.fieldLink RX0 13 "TideWords$Cells" "cells" "[I", Cond.methodLink RX3 29 yX3_change, Cond.instanceMethod yX3_change, Cond.selects RX3 yX3_change yX3_change, Cond.code yX3_change cX3_change 5 none, Cond.methodLink RX3 33 yX0_set, Cond.instanceMethod yX0_set, Cond.selects RX0 yX0_set yX0_set, Cond.code yX0_set cX0_set 3 none, Cond.methodLink RX5 20 yX1_init, Cond.instanceMethod yX1_init, Cond.code yX1_init cX1_init 2 none, Cond.methodLink RX1 3 objectInit]
def wsX5_init_r3 : List Cond := [Cond.classLink RX1 9 RX0, Cond.fieldLink RX1 14 "TideWords$Gates" "sides" "LTideWords$Cells;", Cond.fieldLink RX1 20 "TideWords$Gates" "slacks" "LTideWords$Cells;", Cond.fieldLink RX1 23 "TideWords$Gates" "ways" "LTideWords$Cells;", Cond.fieldLink RX1 26 "TideWords$Gates" "shuts" "LTideWords$Cells;", Cond.fieldLink RX1 29 "TideWords$Gates" "held" "LTideWords$Cells;", Cond.fieldLink RX1 32 "TideWords$Gates" "lettersDone" "LTideWords$Cells;", Cond.fieldLink RX1 35 "TideWords$Gates" "passedWords" "LTideWords$Cells;", Cond.fieldLink RX1 38 "TideWords$Gates" "vainLetters" "LTideWords$Cells;", Cond.methodLink RX1 11 yX0_init, Cond.methodLink RX1 41 yX1_change, Cond.instanceMethod yX1_change, Cond.selects RX1 yX1_change yX1_change, Cond.code yX1_change cX1_change 5 none, Cond.methodLink RX1 45 yX0_set, Cond.instanceMethod yX4_init, Cond.code yX4_init cX4_init 1 none, Cond.methodLink RX4 3 objectInit, Cond.classLink RX4 9 RX0, Cond.fieldLink RX4 14 "TideWords$Words" "lengths" "LTideWords$Cells;", Cond.fieldLink RX4 20 "TideWords$Words" "letters" "LTideWords$Cells;", Cond.fieldLink RX4 23 "TideWords$Words" "passedSteps" "LTideWords$Cells;", Cond.fieldLink RX4 26 "TideWords$Words" "passedGates" "LTideWords$Cells;", Cond.fieldLink RX4 29 "TideWords$Words" "timesBack" "LTideWords$Cells;"]
def wsX5_init_r4 : List Cond := [Cond.fieldLink RX4 32 "TideWords$Words" "rows" "LTideWords$Cells;", Cond.fieldLink RX4 35 "TideWords$Words" "rowLengths" "LTideWords$Cells;", Cond.methodLink RX4 11 yX0_init]
def wsX5_init : List Cond := .code yX5_init cX5_init 1 none :: ((wsX5_init_r1 ++ (wsX5_init_r2 ++ (wsX5_init_r3 ++ wsX5_init_r4))) ++ wsX30 ++ wsX50 ++ wsX10 ++ wsX40 ++ wsX00)
def wsX5_isOpenAt_r1 : List Cond := [Cond.fieldLink RX5 21 "TideWords$World" "gates" "LTideWords$Gates;", Cond.fieldLink RX5 12 "TideWords$World" "tides" "LTideWords$Tides;", Cond.methodLink RX5 32 yX3_gapAt, Cond.instanceMethod yX3_gapAt, Cond.selects RX3 yX3_gapAt yX3_gapAt, Cond.initialized RX3, Cond.code yX3_gapAt cX3_gapAt 2 (some .int), Cond.methodLink RX3 50 yX3_toldAt, Cond.instanceMethod yX3_toldAt, Cond.selects RX3 yX3_toldAt yX3_toldAt, Cond.code yX3_toldAt cX3_toldAt 3 (some .int), Cond.fieldLink RX3 26 "TideWords$Tides" "lies" "LTideWords$Cells;", Cond.methodLink RX3 47 yX3_levelAt, Cond.instanceMethod yX3_levelAt, Cond.selects RX3 yX3_levelAt yX3_levelAt, Cond.code yX3_levelAt cX3_levelAt 6 (some .int), Cond.fieldLink RX3 23 "TideWords$Tides" "periods" "LTideWords$Cells;", Cond.fieldLink RX3 14 "TideWords$Tides" "means" "LTideWords$Cells;", Cond.fieldLink RX3 20 "TideWords$Tides" "swings" "LTideWords$Cells;", Cond.methodLink RX3 41 Lib.Math.min.name, Cond.static Lib.Math.min.name, Cond.initialized "java/lang/Math", Cond.code Lib.Math.min.name Lib.Math.min.code 2 (some .int), Cond.methodLink RX3 37 yX0_get]
def wsX5_isOpenAt_r2 : List Cond := [Cond.instanceMethod yX0_get, Cond.selects RX0 yX0_get yX0_get, Cond.initialized RX0, Cond.code yX0_get cX0_get 2 (some .int), Cond.fieldLink RX0 13 "TideWords$Cells" "cells" "[I", Cond.methodLink RX5 36 yX1_isOpenAcross, Cond.instanceMethod yX1_isOpenAcross, Cond.selects RX1 yX1_isOpenAcross yX1_isOpenAcross, Cond.initialized RX1, Cond.code yX1_isOpenAcross cX1_isOpenAcross 3 (some .boolean), Cond.methodLink RX1 57 Lib.Math.abs.name, Cond.static Lib.Math.abs.name, Cond.code Lib.Math.abs.name Lib.Math.abs.code 1 (some .int), Cond.fieldLink RX1 20 "TideWords$Gates" "slacks" "LTideWords$Cells;", Cond.methodLink RX1 53 yX1_isShut, Cond.instanceMethod yX1_isShut, Cond.selects RX1 yX1_isShut yX1_isShut, Cond.code yX1_isShut cX1_isShut 2 (some .boolean), Cond.fieldLink RX1 26 "TideWords$Gates" "shuts" "LTideWords$Cells;", Cond.methodLink RX1 49 yX0_get]
def wsX5_isOpenAt : List Cond := .code yX5_isOpenAt cX5_isOpenAt 3 (some .boolean) :: ((wsX5_isOpenAt_r1 ++ wsX5_isOpenAt_r2) ++ wsX50 ++ wsX30 ++ wsX00 ++ wsX10)
def wsX5_openMask_r1 : List Cond := [Cond.fieldLink RX5 40 "TideWords$World" "steps" "I", Cond.methodLink RX5 44 yX5_isOpenAt, Cond.instanceMethod yX5_isOpenAt, Cond.selects RX5 yX5_isOpenAt yX5_isOpenAt, Cond.initialized RX5, Cond.code yX5_isOpenAt cX5_isOpenAt 3 (some .boolean), Cond.fieldLink RX5 21 "TideWords$World" "gates" "LTideWords$Gates;", Cond.fieldLink RX5 12 "TideWords$World" "tides" "LTideWords$Tides;", Cond.methodLink RX5 32 yX3_gapAt, Cond.instanceMethod yX3_gapAt, Cond.selects RX3 yX3_gapAt yX3_gapAt, Cond.initialized RX3, Cond.code yX3_gapAt cX3_gapAt 2 (some .int), Cond.methodLink RX3 50 yX3_toldAt, Cond.instanceMethod yX3_toldAt, Cond.selects RX3 yX3_toldAt yX3_toldAt, Cond.code yX3_toldAt cX3_toldAt 3 (some .int), Cond.fieldLink RX3 26 "TideWords$Tides" "lies" "LTideWords$Cells;", Cond.methodLink RX3 47 yX3_levelAt, Cond.instanceMethod yX3_levelAt, Cond.selects RX3 yX3_levelAt yX3_levelAt, Cond.code yX3_levelAt cX3_levelAt 6 (some .int), Cond.fieldLink RX3 23 "TideWords$Tides" "periods" "LTideWords$Cells;", Cond.fieldLink RX3 14 "TideWords$Tides" "means" "LTideWords$Cells;"]
def wsX5_openMask_r2 : List Cond := [Cond.fieldLink RX3 20 "TideWords$Tides" "swings" "LTideWords$Cells;", Cond.methodLink RX3 41 Lib.Math.min.name, Cond.static Lib.Math.min.name, Cond.initialized "java/lang/Math", Cond.code Lib.Math.min.name Lib.Math.min.code 2 (some .int), Cond.methodLink RX3 37 yX0_get, Cond.instanceMethod yX0_get, Cond.selects RX0 yX0_get yX0_get, Cond.initialized RX0, Cond.code yX0_get cX0_get 2 (some .int), Cond.fieldLink RX0 13 "TideWords$Cells" "cells" "[I", Cond.methodLink RX5 36 yX1_isOpenAcross, Cond.instanceMethod yX1_isOpenAcross, Cond.selects RX1 yX1_isOpenAcross yX1_isOpenAcross, Cond.initialized RX1, Cond.code yX1_isOpenAcross cX1_isOpenAcross 3 (some .boolean), Cond.methodLink RX1 57 Lib.Math.abs.name, Cond.static Lib.Math.abs.name, Cond.code Lib.Math.abs.name Lib.Math.abs.code 1 (some .int), Cond.fieldLink RX1 20 "TideWords$Gates" "slacks" "LTideWords$Cells;", Cond.methodLink RX1 53 yX1_isShut, Cond.instanceMethod yX1_isShut, Cond.selects RX1 yX1_isShut yX1_isShut, Cond.code yX1_isShut cX1_isShut 2 (some .boolean)]
def wsX5_openMask_r3 : List Cond := [Cond.fieldLink RX1 26 "TideWords$Gates" "shuts" "LTideWords$Cells;", Cond.methodLink RX1 49 yX0_get]
def wsX5_openMask : List Cond := .code yX5_openMask cX5_openMask 3 (some .int) :: ((wsX5_openMask_r1 ++ (wsX5_openMask_r2 ++ wsX5_openMask_r3)) ++ wsX50 ++ wsX30 ++ wsX00 ++ wsX10)
def wsX5_stepsUntilOpen_r1 : List Cond := [Cond.fieldLink RX5 40 "TideWords$World" "steps" "I", Cond.methodLink RX5 44 yX5_isOpenAt, Cond.instanceMethod yX5_isOpenAt, Cond.selects RX5 yX5_isOpenAt yX5_isOpenAt, Cond.initialized RX5, Cond.code yX5_isOpenAt cX5_isOpenAt 3 (some .boolean), Cond.fieldLink RX5 21 "TideWords$World" "gates" "LTideWords$Gates;", Cond.fieldLink RX5 12 "TideWords$World" "tides" "LTideWords$Tides;", Cond.methodLink RX5 32 yX3_gapAt, Cond.instanceMethod yX3_gapAt, Cond.selects RX3 yX3_gapAt yX3_gapAt, Cond.initialized RX3, Cond.code yX3_gapAt cX3_gapAt 2 (some .int), Cond.methodLink RX3 50 yX3_toldAt, Cond.instanceMethod yX3_toldAt, Cond.selects RX3 yX3_toldAt yX3_toldAt, Cond.code yX3_toldAt cX3_toldAt 3 (some .int), Cond.fieldLink RX3 26 "TideWords$Tides" "lies" "LTideWords$Cells;", Cond.methodLink RX3 47 yX3_levelAt, Cond.instanceMethod yX3_levelAt, Cond.selects RX3 yX3_levelAt yX3_levelAt, Cond.code yX3_levelAt cX3_levelAt 6 (some .int), Cond.fieldLink RX3 23 "TideWords$Tides" "periods" "LTideWords$Cells;", Cond.fieldLink RX3 14 "TideWords$Tides" "means" "LTideWords$Cells;"]
def wsX5_stepsUntilOpen_r2 : List Cond := [Cond.fieldLink RX3 20 "TideWords$Tides" "swings" "LTideWords$Cells;", Cond.methodLink RX3 41 Lib.Math.min.name, Cond.static Lib.Math.min.name, Cond.initialized "java/lang/Math", Cond.code Lib.Math.min.name Lib.Math.min.code 2 (some .int), Cond.methodLink RX3 37 yX0_get, Cond.instanceMethod yX0_get, Cond.selects RX0 yX0_get yX0_get, Cond.initialized RX0, Cond.code yX0_get cX0_get 2 (some .int), Cond.fieldLink RX0 13 "TideWords$Cells" "cells" "[I", Cond.methodLink RX5 36 yX1_isOpenAcross, Cond.instanceMethod yX1_isOpenAcross, Cond.selects RX1 yX1_isOpenAcross yX1_isOpenAcross, Cond.initialized RX1, Cond.code yX1_isOpenAcross cX1_isOpenAcross 3 (some .boolean), Cond.methodLink RX1 57 Lib.Math.abs.name, Cond.static Lib.Math.abs.name, Cond.code Lib.Math.abs.name Lib.Math.abs.code 1 (some .int), Cond.fieldLink RX1 20 "TideWords$Gates" "slacks" "LTideWords$Cells;", Cond.methodLink RX1 53 yX1_isShut, Cond.instanceMethod yX1_isShut, Cond.selects RX1 yX1_isShut yX1_isShut, Cond.code yX1_isShut cX1_isShut 2 (some .boolean)]
def wsX5_stepsUntilOpen_r3 : List Cond := [Cond.fieldLink RX1 26 "TideWords$Gates" "shuts" "LTideWords$Cells;", Cond.methodLink RX1 49 yX0_get]
def wsX5_stepsUntilOpen : List Cond := .code yX5_stepsUntilOpen cX5_stepsUntilOpen 3 (some .int) :: ((wsX5_stepsUntilOpen_r1 ++ (wsX5_stepsUntilOpen_r2 ++ wsX5_stepsUntilOpen_r3)) ++ wsX50 ++ wsX30 ++ wsX00 ++ wsX10)
def wsX5_openStepsFrom_r1 : List Cond := [Cond.methodLink RX5 44 yX5_isOpenAt, Cond.instanceMethod yX5_isOpenAt, Cond.selects RX5 yX5_isOpenAt yX5_isOpenAt, Cond.initialized RX5, Cond.code yX5_isOpenAt cX5_isOpenAt 3 (some .boolean), Cond.fieldLink RX5 21 "TideWords$World" "gates" "LTideWords$Gates;", Cond.fieldLink RX5 12 "TideWords$World" "tides" "LTideWords$Tides;", Cond.methodLink RX5 32 yX3_gapAt, Cond.instanceMethod yX3_gapAt, Cond.selects RX3 yX3_gapAt yX3_gapAt, Cond.initialized RX3, Cond.code yX3_gapAt cX3_gapAt 2 (some .int), Cond.methodLink RX3 50 yX3_toldAt, Cond.instanceMethod yX3_toldAt, Cond.selects RX3 yX3_toldAt yX3_toldAt, Cond.code yX3_toldAt cX3_toldAt 3 (some .int), Cond.fieldLink RX3 26 "TideWords$Tides" "lies" "LTideWords$Cells;", Cond.methodLink RX3 47 yX3_levelAt, Cond.instanceMethod yX3_levelAt, Cond.selects RX3 yX3_levelAt yX3_levelAt, Cond.code yX3_levelAt cX3_levelAt 6 (some .int), Cond.fieldLink RX3 23 "TideWords$Tides" "periods" "LTideWords$Cells;", Cond.fieldLink RX3 14 "TideWords$Tides" "means" "LTideWords$Cells;", Cond.fieldLink RX3 20 "TideWords$Tides" "swings" "LTideWords$Cells;"]
def wsX5_openStepsFrom_r2 : List Cond := [Cond.methodLink RX3 41 Lib.Math.min.name, Cond.static Lib.Math.min.name, Cond.initialized "java/lang/Math", Cond.code Lib.Math.min.name Lib.Math.min.code 2 (some .int), Cond.methodLink RX3 37 yX0_get, Cond.instanceMethod yX0_get, Cond.selects RX0 yX0_get yX0_get, Cond.initialized RX0, Cond.code yX0_get cX0_get 2 (some .int), Cond.fieldLink RX0 13 "TideWords$Cells" "cells" "[I", Cond.methodLink RX5 36 yX1_isOpenAcross, Cond.instanceMethod yX1_isOpenAcross, Cond.selects RX1 yX1_isOpenAcross yX1_isOpenAcross, Cond.initialized RX1, Cond.code yX1_isOpenAcross cX1_isOpenAcross 3 (some .boolean), Cond.methodLink RX1 57 Lib.Math.abs.name, Cond.static Lib.Math.abs.name, Cond.code Lib.Math.abs.name Lib.Math.abs.code 1 (some .int), Cond.fieldLink RX1 20 "TideWords$Gates" "slacks" "LTideWords$Cells;", Cond.methodLink RX1 53 yX1_isShut, Cond.instanceMethod yX1_isShut, Cond.selects RX1 yX1_isShut yX1_isShut, Cond.code yX1_isShut cX1_isShut 2 (some .boolean), Cond.fieldLink RX1 26 "TideWords$Gates" "shuts" "LTideWords$Cells;"]
def wsX5_openStepsFrom_r3 : List Cond := [Cond.methodLink RX1 49 yX0_get]
def wsX5_openStepsFrom : List Cond := .code yX5_openStepsFrom cX5_openStepsFrom 4 (some .int) :: ((wsX5_openStepsFrom_r1 ++ (wsX5_openStepsFrom_r2 ++ wsX5_openStepsFrom_r3)) ++ wsX50 ++ wsX30 ++ wsX00 ++ wsX10)
def wsX5_whereIs_r1 : List Cond := [Cond.fieldLink RX5 21 "TideWords$World" "gates" "LTideWords$Gates;", Cond.fieldLink RX5 28 "TideWords$World" "words" "LTideWords$Words;", Cond.methodLink RX5 47 yX1_gateWith, Cond.instanceMethod yX1_gateWith, Cond.selects RX1 yX1_gateWith yX1_gateWith, Cond.initialized RX1, Cond.code yX1_gateWith cX1_gateWith 3 (some .int), Cond.fieldLink RX1 29 "TideWords$Gates" "held" "LTideWords$Cells;", Cond.methodLink RX1 49 yX0_get, Cond.instanceMethod yX0_get, Cond.selects RX0 yX0_get yX0_get, Cond.initialized RX0, Cond.code yX0_get cX0_get 2 (some .int), Cond.fieldLink RX0 13 "TideWords$Cells" "cells" "[I", Cond.methodLink RX5 50 yX4_placeIn, Cond.instanceMethod yX4_placeIn, Cond.selects RX4 yX4_placeIn yX4_placeIn, Cond.initialized RX4, Cond.code yX4_placeIn cX4_placeIn 5 (some .int), Cond.fieldLink RX4 35 "TideWords$Words" "rowLengths" "LTideWords$Cells;", Cond.methodLink RX4 49 yX0_get, Cond.methodLink RX4 56 yX4_wordAt, Cond.instanceMethod yX4_wordAt, Cond.selects RX4 yX4_wordAt yX4_wordAt]
def wsX5_whereIs_r2 : List Cond := [Cond.code yX4_wordAt cX4_wordAt 3 (some .int), Cond.fieldLink RX4 32 "TideWords$Words" "rows" "LTideWords$Cells;"]
def wsX5_whereIs : List Cond := .code yX5_whereIs cX5_whereIs 3 (some .int) :: ((wsX5_whereIs_r1 ++ wsX5_whereIs_r2) ++ wsX50 ++ wsX10 ++ wsX00 ++ wsX40)
def wsX5_takeWord_r1 : List Cond := [Cond.fieldLink RX5 21 "TideWords$World" "gates" "LTideWords$Gates;", Cond.fieldLink RX5 74 "TideWords$Gates" "held" "LTideWords$Cells;", Cond.fieldLink RX5 28 "TideWords$World" "words" "LTideWords$Words;", Cond.fieldLink RX5 78 "TideWords$Gates" "sides" "LTideWords$Cells;", Cond.methodLink RX5 70 yX1_hasWord, Cond.instanceMethod yX1_hasWord, Cond.selects RX1 yX1_hasWord yX1_hasWord, Cond.initialized RX1, Cond.code yX1_hasWord cX1_hasWord 2 (some .boolean), Cond.fieldLink RX1 29 "TideWords$Gates" "held" "LTideWords$Cells;", Cond.methodLink RX1 49 yX0_get, Cond.instanceMethod yX0_get, Cond.selects RX0 yX0_get yX0_get, Cond.initialized RX0, Cond.code yX0_get cX0_get 2 (some .int), Cond.fieldLink RX0 13 "TideWords$Cells" "cells" "[I", Cond.methodLink RX5 81 yX0_get, Cond.methodLink RX5 86 yX4_takeWaiting, Cond.instanceMethod yX4_takeWaiting, Cond.selects RX4 yX4_takeWaiting yX4_takeWaiting, Cond.initialized RX4, Cond.code yX4_takeWaiting cX4_takeWaiting 5 (some .int), Cond.fieldLink RX4 35 "TideWords$Words" "rowLengths" "LTideWords$Cells;", Cond.methodLink RX4 49 yX0_get]
def wsX5_takeWord_r2 : List Cond := [Cond.methodLink RX4 56 yX4_wordAt, Cond.instanceMethod yX4_wordAt, Cond.selects RX4 yX4_wordAt yX4_wordAt, Cond.code yX4_wordAt cX4_wordAt 3 (some .int), Cond.fieldLink RX4 32 "TideWords$Words" "rows" "LTideWords$Cells;", Cond.methodLink RX4 63 yX4_hasPassed, Cond.instanceMethod yX4_hasPassed, Cond.selects RX4 yX4_hasPassed yX4_hasPassed, Cond.code yX4_hasPassed cX4_hasPassed 2 (some .boolean), Cond.fieldLink RX4 23 "TideWords$Words" "passedSteps" "LTideWords$Cells;", Cond.methodLink RX4 67 yX4_removeFrom, Cond.instanceMethod yX4_removeFrom, Cond.selects RX4 yX4_removeFrom yX4_removeFrom, Cond.code yX4_removeFrom cX4_removeFrom 6 none, Cond.methodLink RX4 42 yX0_set, Cond.instanceMethod yX0_set, Cond.selects RX0 yX0_set yX0_set, Cond.code yX0_set cX0_set 3 none, Cond.methodLink RX5 89 yX0_set]
def wsX5_takeWord : List Cond := .code yX5_takeWord cX5_takeWord 2 none :: ((wsX5_takeWord_r1 ++ wsX5_takeWord_r2) ++ wsX50 ++ wsX10 ++ wsX00 ++ wsX40)
def wsX5_passLetter_r1 : List Cond := [Cond.fieldLink RX5 21 "TideWords$World" "gates" "LTideWords$Gates;", Cond.fieldLink RX5 74 "TideWords$Gates" "held" "LTideWords$Cells;", Cond.fieldLink RX5 93 "TideWords$World" "letters" "I", Cond.fieldLink RX5 96 "TideWords$Gates" "lettersDone" "LTideWords$Cells;", Cond.fieldLink RX5 28 "TideWords$World" "words" "LTideWords$Words;", Cond.fieldLink RX5 102 "TideWords$Words" "lengths" "LTideWords$Cells;", Cond.fieldLink RX5 108 "TideWords$Gates" "passedWords" "LTideWords$Cells;", Cond.fieldLink RX5 40 "TideWords$World" "steps" "I", Cond.fieldLink RX5 78 "TideWords$Gates" "sides" "LTideWords$Cells;", Cond.methodLink RX5 81 yX0_get, Cond.instanceMethod yX0_get, Cond.selects RX0 yX0_get yX0_get, Cond.initialized RX0, Cond.code yX0_get cX0_get 2 (some .int), Cond.fieldLink RX0 13 "TideWords$Cells" "cells" "[I", Cond.methodLink RX5 99 yX0_add, Cond.instanceMethod yX0_add, Cond.selects RX0 yX0_add yX0_add, Cond.code yX0_add cX0_add 3 none, Cond.methodLink RX5 105 yX1_release, Cond.instanceMethod yX1_release, Cond.selects RX1 yX1_release yX1_release, Cond.initialized RX1, Cond.code yX1_release cX1_release 2 none]
def wsX5_passLetter_r2 : List Cond := [Cond.fieldLink RX1 29 "TideWords$Gates" "held" "LTideWords$Cells;", Cond.fieldLink RX1 32 "TideWords$Gates" "lettersDone" "LTideWords$Cells;", Cond.methodLink RX1 45 yX0_set, Cond.instanceMethod yX0_set, Cond.selects RX0 yX0_set yX0_set, Cond.code yX0_set cX0_set 3 none, Cond.methodLink RX5 111 yX4_markPassed, Cond.instanceMethod yX4_markPassed, Cond.selects RX4 yX4_markPassed yX4_markPassed, Cond.initialized RX4, Cond.code yX4_markPassed cX4_markPassed 4 none, Cond.fieldLink RX4 23 "TideWords$Words" "passedSteps" "LTideWords$Cells;", Cond.fieldLink RX4 26 "TideWords$Words" "passedGates" "LTideWords$Cells;", Cond.methodLink RX4 42 yX0_set, Cond.methodLink RX5 115 yX4_addLast, Cond.instanceMethod yX4_addLast, Cond.selects RX4 yX4_addLast yX4_addLast, Cond.code yX4_addLast cX4_addLast 4 none, Cond.fieldLink RX4 35 "TideWords$Words" "rowLengths" "LTideWords$Cells;", Cond.fieldLink RX4 32 "TideWords$Words" "rows" "LTideWords$Cells;", Cond.methodLink RX4 49 yX0_get]
def wsX5_passLetter : List Cond := .code yX5_passLetter cX5_passLetter 3 none :: ((wsX5_passLetter_r1 ++ wsX5_passLetter_r2) ++ wsX50 ++ wsX10 ++ wsX40 ++ wsX00)
def wsX5_sendBack_r1 : List Cond := [Cond.fieldLink RX5 21 "TideWords$World" "gates" "LTideWords$Gates;", Cond.fieldLink RX5 74 "TideWords$Gates" "held" "LTideWords$Cells;", Cond.fieldLink RX5 118 "TideWords$Gates" "ways" "LTideWords$Cells;", Cond.fieldLink RX5 121 "TideWords$Gates" "vainLetters" "LTideWords$Cells;", Cond.fieldLink RX5 96 "TideWords$Gates" "lettersDone" "LTideWords$Cells;", Cond.fieldLink RX5 28 "TideWords$World" "words" "LTideWords$Words;", Cond.fieldLink RX5 124 "TideWords$Words" "timesBack" "LTideWords$Cells;", Cond.fieldLink RX5 78 "TideWords$Gates" "sides" "LTideWords$Cells;", Cond.methodLink RX5 81 yX0_get, Cond.instanceMethod yX0_get, Cond.selects RX0 yX0_get yX0_get, Cond.initialized RX0, Cond.code yX0_get cX0_get 2 (some .int), Cond.fieldLink RX0 13 "TideWords$Cells" "cells" "[I", Cond.methodLink RX5 99 yX0_add, Cond.instanceMethod yX0_add, Cond.selects RX0 yX0_add yX0_add, Cond.code yX0_add cX0_add 3 none, Cond.methodLink RX5 105 yX1_release, Cond.instanceMethod yX1_release, Cond.selects RX1 yX1_release yX1_release, Cond.initialized RX1, Cond.code yX1_release cX1_release 2 none, Cond.fieldLink RX1 29 "TideWords$Gates" "held" "LTideWords$Cells;"]
def wsX5_sendBack_r2 : List Cond := [Cond.fieldLink RX1 32 "TideWords$Gates" "lettersDone" "LTideWords$Cells;", Cond.methodLink RX1 45 yX0_set, Cond.instanceMethod yX0_set, Cond.selects RX0 yX0_set yX0_set, Cond.code yX0_set cX0_set 3 none, Cond.methodLink RX5 127 yX4_addFirst, Cond.instanceMethod yX4_addFirst, Cond.selects RX4 yX4_addFirst yX4_addFirst, Cond.initialized RX4, Cond.code yX4_addFirst cX4_addFirst 6 none, Cond.fieldLink RX4 35 "TideWords$Words" "rowLengths" "LTideWords$Cells;", Cond.fieldLink RX4 32 "TideWords$Words" "rows" "LTideWords$Cells;", Cond.methodLink RX4 49 yX0_get, Cond.methodLink RX4 42 yX0_set]
def wsX5_sendBack : List Cond := .code yX5_sendBack cX5_sendBack 3 none :: ((wsX5_sendBack_r1 ++ wsX5_sendBack_r2) ++ wsX50 ++ wsX10 ++ wsX40 ++ wsX00)
def wsX5_stepAcross_r1 : List Cond := [Cond.fieldLink RX5 21 "TideWords$World" "gates" "LTideWords$Gates;", Cond.fieldLink RX5 67 "TideWords$World" "idleSteps" "I", Cond.fieldLink RX5 40 "TideWords$World" "steps" "I", Cond.methodLink RX5 36 yX1_isOpenAcross, Cond.instanceMethod yX1_isOpenAcross, Cond.selects RX1 yX1_isOpenAcross yX1_isOpenAcross, Cond.initialized RX1, Cond.code yX1_isOpenAcross cX1_isOpenAcross 3 (some .boolean), Cond.methodLink RX1 57 Lib.Math.abs.name, Cond.static Lib.Math.abs.name, Cond.initialized "java/lang/Math", Cond.code Lib.Math.abs.name Lib.Math.abs.code 1 (some .int), Cond.fieldLink RX1 20 "TideWords$Gates" "slacks" "LTideWords$Cells;", Cond.methodLink RX1 53 yX1_isShut, Cond.instanceMethod yX1_isShut, Cond.selects RX1 yX1_isShut yX1_isShut, Cond.code yX1_isShut cX1_isShut 2 (some .boolean), Cond.fieldLink RX1 26 "TideWords$Gates" "shuts" "LTideWords$Cells;", Cond.methodLink RX1 49 yX0_get, Cond.instanceMethod yX0_get, Cond.selects RX0 yX0_get yX0_get, Cond.initialized RX0, Cond.code yX0_get cX0_get 2 (some .int), Cond.fieldLink RX0 13 "TideWords$Cells" "cells" "[I"]
def wsX5_stepAcross_r2 : List Cond := [Cond.methodLink RX5 58 yX5_takeWord, Cond.instanceMethod yX5_takeWord, Cond.selects RX5 yX5_takeWord yX5_takeWord, Cond.initialized RX5, Cond.code yX5_takeWord cX5_takeWord 2 none, Cond.fieldLink RX5 74 "TideWords$Gates" "held" "LTideWords$Cells;", Cond.fieldLink RX5 28 "TideWords$World" "words" "LTideWords$Words;", Cond.fieldLink RX5 78 "TideWords$Gates" "sides" "LTideWords$Cells;", Cond.methodLink RX5 70 yX1_hasWord, Cond.instanceMethod yX1_hasWord, Cond.selects RX1 yX1_hasWord yX1_hasWord, Cond.code yX1_hasWord cX1_hasWord 2 (some .boolean), Cond.fieldLink RX1 29 "TideWords$Gates" "held" "LTideWords$Cells;", Cond.methodLink RX5 81 yX0_get, Cond.methodLink RX5 86 yX4_takeWaiting, Cond.instanceMethod yX4_takeWaiting, Cond.selects RX4 yX4_takeWaiting yX4_takeWaiting, Cond.initialized RX4, Cond.code yX4_takeWaiting cX4_takeWaiting 5 (some .int), Cond.fieldLink RX4 35 "TideWords$Words" "rowLengths" "LTideWords$Cells;", Cond.methodLink RX4 49 yX0_get, Cond.methodLink RX4 56 yX4_wordAt, Cond.instanceMethod yX4_wordAt, Cond.selects RX4 yX4_wordAt yX4_wordAt]
def wsX5_stepAcross_r3 : List Cond := [Cond.code yX4_wordAt cX4_wordAt 3 (some .int), Cond.fieldLink RX4 32 "TideWords$Words" "rows" "LTideWords$Cells;", Cond.methodLink RX4 63 yX4_hasPassed, Cond.instanceMethod yX4_hasPassed, Cond.selects RX4 yX4_hasPassed yX4_hasPassed, Cond.code yX4_hasPassed cX4_hasPassed 2 (some .boolean), Cond.fieldLink RX4 23 "TideWords$Words" "passedSteps" "LTideWords$Cells;", Cond.methodLink RX4 67 yX4_removeFrom, Cond.instanceMethod yX4_removeFrom, Cond.selects RX4 yX4_removeFrom yX4_removeFrom, Cond.code yX4_removeFrom cX4_removeFrom 6 none, Cond.methodLink RX4 42 yX0_set, Cond.instanceMethod yX0_set, Cond.selects RX0 yX0_set yX0_set, Cond.code yX0_set cX0_set 3 none, Cond.methodLink RX5 89 yX0_set, Cond.methodLink RX5 61 yX5_passLetter, Cond.instanceMethod yX5_passLetter, Cond.selects RX5 yX5_passLetter yX5_passLetter, Cond.code yX5_passLetter cX5_passLetter 3 none, Cond.fieldLink RX5 93 "TideWords$World" "letters" "I", Cond.fieldLink RX5 96 "TideWords$Gates" "lettersDone" "LTideWords$Cells;", Cond.fieldLink RX5 102 "TideWords$Words" "lengths" "LTideWords$Cells;", Cond.fieldLink RX5 108 "TideWords$Gates" "passedWords" "LTideWords$Cells;"]
def wsX5_stepAcross_r4 : List Cond := [Cond.methodLink RX5 99 yX0_add, Cond.instanceMethod yX0_add, Cond.selects RX0 yX0_add yX0_add, Cond.code yX0_add cX0_add 3 none, Cond.methodLink RX5 105 yX1_release, Cond.instanceMethod yX1_release, Cond.selects RX1 yX1_release yX1_release, Cond.code yX1_release cX1_release 2 none, Cond.fieldLink RX1 32 "TideWords$Gates" "lettersDone" "LTideWords$Cells;", Cond.methodLink RX1 45 yX0_set, Cond.methodLink RX5 111 yX4_markPassed, Cond.instanceMethod yX4_markPassed, Cond.selects RX4 yX4_markPassed yX4_markPassed, Cond.code yX4_markPassed cX4_markPassed 4 none, Cond.fieldLink RX4 26 "TideWords$Words" "passedGates" "LTideWords$Cells;", Cond.methodLink RX5 115 yX4_addLast, Cond.instanceMethod yX4_addLast, Cond.selects RX4 yX4_addLast yX4_addLast, Cond.code yX4_addLast cX4_addLast 4 none, Cond.methodLink RX5 64 yX5_sendBack, Cond.instanceMethod yX5_sendBack, Cond.selects RX5 yX5_sendBack yX5_sendBack, Cond.code yX5_sendBack cX5_sendBack 3 none, Cond.fieldLink RX5 118 "TideWords$Gates" "ways" "LTideWords$Cells;"]
def wsX5_stepAcross_r5 : List Cond := [Cond.fieldLink RX5 121 "TideWords$Gates" "vainLetters" "LTideWords$Cells;", Cond.fieldLink RX5 124 "TideWords$Words" "timesBack" "LTideWords$Cells;", Cond.methodLink RX5 127 yX4_addFirst, Cond.instanceMethod yX4_addFirst, Cond.selects RX4 yX4_addFirst yX4_addFirst, Cond.code yX4_addFirst cX4_addFirst 6 none]
def wsX5_stepAcross : List Cond := .code yX5_stepAcross cX5_stepAcross 4 none :: ((wsX5_stepAcross_r1 ++ (wsX5_stepAcross_r2 ++ (wsX5_stepAcross_r3 ++ (wsX5_stepAcross_r4 ++ wsX5_stepAcross_r5)))) ++ wsX50 ++ wsX10 ++ wsX00 ++ wsX40)
def wsX5_makeSteps_r1 : List Cond := [Cond.fieldLink RX5 12 "TideWords$World" "tides" "LTideWords$Tides;", Cond.fieldLink RX5 40 "TideWords$World" "steps" "I", Cond.methodLink RX5 32 yX3_gapAt, Cond.instanceMethod yX3_gapAt, Cond.selects RX3 yX3_gapAt yX3_gapAt, Cond.initialized RX3, Cond.code yX3_gapAt cX3_gapAt 2 (some .int), Cond.methodLink RX3 50 yX3_toldAt, Cond.instanceMethod yX3_toldAt, Cond.selects RX3 yX3_toldAt yX3_toldAt, Cond.code yX3_toldAt cX3_toldAt 3 (some .int), Cond.fieldLink RX3 26 "TideWords$Tides" "lies" "LTideWords$Cells;", Cond.methodLink RX3 47 yX3_levelAt, Cond.instanceMethod yX3_levelAt, Cond.selects RX3 yX3_levelAt yX3_levelAt, Cond.code yX3_levelAt cX3_levelAt 6 (some .int), Cond.fieldLink RX3 23 "TideWords$Tides" "periods" "LTideWords$Cells;", Cond.fieldLink RX3 14 "TideWords$Tides" "means" "LTideWords$Cells;", Cond.fieldLink RX3 20 "TideWords$Tides" "swings" "LTideWords$Cells;", Cond.methodLink RX3 41 Lib.Math.min.name, Cond.static Lib.Math.min.name, Cond.initialized "java/lang/Math", Cond.code Lib.Math.min.name Lib.Math.min.code 2 (some .int), Cond.methodLink RX3 37 yX0_get]
def wsX5_makeSteps_r2 : List Cond := [Cond.instanceMethod yX0_get, Cond.selects RX0 yX0_get yX0_get, Cond.initialized RX0, Cond.code yX0_get cX0_get 2 (some .int), Cond.fieldLink RX0 13 "TideWords$Cells" "cells" "[I", Cond.methodLink RX5 54 yX5_stepAcross, Cond.instanceMethod yX5_stepAcross, Cond.selects RX5 yX5_stepAcross yX5_stepAcross, Cond.initialized RX5, Cond.code yX5_stepAcross cX5_stepAcross 4 none, Cond.fieldLink RX5 21 "TideWords$World" "gates" "LTideWords$Gates;", Cond.fieldLink RX5 67 "TideWords$World" "idleSteps" "I", Cond.methodLink RX5 36 yX1_isOpenAcross, Cond.instanceMethod yX1_isOpenAcross, Cond.selects RX1 yX1_isOpenAcross yX1_isOpenAcross, Cond.initialized RX1, Cond.code yX1_isOpenAcross cX1_isOpenAcross 3 (some .boolean), Cond.methodLink RX1 57 Lib.Math.abs.name, Cond.static Lib.Math.abs.name, Cond.code Lib.Math.abs.name Lib.Math.abs.code 1 (some .int), Cond.fieldLink RX1 20 "TideWords$Gates" "slacks" "LTideWords$Cells;", Cond.methodLink RX1 53 yX1_isShut, Cond.instanceMethod yX1_isShut, Cond.selects RX1 yX1_isShut yX1_isShut]
def wsX5_makeSteps_r3 : List Cond := [Cond.code yX1_isShut cX1_isShut 2 (some .boolean), Cond.fieldLink RX1 26 "TideWords$Gates" "shuts" "LTideWords$Cells;", Cond.methodLink RX1 49 yX0_get, Cond.methodLink RX5 58 yX5_takeWord, Cond.instanceMethod yX5_takeWord, Cond.selects RX5 yX5_takeWord yX5_takeWord, Cond.code yX5_takeWord cX5_takeWord 2 none, Cond.fieldLink RX5 74 "TideWords$Gates" "held" "LTideWords$Cells;", Cond.fieldLink RX5 28 "TideWords$World" "words" "LTideWords$Words;", Cond.fieldLink RX5 78 "TideWords$Gates" "sides" "LTideWords$Cells;", Cond.methodLink RX5 70 yX1_hasWord, Cond.instanceMethod yX1_hasWord, Cond.selects RX1 yX1_hasWord yX1_hasWord, Cond.code yX1_hasWord cX1_hasWord 2 (some .boolean), Cond.fieldLink RX1 29 "TideWords$Gates" "held" "LTideWords$Cells;", Cond.methodLink RX5 81 yX0_get, Cond.methodLink RX5 86 yX4_takeWaiting, Cond.instanceMethod yX4_takeWaiting, Cond.selects RX4 yX4_takeWaiting yX4_takeWaiting, Cond.initialized RX4, Cond.code yX4_takeWaiting cX4_takeWaiting 5 (some .int), Cond.fieldLink RX4 35 "TideWords$Words" "rowLengths" "LTideWords$Cells;", Cond.methodLink RX4 49 yX0_get, Cond.methodLink RX4 56 yX4_wordAt]
def wsX5_makeSteps_r4 : List Cond := [Cond.instanceMethod yX4_wordAt, Cond.selects RX4 yX4_wordAt yX4_wordAt, Cond.code yX4_wordAt cX4_wordAt 3 (some .int), Cond.fieldLink RX4 32 "TideWords$Words" "rows" "LTideWords$Cells;", Cond.methodLink RX4 63 yX4_hasPassed, Cond.instanceMethod yX4_hasPassed, Cond.selects RX4 yX4_hasPassed yX4_hasPassed, Cond.code yX4_hasPassed cX4_hasPassed 2 (some .boolean), Cond.fieldLink RX4 23 "TideWords$Words" "passedSteps" "LTideWords$Cells;", Cond.methodLink RX4 67 yX4_removeFrom, Cond.instanceMethod yX4_removeFrom, Cond.selects RX4 yX4_removeFrom yX4_removeFrom, Cond.code yX4_removeFrom cX4_removeFrom 6 none, Cond.methodLink RX4 42 yX0_set, Cond.instanceMethod yX0_set, Cond.selects RX0 yX0_set yX0_set, Cond.code yX0_set cX0_set 3 none, Cond.methodLink RX5 89 yX0_set, Cond.methodLink RX5 61 yX5_passLetter, Cond.instanceMethod yX5_passLetter, Cond.selects RX5 yX5_passLetter yX5_passLetter, Cond.code yX5_passLetter cX5_passLetter 3 none, Cond.fieldLink RX5 93 "TideWords$World" "letters" "I", Cond.fieldLink RX5 96 "TideWords$Gates" "lettersDone" "LTideWords$Cells;"]
def wsX5_makeSteps_r5 : List Cond := [Cond.fieldLink RX5 102 "TideWords$Words" "lengths" "LTideWords$Cells;", Cond.fieldLink RX5 108 "TideWords$Gates" "passedWords" "LTideWords$Cells;", Cond.methodLink RX5 99 yX0_add, Cond.instanceMethod yX0_add, Cond.selects RX0 yX0_add yX0_add, Cond.code yX0_add cX0_add 3 none, Cond.methodLink RX5 105 yX1_release, Cond.instanceMethod yX1_release, Cond.selects RX1 yX1_release yX1_release, Cond.code yX1_release cX1_release 2 none, Cond.fieldLink RX1 32 "TideWords$Gates" "lettersDone" "LTideWords$Cells;", Cond.methodLink RX1 45 yX0_set, Cond.methodLink RX5 111 yX4_markPassed, Cond.instanceMethod yX4_markPassed, Cond.selects RX4 yX4_markPassed yX4_markPassed, Cond.code yX4_markPassed cX4_markPassed 4 none, Cond.fieldLink RX4 26 "TideWords$Words" "passedGates" "LTideWords$Cells;", Cond.methodLink RX5 115 yX4_addLast, Cond.instanceMethod yX4_addLast, Cond.selects RX4 yX4_addLast yX4_addLast, Cond.code yX4_addLast cX4_addLast 4 none, Cond.methodLink RX5 64 yX5_sendBack, Cond.instanceMethod yX5_sendBack, Cond.selects RX5 yX5_sendBack yX5_sendBack]
def wsX5_makeSteps_r6 : List Cond := [Cond.code yX5_sendBack cX5_sendBack 3 none, Cond.fieldLink RX5 118 "TideWords$Gates" "ways" "LTideWords$Cells;", Cond.fieldLink RX5 121 "TideWords$Gates" "vainLetters" "LTideWords$Cells;", Cond.fieldLink RX5 124 "TideWords$Words" "timesBack" "LTideWords$Cells;", Cond.methodLink RX5 127 yX4_addFirst, Cond.instanceMethod yX4_addFirst, Cond.selects RX4 yX4_addFirst yX4_addFirst, Cond.code yX4_addFirst cX4_addFirst 6 none]
def wsX5_makeSteps : List Cond := .code yX5_makeSteps cX5_makeSteps 3 none :: ((wsX5_makeSteps_r1 ++ (wsX5_makeSteps_r2 ++ (wsX5_makeSteps_r3 ++ (wsX5_makeSteps_r4 ++ (wsX5_makeSteps_r5 ++ wsX5_makeSteps_r6))))) ++ wsX50 ++ wsX30 ++ wsX00 ++ wsX10 ++ wsX40)
def wsX5_tally : List Cond := .code yX5_tally cX5_tally 2 (some .int) :: ([.fieldLink RX5 21 "TideWords$World" "gates" "LTideWords$Gates;", .fieldLink RX5 108 "TideWords$Gates" "passedWords" "LTideWords$Cells;", .fieldLink RX5 121 "TideWords$Gates" "vainLetters" "LTideWords$Cells;", .fieldLink RX5 28 "TideWords$World" "words" "LTideWords$Words;", .fieldLink RX5 124 "TideWords$Words" "timesBack" "LTideWords$Cells;", .fieldLink RX5 67 "TideWords$World" "idleSteps" "I", .methodLink RX5 130 yX0_sum, .instanceMethod yX0_sum, .selects RX0 yX0_sum yX0_sum, .initialized RX0, .code yX0_sum cX0_sum 3 (some .int), .fieldLink RX0 13 "TideWords$Cells" "cells" "[I"] ++ wsX50 ++ wsX10 ++ wsX40 ++ wsX00)
def wsX5_copyFrom_r1 : List Cond := [Cond.fieldLink RX5 12 "TideWords$World" "tides" "LTideWords$Tides;", Cond.fieldLink RX5 21 "TideWords$World" "gates" "LTideWords$Gates;", Cond.fieldLink RX5 28 "TideWords$World" "words" "LTideWords$Words;", Cond.fieldLink RX5 40 "TideWords$World" "steps" "I", Cond.fieldLink RX5 93 "TideWords$World" "letters" "I", Cond.fieldLink RX5 67 "TideWords$World" "idleSteps" "I", Cond.methodLink RX5 134 yX3_copyFrom, Cond.instanceMethod yX3_copyFrom, Cond.selects RX3 yX3_copyFrom yX3_copyFrom, Cond.initialized RX3, Cond.code yX3_copyFrom cX3_copyFrom 2 none, Cond.fieldLink RX3 14 "TideWords$Tides" "means" "LTideWords$Cells;", Cond.fieldLink RX3 20 "TideWords$Tides" "swings" "LTideWords$Cells;", Cond.fieldLink RX3 23 "TideWords$Tides" "periods" "LTideWords$Cells;", Cond.fieldLink RX3 26 "TideWords$Tides" "lies" "LTideWords$Cells;", Cond.methodLink RX3 53 yX0_copyFrom, Cond.instanceMethod yX0_copyFrom, Cond.selects RX0 yX0_copyFrom yX0_copyFrom, Cond.initialized RX0, Cond.code yX0_copyFrom cX0_copyFrom 2 none, Cond.fieldLink RX0 13 "TideWords$Cells" "cells" "[I", Cond.methodLink RX0 19 Lib.Math.min.name, Cond.static Lib.Math.min.name, Cond.initialized "java/lang/Math"]
def wsX5_copyFrom_r2 : List Cond := [Cond.code Lib.Math.min.name Lib.Math.min.code 2 (some .int), Cond.methodLink RX0 22 arraycopyName, Cond.native arraycopyName, Cond.static arraycopyName, Cond.initialized "java/lang/System", Cond.methodLink RX5 138 yX1_copyFrom, Cond.instanceMethod yX1_copyFrom, Cond.selects RX1 yX1_copyFrom yX1_copyFrom, Cond.initialized RX1, Cond.code yX1_copyFrom cX1_copyFrom 2 none, Cond.fieldLink RX1 14 "TideWords$Gates" "sides" "LTideWords$Cells;", Cond.fieldLink RX1 20 "TideWords$Gates" "slacks" "LTideWords$Cells;", Cond.fieldLink RX1 23 "TideWords$Gates" "ways" "LTideWords$Cells;", Cond.fieldLink RX1 26 "TideWords$Gates" "shuts" "LTideWords$Cells;", Cond.fieldLink RX1 29 "TideWords$Gates" "held" "LTideWords$Cells;", Cond.fieldLink RX1 32 "TideWords$Gates" "lettersDone" "LTideWords$Cells;", Cond.fieldLink RX1 35 "TideWords$Gates" "passedWords" "LTideWords$Cells;", Cond.fieldLink RX1 38 "TideWords$Gates" "vainLetters" "LTideWords$Cells;", Cond.methodLink RX1 65 yX0_copyFrom, Cond.methodLink RX5 141 yX4_copyFrom, Cond.instanceMethod yX4_copyFrom, Cond.selects RX4 yX4_copyFrom yX4_copyFrom, Cond.initialized RX4, Cond.code yX4_copyFrom cX4_copyFrom 2 none]
def wsX5_copyFrom_r3 : List Cond := [Cond.fieldLink RX4 14 "TideWords$Words" "lengths" "LTideWords$Cells;", Cond.fieldLink RX4 20 "TideWords$Words" "letters" "LTideWords$Cells;", Cond.fieldLink RX4 23 "TideWords$Words" "passedSteps" "LTideWords$Cells;", Cond.fieldLink RX4 26 "TideWords$Words" "passedGates" "LTideWords$Cells;", Cond.fieldLink RX4 29 "TideWords$Words" "timesBack" "LTideWords$Cells;", Cond.fieldLink RX4 32 "TideWords$Words" "rows" "LTideWords$Cells;", Cond.fieldLink RX4 35 "TideWords$Words" "rowLengths" "LTideWords$Cells;", Cond.fieldLink RX4 38 "TideWords$Words" "total" "I", Cond.methodLink RX4 70 yX0_copyFrom]
def wsX5_copyFrom : List Cond := .code yX5_copyFrom cX5_copyFrom 2 none :: ((wsX5_copyFrom_r1 ++ (wsX5_copyFrom_r2 ++ wsX5_copyFrom_r3)) ++ wsX50 ++ wsX30 ++ wsX00 ++ wsX10 ++ wsX40)
def wsX6_init_r1 : List Cond := [Cond.methodLink RX6 1 objectInit, Cond.instanceMethod objectInit, Cond.code objectInit ⟨#[0xb1]⟩ 1 none, Cond.classLink RX6 7 RX5, Cond.instantiable RX5 6, Cond.initialized RX5, Cond.fieldLink RX6 10 "TideWords" "now" "LTideWords$World;", Cond.fieldLink RX6 16 "TideWords" "trial" "LTideWords$World;", Cond.classLink RX6 19 RX2, Cond.instantiable RX2 2, Cond.initialized RX2, Cond.fieldLink RX6 22 "TideWords" "pad" "LTideWords$Pad;", Cond.fieldLink RX6 26 "TideWords" "history" "[LTideWords$World;", Cond.fieldLink RX6 30 "TideWords" "slots" "[LTideWords$World;", Cond.classLink RX6 33 RX0, Cond.instantiable RX0 1, Cond.initialized RX0, Cond.fieldLink RX6 38 "TideWords" "isSaved" "LTideWords$Cells;", Cond.fieldLink RX6 42 "TideWords" "gapsAhead" "LTideWords$Cells;", Cond.instanceMethod yX5_init, Cond.code yX5_init cX5_init 1 none, Cond.methodLink RX5 3 objectInit, Cond.classLink RX5 9 RX3, Cond.instantiable RX3 4]
def wsX6_init_r2 : List Cond := [Cond.initialized RX3, Cond.fieldLink RX5 12 "TideWords$World" "tides" "LTideWords$Tides;", Cond.classLink RX5 18 RX1, Cond.instantiable RX1 8, Cond.initialized RX1, Cond.fieldLink RX5 21 "TideWords$World" "gates" "LTideWords$Gates;", Cond.classLink RX5 25 RX4, Cond.instantiable RX4 8, Cond.initialized RX4, Cond.fieldLink RX5 28 "TideWords$World" "words" "LTideWords$Words;", Cond.methodLink RX5 11 yX3_init, Cond.instanceMethod yX3_init, Cond.code yX3_init cX3_init 1 none, Cond.methodLink RX3 3 objectInit, Cond.classLink RX3 9 RX0, Cond.fieldLink RX3 14 "TideWords$Tides" "means" "LTideWords$Cells;", Cond.fieldLink RX3 20 "TideWords$Tides" "swings" "LTideWords$Cells;", Cond.fieldLink RX3 23 "TideWords$Tides" "periods" "LTideWords$Cells;", Cond.fieldLink RX3 26 "TideWords$Tides" "lies" "LTideWords$Cells;", Cond.methodLink RX3 11 yX0_init, Cond.instanceMethod yX0_init, Cond.code yX0_init cX0_init 2 none, Cond.methodLink RX0 1 objectInit, Cond.methodLink RX0 7 Lib.Math.max.name]
def wsX6_init_r3 : List Cond := [Cond.static Lib.Math.max.name, Cond.initialized "java/lang/Math", Cond.code Lib.Math.max.name Lib.Math.max.code 2 (some .int), Cond.arrayClass .int, Cond.fieldLink RX0 13 "TideWords$Cells" "cells" "[I", Cond.methodLink RX3 29 yX3_change, Cond.instanceMethod yX3_change, Cond.selects RX3 yX3_change yX3_change, Cond.code yX3_change cX3_change 5 none, Cond.methodLink RX3 33 yX0_set, Cond.instanceMethod yX0_set, Cond.selects RX0 yX0_set yX0_set, Cond.code yX0_set cX0_set 3 none, Cond.methodLink RX5 20 yX1_init, Cond.instanceMethod yX1_init, Cond.code yX1_init cX1_init 2 none, Cond.methodLink RX1 3 objectInit, Cond.classLink RX1 9 RX0, Cond.fieldLink RX1 14 "TideWords$Gates" "sides" "LTideWords$Cells;", Cond.fieldLink RX1 20 "TideWords$Gates" "slacks" "LTideWords$Cells;", Cond.fieldLink RX1 23 "TideWords$Gates" "ways" "LTideWords$Cells;", Cond.fieldLink RX1 26 "TideWords$Gates" "shuts" "LTideWords$Cells;", Cond.fieldLink RX1 29 "TideWords$Gates" "held" "LTideWords$Cells;", Cond.fieldLink RX1 32 "TideWords$Gates" "lettersDone" "LTideWords$Cells;"]
def wsX6_init_r4 : List Cond := [Cond.fieldLink RX1 35 "TideWords$Gates" "passedWords" "LTideWords$Cells;", Cond.fieldLink RX1 38 "TideWords$Gates" "vainLetters" "LTideWords$Cells;", Cond.methodLink RX1 11 yX0_init, Cond.methodLink RX1 41 yX1_change, Cond.instanceMethod yX1_change, Cond.selects RX1 yX1_change yX1_change, Cond.code yX1_change cX1_change 5 none, Cond.methodLink RX1 45 yX0_set, Cond.instanceMethod yX4_init, Cond.code yX4_init cX4_init 1 none, Cond.methodLink RX4 3 objectInit, Cond.classLink RX4 9 RX0, Cond.fieldLink RX4 14 "TideWords$Words" "lengths" "LTideWords$Cells;", Cond.fieldLink RX4 20 "TideWords$Words" "letters" "LTideWords$Cells;", Cond.fieldLink RX4 23 "TideWords$Words" "passedSteps" "LTideWords$Cells;", Cond.fieldLink RX4 26 "TideWords$Words" "passedGates" "LTideWords$Cells;", Cond.fieldLink RX4 29 "TideWords$Words" "timesBack" "LTideWords$Cells;", Cond.fieldLink RX4 32 "TideWords$Words" "rows" "LTideWords$Cells;", Cond.fieldLink RX4 35 "TideWords$Words" "rowLengths" "LTideWords$Cells;", Cond.methodLink RX4 11 yX0_init, Cond.instanceMethod yX2_init, Cond.code yX2_init cX2_init 1 none, Cond.methodLink RX2 3 objectInit, Cond.classLink RX2 9 RX0]
def wsX6_init_r5 : List Cond := [Cond.fieldLink RX2 14 "TideWords$Pad" "codes" "LTideWords$Cells;", Cond.methodLink RX2 11 yX0_init, Cond.methodLink RX6 35 yX0_init]
def wsX6_init : List Cond := .code yX6_init cX6_init 2 none :: ((wsX6_init_r1 ++ (wsX6_init_r2 ++ (wsX6_init_r3 ++ (wsX6_init_r4 ++ wsX6_init_r5)))) ++ wsX50 ++ wsX60 ++ wsX20 ++ wsX00 ++ wsX30 ++ wsX10 ++ wsX40)
def wsX6_isWithin : List Cond := .code yX6_isWithin cX6_isWithin 3 (some .boolean) :: ([])
def wsX6_isStore : List Cond := .code yX6_isStore cX6_isStore 1 (some .boolean) :: ([.methodLink RX6 49 yX6_isWithin, .static yX6_isWithin, .initialized RX6, .code yX6_isWithin cX6_isWithin 3 (some .boolean)])
def wsX6_worldIn : List Cond := .code yX6_worldIn cX6_worldIn 2 (some (.object "TideWords$World")) :: ([])
def wsX6_copyInto_r1 : List Cond := [Cond.fieldLink RX6 10 "TideWords" "now" "LTideWords$World;", Cond.methodLink RX6 262 yX6_worldIn, Cond.static yX6_worldIn, Cond.initialized RX6, Cond.code yX6_worldIn cX6_worldIn 2 (some (.object "TideWords$World")), Cond.methodLink RX6 228 yX5_copyFrom, Cond.instanceMethod yX5_copyFrom, Cond.selects RX5 yX5_copyFrom yX5_copyFrom, Cond.initialized RX5, Cond.code yX5_copyFrom cX5_copyFrom 2 none, Cond.fieldLink RX5 12 "TideWords$World" "tides" "LTideWords$Tides;", Cond.fieldLink RX5 21 "TideWords$World" "gates" "LTideWords$Gates;", Cond.fieldLink RX5 28 "TideWords$World" "words" "LTideWords$Words;", Cond.fieldLink RX5 40 "TideWords$World" "steps" "I", Cond.fieldLink RX5 93 "TideWords$World" "letters" "I", Cond.fieldLink RX5 67 "TideWords$World" "idleSteps" "I", Cond.methodLink RX5 134 yX3_copyFrom, Cond.instanceMethod yX3_copyFrom, Cond.selects RX3 yX3_copyFrom yX3_copyFrom, Cond.initialized RX3, Cond.code yX3_copyFrom cX3_copyFrom 2 none, Cond.fieldLink RX3 14 "TideWords$Tides" "means" "LTideWords$Cells;", Cond.fieldLink RX3 20 "TideWords$Tides" "swings" "LTideWords$Cells;", Cond.fieldLink RX3 23 "TideWords$Tides" "periods" "LTideWords$Cells;"]
def wsX6_copyInto_r2 : List Cond := [Cond.fieldLink RX3 26 "TideWords$Tides" "lies" "LTideWords$Cells;", Cond.methodLink RX3 53 yX0_copyFrom, Cond.instanceMethod yX0_copyFrom, Cond.selects RX0 yX0_copyFrom yX0_copyFrom, Cond.initialized RX0, Cond.code yX0_copyFrom cX0_copyFrom 2 none, Cond.fieldLink RX0 13 "TideWords$Cells" "cells" "[I", Cond.methodLink RX0 19 Lib.Math.min.name, Cond.static Lib.Math.min.name, Cond.initialized "java/lang/Math", Cond.code Lib.Math.min.name Lib.Math.min.code 2 (some .int), Cond.methodLink RX0 22 arraycopyName, Cond.native arraycopyName, Cond.static arraycopyName, Cond.initialized "java/lang/System", Cond.methodLink RX5 138 yX1_copyFrom, Cond.instanceMethod yX1_copyFrom, Cond.selects RX1 yX1_copyFrom yX1_copyFrom, Cond.initialized RX1, Cond.code yX1_copyFrom cX1_copyFrom 2 none, Cond.fieldLink RX1 14 "TideWords$Gates" "sides" "LTideWords$Cells;", Cond.fieldLink RX1 20 "TideWords$Gates" "slacks" "LTideWords$Cells;", Cond.fieldLink RX1 23 "TideWords$Gates" "ways" "LTideWords$Cells;", Cond.fieldLink RX1 26 "TideWords$Gates" "shuts" "LTideWords$Cells;"]
def wsX6_copyInto_r3 : List Cond := [Cond.fieldLink RX1 29 "TideWords$Gates" "held" "LTideWords$Cells;", Cond.fieldLink RX1 32 "TideWords$Gates" "lettersDone" "LTideWords$Cells;", Cond.fieldLink RX1 35 "TideWords$Gates" "passedWords" "LTideWords$Cells;", Cond.fieldLink RX1 38 "TideWords$Gates" "vainLetters" "LTideWords$Cells;", Cond.methodLink RX1 65 yX0_copyFrom, Cond.methodLink RX5 141 yX4_copyFrom, Cond.instanceMethod yX4_copyFrom, Cond.selects RX4 yX4_copyFrom yX4_copyFrom, Cond.initialized RX4, Cond.code yX4_copyFrom cX4_copyFrom 2 none, Cond.fieldLink RX4 14 "TideWords$Words" "lengths" "LTideWords$Cells;", Cond.fieldLink RX4 20 "TideWords$Words" "letters" "LTideWords$Cells;", Cond.fieldLink RX4 23 "TideWords$Words" "passedSteps" "LTideWords$Cells;", Cond.fieldLink RX4 26 "TideWords$Words" "passedGates" "LTideWords$Cells;", Cond.fieldLink RX4 29 "TideWords$Words" "timesBack" "LTideWords$Cells;", Cond.fieldLink RX4 32 "TideWords$Words" "rows" "LTideWords$Cells;", Cond.fieldLink RX4 35 "TideWords$Words" "rowLengths" "LTideWords$Cells;", Cond.fieldLink RX4 38 "TideWords$Words" "total" "I", Cond.methodLink RX4 70 yX0_copyFrom]
def wsX6_copyInto : List Cond := .code yX6_copyInto cX6_copyInto 4 none :: ((wsX6_copyInto_r1 ++ (wsX6_copyInto_r2 ++ wsX6_copyInto_r3)) ++ wsX60 ++ wsX50 ++ wsX30 ++ wsX00 ++ wsX10 ++ wsX40)
def wsX6_record_r1 : List Cond := [Cond.fieldLink RX6 26 "TideWords" "history" "[LTideWords$World;", Cond.fieldLink RX6 259 "TideWords" "nextRecord" "I", Cond.fieldLink RX6 219 "TideWords" "records" "I", Cond.methodLink RX6 270 Lib.Math.min.name, Cond.static Lib.Math.min.name, Cond.initialized "java/lang/Math", Cond.code Lib.Math.min.name Lib.Math.min.code 2 (some .int), Cond.methodLink RX6 266 yX6_copyInto, Cond.instanceMethod yX6_copyInto, Cond.selects RX6 yX6_copyInto yX6_copyInto, Cond.initialized RX6, Cond.code yX6_copyInto cX6_copyInto 4 none, Cond.fieldLink RX6 10 "TideWords" "now" "LTideWords$World;", Cond.methodLink RX6 262 yX6_worldIn, Cond.static yX6_worldIn, Cond.code yX6_worldIn cX6_worldIn 2 (some (.object "TideWords$World")), Cond.methodLink RX6 228 yX5_copyFrom, Cond.instanceMethod yX5_copyFrom, Cond.selects RX5 yX5_copyFrom yX5_copyFrom, Cond.initialized RX5, Cond.code yX5_copyFrom cX5_copyFrom 2 none, Cond.fieldLink RX5 12 "TideWords$World" "tides" "LTideWords$Tides;", Cond.fieldLink RX5 21 "TideWords$World" "gates" "LTideWords$Gates;", Cond.fieldLink RX5 28 "TideWords$World" "words" "LTideWords$Words;"]
def wsX6_record_r2 : List Cond := [Cond.fieldLink RX5 40 "TideWords$World" "steps" "I", Cond.fieldLink RX5 93 "TideWords$World" "letters" "I", Cond.fieldLink RX5 67 "TideWords$World" "idleSteps" "I", Cond.methodLink RX5 134 yX3_copyFrom, Cond.instanceMethod yX3_copyFrom, Cond.selects RX3 yX3_copyFrom yX3_copyFrom, Cond.initialized RX3, Cond.code yX3_copyFrom cX3_copyFrom 2 none, Cond.fieldLink RX3 14 "TideWords$Tides" "means" "LTideWords$Cells;", Cond.fieldLink RX3 20 "TideWords$Tides" "swings" "LTideWords$Cells;", Cond.fieldLink RX3 23 "TideWords$Tides" "periods" "LTideWords$Cells;", Cond.fieldLink RX3 26 "TideWords$Tides" "lies" "LTideWords$Cells;", Cond.methodLink RX3 53 yX0_copyFrom, Cond.instanceMethod yX0_copyFrom, Cond.selects RX0 yX0_copyFrom yX0_copyFrom, Cond.initialized RX0, Cond.code yX0_copyFrom cX0_copyFrom 2 none, Cond.fieldLink RX0 13 "TideWords$Cells" "cells" "[I", Cond.methodLink RX0 19 Lib.Math.min.name, Cond.methodLink RX0 22 arraycopyName, Cond.native arraycopyName, Cond.static arraycopyName, Cond.initialized "java/lang/System", Cond.methodLink RX5 138 yX1_copyFrom]
def wsX6_record_r3 : List Cond := [Cond.instanceMethod yX1_copyFrom, Cond.selects RX1 yX1_copyFrom yX1_copyFrom, Cond.initialized RX1, Cond.code yX1_copyFrom cX1_copyFrom 2 none, Cond.fieldLink RX1 14 "TideWords$Gates" "sides" "LTideWords$Cells;", Cond.fieldLink RX1 20 "TideWords$Gates" "slacks" "LTideWords$Cells;", Cond.fieldLink RX1 23 "TideWords$Gates" "ways" "LTideWords$Cells;", Cond.fieldLink RX1 26 "TideWords$Gates" "shuts" "LTideWords$Cells;", Cond.fieldLink RX1 29 "TideWords$Gates" "held" "LTideWords$Cells;", Cond.fieldLink RX1 32 "TideWords$Gates" "lettersDone" "LTideWords$Cells;", Cond.fieldLink RX1 35 "TideWords$Gates" "passedWords" "LTideWords$Cells;", Cond.fieldLink RX1 38 "TideWords$Gates" "vainLetters" "LTideWords$Cells;", Cond.methodLink RX1 65 yX0_copyFrom, Cond.methodLink RX5 141 yX4_copyFrom, Cond.instanceMethod yX4_copyFrom, Cond.selects RX4 yX4_copyFrom yX4_copyFrom, Cond.initialized RX4, Cond.code yX4_copyFrom cX4_copyFrom 2 none, Cond.fieldLink RX4 14 "TideWords$Words" "lengths" "LTideWords$Cells;", Cond.fieldLink RX4 20 "TideWords$Words" "letters" "LTideWords$Cells;", Cond.fieldLink RX4 23 "TideWords$Words" "passedSteps" "LTideWords$Cells;", Cond.fieldLink RX4 26 "TideWords$Words" "passedGates" "LTideWords$Cells;", Cond.fieldLink RX4 29 "TideWords$Words" "timesBack" "LTideWords$Cells;", Cond.fieldLink RX4 32 "TideWords$Words" "rows" "LTideWords$Cells;"]
def wsX6_record_r4 : List Cond := [Cond.fieldLink RX4 35 "TideWords$Words" "rowLengths" "LTideWords$Cells;", Cond.fieldLink RX4 38 "TideWords$Words" "total" "I", Cond.methodLink RX4 70 yX0_copyFrom]
def wsX6_record : List Cond := .code yX6_record cX6_record 1 none :: ((wsX6_record_r1 ++ (wsX6_record_r2 ++ (wsX6_record_r3 ++ wsX6_record_r4))) ++ wsX60 ++ wsX50 ++ wsX30 ++ wsX00 ++ wsX10 ++ wsX40)
def wsX6_tide_r1 : List Cond := [Cond.fieldLink RX6 10 "TideWords" "now" "LTideWords$World;", Cond.fieldLink RX6 56 "TideWords$World" "tides" "LTideWords$Tides;", Cond.fieldLink RX6 66 "TideWords$World" "steps" "I", Cond.methodLink RX6 45 yX6_isStore, Cond.static yX6_isStore, Cond.initialized RX6, Cond.code yX6_isStore cX6_isStore 1 (some .boolean), Cond.methodLink RX6 49 yX6_isWithin, Cond.static yX6_isWithin, Cond.code yX6_isWithin cX6_isWithin 3 (some .boolean), Cond.methodLink RX6 53 yX6_record, Cond.instanceMethod yX6_record, Cond.selects RX6 yX6_record yX6_record, Cond.code yX6_record cX6_record 1 none, Cond.fieldLink RX6 26 "TideWords" "history" "[LTideWords$World;", Cond.fieldLink RX6 259 "TideWords" "nextRecord" "I", Cond.fieldLink RX6 219 "TideWords" "records" "I", Cond.methodLink RX6 270 Lib.Math.min.name, Cond.static Lib.Math.min.name, Cond.initialized "java/lang/Math", Cond.code Lib.Math.min.name Lib.Math.min.code 2 (some .int), Cond.methodLink RX6 266 yX6_copyInto, Cond.instanceMethod yX6_copyInto, Cond.selects RX6 yX6_copyInto yX6_copyInto]
def wsX6_tide_r2 : List Cond := [Cond.code yX6_copyInto cX6_copyInto 4 none, Cond.methodLink RX6 262 yX6_worldIn, Cond.static yX6_worldIn, Cond.code yX6_worldIn cX6_worldIn 2 (some (.object "TideWords$World")), Cond.methodLink RX6 228 yX5_copyFrom, Cond.instanceMethod yX5_copyFrom, Cond.selects RX5 yX5_copyFrom yX5_copyFrom, Cond.initialized RX5, Cond.code yX5_copyFrom cX5_copyFrom 2 none, Cond.fieldLink RX5 12 "TideWords$World" "tides" "LTideWords$Tides;", Cond.fieldLink RX5 21 "TideWords$World" "gates" "LTideWords$Gates;", Cond.fieldLink RX5 28 "TideWords$World" "words" "LTideWords$Words;", Cond.fieldLink RX5 40 "TideWords$World" "steps" "I", Cond.fieldLink RX5 93 "TideWords$World" "letters" "I", Cond.fieldLink RX5 67 "TideWords$World" "idleSteps" "I", Cond.methodLink RX5 134 yX3_copyFrom, Cond.instanceMethod yX3_copyFrom, Cond.selects RX3 yX3_copyFrom yX3_copyFrom, Cond.initialized RX3, Cond.code yX3_copyFrom cX3_copyFrom 2 none, Cond.fieldLink RX3 14 "TideWords$Tides" "means" "LTideWords$Cells;", Cond.fieldLink RX3 20 "TideWords$Tides" "swings" "LTideWords$Cells;", Cond.fieldLink RX3 23 "TideWords$Tides" "periods" "LTideWords$Cells;", Cond.fieldLink RX3 26 "TideWords$Tides" "lies" "LTideWords$Cells;"]
def wsX6_tide_r3 : List Cond := [Cond.methodLink RX3 53 yX0_copyFrom, Cond.instanceMethod yX0_copyFrom, Cond.selects RX0 yX0_copyFrom yX0_copyFrom, Cond.initialized RX0, Cond.code yX0_copyFrom cX0_copyFrom 2 none, Cond.fieldLink RX0 13 "TideWords$Cells" "cells" "[I", Cond.methodLink RX0 19 Lib.Math.min.name, Cond.methodLink RX0 22 arraycopyName, Cond.native arraycopyName, Cond.static arraycopyName, Cond.initialized "java/lang/System", Cond.methodLink RX5 138 yX1_copyFrom, Cond.instanceMethod yX1_copyFrom, Cond.selects RX1 yX1_copyFrom yX1_copyFrom, Cond.initialized RX1, Cond.code yX1_copyFrom cX1_copyFrom 2 none, Cond.fieldLink RX1 14 "TideWords$Gates" "sides" "LTideWords$Cells;", Cond.fieldLink RX1 20 "TideWords$Gates" "slacks" "LTideWords$Cells;", Cond.fieldLink RX1 23 "TideWords$Gates" "ways" "LTideWords$Cells;", Cond.fieldLink RX1 26 "TideWords$Gates" "shuts" "LTideWords$Cells;", Cond.fieldLink RX1 29 "TideWords$Gates" "held" "LTideWords$Cells;", Cond.fieldLink RX1 32 "TideWords$Gates" "lettersDone" "LTideWords$Cells;", Cond.fieldLink RX1 35 "TideWords$Gates" "passedWords" "LTideWords$Cells;", Cond.fieldLink RX1 38 "TideWords$Gates" "vainLetters" "LTideWords$Cells;"]
def wsX6_tide_r4 : List Cond := [Cond.methodLink RX1 65 yX0_copyFrom, Cond.methodLink RX5 141 yX4_copyFrom, Cond.instanceMethod yX4_copyFrom, Cond.selects RX4 yX4_copyFrom yX4_copyFrom, Cond.initialized RX4, Cond.code yX4_copyFrom cX4_copyFrom 2 none, Cond.fieldLink RX4 14 "TideWords$Words" "lengths" "LTideWords$Cells;", Cond.fieldLink RX4 20 "TideWords$Words" "letters" "LTideWords$Cells;", Cond.fieldLink RX4 23 "TideWords$Words" "passedSteps" "LTideWords$Cells;", Cond.fieldLink RX4 26 "TideWords$Words" "passedGates" "LTideWords$Cells;", Cond.fieldLink RX4 29 "TideWords$Words" "timesBack" "LTideWords$Cells;", Cond.fieldLink RX4 32 "TideWords$Words" "rows" "LTideWords$Cells;", Cond.fieldLink RX4 35 "TideWords$Words" "rowLengths" "LTideWords$Cells;", Cond.fieldLink RX4 38 "TideWords$Words" "total" "I", Cond.methodLink RX4 70 yX0_copyFrom, Cond.methodLink RX6 60 yX3_change, Cond.instanceMethod yX3_change, Cond.selects RX3 yX3_change yX3_change, Cond.code yX3_change cX3_change 5 none, Cond.methodLink RX3 33 yX0_set, Cond.instanceMethod yX0_set, Cond.selects RX0 yX0_set yX0_set, Cond.code yX0_set cX0_set 3 none, Cond.methodLink RX6 70 yX3_levelAt]
def wsX6_tide_r5 : List Cond := [Cond.instanceMethod yX3_levelAt, Cond.selects RX3 yX3_levelAt yX3_levelAt, Cond.code yX3_levelAt cX3_levelAt 6 (some .int), Cond.methodLink RX3 41 Lib.Math.min.name, Cond.methodLink RX3 37 yX0_get, Cond.instanceMethod yX0_get, Cond.selects RX0 yX0_get yX0_get, Cond.code yX0_get cX0_get 2 (some .int)]
def wsX6_tide : List Cond := .code yX6_tide cX6_tide 5 (some .int) :: ((wsX6_tide_r1 ++ (wsX6_tide_r2 ++ (wsX6_tide_r3 ++ (wsX6_tide_r4 ++ wsX6_tide_r5)))) ++ wsX60 ++ wsX50 ++ wsX30 ++ wsX00 ++ wsX10 ++ wsX40)
def wsX6_gauge_r1 : List Cond := [Cond.fieldLink RX6 10 "TideWords" "now" "LTideWords$World;", Cond.fieldLink RX6 56 "TideWords$World" "tides" "LTideWords$Tides;", Cond.fieldLink RX6 74 "TideWords$Tides" "lies" "LTideWords$Cells;", Cond.methodLink RX6 45 yX6_isStore, Cond.static yX6_isStore, Cond.initialized RX6, Cond.code yX6_isStore cX6_isStore 1 (some .boolean), Cond.methodLink RX6 49 yX6_isWithin, Cond.static yX6_isWithin, Cond.code yX6_isWithin cX6_isWithin 3 (some .boolean), Cond.methodLink RX6 53 yX6_record, Cond.instanceMethod yX6_record, Cond.selects RX6 yX6_record yX6_record, Cond.code yX6_record cX6_record 1 none, Cond.fieldLink RX6 26 "TideWords" "history" "[LTideWords$World;", Cond.fieldLink RX6 259 "TideWords" "nextRecord" "I", Cond.fieldLink RX6 219 "TideWords" "records" "I", Cond.methodLink RX6 270 Lib.Math.min.name, Cond.static Lib.Math.min.name, Cond.initialized "java/lang/Math", Cond.code Lib.Math.min.name Lib.Math.min.code 2 (some .int), Cond.methodLink RX6 266 yX6_copyInto, Cond.instanceMethod yX6_copyInto, Cond.selects RX6 yX6_copyInto yX6_copyInto]
def wsX6_gauge_r2 : List Cond := [Cond.code yX6_copyInto cX6_copyInto 4 none, Cond.methodLink RX6 262 yX6_worldIn, Cond.static yX6_worldIn, Cond.code yX6_worldIn cX6_worldIn 2 (some (.object "TideWords$World")), Cond.methodLink RX6 228 yX5_copyFrom, Cond.instanceMethod yX5_copyFrom, Cond.selects RX5 yX5_copyFrom yX5_copyFrom, Cond.initialized RX5, Cond.code yX5_copyFrom cX5_copyFrom 2 none, Cond.fieldLink RX5 12 "TideWords$World" "tides" "LTideWords$Tides;", Cond.fieldLink RX5 21 "TideWords$World" "gates" "LTideWords$Gates;", Cond.fieldLink RX5 28 "TideWords$World" "words" "LTideWords$Words;", Cond.fieldLink RX5 40 "TideWords$World" "steps" "I", Cond.fieldLink RX5 93 "TideWords$World" "letters" "I", Cond.fieldLink RX5 67 "TideWords$World" "idleSteps" "I", Cond.methodLink RX5 134 yX3_copyFrom, Cond.instanceMethod yX3_copyFrom, Cond.selects RX3 yX3_copyFrom yX3_copyFrom, Cond.initialized RX3, Cond.code yX3_copyFrom cX3_copyFrom 2 none, Cond.fieldLink RX3 14 "TideWords$Tides" "means" "LTideWords$Cells;", Cond.fieldLink RX3 20 "TideWords$Tides" "swings" "LTideWords$Cells;", Cond.fieldLink RX3 23 "TideWords$Tides" "periods" "LTideWords$Cells;", Cond.fieldLink RX3 26 "TideWords$Tides" "lies" "LTideWords$Cells;"]
def wsX6_gauge_r3 : List Cond := [Cond.methodLink RX3 53 yX0_copyFrom, Cond.instanceMethod yX0_copyFrom, Cond.selects RX0 yX0_copyFrom yX0_copyFrom, Cond.initialized RX0, Cond.code yX0_copyFrom cX0_copyFrom 2 none, Cond.fieldLink RX0 13 "TideWords$Cells" "cells" "[I", Cond.methodLink RX0 19 Lib.Math.min.name, Cond.methodLink RX0 22 arraycopyName, Cond.native arraycopyName, Cond.static arraycopyName, Cond.initialized "java/lang/System", Cond.methodLink RX5 138 yX1_copyFrom, Cond.instanceMethod yX1_copyFrom, Cond.selects RX1 yX1_copyFrom yX1_copyFrom, Cond.initialized RX1, Cond.code yX1_copyFrom cX1_copyFrom 2 none, Cond.fieldLink RX1 14 "TideWords$Gates" "sides" "LTideWords$Cells;", Cond.fieldLink RX1 20 "TideWords$Gates" "slacks" "LTideWords$Cells;", Cond.fieldLink RX1 23 "TideWords$Gates" "ways" "LTideWords$Cells;", Cond.fieldLink RX1 26 "TideWords$Gates" "shuts" "LTideWords$Cells;", Cond.fieldLink RX1 29 "TideWords$Gates" "held" "LTideWords$Cells;", Cond.fieldLink RX1 32 "TideWords$Gates" "lettersDone" "LTideWords$Cells;", Cond.fieldLink RX1 35 "TideWords$Gates" "passedWords" "LTideWords$Cells;", Cond.fieldLink RX1 38 "TideWords$Gates" "vainLetters" "LTideWords$Cells;"]
def wsX6_gauge_r4 : List Cond := [Cond.methodLink RX1 65 yX0_copyFrom, Cond.methodLink RX5 141 yX4_copyFrom, Cond.instanceMethod yX4_copyFrom, Cond.selects RX4 yX4_copyFrom yX4_copyFrom, Cond.initialized RX4, Cond.code yX4_copyFrom cX4_copyFrom 2 none, Cond.fieldLink RX4 14 "TideWords$Words" "lengths" "LTideWords$Cells;", Cond.fieldLink RX4 20 "TideWords$Words" "letters" "LTideWords$Cells;", Cond.fieldLink RX4 23 "TideWords$Words" "passedSteps" "LTideWords$Cells;", Cond.fieldLink RX4 26 "TideWords$Words" "passedGates" "LTideWords$Cells;", Cond.fieldLink RX4 29 "TideWords$Words" "timesBack" "LTideWords$Cells;", Cond.fieldLink RX4 32 "TideWords$Words" "rows" "LTideWords$Cells;", Cond.fieldLink RX4 35 "TideWords$Words" "rowLengths" "LTideWords$Cells;", Cond.fieldLink RX4 38 "TideWords$Words" "total" "I", Cond.methodLink RX4 70 yX0_copyFrom, Cond.methodLink RX6 77 yX0_get, Cond.instanceMethod yX0_get, Cond.selects RX0 yX0_get yX0_get, Cond.code yX0_get cX0_get 2 (some .int), Cond.methodLink RX6 81 yX0_set, Cond.instanceMethod yX0_set, Cond.selects RX0 yX0_set yX0_set, Cond.code yX0_set cX0_set 3 none]
def wsX6_gauge : List Cond := .code yX6_gauge cX6_gauge 4 (some .int) :: ((wsX6_gauge_r1 ++ (wsX6_gauge_r2 ++ (wsX6_gauge_r3 ++ wsX6_gauge_r4))) ++ wsX60 ++ wsX50 ++ wsX30 ++ wsX00 ++ wsX10 ++ wsX40)
def wsX6_isGate : List Cond := .code yX6_isGate cX6_isGate 1 (some .boolean) :: ([.methodLink RX6 49 yX6_isWithin, .static yX6_isWithin, .initialized RX6, .code yX6_isWithin cX6_isWithin 3 (some .boolean)])
def wsX6_gate_r1 : List Cond := [Cond.fieldLink RX6 10 "TideWords" "now" "LTideWords$World;", Cond.fieldLink RX6 88 "TideWords$World" "gates" "LTideWords$Gates;", Cond.fieldLink RX6 97 "TideWords$Gates" "sides" "LTideWords$Cells;", Cond.fieldLink RX6 100 "TideWords$Gates" "slacks" "LTideWords$Cells;", Cond.methodLink RX6 85 yX6_isGate, Cond.static yX6_isGate, Cond.initialized RX6, Cond.code yX6_isGate cX6_isGate 1 (some .boolean), Cond.methodLink RX6 49 yX6_isWithin, Cond.static yX6_isWithin, Cond.code yX6_isWithin cX6_isWithin 3 (some .boolean), Cond.methodLink RX6 92 yX1_hasWord, Cond.instanceMethod yX1_hasWord, Cond.selects RX1 yX1_hasWord yX1_hasWord, Cond.initialized RX1, Cond.code yX1_hasWord cX1_hasWord 2 (some .boolean), Cond.fieldLink RX1 29 "TideWords$Gates" "held" "LTideWords$Cells;", Cond.methodLink RX1 49 yX0_get, Cond.instanceMethod yX0_get, Cond.selects RX0 yX0_get yX0_get, Cond.initialized RX0, Cond.code yX0_get cX0_get 2 (some .int), Cond.fieldLink RX0 13 "TideWords$Cells" "cells" "[I", Cond.methodLink RX6 77 yX0_get]
def wsX6_gate_r2 : List Cond := [Cond.methodLink RX6 53 yX6_record, Cond.instanceMethod yX6_record, Cond.selects RX6 yX6_record yX6_record, Cond.code yX6_record cX6_record 1 none, Cond.fieldLink RX6 26 "TideWords" "history" "[LTideWords$World;", Cond.fieldLink RX6 259 "TideWords" "nextRecord" "I", Cond.fieldLink RX6 219 "TideWords" "records" "I", Cond.methodLink RX6 270 Lib.Math.min.name, Cond.static Lib.Math.min.name, Cond.initialized "java/lang/Math", Cond.code Lib.Math.min.name Lib.Math.min.code 2 (some .int), Cond.methodLink RX6 266 yX6_copyInto, Cond.instanceMethod yX6_copyInto, Cond.selects RX6 yX6_copyInto yX6_copyInto, Cond.code yX6_copyInto cX6_copyInto 4 none, Cond.methodLink RX6 262 yX6_worldIn, Cond.static yX6_worldIn, Cond.code yX6_worldIn cX6_worldIn 2 (some (.object "TideWords$World")), Cond.methodLink RX6 228 yX5_copyFrom, Cond.instanceMethod yX5_copyFrom, Cond.selects RX5 yX5_copyFrom yX5_copyFrom, Cond.initialized RX5, Cond.code yX5_copyFrom cX5_copyFrom 2 none, Cond.fieldLink RX5 12 "TideWords$World" "tides" "LTideWords$Tides;"]
def wsX6_gate_r3 : List Cond := [Cond.fieldLink RX5 21 "TideWords$World" "gates" "LTideWords$Gates;", Cond.fieldLink RX5 28 "TideWords$World" "words" "LTideWords$Words;", Cond.fieldLink RX5 40 "TideWords$World" "steps" "I", Cond.fieldLink RX5 93 "TideWords$World" "letters" "I", Cond.fieldLink RX5 67 "TideWords$World" "idleSteps" "I", Cond.methodLink RX5 134 yX3_copyFrom, Cond.instanceMethod yX3_copyFrom, Cond.selects RX3 yX3_copyFrom yX3_copyFrom, Cond.initialized RX3, Cond.code yX3_copyFrom cX3_copyFrom 2 none, Cond.fieldLink RX3 14 "TideWords$Tides" "means" "LTideWords$Cells;", Cond.fieldLink RX3 20 "TideWords$Tides" "swings" "LTideWords$Cells;", Cond.fieldLink RX3 23 "TideWords$Tides" "periods" "LTideWords$Cells;", Cond.fieldLink RX3 26 "TideWords$Tides" "lies" "LTideWords$Cells;", Cond.methodLink RX3 53 yX0_copyFrom, Cond.instanceMethod yX0_copyFrom, Cond.selects RX0 yX0_copyFrom yX0_copyFrom, Cond.code yX0_copyFrom cX0_copyFrom 2 none, Cond.methodLink RX0 19 Lib.Math.min.name, Cond.methodLink RX0 22 arraycopyName, Cond.native arraycopyName, Cond.static arraycopyName, Cond.initialized "java/lang/System", Cond.methodLink RX5 138 yX1_copyFrom]
def wsX6_gate_r4 : List Cond := [Cond.instanceMethod yX1_copyFrom, Cond.selects RX1 yX1_copyFrom yX1_copyFrom, Cond.code yX1_copyFrom cX1_copyFrom 2 none, Cond.fieldLink RX1 14 "TideWords$Gates" "sides" "LTideWords$Cells;", Cond.fieldLink RX1 20 "TideWords$Gates" "slacks" "LTideWords$Cells;", Cond.fieldLink RX1 23 "TideWords$Gates" "ways" "LTideWords$Cells;", Cond.fieldLink RX1 26 "TideWords$Gates" "shuts" "LTideWords$Cells;", Cond.fieldLink RX1 32 "TideWords$Gates" "lettersDone" "LTideWords$Cells;", Cond.fieldLink RX1 35 "TideWords$Gates" "passedWords" "LTideWords$Cells;", Cond.fieldLink RX1 38 "TideWords$Gates" "vainLetters" "LTideWords$Cells;", Cond.methodLink RX1 65 yX0_copyFrom, Cond.methodLink RX5 141 yX4_copyFrom, Cond.instanceMethod yX4_copyFrom, Cond.selects RX4 yX4_copyFrom yX4_copyFrom, Cond.initialized RX4, Cond.code yX4_copyFrom cX4_copyFrom 2 none, Cond.fieldLink RX4 14 "TideWords$Words" "lengths" "LTideWords$Cells;", Cond.fieldLink RX4 20 "TideWords$Words" "letters" "LTideWords$Cells;", Cond.fieldLink RX4 23 "TideWords$Words" "passedSteps" "LTideWords$Cells;", Cond.fieldLink RX4 26 "TideWords$Words" "passedGates" "LTideWords$Cells;", Cond.fieldLink RX4 29 "TideWords$Words" "timesBack" "LTideWords$Cells;", Cond.fieldLink RX4 32 "TideWords$Words" "rows" "LTideWords$Cells;", Cond.fieldLink RX4 35 "TideWords$Words" "rowLengths" "LTideWords$Cells;", Cond.fieldLink RX4 38 "TideWords$Words" "total" "I"]
def wsX6_gate_r5 : List Cond := [Cond.methodLink RX4 70 yX0_copyFrom, Cond.methodLink RX6 103 yX1_change, Cond.instanceMethod yX1_change, Cond.selects RX1 yX1_change yX1_change, Cond.code yX1_change cX1_change 5 none, Cond.methodLink RX1 45 yX0_set, Cond.instanceMethod yX0_set, Cond.selects RX0 yX0_set yX0_set, Cond.code yX0_set cX0_set 3 none]
def wsX6_gate : List Cond := .code yX6_gate cX6_gate 6 (some .int) :: ((wsX6_gate_r1 ++ (wsX6_gate_r2 ++ (wsX6_gate_r3 ++ (wsX6_gate_r4 ++ wsX6_gate_r5)))) ++ wsX60 ++ wsX50 ++ wsX10 ++ wsX00 ++ wsX30 ++ wsX40)
def wsX6_shut_r1 : List Cond := [Cond.fieldLink RX6 10 "TideWords" "now" "LTideWords$World;", Cond.fieldLink RX6 88 "TideWords$World" "gates" "LTideWords$Gates;", Cond.fieldLink RX6 107 "TideWords$Gates" "shuts" "LTideWords$Cells;", Cond.methodLink RX6 85 yX6_isGate, Cond.static yX6_isGate, Cond.initialized RX6, Cond.code yX6_isGate cX6_isGate 1 (some .boolean), Cond.methodLink RX6 49 yX6_isWithin, Cond.static yX6_isWithin, Cond.code yX6_isWithin cX6_isWithin 3 (some .boolean), Cond.methodLink RX6 104 yX1_isShut, Cond.instanceMethod yX1_isShut, Cond.selects RX1 yX1_isShut yX1_isShut, Cond.initialized RX1, Cond.code yX1_isShut cX1_isShut 2 (some .boolean), Cond.fieldLink RX1 26 "TideWords$Gates" "shuts" "LTideWords$Cells;", Cond.methodLink RX1 49 yX0_get, Cond.instanceMethod yX0_get, Cond.selects RX0 yX0_get yX0_get, Cond.initialized RX0, Cond.code yX0_get cX0_get 2 (some .int), Cond.fieldLink RX0 13 "TideWords$Cells" "cells" "[I", Cond.methodLink RX6 53 yX6_record, Cond.instanceMethod yX6_record]
def wsX6_shut_r2 : List Cond := [Cond.selects RX6 yX6_record yX6_record, Cond.code yX6_record cX6_record 1 none, Cond.fieldLink RX6 26 "TideWords" "history" "[LTideWords$World;", Cond.fieldLink RX6 259 "TideWords" "nextRecord" "I", Cond.fieldLink RX6 219 "TideWords" "records" "I", Cond.methodLink RX6 270 Lib.Math.min.name, Cond.static Lib.Math.min.name, Cond.initialized "java/lang/Math", Cond.code Lib.Math.min.name Lib.Math.min.code 2 (some .int), Cond.methodLink RX6 266 yX6_copyInto, Cond.instanceMethod yX6_copyInto, Cond.selects RX6 yX6_copyInto yX6_copyInto, Cond.code yX6_copyInto cX6_copyInto 4 none, Cond.methodLink RX6 262 yX6_worldIn, Cond.static yX6_worldIn, Cond.code yX6_worldIn cX6_worldIn 2 (some (.object "TideWords$World")), Cond.methodLink RX6 228 yX5_copyFrom, Cond.instanceMethod yX5_copyFrom, Cond.selects RX5 yX5_copyFrom yX5_copyFrom, Cond.initialized RX5, Cond.code yX5_copyFrom cX5_copyFrom 2 none, Cond.fieldLink RX5 12 "TideWords$World" "tides" "LTideWords$Tides;", Cond.fieldLink RX5 21 "TideWords$World" "gates" "LTideWords$Gates;", Cond.fieldLink RX5 28 "TideWords$World" "words" "LTideWords$Words;"]
def wsX6_shut_r3 : List Cond := [Cond.fieldLink RX5 40 "TideWords$World" "steps" "I", Cond.fieldLink RX5 93 "TideWords$World" "letters" "I", Cond.fieldLink RX5 67 "TideWords$World" "idleSteps" "I", Cond.methodLink RX5 134 yX3_copyFrom, Cond.instanceMethod yX3_copyFrom, Cond.selects RX3 yX3_copyFrom yX3_copyFrom, Cond.initialized RX3, Cond.code yX3_copyFrom cX3_copyFrom 2 none, Cond.fieldLink RX3 14 "TideWords$Tides" "means" "LTideWords$Cells;", Cond.fieldLink RX3 20 "TideWords$Tides" "swings" "LTideWords$Cells;", Cond.fieldLink RX3 23 "TideWords$Tides" "periods" "LTideWords$Cells;", Cond.fieldLink RX3 26 "TideWords$Tides" "lies" "LTideWords$Cells;", Cond.methodLink RX3 53 yX0_copyFrom, Cond.instanceMethod yX0_copyFrom, Cond.selects RX0 yX0_copyFrom yX0_copyFrom, Cond.code yX0_copyFrom cX0_copyFrom 2 none, Cond.methodLink RX0 19 Lib.Math.min.name, Cond.methodLink RX0 22 arraycopyName, Cond.native arraycopyName, Cond.static arraycopyName, Cond.initialized "java/lang/System", Cond.methodLink RX5 138 yX1_copyFrom, Cond.instanceMethod yX1_copyFrom, Cond.selects RX1 yX1_copyFrom yX1_copyFrom]
def wsX6_shut_r4 : List Cond := [Cond.code yX1_copyFrom cX1_copyFrom 2 none, Cond.fieldLink RX1 14 "TideWords$Gates" "sides" "LTideWords$Cells;", Cond.fieldLink RX1 20 "TideWords$Gates" "slacks" "LTideWords$Cells;", Cond.fieldLink RX1 23 "TideWords$Gates" "ways" "LTideWords$Cells;", Cond.fieldLink RX1 29 "TideWords$Gates" "held" "LTideWords$Cells;", Cond.fieldLink RX1 32 "TideWords$Gates" "lettersDone" "LTideWords$Cells;", Cond.fieldLink RX1 35 "TideWords$Gates" "passedWords" "LTideWords$Cells;", Cond.fieldLink RX1 38 "TideWords$Gates" "vainLetters" "LTideWords$Cells;", Cond.methodLink RX1 65 yX0_copyFrom, Cond.methodLink RX5 141 yX4_copyFrom, Cond.instanceMethod yX4_copyFrom, Cond.selects RX4 yX4_copyFrom yX4_copyFrom, Cond.initialized RX4, Cond.code yX4_copyFrom cX4_copyFrom 2 none, Cond.fieldLink RX4 14 "TideWords$Words" "lengths" "LTideWords$Cells;", Cond.fieldLink RX4 20 "TideWords$Words" "letters" "LTideWords$Cells;", Cond.fieldLink RX4 23 "TideWords$Words" "passedSteps" "LTideWords$Cells;", Cond.fieldLink RX4 26 "TideWords$Words" "passedGates" "LTideWords$Cells;", Cond.fieldLink RX4 29 "TideWords$Words" "timesBack" "LTideWords$Cells;", Cond.fieldLink RX4 32 "TideWords$Words" "rows" "LTideWords$Cells;", Cond.fieldLink RX4 35 "TideWords$Words" "rowLengths" "LTideWords$Cells;", Cond.fieldLink RX4 38 "TideWords$Words" "total" "I", Cond.methodLink RX4 70 yX0_copyFrom, Cond.methodLink RX6 81 yX0_set]
def wsX6_shut_r5 : List Cond := [Cond.instanceMethod yX0_set, Cond.selects RX0 yX0_set yX0_set, Cond.code yX0_set cX0_set 3 none, Cond.methodLink RX6 110 yX0_sum, Cond.instanceMethod yX0_sum, Cond.selects RX0 yX0_sum yX0_sum, Cond.code yX0_sum cX0_sum 3 (some .int)]
def wsX6_shut : List Cond := .code yX6_shut cX6_shut 3 (some .int) :: ((wsX6_shut_r1 ++ (wsX6_shut_r2 ++ (wsX6_shut_r3 ++ (wsX6_shut_r4 ++ wsX6_shut_r5)))) ++ wsX60 ++ wsX50 ++ wsX10 ++ wsX00 ++ wsX30 ++ wsX40)
def wsX6_bringWords_r1 : List Cond := [Cond.fieldLink RX6 10 "TideWords" "now" "LTideWords$World;", Cond.fieldLink RX6 117 "TideWords$World" "words" "LTideWords$Words;", Cond.fieldLink RX6 22 "TideWords" "pad" "LTideWords$Pad;", Cond.fieldLink RX6 132 "TideWords$Pad" "length" "I", Cond.fieldLink RX6 278 "TideWords$Pad" "codes" "LTideWords$Cells;", Cond.methodLink RX6 275 yX4_startWord, Cond.instanceMethod yX4_startWord, Cond.selects RX4 yX4_startWord yX4_startWord, Cond.initialized RX4, Cond.code yX4_startWord cX4_startWord 3 none, Cond.fieldLink RX4 38 "TideWords$Words" "total" "I", Cond.fieldLink RX4 14 "TideWords$Words" "lengths" "LTideWords$Cells;", Cond.fieldLink RX4 23 "TideWords$Words" "passedSteps" "LTideWords$Cells;", Cond.fieldLink RX4 26 "TideWords$Words" "passedGates" "LTideWords$Cells;", Cond.methodLink RX4 42 yX0_set, Cond.instanceMethod yX0_set, Cond.selects RX0 yX0_set yX0_set, Cond.initialized RX0, Cond.code yX0_set cX0_set 3 none, Cond.fieldLink RX0 13 "TideWords$Cells" "cells" "[I", Cond.methodLink RX4 46 yX4_addLast, Cond.instanceMethod yX4_addLast, Cond.selects RX4 yX4_addLast yX4_addLast, Cond.code yX4_addLast cX4_addLast 4 none]
def wsX6_bringWords_r2 : List Cond := [Cond.fieldLink RX4 35 "TideWords$Words" "rowLengths" "LTideWords$Cells;", Cond.fieldLink RX4 32 "TideWords$Words" "rows" "LTideWords$Cells;", Cond.methodLink RX4 49 yX0_get, Cond.instanceMethod yX0_get, Cond.selects RX0 yX0_get yX0_get, Cond.code yX0_get cX0_get 2 (some .int), Cond.methodLink RX6 77 yX0_get, Cond.methodLink RX6 281 yX4_addLetter, Cond.instanceMethod yX4_addLetter, Cond.selects RX4 yX4_addLetter yX4_addLetter, Cond.code yX4_addLetter cX4_addLetter 4 none, Cond.fieldLink RX4 20 "TideWords$Words" "letters" "LTideWords$Cells;", Cond.methodLink RX4 53 yX0_add, Cond.instanceMethod yX0_add, Cond.selects RX0 yX0_add yX0_add, Cond.code yX0_add cX0_add 3 none]
def wsX6_bringWords : List Cond := .code yX6_bringWords cX6_bringWords 4 none :: ((wsX6_bringWords_r1 ++ wsX6_bringWords_r2) ++ wsX60 ++ wsX50 ++ wsX20 ++ wsX40 ++ wsX00)
def wsX6_put_r1 : List Cond := [Cond.fieldLink RX6 22 "TideWords" "pad" "LTideWords$Pad;", Cond.fieldLink RX6 10 "TideWords" "now" "LTideWords$World;", Cond.fieldLink RX6 117 "TideWords$World" "words" "LTideWords$Words;", Cond.fieldLink RX6 121 "TideWords$Words" "total" "I", Cond.fieldLink RX6 132 "TideWords$Pad" "length" "I", Cond.methodLink RX6 45 yX6_isStore, Cond.static yX6_isStore, Cond.initialized RX6, Cond.code yX6_isStore cX6_isStore 1 (some .boolean), Cond.methodLink RX6 49 yX6_isWithin, Cond.static yX6_isWithin, Cond.code yX6_isWithin cX6_isWithin 3 (some .boolean), Cond.methodLink RX6 114 yX2_faultPlace, Cond.instanceMethod yX2_faultPlace, Cond.selects RX2 yX2_faultPlace yX2_faultPlace, Cond.initialized RX2, Cond.code yX2_faultPlace cX2_faultPlace 6 (some .int), Cond.fieldLink RX2 20 "TideWords$Pad" "length" "I", Cond.fieldLink RX2 14 "TideWords$Pad" "codes" "LTideWords$Cells;", Cond.methodLink RX2 28 yX0_get, Cond.instanceMethod yX0_get, Cond.selects RX0 yX0_get yX0_get, Cond.initialized RX0, Cond.code yX0_get cX0_get 2 (some .int)]
def wsX6_put_r2 : List Cond := [Cond.fieldLink RX0 13 "TideWords$Cells" "cells" "[I", Cond.methodLink RX6 126 yX2_wordsInside, Cond.instanceMethod yX2_wordsInside, Cond.selects RX2 yX2_wordsInside yX2_wordsInside, Cond.code yX2_wordsInside cX2_wordsInside 3 (some .int), Cond.methodLink RX6 53 yX6_record, Cond.instanceMethod yX6_record, Cond.selects RX6 yX6_record yX6_record, Cond.code yX6_record cX6_record 1 none, Cond.fieldLink RX6 26 "TideWords" "history" "[LTideWords$World;", Cond.fieldLink RX6 259 "TideWords" "nextRecord" "I", Cond.fieldLink RX6 219 "TideWords" "records" "I", Cond.methodLink RX6 270 Lib.Math.min.name, Cond.static Lib.Math.min.name, Cond.initialized "java/lang/Math", Cond.code Lib.Math.min.name Lib.Math.min.code 2 (some .int), Cond.methodLink RX6 266 yX6_copyInto, Cond.instanceMethod yX6_copyInto, Cond.selects RX6 yX6_copyInto yX6_copyInto, Cond.code yX6_copyInto cX6_copyInto 4 none, Cond.methodLink RX6 262 yX6_worldIn, Cond.static yX6_worldIn, Cond.code yX6_worldIn cX6_worldIn 2 (some (.object "TideWords$World")), Cond.methodLink RX6 228 yX5_copyFrom]
def wsX6_put_r3 : List Cond := [Cond.instanceMethod yX5_copyFrom, Cond.selects RX5 yX5_copyFrom yX5_copyFrom, Cond.initialized RX5, Cond.code yX5_copyFrom cX5_copyFrom 2 none, Cond.fieldLink RX5 12 "TideWords$World" "tides" "LTideWords$Tides;", Cond.fieldLink RX5 21 "TideWords$World" "gates" "LTideWords$Gates;", Cond.fieldLink RX5 28 "TideWords$World" "words" "LTideWords$Words;", Cond.fieldLink RX5 40 "TideWords$World" "steps" "I", Cond.fieldLink RX5 93 "TideWords$World" "letters" "I", Cond.fieldLink RX5 67 "TideWords$World" "idleSteps" "I", Cond.methodLink RX5 134 yX3_copyFrom, Cond.instanceMethod yX3_copyFrom, Cond.selects RX3 yX3_copyFrom yX3_copyFrom, Cond.initialized RX3, Cond.code yX3_copyFrom cX3_copyFrom 2 none, Cond.fieldLink RX3 14 "TideWords$Tides" "means" "LTideWords$Cells;", Cond.fieldLink RX3 20 "TideWords$Tides" "swings" "LTideWords$Cells;", Cond.fieldLink RX3 23 "TideWords$Tides" "periods" "LTideWords$Cells;", Cond.fieldLink RX3 26 "TideWords$Tides" "lies" "LTideWords$Cells;", Cond.methodLink RX3 53 yX0_copyFrom, Cond.instanceMethod yX0_copyFrom, Cond.selects RX0 yX0_copyFrom yX0_copyFrom, Cond.code yX0_copyFrom cX0_copyFrom 2 none, Cond.methodLink RX0 19 Lib.Math.min.name]
def wsX6_put_r4 : List Cond := [Cond.methodLink RX0 22 arraycopyName, Cond.native arraycopyName, Cond.static arraycopyName, Cond.initialized "java/lang/System", Cond.methodLink RX5 138 yX1_copyFrom, Cond.instanceMethod yX1_copyFrom, Cond.selects RX1 yX1_copyFrom yX1_copyFrom, Cond.initialized RX1, Cond.code yX1_copyFrom cX1_copyFrom 2 none, Cond.fieldLink RX1 14 "TideWords$Gates" "sides" "LTideWords$Cells;", Cond.fieldLink RX1 20 "TideWords$Gates" "slacks" "LTideWords$Cells;", Cond.fieldLink RX1 23 "TideWords$Gates" "ways" "LTideWords$Cells;", Cond.fieldLink RX1 26 "TideWords$Gates" "shuts" "LTideWords$Cells;", Cond.fieldLink RX1 29 "TideWords$Gates" "held" "LTideWords$Cells;", Cond.fieldLink RX1 32 "TideWords$Gates" "lettersDone" "LTideWords$Cells;", Cond.fieldLink RX1 35 "TideWords$Gates" "passedWords" "LTideWords$Cells;", Cond.fieldLink RX1 38 "TideWords$Gates" "vainLetters" "LTideWords$Cells;", Cond.methodLink RX1 65 yX0_copyFrom, Cond.methodLink RX5 141 yX4_copyFrom, Cond.instanceMethod yX4_copyFrom, Cond.selects RX4 yX4_copyFrom yX4_copyFrom, Cond.initialized RX4, Cond.code yX4_copyFrom cX4_copyFrom 2 none, Cond.fieldLink RX4 14 "TideWords$Words" "lengths" "LTideWords$Cells;"]
def wsX6_put_r5 : List Cond := [Cond.fieldLink RX4 20 "TideWords$Words" "letters" "LTideWords$Cells;", Cond.fieldLink RX4 23 "TideWords$Words" "passedSteps" "LTideWords$Cells;", Cond.fieldLink RX4 26 "TideWords$Words" "passedGates" "LTideWords$Cells;", Cond.fieldLink RX4 29 "TideWords$Words" "timesBack" "LTideWords$Cells;", Cond.fieldLink RX4 32 "TideWords$Words" "rows" "LTideWords$Cells;", Cond.fieldLink RX4 35 "TideWords$Words" "rowLengths" "LTideWords$Cells;", Cond.fieldLink RX4 38 "TideWords$Words" "total" "I", Cond.methodLink RX4 70 yX0_copyFrom, Cond.methodLink RX6 129 yX6_bringWords, Cond.instanceMethod yX6_bringWords, Cond.selects RX6 yX6_bringWords yX6_bringWords, Cond.code yX6_bringWords cX6_bringWords 4 none, Cond.fieldLink RX6 278 "TideWords$Pad" "codes" "LTideWords$Cells;", Cond.methodLink RX6 275 yX4_startWord, Cond.instanceMethod yX4_startWord, Cond.selects RX4 yX4_startWord yX4_startWord, Cond.code yX4_startWord cX4_startWord 3 none, Cond.methodLink RX4 42 yX0_set, Cond.instanceMethod yX0_set, Cond.selects RX0 yX0_set yX0_set, Cond.code yX0_set cX0_set 3 none, Cond.methodLink RX4 46 yX4_addLast, Cond.instanceMethod yX4_addLast, Cond.selects RX4 yX4_addLast yX4_addLast]
def wsX6_put_r6 : List Cond := [Cond.code yX4_addLast cX4_addLast 4 none, Cond.methodLink RX4 49 yX0_get, Cond.methodLink RX6 77 yX0_get, Cond.methodLink RX6 281 yX4_addLetter, Cond.instanceMethod yX4_addLetter, Cond.selects RX4 yX4_addLetter yX4_addLetter, Cond.code yX4_addLetter cX4_addLetter 4 none, Cond.methodLink RX4 53 yX0_add, Cond.instanceMethod yX0_add, Cond.selects RX0 yX0_add yX0_add, Cond.code yX0_add cX0_add 3 none]
def wsX6_put : List Cond := .code yX6_put cX6_put 2 (some .int) :: ((wsX6_put_r1 ++ (wsX6_put_r2 ++ (wsX6_put_r3 ++ (wsX6_put_r4 ++ (wsX6_put_r5 ++ wsX6_put_r6))))) ++ wsX60 ++ wsX50 ++ wsX40 ++ wsX20 ++ wsX00 ++ wsX30 ++ wsX10)
def wsX6_run_r1 : List Cond := [Cond.fieldLink RX6 10 "TideWords" "now" "LTideWords$World;", Cond.fieldLink RX6 66 "TideWords$World" "steps" "I", Cond.constant RX6 135 (99999), Cond.fieldLink RX6 88 "TideWords$World" "gates" "LTideWords$Gates;", Cond.fieldLink RX6 136 "TideWords$Gates" "passedWords" "LTideWords$Cells;", Cond.methodLink RX6 49 yX6_isWithin, Cond.static yX6_isWithin, Cond.initialized RX6, Cond.code yX6_isWithin cX6_isWithin 3 (some .boolean), Cond.methodLink RX6 53 yX6_record, Cond.instanceMethod yX6_record, Cond.selects RX6 yX6_record yX6_record, Cond.code yX6_record cX6_record 1 none, Cond.fieldLink RX6 26 "TideWords" "history" "[LTideWords$World;", Cond.fieldLink RX6 259 "TideWords" "nextRecord" "I", Cond.fieldLink RX6 219 "TideWords" "records" "I", Cond.methodLink RX6 270 Lib.Math.min.name, Cond.static Lib.Math.min.name, Cond.initialized "java/lang/Math", Cond.code Lib.Math.min.name Lib.Math.min.code 2 (some .int), Cond.methodLink RX6 266 yX6_copyInto, Cond.instanceMethod yX6_copyInto, Cond.selects RX6 yX6_copyInto yX6_copyInto, Cond.code yX6_copyInto cX6_copyInto 4 none]
def wsX6_run_r2 : List Cond := [Cond.methodLink RX6 262 yX6_worldIn, Cond.static yX6_worldIn, Cond.code yX6_worldIn cX6_worldIn 2 (some (.object "TideWords$World")), Cond.methodLink RX6 228 yX5_copyFrom, Cond.instanceMethod yX5_copyFrom, Cond.selects RX5 yX5_copyFrom yX5_copyFrom, Cond.initialized RX5, Cond.code yX5_copyFrom cX5_copyFrom 2 none, Cond.fieldLink RX5 12 "TideWords$World" "tides" "LTideWords$Tides;", Cond.fieldLink RX5 21 "TideWords$World" "gates" "LTideWords$Gates;", Cond.fieldLink RX5 28 "TideWords$World" "words" "LTideWords$Words;", Cond.fieldLink RX5 40 "TideWords$World" "steps" "I", Cond.fieldLink RX5 93 "TideWords$World" "letters" "I", Cond.fieldLink RX5 67 "TideWords$World" "idleSteps" "I", Cond.methodLink RX5 134 yX3_copyFrom, Cond.instanceMethod yX3_copyFrom, Cond.selects RX3 yX3_copyFrom yX3_copyFrom, Cond.initialized RX3, Cond.code yX3_copyFrom cX3_copyFrom 2 none, Cond.fieldLink RX3 14 "TideWords$Tides" "means" "LTideWords$Cells;", Cond.fieldLink RX3 20 "TideWords$Tides" "swings" "LTideWords$Cells;", Cond.fieldLink RX3 23 "TideWords$Tides" "periods" "LTideWords$Cells;", Cond.fieldLink RX3 26 "TideWords$Tides" "lies" "LTideWords$Cells;", Cond.methodLink RX3 53 yX0_copyFrom]
def wsX6_run_r3 : List Cond := [Cond.instanceMethod yX0_copyFrom, Cond.selects RX0 yX0_copyFrom yX0_copyFrom, Cond.initialized RX0, Cond.code yX0_copyFrom cX0_copyFrom 2 none, Cond.fieldLink RX0 13 "TideWords$Cells" "cells" "[I", Cond.methodLink RX0 19 Lib.Math.min.name, Cond.methodLink RX0 22 arraycopyName, Cond.native arraycopyName, Cond.static arraycopyName, Cond.initialized "java/lang/System", Cond.methodLink RX5 138 yX1_copyFrom, Cond.instanceMethod yX1_copyFrom, Cond.selects RX1 yX1_copyFrom yX1_copyFrom, Cond.initialized RX1, Cond.code yX1_copyFrom cX1_copyFrom 2 none, Cond.fieldLink RX1 14 "TideWords$Gates" "sides" "LTideWords$Cells;", Cond.fieldLink RX1 20 "TideWords$Gates" "slacks" "LTideWords$Cells;", Cond.fieldLink RX1 23 "TideWords$Gates" "ways" "LTideWords$Cells;", Cond.fieldLink RX1 26 "TideWords$Gates" "shuts" "LTideWords$Cells;", Cond.fieldLink RX1 29 "TideWords$Gates" "held" "LTideWords$Cells;", Cond.fieldLink RX1 32 "TideWords$Gates" "lettersDone" "LTideWords$Cells;", Cond.fieldLink RX1 35 "TideWords$Gates" "passedWords" "LTideWords$Cells;", Cond.fieldLink RX1 38 "TideWords$Gates" "vainLetters" "LTideWords$Cells;", Cond.methodLink RX1 65 yX0_copyFrom]
def wsX6_run_r4 : List Cond := [Cond.methodLink RX5 141 yX4_copyFrom, Cond.instanceMethod yX4_copyFrom, Cond.selects RX4 yX4_copyFrom yX4_copyFrom, Cond.initialized RX4, Cond.code yX4_copyFrom cX4_copyFrom 2 none, Cond.fieldLink RX4 14 "TideWords$Words" "lengths" "LTideWords$Cells;", Cond.fieldLink RX4 20 "TideWords$Words" "letters" "LTideWords$Cells;", Cond.fieldLink RX4 23 "TideWords$Words" "passedSteps" "LTideWords$Cells;", Cond.fieldLink RX4 26 "TideWords$Words" "passedGates" "LTideWords$Cells;", Cond.fieldLink RX4 29 "TideWords$Words" "timesBack" "LTideWords$Cells;", Cond.fieldLink RX4 32 "TideWords$Words" "rows" "LTideWords$Cells;", Cond.fieldLink RX4 35 "TideWords$Words" "rowLengths" "LTideWords$Cells;", Cond.fieldLink RX4 38 "TideWords$Words" "total" "I", Cond.methodLink RX4 70 yX0_copyFrom, Cond.methodLink RX6 110 yX0_sum, Cond.instanceMethod yX0_sum, Cond.selects RX0 yX0_sum yX0_sum, Cond.code yX0_sum cX0_sum 3 (some .int), Cond.methodLink RX6 139 yX5_makeSteps, Cond.instanceMethod yX5_makeSteps, Cond.selects RX5 yX5_makeSteps yX5_makeSteps, Cond.code yX5_makeSteps cX5_makeSteps 3 none, Cond.methodLink RX5 32 yX3_gapAt, Cond.instanceMethod yX3_gapAt]
def wsX6_run_r5 : List Cond := [Cond.selects RX3 yX3_gapAt yX3_gapAt, Cond.code yX3_gapAt cX3_gapAt 2 (some .int), Cond.methodLink RX3 50 yX3_toldAt, Cond.instanceMethod yX3_toldAt, Cond.selects RX3 yX3_toldAt yX3_toldAt, Cond.code yX3_toldAt cX3_toldAt 3 (some .int), Cond.methodLink RX3 47 yX3_levelAt, Cond.instanceMethod yX3_levelAt, Cond.selects RX3 yX3_levelAt yX3_levelAt, Cond.code yX3_levelAt cX3_levelAt 6 (some .int), Cond.methodLink RX3 41 Lib.Math.min.name, Cond.methodLink RX3 37 yX0_get, Cond.instanceMethod yX0_get, Cond.selects RX0 yX0_get yX0_get, Cond.code yX0_get cX0_get 2 (some .int), Cond.methodLink RX5 54 yX5_stepAcross, Cond.instanceMethod yX5_stepAcross, Cond.selects RX5 yX5_stepAcross yX5_stepAcross, Cond.code yX5_stepAcross cX5_stepAcross 4 none, Cond.methodLink RX5 36 yX1_isOpenAcross, Cond.instanceMethod yX1_isOpenAcross, Cond.selects RX1 yX1_isOpenAcross yX1_isOpenAcross, Cond.code yX1_isOpenAcross cX1_isOpenAcross 3 (some .boolean), Cond.methodLink RX1 57 Lib.Math.abs.name]
def wsX6_run_r6 : List Cond := [Cond.static Lib.Math.abs.name, Cond.code Lib.Math.abs.name Lib.Math.abs.code 1 (some .int), Cond.methodLink RX1 53 yX1_isShut, Cond.instanceMethod yX1_isShut, Cond.selects RX1 yX1_isShut yX1_isShut, Cond.code yX1_isShut cX1_isShut 2 (some .boolean), Cond.methodLink RX1 49 yX0_get, Cond.methodLink RX5 58 yX5_takeWord, Cond.instanceMethod yX5_takeWord, Cond.selects RX5 yX5_takeWord yX5_takeWord, Cond.code yX5_takeWord cX5_takeWord 2 none, Cond.fieldLink RX5 74 "TideWords$Gates" "held" "LTideWords$Cells;", Cond.fieldLink RX5 78 "TideWords$Gates" "sides" "LTideWords$Cells;", Cond.methodLink RX5 70 yX1_hasWord, Cond.instanceMethod yX1_hasWord, Cond.selects RX1 yX1_hasWord yX1_hasWord, Cond.code yX1_hasWord cX1_hasWord 2 (some .boolean), Cond.methodLink RX5 81 yX0_get, Cond.methodLink RX5 86 yX4_takeWaiting, Cond.instanceMethod yX4_takeWaiting, Cond.selects RX4 yX4_takeWaiting yX4_takeWaiting, Cond.code yX4_takeWaiting cX4_takeWaiting 5 (some .int), Cond.methodLink RX4 49 yX0_get, Cond.methodLink RX4 56 yX4_wordAt]
def wsX6_run_r7 : List Cond := [Cond.instanceMethod yX4_wordAt, Cond.selects RX4 yX4_wordAt yX4_wordAt, Cond.code yX4_wordAt cX4_wordAt 3 (some .int), Cond.methodLink RX4 63 yX4_hasPassed, Cond.instanceMethod yX4_hasPassed, Cond.selects RX4 yX4_hasPassed yX4_hasPassed, Cond.code yX4_hasPassed cX4_hasPassed 2 (some .boolean), Cond.methodLink RX4 67 yX4_removeFrom, Cond.instanceMethod yX4_removeFrom, Cond.selects RX4 yX4_removeFrom yX4_removeFrom, Cond.code yX4_removeFrom cX4_removeFrom 6 none, Cond.methodLink RX4 42 yX0_set, Cond.instanceMethod yX0_set, Cond.selects RX0 yX0_set yX0_set, Cond.code yX0_set cX0_set 3 none, Cond.methodLink RX5 89 yX0_set, Cond.methodLink RX5 61 yX5_passLetter, Cond.instanceMethod yX5_passLetter, Cond.selects RX5 yX5_passLetter yX5_passLetter, Cond.code yX5_passLetter cX5_passLetter 3 none, Cond.fieldLink RX5 96 "TideWords$Gates" "lettersDone" "LTideWords$Cells;", Cond.fieldLink RX5 102 "TideWords$Words" "lengths" "LTideWords$Cells;", Cond.fieldLink RX5 108 "TideWords$Gates" "passedWords" "LTideWords$Cells;", Cond.methodLink RX5 99 yX0_add]
def wsX6_run_r8 : List Cond := [Cond.instanceMethod yX0_add, Cond.selects RX0 yX0_add yX0_add, Cond.code yX0_add cX0_add 3 none, Cond.methodLink RX5 105 yX1_release, Cond.instanceMethod yX1_release, Cond.selects RX1 yX1_release yX1_release, Cond.code yX1_release cX1_release 2 none, Cond.methodLink RX1 45 yX0_set, Cond.methodLink RX5 111 yX4_markPassed, Cond.instanceMethod yX4_markPassed, Cond.selects RX4 yX4_markPassed yX4_markPassed, Cond.code yX4_markPassed cX4_markPassed 4 none, Cond.methodLink RX5 115 yX4_addLast, Cond.instanceMethod yX4_addLast, Cond.selects RX4 yX4_addLast yX4_addLast, Cond.code yX4_addLast cX4_addLast 4 none, Cond.methodLink RX5 64 yX5_sendBack, Cond.instanceMethod yX5_sendBack, Cond.selects RX5 yX5_sendBack yX5_sendBack, Cond.code yX5_sendBack cX5_sendBack 3 none, Cond.fieldLink RX5 118 "TideWords$Gates" "ways" "LTideWords$Cells;", Cond.fieldLink RX5 121 "TideWords$Gates" "vainLetters" "LTideWords$Cells;", Cond.fieldLink RX5 124 "TideWords$Words" "timesBack" "LTideWords$Cells;", Cond.methodLink RX5 127 yX4_addFirst]
def wsX6_run_r9 : List Cond := [Cond.instanceMethod yX4_addFirst, Cond.selects RX4 yX4_addFirst yX4_addFirst, Cond.code yX4_addFirst cX4_addFirst 6 none]
def wsX6_run : List Cond := .code yX6_run cX6_run 3 (some .int) :: ((wsX6_run_r1 ++ (wsX6_run_r2 ++ (wsX6_run_r3 ++ (wsX6_run_r4 ++ (wsX6_run_r5 ++ (wsX6_run_r6 ++ (wsX6_run_r7 ++ (wsX6_run_r8 ++ wsX6_run_r9)))))))) ++ wsX60 ++ wsX50 ++ wsX10 ++ wsX30 ++ wsX00 ++ wsX40)
def wsX6_store_r1 : List Cond := [Cond.fieldLink RX6 10 "TideWords" "now" "LTideWords$World;", Cond.fieldLink RX6 56 "TideWords$World" "tides" "LTideWords$Tides;", Cond.fieldLink RX6 142 "TideWords$Tides" "means" "LTideWords$Cells;", Cond.fieldLink RX6 145 "TideWords$Tides" "swings" "LTideWords$Cells;", Cond.fieldLink RX6 148 "TideWords$Tides" "periods" "LTideWords$Cells;", Cond.fieldLink RX6 74 "TideWords$Tides" "lies" "LTideWords$Cells;", Cond.fieldLink RX6 66 "TideWords$World" "steps" "I", Cond.fieldLink RX6 117 "TideWords$World" "words" "LTideWords$Words;", Cond.fieldLink RX6 154 "TideWords$Words" "rowLengths" "LTideWords$Cells;", Cond.methodLink RX6 45 yX6_isStore, Cond.static yX6_isStore, Cond.initialized RX6, Cond.code yX6_isStore cX6_isStore 1 (some .boolean), Cond.methodLink RX6 49 yX6_isWithin, Cond.static yX6_isWithin, Cond.code yX6_isWithin cX6_isWithin 3 (some .boolean), Cond.methodLink RX6 77 yX0_get, Cond.instanceMethod yX0_get, Cond.selects RX0 yX0_get yX0_get, Cond.initialized RX0, Cond.code yX0_get cX0_get 2 (some .int), Cond.fieldLink RX0 13 "TideWords$Cells" "cells" "[I", Cond.methodLink RX6 70 yX3_levelAt, Cond.instanceMethod yX3_levelAt]
def wsX6_store_r2 : List Cond := [Cond.selects RX3 yX3_levelAt yX3_levelAt, Cond.initialized RX3, Cond.code yX3_levelAt cX3_levelAt 6 (some .int), Cond.fieldLink RX3 23 "TideWords$Tides" "periods" "LTideWords$Cells;", Cond.fieldLink RX3 14 "TideWords$Tides" "means" "LTideWords$Cells;", Cond.fieldLink RX3 20 "TideWords$Tides" "swings" "LTideWords$Cells;", Cond.methodLink RX3 41 Lib.Math.min.name, Cond.static Lib.Math.min.name, Cond.initialized "java/lang/Math", Cond.code Lib.Math.min.name Lib.Math.min.code 2 (some .int), Cond.methodLink RX3 37 yX0_get, Cond.methodLink RX6 151 yX3_toldAt, Cond.instanceMethod yX3_toldAt, Cond.selects RX3 yX3_toldAt yX3_toldAt, Cond.code yX3_toldAt cX3_toldAt 3 (some .int), Cond.fieldLink RX3 26 "TideWords$Tides" "lies" "LTideWords$Cells;", Cond.methodLink RX3 47 yX3_levelAt, Cond.methodLink RX6 157 yX4_lettersInRow, Cond.instanceMethod yX4_lettersInRow, Cond.selects RX4 yX4_lettersInRow yX4_lettersInRow, Cond.initialized RX4, Cond.code yX4_lettersInRow cX4_lettersInRow 5 (some .int), Cond.fieldLink RX4 35 "TideWords$Words" "rowLengths" "LTideWords$Cells;", Cond.fieldLink RX4 14 "TideWords$Words" "lengths" "LTideWords$Cells;"]
def wsX6_store_r3 : List Cond := [Cond.methodLink RX4 49 yX0_get, Cond.methodLink RX4 56 yX4_wordAt, Cond.instanceMethod yX4_wordAt, Cond.selects RX4 yX4_wordAt yX4_wordAt, Cond.code yX4_wordAt cX4_wordAt 3 (some .int), Cond.fieldLink RX4 32 "TideWords$Words" "rows" "LTideWords$Cells;", Cond.methodLink RX6 160 yX4_waitingInRow, Cond.instanceMethod yX4_waitingInRow, Cond.selects RX4 yX4_waitingInRow yX4_waitingInRow, Cond.code yX4_waitingInRow cX4_waitingInRow 5 (some .int), Cond.methodLink RX4 63 yX4_hasPassed, Cond.instanceMethod yX4_hasPassed, Cond.selects RX4 yX4_hasPassed yX4_hasPassed, Cond.code yX4_hasPassed cX4_hasPassed 2 (some .boolean), Cond.fieldLink RX4 23 "TideWords$Words" "passedSteps" "LTideWords$Cells;"]
def wsX6_store : List Cond := .code yX6_store cX6_store 3 (some .int) :: ((wsX6_store_r1 ++ (wsX6_store_r2 ++ wsX6_store_r3)) ++ wsX60 ++ wsX50 ++ wsX30 ++ wsX40 ++ wsX00)
def wsX6_gateOf_r1 : List Cond := [Cond.fieldLink RX6 10 "TideWords" "now" "LTideWords$World;", Cond.fieldLink RX6 88 "TideWords$World" "gates" "LTideWords$Gates;", Cond.fieldLink RX6 97 "TideWords$Gates" "sides" "LTideWords$Cells;", Cond.fieldLink RX6 100 "TideWords$Gates" "slacks" "LTideWords$Cells;", Cond.fieldLink RX6 163 "TideWords$Gates" "ways" "LTideWords$Cells;", Cond.fieldLink RX6 107 "TideWords$Gates" "shuts" "LTideWords$Cells;", Cond.fieldLink RX6 66 "TideWords$World" "steps" "I", Cond.fieldLink RX6 170 "TideWords$Gates" "held" "LTideWords$Cells;", Cond.fieldLink RX6 173 "TideWords$Gates" "lettersDone" "LTideWords$Cells;", Cond.fieldLink RX6 136 "TideWords$Gates" "passedWords" "LTideWords$Cells;", Cond.fieldLink RX6 176 "TideWords$Gates" "vainLetters" "LTideWords$Cells;", Cond.methodLink RX6 85 yX6_isGate, Cond.static yX6_isGate, Cond.initialized RX6, Cond.code yX6_isGate cX6_isGate 1 (some .boolean), Cond.methodLink RX6 49 yX6_isWithin, Cond.static yX6_isWithin, Cond.code yX6_isWithin cX6_isWithin 3 (some .boolean), Cond.methodLink RX6 77 yX0_get, Cond.instanceMethod yX0_get, Cond.selects RX0 yX0_get yX0_get, Cond.initialized RX0, Cond.code yX0_get cX0_get 2 (some .int), Cond.fieldLink RX0 13 "TideWords$Cells" "cells" "[I"]
def wsX6_gateOf_r2 : List Cond := [Cond.methodLink RX6 166 yX5_isOpenAt, Cond.instanceMethod yX5_isOpenAt, Cond.selects RX5 yX5_isOpenAt yX5_isOpenAt, Cond.initialized RX5, Cond.code yX5_isOpenAt cX5_isOpenAt 3 (some .boolean), Cond.fieldLink RX5 21 "TideWords$World" "gates" "LTideWords$Gates;", Cond.fieldLink RX5 12 "TideWords$World" "tides" "LTideWords$Tides;", Cond.methodLink RX5 32 yX3_gapAt, Cond.instanceMethod yX3_gapAt, Cond.selects RX3 yX3_gapAt yX3_gapAt, Cond.initialized RX3, Cond.code yX3_gapAt cX3_gapAt 2 (some .int), Cond.methodLink RX3 50 yX3_toldAt, Cond.instanceMethod yX3_toldAt, Cond.selects RX3 yX3_toldAt yX3_toldAt, Cond.code yX3_toldAt cX3_toldAt 3 (some .int), Cond.fieldLink RX3 26 "TideWords$Tides" "lies" "LTideWords$Cells;", Cond.methodLink RX3 47 yX3_levelAt, Cond.instanceMethod yX3_levelAt, Cond.selects RX3 yX3_levelAt yX3_levelAt, Cond.code yX3_levelAt cX3_levelAt 6 (some .int), Cond.fieldLink RX3 23 "TideWords$Tides" "periods" "LTideWords$Cells;", Cond.fieldLink RX3 14 "TideWords$Tides" "means" "LTideWords$Cells;", Cond.fieldLink RX3 20 "TideWords$Tides" "swings" "LTideWords$Cells;"]
def wsX6_gateOf_r3 : List Cond := [Cond.methodLink RX3 41 Lib.Math.min.name, Cond.static Lib.Math.min.name, Cond.initialized "java/lang/Math", Cond.code Lib.Math.min.name Lib.Math.min.code 2 (some .int), Cond.methodLink RX3 37 yX0_get, Cond.methodLink RX5 36 yX1_isOpenAcross, Cond.instanceMethod yX1_isOpenAcross, Cond.selects RX1 yX1_isOpenAcross yX1_isOpenAcross, Cond.initialized RX1, Cond.code yX1_isOpenAcross cX1_isOpenAcross 3 (some .boolean), Cond.methodLink RX1 57 Lib.Math.abs.name, Cond.static Lib.Math.abs.name, Cond.code Lib.Math.abs.name Lib.Math.abs.code 1 (some .int), Cond.fieldLink RX1 20 "TideWords$Gates" "slacks" "LTideWords$Cells;", Cond.methodLink RX1 53 yX1_isShut, Cond.instanceMethod yX1_isShut, Cond.selects RX1 yX1_isShut yX1_isShut, Cond.code yX1_isShut cX1_isShut 2 (some .boolean), Cond.fieldLink RX1 26 "TideWords$Gates" "shuts" "LTideWords$Cells;", Cond.methodLink RX1 49 yX0_get]
def wsX6_gateOf : List Cond := .code yX6_gateOf cX6_gateOf 3 (some .int) :: ((wsX6_gateOf_r1 ++ (wsX6_gateOf_r2 ++ wsX6_gateOf_r3)) ++ wsX60 ++ wsX50 ++ wsX10 ++ wsX00 ++ wsX30)
def wsX6_isWord : List Cond := .code yX6_isWord cX6_isWord 2 (some .boolean) :: ([.fieldLink RX6 10 "TideWords" "now" "LTideWords$World;", .fieldLink RX6 117 "TideWords$World" "words" "LTideWords$Words;", .fieldLink RX6 121 "TideWords$Words" "total" "I", .methodLink RX6 49 yX6_isWithin, .static yX6_isWithin, .initialized RX6, .code yX6_isWithin cX6_isWithin 3 (some .boolean)] ++ wsX60 ++ wsX50 ++ wsX40)
def wsX6_word_r1 : List Cond := [Cond.fieldLink RX6 10 "TideWords" "now" "LTideWords$World;", Cond.fieldLink RX6 117 "TideWords$World" "words" "LTideWords$Words;", Cond.fieldLink RX6 188 "TideWords$Words" "lengths" "LTideWords$Cells;", Cond.fieldLink RX6 194 "TideWords$Words" "passedSteps" "LTideWords$Cells;", Cond.fieldLink RX6 197 "TideWords$Words" "passedGates" "LTideWords$Cells;", Cond.fieldLink RX6 200 "TideWords$Words" "timesBack" "LTideWords$Cells;", Cond.methodLink RX6 179 yX6_isWord, Cond.instanceMethod yX6_isWord, Cond.selects RX6 yX6_isWord yX6_isWord, Cond.initialized RX6, Cond.code yX6_isWord cX6_isWord 2 (some .boolean), Cond.fieldLink RX6 121 "TideWords$Words" "total" "I", Cond.methodLink RX6 49 yX6_isWithin, Cond.static yX6_isWithin, Cond.code yX6_isWithin cX6_isWithin 3 (some .boolean), Cond.methodLink RX6 182 yX5_whereIs, Cond.instanceMethod yX5_whereIs, Cond.selects RX5 yX5_whereIs yX5_whereIs, Cond.initialized RX5, Cond.code yX5_whereIs cX5_whereIs 3 (some .int), Cond.fieldLink RX5 21 "TideWords$World" "gates" "LTideWords$Gates;", Cond.fieldLink RX5 28 "TideWords$World" "words" "LTideWords$Words;", Cond.methodLink RX5 47 yX1_gateWith, Cond.instanceMethod yX1_gateWith]
def wsX6_word_r2 : List Cond := [Cond.selects RX1 yX1_gateWith yX1_gateWith, Cond.initialized RX1, Cond.code yX1_gateWith cX1_gateWith 3 (some .int), Cond.fieldLink RX1 29 "TideWords$Gates" "held" "LTideWords$Cells;", Cond.methodLink RX1 49 yX0_get, Cond.instanceMethod yX0_get, Cond.selects RX0 yX0_get yX0_get, Cond.initialized RX0, Cond.code yX0_get cX0_get 2 (some .int), Cond.fieldLink RX0 13 "TideWords$Cells" "cells" "[I", Cond.methodLink RX5 50 yX4_placeIn, Cond.instanceMethod yX4_placeIn, Cond.selects RX4 yX4_placeIn yX4_placeIn, Cond.initialized RX4, Cond.code yX4_placeIn cX4_placeIn 5 (some .int), Cond.fieldLink RX4 35 "TideWords$Words" "rowLengths" "LTideWords$Cells;", Cond.methodLink RX4 49 yX0_get, Cond.methodLink RX4 56 yX4_wordAt, Cond.instanceMethod yX4_wordAt, Cond.selects RX4 yX4_wordAt yX4_wordAt, Cond.code yX4_wordAt cX4_wordAt 3 (some .int), Cond.fieldLink RX4 32 "TideWords$Words" "rows" "LTideWords$Cells;", Cond.methodLink RX6 185 yX4_placeOf, Cond.instanceMethod yX4_placeOf]
def wsX6_word_r3 : List Cond := [Cond.selects RX4 yX4_placeOf yX4_placeOf, Cond.code yX4_placeOf cX4_placeOf 3 (some .int), Cond.methodLink RX4 60 yX4_placeIn, Cond.methodLink RX6 77 yX0_get, Cond.methodLink RX6 191 yX4_hasPassed, Cond.instanceMethod yX4_hasPassed, Cond.selects RX4 yX4_hasPassed yX4_hasPassed, Cond.code yX4_hasPassed cX4_hasPassed 2 (some .boolean), Cond.fieldLink RX4 23 "TideWords$Words" "passedSteps" "LTideWords$Cells;", Cond.methodLink RX6 203 yX4_letterOf, Cond.instanceMethod yX4_letterOf, Cond.selects RX4 yX4_letterOf yX4_letterOf, Cond.code yX4_letterOf cX4_letterOf 4 (some .int), Cond.fieldLink RX4 14 "TideWords$Words" "lengths" "LTideWords$Cells;", Cond.fieldLink RX4 20 "TideWords$Words" "letters" "LTideWords$Cells;"]
def wsX6_word : List Cond := .code yX6_word cX6_word 3 (some .int) :: ((wsX6_word_r1 ++ (wsX6_word_r2 ++ wsX6_word_r3)) ++ wsX60 ++ wsX50 ++ wsX40 ++ wsX10 ++ wsX00)
def wsX6_at : List Cond := .code yX6_at cX6_at 3 (some .int) :: ([.fieldLink RX6 10 "TideWords" "now" "LTideWords$World;", .fieldLink RX6 117 "TideWords$World" "words" "LTideWords$Words;", .fieldLink RX6 154 "TideWords$Words" "rowLengths" "LTideWords$Cells;", .methodLink RX6 45 yX6_isStore, .static yX6_isStore, .initialized RX6, .code yX6_isStore cX6_isStore 1 (some .boolean), .methodLink RX6 49 yX6_isWithin, .static yX6_isWithin, .code yX6_isWithin cX6_isWithin 3 (some .boolean), .methodLink RX6 77 yX0_get, .instanceMethod yX0_get, .selects RX0 yX0_get yX0_get, .initialized RX0, .code yX0_get cX0_get 2 (some .int), .fieldLink RX0 13 "TideWords$Cells" "cells" "[I", .methodLink RX6 206 yX4_wordAt, .instanceMethod yX4_wordAt, .selects RX4 yX4_wordAt yX4_wordAt, .initialized RX4, .code yX4_wordAt cX4_wordAt 3 (some .int), .fieldLink RX4 32 "TideWords$Words" "rows" "LTideWords$Cells;", .methodLink RX4 49 yX0_get] ++ wsX60 ++ wsX50 ++ wsX40 ++ wsX00)
def wsX6_count_r1 : List Cond := [Cond.fieldLink RX6 10 "TideWords" "now" "LTideWords$World;", Cond.fieldLink RX6 66 "TideWords$World" "steps" "I", Cond.fieldLink RX6 117 "TideWords$World" "words" "LTideWords$Words;", Cond.fieldLink RX6 121 "TideWords$Words" "total" "I", Cond.fieldLink RX6 88 "TideWords$World" "gates" "LTideWords$Gates;", Cond.fieldLink RX6 136 "TideWords$Gates" "passedWords" "LTideWords$Cells;", Cond.fieldLink RX6 210 "TideWords$World" "letters" "I", Cond.fieldLink RX6 176 "TideWords$Gates" "vainLetters" "LTideWords$Cells;", Cond.fieldLink RX6 216 "TideWords$World" "idleSteps" "I", Cond.fieldLink RX6 22 "TideWords" "pad" "LTideWords$Pad;", Cond.fieldLink RX6 132 "TideWords$Pad" "length" "I", Cond.fieldLink RX6 219 "TideWords" "records" "I", Cond.methodLink RX6 110 yX0_sum, Cond.instanceMethod yX0_sum, Cond.selects RX0 yX0_sum yX0_sum, Cond.initialized RX0, Cond.code yX0_sum cX0_sum 3 (some .int), Cond.fieldLink RX0 13 "TideWords$Cells" "cells" "[I", Cond.methodLink RX6 160 yX4_waitingInRow, Cond.instanceMethod yX4_waitingInRow, Cond.selects RX4 yX4_waitingInRow yX4_waitingInRow, Cond.initialized RX4, Cond.code yX4_waitingInRow cX4_waitingInRow 5 (some .int), Cond.fieldLink RX4 35 "TideWords$Words" "rowLengths" "LTideWords$Cells;"]
def wsX6_count_r2 : List Cond := [Cond.methodLink RX4 49 yX0_get, Cond.instanceMethod yX0_get, Cond.selects RX0 yX0_get yX0_get, Cond.code yX0_get cX0_get 2 (some .int), Cond.methodLink RX4 56 yX4_wordAt, Cond.instanceMethod yX4_wordAt, Cond.selects RX4 yX4_wordAt yX4_wordAt, Cond.code yX4_wordAt cX4_wordAt 3 (some .int), Cond.fieldLink RX4 32 "TideWords$Words" "rows" "LTideWords$Cells;", Cond.methodLink RX4 63 yX4_hasPassed, Cond.instanceMethod yX4_hasPassed, Cond.selects RX4 yX4_hasPassed yX4_hasPassed, Cond.code yX4_hasPassed cX4_hasPassed 2 (some .boolean), Cond.fieldLink RX4 23 "TideWords$Words" "passedSteps" "LTideWords$Cells;", Cond.methodLink RX6 209 yX1_wordsInside, Cond.instanceMethod yX1_wordsInside, Cond.selects RX1 yX1_wordsInside yX1_wordsInside, Cond.initialized RX1, Cond.code yX1_wordsInside cX1_wordsInside 3 (some .int), Cond.methodLink RX1 62 yX1_hasWord, Cond.instanceMethod yX1_hasWord, Cond.selects RX1 yX1_hasWord yX1_hasWord, Cond.code yX1_hasWord cX1_hasWord 2 (some .boolean), Cond.fieldLink RX1 29 "TideWords$Gates" "held" "LTideWords$Cells;"]
def wsX6_count_r3 : List Cond := [Cond.methodLink RX1 49 yX0_get, Cond.methodLink RX6 213 yX5_openMask, Cond.instanceMethod yX5_openMask, Cond.selects RX5 yX5_openMask yX5_openMask, Cond.initialized RX5, Cond.code yX5_openMask cX5_openMask 3 (some .int), Cond.fieldLink RX5 40 "TideWords$World" "steps" "I", Cond.methodLink RX5 44 yX5_isOpenAt, Cond.instanceMethod yX5_isOpenAt, Cond.selects RX5 yX5_isOpenAt yX5_isOpenAt, Cond.code yX5_isOpenAt cX5_isOpenAt 3 (some .boolean), Cond.fieldLink RX5 21 "TideWords$World" "gates" "LTideWords$Gates;", Cond.fieldLink RX5 12 "TideWords$World" "tides" "LTideWords$Tides;", Cond.methodLink RX5 32 yX3_gapAt, Cond.instanceMethod yX3_gapAt, Cond.selects RX3 yX3_gapAt yX3_gapAt, Cond.initialized RX3, Cond.code yX3_gapAt cX3_gapAt 2 (some .int), Cond.methodLink RX3 50 yX3_toldAt, Cond.instanceMethod yX3_toldAt, Cond.selects RX3 yX3_toldAt yX3_toldAt, Cond.code yX3_toldAt cX3_toldAt 3 (some .int), Cond.fieldLink RX3 26 "TideWords$Tides" "lies" "LTideWords$Cells;", Cond.methodLink RX3 47 yX3_levelAt]
def wsX6_count_r4 : List Cond := [Cond.instanceMethod yX3_levelAt, Cond.selects RX3 yX3_levelAt yX3_levelAt, Cond.code yX3_levelAt cX3_levelAt 6 (some .int), Cond.fieldLink RX3 23 "TideWords$Tides" "periods" "LTideWords$Cells;", Cond.fieldLink RX3 14 "TideWords$Tides" "means" "LTideWords$Cells;", Cond.fieldLink RX3 20 "TideWords$Tides" "swings" "LTideWords$Cells;", Cond.methodLink RX3 41 Lib.Math.min.name, Cond.static Lib.Math.min.name, Cond.initialized "java/lang/Math", Cond.code Lib.Math.min.name Lib.Math.min.code 2 (some .int), Cond.methodLink RX3 37 yX0_get, Cond.methodLink RX5 36 yX1_isOpenAcross, Cond.instanceMethod yX1_isOpenAcross, Cond.selects RX1 yX1_isOpenAcross yX1_isOpenAcross, Cond.code yX1_isOpenAcross cX1_isOpenAcross 3 (some .boolean), Cond.methodLink RX1 57 Lib.Math.abs.name, Cond.static Lib.Math.abs.name, Cond.code Lib.Math.abs.name Lib.Math.abs.code 1 (some .int), Cond.fieldLink RX1 20 "TideWords$Gates" "slacks" "LTideWords$Cells;", Cond.methodLink RX1 53 yX1_isShut, Cond.instanceMethod yX1_isShut, Cond.selects RX1 yX1_isShut yX1_isShut, Cond.code yX1_isShut cX1_isShut 2 (some .boolean), Cond.fieldLink RX1 26 "TideWords$Gates" "shuts" "LTideWords$Cells;"]
def wsX6_count : List Cond := .code yX6_count cX6_count 2 (some .int) :: ((wsX6_count_r1 ++ (wsX6_count_r2 ++ (wsX6_count_r3 ++ wsX6_count_r4))) ++ wsX60 ++ wsX50 ++ wsX40 ++ wsX10 ++ wsX20 ++ wsX00 ++ wsX30)
def wsX6_untilOpen_r1 : List Cond := [Cond.fieldLink RX6 10 "TideWords" "now" "LTideWords$World;", Cond.methodLink RX6 85 yX6_isGate, Cond.static yX6_isGate, Cond.initialized RX6, Cond.code yX6_isGate cX6_isGate 1 (some .boolean), Cond.methodLink RX6 49 yX6_isWithin, Cond.static yX6_isWithin, Cond.code yX6_isWithin cX6_isWithin 3 (some .boolean), Cond.methodLink RX6 222 yX5_stepsUntilOpen, Cond.instanceMethod yX5_stepsUntilOpen, Cond.selects RX5 yX5_stepsUntilOpen yX5_stepsUntilOpen, Cond.initialized RX5, Cond.code yX5_stepsUntilOpen cX5_stepsUntilOpen 3 (some .int), Cond.fieldLink RX5 40 "TideWords$World" "steps" "I", Cond.methodLink RX5 44 yX5_isOpenAt, Cond.instanceMethod yX5_isOpenAt, Cond.selects RX5 yX5_isOpenAt yX5_isOpenAt, Cond.code yX5_isOpenAt cX5_isOpenAt 3 (some .boolean), Cond.fieldLink RX5 21 "TideWords$World" "gates" "LTideWords$Gates;", Cond.fieldLink RX5 12 "TideWords$World" "tides" "LTideWords$Tides;", Cond.methodLink RX5 32 yX3_gapAt, Cond.instanceMethod yX3_gapAt, Cond.selects RX3 yX3_gapAt yX3_gapAt, Cond.initialized RX3]
def wsX6_untilOpen_r2 : List Cond := [Cond.code yX3_gapAt cX3_gapAt 2 (some .int), Cond.methodLink RX3 50 yX3_toldAt, Cond.instanceMethod yX3_toldAt, Cond.selects RX3 yX3_toldAt yX3_toldAt, Cond.code yX3_toldAt cX3_toldAt 3 (some .int), Cond.fieldLink RX3 26 "TideWords$Tides" "lies" "LTideWords$Cells;", Cond.methodLink RX3 47 yX3_levelAt, Cond.instanceMethod yX3_levelAt, Cond.selects RX3 yX3_levelAt yX3_levelAt, Cond.code yX3_levelAt cX3_levelAt 6 (some .int), Cond.fieldLink RX3 23 "TideWords$Tides" "periods" "LTideWords$Cells;", Cond.fieldLink RX3 14 "TideWords$Tides" "means" "LTideWords$Cells;", Cond.fieldLink RX3 20 "TideWords$Tides" "swings" "LTideWords$Cells;", Cond.methodLink RX3 41 Lib.Math.min.name, Cond.static Lib.Math.min.name, Cond.initialized "java/lang/Math", Cond.code Lib.Math.min.name Lib.Math.min.code 2 (some .int), Cond.methodLink RX3 37 yX0_get, Cond.instanceMethod yX0_get, Cond.selects RX0 yX0_get yX0_get, Cond.initialized RX0, Cond.code yX0_get cX0_get 2 (some .int), Cond.fieldLink RX0 13 "TideWords$Cells" "cells" "[I", Cond.methodLink RX5 36 yX1_isOpenAcross]
def wsX6_untilOpen_r3 : List Cond := [Cond.instanceMethod yX1_isOpenAcross, Cond.selects RX1 yX1_isOpenAcross yX1_isOpenAcross, Cond.initialized RX1, Cond.code yX1_isOpenAcross cX1_isOpenAcross 3 (some .boolean), Cond.methodLink RX1 57 Lib.Math.abs.name, Cond.static Lib.Math.abs.name, Cond.code Lib.Math.abs.name Lib.Math.abs.code 1 (some .int), Cond.fieldLink RX1 20 "TideWords$Gates" "slacks" "LTideWords$Cells;", Cond.methodLink RX1 53 yX1_isShut, Cond.instanceMethod yX1_isShut, Cond.selects RX1 yX1_isShut yX1_isShut, Cond.code yX1_isShut cX1_isShut 2 (some .boolean), Cond.fieldLink RX1 26 "TideWords$Gates" "shuts" "LTideWords$Cells;", Cond.methodLink RX1 49 yX0_get]
def wsX6_untilOpen : List Cond := .code yX6_untilOpen cX6_untilOpen 2 (some .int) :: ((wsX6_untilOpen_r1 ++ (wsX6_untilOpen_r2 ++ wsX6_untilOpen_r3)) ++ wsX60 ++ wsX50 ++ wsX30 ++ wsX00 ++ wsX10)
def wsX6_openFor_r1 : List Cond := [Cond.fieldLink RX6 10 "TideWords" "now" "LTideWords$World;", Cond.fieldLink RX6 66 "TideWords$World" "steps" "I", Cond.methodLink RX6 85 yX6_isGate, Cond.static yX6_isGate, Cond.initialized RX6, Cond.code yX6_isGate cX6_isGate 1 (some .boolean), Cond.methodLink RX6 49 yX6_isWithin, Cond.static yX6_isWithin, Cond.code yX6_isWithin cX6_isWithin 3 (some .boolean), Cond.methodLink RX6 222 yX5_stepsUntilOpen, Cond.instanceMethod yX5_stepsUntilOpen, Cond.selects RX5 yX5_stepsUntilOpen yX5_stepsUntilOpen, Cond.initialized RX5, Cond.code yX5_stepsUntilOpen cX5_stepsUntilOpen 3 (some .int), Cond.fieldLink RX5 40 "TideWords$World" "steps" "I", Cond.methodLink RX5 44 yX5_isOpenAt, Cond.instanceMethod yX5_isOpenAt, Cond.selects RX5 yX5_isOpenAt yX5_isOpenAt, Cond.code yX5_isOpenAt cX5_isOpenAt 3 (some .boolean), Cond.fieldLink RX5 21 "TideWords$World" "gates" "LTideWords$Gates;", Cond.fieldLink RX5 12 "TideWords$World" "tides" "LTideWords$Tides;", Cond.methodLink RX5 32 yX3_gapAt, Cond.instanceMethod yX3_gapAt, Cond.selects RX3 yX3_gapAt yX3_gapAt]
def wsX6_openFor_r2 : List Cond := [Cond.initialized RX3, Cond.code yX3_gapAt cX3_gapAt 2 (some .int), Cond.methodLink RX3 50 yX3_toldAt, Cond.instanceMethod yX3_toldAt, Cond.selects RX3 yX3_toldAt yX3_toldAt, Cond.code yX3_toldAt cX3_toldAt 3 (some .int), Cond.fieldLink RX3 26 "TideWords$Tides" "lies" "LTideWords$Cells;", Cond.methodLink RX3 47 yX3_levelAt, Cond.instanceMethod yX3_levelAt, Cond.selects RX3 yX3_levelAt yX3_levelAt, Cond.code yX3_levelAt cX3_levelAt 6 (some .int), Cond.fieldLink RX3 23 "TideWords$Tides" "periods" "LTideWords$Cells;", Cond.fieldLink RX3 14 "TideWords$Tides" "means" "LTideWords$Cells;", Cond.fieldLink RX3 20 "TideWords$Tides" "swings" "LTideWords$Cells;", Cond.methodLink RX3 41 Lib.Math.min.name, Cond.static Lib.Math.min.name, Cond.initialized "java/lang/Math", Cond.code Lib.Math.min.name Lib.Math.min.code 2 (some .int), Cond.methodLink RX3 37 yX0_get, Cond.instanceMethod yX0_get, Cond.selects RX0 yX0_get yX0_get, Cond.initialized RX0, Cond.code yX0_get cX0_get 2 (some .int), Cond.fieldLink RX0 13 "TideWords$Cells" "cells" "[I"]
def wsX6_openFor_r3 : List Cond := [Cond.methodLink RX5 36 yX1_isOpenAcross, Cond.instanceMethod yX1_isOpenAcross, Cond.selects RX1 yX1_isOpenAcross yX1_isOpenAcross, Cond.initialized RX1, Cond.code yX1_isOpenAcross cX1_isOpenAcross 3 (some .boolean), Cond.methodLink RX1 57 Lib.Math.abs.name, Cond.static Lib.Math.abs.name, Cond.code Lib.Math.abs.name Lib.Math.abs.code 1 (some .int), Cond.fieldLink RX1 20 "TideWords$Gates" "slacks" "LTideWords$Cells;", Cond.methodLink RX1 53 yX1_isShut, Cond.instanceMethod yX1_isShut, Cond.selects RX1 yX1_isShut yX1_isShut, Cond.code yX1_isShut cX1_isShut 2 (some .boolean), Cond.fieldLink RX1 26 "TideWords$Gates" "shuts" "LTideWords$Cells;", Cond.methodLink RX1 49 yX0_get, Cond.methodLink RX6 225 yX5_openStepsFrom, Cond.instanceMethod yX5_openStepsFrom, Cond.selects RX5 yX5_openStepsFrom yX5_openStepsFrom, Cond.code yX5_openStepsFrom cX5_openStepsFrom 4 (some .int)]
def wsX6_openFor : List Cond := .code yX6_openFor cX6_openFor 3 (some .int) :: ((wsX6_openFor_r1 ++ (wsX6_openFor_r2 ++ wsX6_openFor_r3)) ++ wsX60 ++ wsX50 ++ wsX30 ++ wsX00 ++ wsX10)
def wsX6_untilPassed_r1 : List Cond := [Cond.fieldLink RX6 16 "TideWords" "trial" "LTideWords$World;", Cond.fieldLink RX6 10 "TideWords" "now" "LTideWords$World;", Cond.fieldLink RX6 117 "TideWords$World" "words" "LTideWords$Words;", Cond.methodLink RX6 179 yX6_isWord, Cond.instanceMethod yX6_isWord, Cond.selects RX6 yX6_isWord yX6_isWord, Cond.initialized RX6, Cond.code yX6_isWord cX6_isWord 2 (some .boolean), Cond.fieldLink RX6 121 "TideWords$Words" "total" "I", Cond.methodLink RX6 49 yX6_isWithin, Cond.static yX6_isWithin, Cond.code yX6_isWithin cX6_isWithin 3 (some .boolean), Cond.methodLink RX6 228 yX5_copyFrom, Cond.instanceMethod yX5_copyFrom, Cond.selects RX5 yX5_copyFrom yX5_copyFrom, Cond.initialized RX5, Cond.code yX5_copyFrom cX5_copyFrom 2 none, Cond.fieldLink RX5 12 "TideWords$World" "tides" "LTideWords$Tides;", Cond.fieldLink RX5 21 "TideWords$World" "gates" "LTideWords$Gates;", Cond.fieldLink RX5 28 "TideWords$World" "words" "LTideWords$Words;", Cond.fieldLink RX5 40 "TideWords$World" "steps" "I", Cond.fieldLink RX5 93 "TideWords$World" "letters" "I", Cond.fieldLink RX5 67 "TideWords$World" "idleSteps" "I", Cond.methodLink RX5 134 yX3_copyFrom]
def wsX6_untilPassed_r2 : List Cond := [Cond.instanceMethod yX3_copyFrom, Cond.selects RX3 yX3_copyFrom yX3_copyFrom, Cond.initialized RX3, Cond.code yX3_copyFrom cX3_copyFrom 2 none, Cond.fieldLink RX3 14 "TideWords$Tides" "means" "LTideWords$Cells;", Cond.fieldLink RX3 20 "TideWords$Tides" "swings" "LTideWords$Cells;", Cond.fieldLink RX3 23 "TideWords$Tides" "periods" "LTideWords$Cells;", Cond.fieldLink RX3 26 "TideWords$Tides" "lies" "LTideWords$Cells;", Cond.methodLink RX3 53 yX0_copyFrom, Cond.instanceMethod yX0_copyFrom, Cond.selects RX0 yX0_copyFrom yX0_copyFrom, Cond.initialized RX0, Cond.code yX0_copyFrom cX0_copyFrom 2 none, Cond.fieldLink RX0 13 "TideWords$Cells" "cells" "[I", Cond.methodLink RX0 19 Lib.Math.min.name, Cond.static Lib.Math.min.name, Cond.initialized "java/lang/Math", Cond.code Lib.Math.min.name Lib.Math.min.code 2 (some .int), Cond.methodLink RX0 22 arraycopyName, Cond.native arraycopyName, Cond.static arraycopyName, Cond.initialized "java/lang/System", Cond.methodLink RX5 138 yX1_copyFrom, Cond.instanceMethod yX1_copyFrom]
def wsX6_untilPassed_r3 : List Cond := [Cond.selects RX1 yX1_copyFrom yX1_copyFrom, Cond.initialized RX1, Cond.code yX1_copyFrom cX1_copyFrom 2 none, Cond.fieldLink RX1 14 "TideWords$Gates" "sides" "LTideWords$Cells;", Cond.fieldLink RX1 20 "TideWords$Gates" "slacks" "LTideWords$Cells;", Cond.fieldLink RX1 23 "TideWords$Gates" "ways" "LTideWords$Cells;", Cond.fieldLink RX1 26 "TideWords$Gates" "shuts" "LTideWords$Cells;", Cond.fieldLink RX1 29 "TideWords$Gates" "held" "LTideWords$Cells;", Cond.fieldLink RX1 32 "TideWords$Gates" "lettersDone" "LTideWords$Cells;", Cond.fieldLink RX1 35 "TideWords$Gates" "passedWords" "LTideWords$Cells;", Cond.fieldLink RX1 38 "TideWords$Gates" "vainLetters" "LTideWords$Cells;", Cond.methodLink RX1 65 yX0_copyFrom, Cond.methodLink RX5 141 yX4_copyFrom, Cond.instanceMethod yX4_copyFrom, Cond.selects RX4 yX4_copyFrom yX4_copyFrom, Cond.initialized RX4, Cond.code yX4_copyFrom cX4_copyFrom 2 none, Cond.fieldLink RX4 14 "TideWords$Words" "lengths" "LTideWords$Cells;", Cond.fieldLink RX4 20 "TideWords$Words" "letters" "LTideWords$Cells;", Cond.fieldLink RX4 23 "TideWords$Words" "passedSteps" "LTideWords$Cells;", Cond.fieldLink RX4 26 "TideWords$Words" "passedGates" "LTideWords$Cells;", Cond.fieldLink RX4 29 "TideWords$Words" "timesBack" "LTideWords$Cells;", Cond.fieldLink RX4 32 "TideWords$Words" "rows" "LTideWords$Cells;", Cond.fieldLink RX4 35 "TideWords$Words" "rowLengths" "LTideWords$Cells;"]
def wsX6_untilPassed_r4 : List Cond := [Cond.fieldLink RX4 38 "TideWords$Words" "total" "I", Cond.methodLink RX4 70 yX0_copyFrom, Cond.methodLink RX6 191 yX4_hasPassed, Cond.instanceMethod yX4_hasPassed, Cond.selects RX4 yX4_hasPassed yX4_hasPassed, Cond.code yX4_hasPassed cX4_hasPassed 2 (some .boolean), Cond.methodLink RX4 49 yX0_get, Cond.instanceMethod yX0_get, Cond.selects RX0 yX0_get yX0_get, Cond.code yX0_get cX0_get 2 (some .int), Cond.methodLink RX6 139 yX5_makeSteps, Cond.instanceMethod yX5_makeSteps, Cond.selects RX5 yX5_makeSteps yX5_makeSteps, Cond.code yX5_makeSteps cX5_makeSteps 3 none, Cond.methodLink RX5 32 yX3_gapAt, Cond.instanceMethod yX3_gapAt, Cond.selects RX3 yX3_gapAt yX3_gapAt, Cond.code yX3_gapAt cX3_gapAt 2 (some .int), Cond.methodLink RX3 50 yX3_toldAt, Cond.instanceMethod yX3_toldAt, Cond.selects RX3 yX3_toldAt yX3_toldAt, Cond.code yX3_toldAt cX3_toldAt 3 (some .int), Cond.methodLink RX3 47 yX3_levelAt, Cond.instanceMethod yX3_levelAt]
def wsX6_untilPassed_r5 : List Cond := [Cond.selects RX3 yX3_levelAt yX3_levelAt, Cond.code yX3_levelAt cX3_levelAt 6 (some .int), Cond.methodLink RX3 41 Lib.Math.min.name, Cond.methodLink RX3 37 yX0_get, Cond.methodLink RX5 54 yX5_stepAcross, Cond.instanceMethod yX5_stepAcross, Cond.selects RX5 yX5_stepAcross yX5_stepAcross, Cond.code yX5_stepAcross cX5_stepAcross 4 none, Cond.methodLink RX5 36 yX1_isOpenAcross, Cond.instanceMethod yX1_isOpenAcross, Cond.selects RX1 yX1_isOpenAcross yX1_isOpenAcross, Cond.code yX1_isOpenAcross cX1_isOpenAcross 3 (some .boolean), Cond.methodLink RX1 57 Lib.Math.abs.name, Cond.static Lib.Math.abs.name, Cond.code Lib.Math.abs.name Lib.Math.abs.code 1 (some .int), Cond.methodLink RX1 53 yX1_isShut, Cond.instanceMethod yX1_isShut, Cond.selects RX1 yX1_isShut yX1_isShut, Cond.code yX1_isShut cX1_isShut 2 (some .boolean), Cond.methodLink RX1 49 yX0_get, Cond.methodLink RX5 58 yX5_takeWord, Cond.instanceMethod yX5_takeWord, Cond.selects RX5 yX5_takeWord yX5_takeWord, Cond.code yX5_takeWord cX5_takeWord 2 none]
def wsX6_untilPassed_r6 : List Cond := [Cond.fieldLink RX5 74 "TideWords$Gates" "held" "LTideWords$Cells;", Cond.fieldLink RX5 78 "TideWords$Gates" "sides" "LTideWords$Cells;", Cond.methodLink RX5 70 yX1_hasWord, Cond.instanceMethod yX1_hasWord, Cond.selects RX1 yX1_hasWord yX1_hasWord, Cond.code yX1_hasWord cX1_hasWord 2 (some .boolean), Cond.methodLink RX5 81 yX0_get, Cond.methodLink RX5 86 yX4_takeWaiting, Cond.instanceMethod yX4_takeWaiting, Cond.selects RX4 yX4_takeWaiting yX4_takeWaiting, Cond.code yX4_takeWaiting cX4_takeWaiting 5 (some .int), Cond.methodLink RX4 56 yX4_wordAt, Cond.instanceMethod yX4_wordAt, Cond.selects RX4 yX4_wordAt yX4_wordAt, Cond.code yX4_wordAt cX4_wordAt 3 (some .int), Cond.methodLink RX4 63 yX4_hasPassed, Cond.methodLink RX4 67 yX4_removeFrom, Cond.instanceMethod yX4_removeFrom, Cond.selects RX4 yX4_removeFrom yX4_removeFrom, Cond.code yX4_removeFrom cX4_removeFrom 6 none, Cond.methodLink RX4 42 yX0_set, Cond.instanceMethod yX0_set, Cond.selects RX0 yX0_set yX0_set, Cond.code yX0_set cX0_set 3 none]
def wsX6_untilPassed_r7 : List Cond := [Cond.methodLink RX5 89 yX0_set, Cond.methodLink RX5 61 yX5_passLetter, Cond.instanceMethod yX5_passLetter, Cond.selects RX5 yX5_passLetter yX5_passLetter, Cond.code yX5_passLetter cX5_passLetter 3 none, Cond.fieldLink RX5 96 "TideWords$Gates" "lettersDone" "LTideWords$Cells;", Cond.fieldLink RX5 102 "TideWords$Words" "lengths" "LTideWords$Cells;", Cond.fieldLink RX5 108 "TideWords$Gates" "passedWords" "LTideWords$Cells;", Cond.methodLink RX5 99 yX0_add, Cond.instanceMethod yX0_add, Cond.selects RX0 yX0_add yX0_add, Cond.code yX0_add cX0_add 3 none, Cond.methodLink RX5 105 yX1_release, Cond.instanceMethod yX1_release, Cond.selects RX1 yX1_release yX1_release, Cond.code yX1_release cX1_release 2 none, Cond.methodLink RX1 45 yX0_set, Cond.methodLink RX5 111 yX4_markPassed, Cond.instanceMethod yX4_markPassed, Cond.selects RX4 yX4_markPassed yX4_markPassed, Cond.code yX4_markPassed cX4_markPassed 4 none, Cond.methodLink RX5 115 yX4_addLast, Cond.instanceMethod yX4_addLast, Cond.selects RX4 yX4_addLast yX4_addLast]
def wsX6_untilPassed_r8 : List Cond := [Cond.code yX4_addLast cX4_addLast 4 none, Cond.methodLink RX5 64 yX5_sendBack, Cond.instanceMethod yX5_sendBack, Cond.selects RX5 yX5_sendBack yX5_sendBack, Cond.code yX5_sendBack cX5_sendBack 3 none, Cond.fieldLink RX5 118 "TideWords$Gates" "ways" "LTideWords$Cells;", Cond.fieldLink RX5 121 "TideWords$Gates" "vainLetters" "LTideWords$Cells;", Cond.fieldLink RX5 124 "TideWords$Words" "timesBack" "LTideWords$Cells;", Cond.methodLink RX5 127 yX4_addFirst, Cond.instanceMethod yX4_addFirst, Cond.selects RX4 yX4_addFirst yX4_addFirst, Cond.code yX4_addFirst cX4_addFirst 6 none]
def wsX6_untilPassed : List Cond := .code yX6_untilPassed cX6_untilPassed 3 (some .int) :: ((wsX6_untilPassed_r1 ++ (wsX6_untilPassed_r2 ++ (wsX6_untilPassed_r3 ++ (wsX6_untilPassed_r4 ++ (wsX6_untilPassed_r5 ++ (wsX6_untilPassed_r6 ++ (wsX6_untilPassed_r7 ++ wsX6_untilPassed_r8))))))) ++ wsX60 ++ wsX50 ++ wsX40 ++ wsX30 ++ wsX00 ++ wsX10)
def wsX6_ifRun_r1 : List Cond := [Cond.fieldLink RX6 16 "TideWords" "trial" "LTideWords$World;", Cond.fieldLink RX6 10 "TideWords" "now" "LTideWords$World;", Cond.methodLink RX6 49 yX6_isWithin, Cond.static yX6_isWithin, Cond.initialized RX6, Cond.code yX6_isWithin cX6_isWithin 3 (some .boolean), Cond.methodLink RX6 228 yX5_copyFrom, Cond.instanceMethod yX5_copyFrom, Cond.selects RX5 yX5_copyFrom yX5_copyFrom, Cond.initialized RX5, Cond.code yX5_copyFrom cX5_copyFrom 2 none, Cond.fieldLink RX5 12 "TideWords$World" "tides" "LTideWords$Tides;", Cond.fieldLink RX5 21 "TideWords$World" "gates" "LTideWords$Gates;", Cond.fieldLink RX5 28 "TideWords$World" "words" "LTideWords$Words;", Cond.fieldLink RX5 40 "TideWords$World" "steps" "I", Cond.fieldLink RX5 93 "TideWords$World" "letters" "I", Cond.fieldLink RX5 67 "TideWords$World" "idleSteps" "I", Cond.methodLink RX5 134 yX3_copyFrom, Cond.instanceMethod yX3_copyFrom, Cond.selects RX3 yX3_copyFrom yX3_copyFrom, Cond.initialized RX3, Cond.code yX3_copyFrom cX3_copyFrom 2 none, Cond.fieldLink RX3 14 "TideWords$Tides" "means" "LTideWords$Cells;", Cond.fieldLink RX3 20 "TideWords$Tides" "swings" "LTideWords$Cells;"]
def wsX6_ifRun_r2 : List Cond := [Cond.fieldLink RX3 23 "TideWords$Tides" "periods" "LTideWords$Cells;", Cond.fieldLink RX3 26 "TideWords$Tides" "lies" "LTideWords$Cells;", Cond.methodLink RX3 53 yX0_copyFrom, Cond.instanceMethod yX0_copyFrom, Cond.selects RX0 yX0_copyFrom yX0_copyFrom, Cond.initialized RX0, Cond.code yX0_copyFrom cX0_copyFrom 2 none, Cond.fieldLink RX0 13 "TideWords$Cells" "cells" "[I", Cond.methodLink RX0 19 Lib.Math.min.name, Cond.static Lib.Math.min.name, Cond.initialized "java/lang/Math", Cond.code Lib.Math.min.name Lib.Math.min.code 2 (some .int), Cond.methodLink RX0 22 arraycopyName, Cond.native arraycopyName, Cond.static arraycopyName, Cond.initialized "java/lang/System", Cond.methodLink RX5 138 yX1_copyFrom, Cond.instanceMethod yX1_copyFrom, Cond.selects RX1 yX1_copyFrom yX1_copyFrom, Cond.initialized RX1, Cond.code yX1_copyFrom cX1_copyFrom 2 none, Cond.fieldLink RX1 14 "TideWords$Gates" "sides" "LTideWords$Cells;", Cond.fieldLink RX1 20 "TideWords$Gates" "slacks" "LTideWords$Cells;", Cond.fieldLink RX1 23 "TideWords$Gates" "ways" "LTideWords$Cells;"]
def wsX6_ifRun_r3 : List Cond := [Cond.fieldLink RX1 26 "TideWords$Gates" "shuts" "LTideWords$Cells;", Cond.fieldLink RX1 29 "TideWords$Gates" "held" "LTideWords$Cells;", Cond.fieldLink RX1 32 "TideWords$Gates" "lettersDone" "LTideWords$Cells;", Cond.fieldLink RX1 35 "TideWords$Gates" "passedWords" "LTideWords$Cells;", Cond.fieldLink RX1 38 "TideWords$Gates" "vainLetters" "LTideWords$Cells;", Cond.methodLink RX1 65 yX0_copyFrom, Cond.methodLink RX5 141 yX4_copyFrom, Cond.instanceMethod yX4_copyFrom, Cond.selects RX4 yX4_copyFrom yX4_copyFrom, Cond.initialized RX4, Cond.code yX4_copyFrom cX4_copyFrom 2 none, Cond.fieldLink RX4 14 "TideWords$Words" "lengths" "LTideWords$Cells;", Cond.fieldLink RX4 20 "TideWords$Words" "letters" "LTideWords$Cells;", Cond.fieldLink RX4 23 "TideWords$Words" "passedSteps" "LTideWords$Cells;", Cond.fieldLink RX4 26 "TideWords$Words" "passedGates" "LTideWords$Cells;", Cond.fieldLink RX4 29 "TideWords$Words" "timesBack" "LTideWords$Cells;", Cond.fieldLink RX4 32 "TideWords$Words" "rows" "LTideWords$Cells;", Cond.fieldLink RX4 35 "TideWords$Words" "rowLengths" "LTideWords$Cells;", Cond.fieldLink RX4 38 "TideWords$Words" "total" "I", Cond.methodLink RX4 70 yX0_copyFrom, Cond.methodLink RX6 139 yX5_makeSteps, Cond.instanceMethod yX5_makeSteps, Cond.selects RX5 yX5_makeSteps yX5_makeSteps, Cond.code yX5_makeSteps cX5_makeSteps 3 none]
def wsX6_ifRun_r4 : List Cond := [Cond.methodLink RX5 32 yX3_gapAt, Cond.instanceMethod yX3_gapAt, Cond.selects RX3 yX3_gapAt yX3_gapAt, Cond.code yX3_gapAt cX3_gapAt 2 (some .int), Cond.methodLink RX3 50 yX3_toldAt, Cond.instanceMethod yX3_toldAt, Cond.selects RX3 yX3_toldAt yX3_toldAt, Cond.code yX3_toldAt cX3_toldAt 3 (some .int), Cond.methodLink RX3 47 yX3_levelAt, Cond.instanceMethod yX3_levelAt, Cond.selects RX3 yX3_levelAt yX3_levelAt, Cond.code yX3_levelAt cX3_levelAt 6 (some .int), Cond.methodLink RX3 41 Lib.Math.min.name, Cond.methodLink RX3 37 yX0_get, Cond.instanceMethod yX0_get, Cond.selects RX0 yX0_get yX0_get, Cond.code yX0_get cX0_get 2 (some .int), Cond.methodLink RX5 54 yX5_stepAcross, Cond.instanceMethod yX5_stepAcross, Cond.selects RX5 yX5_stepAcross yX5_stepAcross, Cond.code yX5_stepAcross cX5_stepAcross 4 none, Cond.methodLink RX5 36 yX1_isOpenAcross, Cond.instanceMethod yX1_isOpenAcross, Cond.selects RX1 yX1_isOpenAcross yX1_isOpenAcross]
def wsX6_ifRun_r5 : List Cond := [Cond.code yX1_isOpenAcross cX1_isOpenAcross 3 (some .boolean), Cond.methodLink RX1 57 Lib.Math.abs.name, Cond.static Lib.Math.abs.name, Cond.code Lib.Math.abs.name Lib.Math.abs.code 1 (some .int), Cond.methodLink RX1 53 yX1_isShut, Cond.instanceMethod yX1_isShut, Cond.selects RX1 yX1_isShut yX1_isShut, Cond.code yX1_isShut cX1_isShut 2 (some .boolean), Cond.methodLink RX1 49 yX0_get, Cond.methodLink RX5 58 yX5_takeWord, Cond.instanceMethod yX5_takeWord, Cond.selects RX5 yX5_takeWord yX5_takeWord, Cond.code yX5_takeWord cX5_takeWord 2 none, Cond.fieldLink RX5 74 "TideWords$Gates" "held" "LTideWords$Cells;", Cond.fieldLink RX5 78 "TideWords$Gates" "sides" "LTideWords$Cells;", Cond.methodLink RX5 70 yX1_hasWord, Cond.instanceMethod yX1_hasWord, Cond.selects RX1 yX1_hasWord yX1_hasWord, Cond.code yX1_hasWord cX1_hasWord 2 (some .boolean), Cond.methodLink RX5 81 yX0_get, Cond.methodLink RX5 86 yX4_takeWaiting, Cond.instanceMethod yX4_takeWaiting, Cond.selects RX4 yX4_takeWaiting yX4_takeWaiting, Cond.code yX4_takeWaiting cX4_takeWaiting 5 (some .int)]
def wsX6_ifRun_r6 : List Cond := [Cond.methodLink RX4 49 yX0_get, Cond.methodLink RX4 56 yX4_wordAt, Cond.instanceMethod yX4_wordAt, Cond.selects RX4 yX4_wordAt yX4_wordAt, Cond.code yX4_wordAt cX4_wordAt 3 (some .int), Cond.methodLink RX4 63 yX4_hasPassed, Cond.instanceMethod yX4_hasPassed, Cond.selects RX4 yX4_hasPassed yX4_hasPassed, Cond.code yX4_hasPassed cX4_hasPassed 2 (some .boolean), Cond.methodLink RX4 67 yX4_removeFrom, Cond.instanceMethod yX4_removeFrom, Cond.selects RX4 yX4_removeFrom yX4_removeFrom, Cond.code yX4_removeFrom cX4_removeFrom 6 none, Cond.methodLink RX4 42 yX0_set, Cond.instanceMethod yX0_set, Cond.selects RX0 yX0_set yX0_set, Cond.code yX0_set cX0_set 3 none, Cond.methodLink RX5 89 yX0_set, Cond.methodLink RX5 61 yX5_passLetter, Cond.instanceMethod yX5_passLetter, Cond.selects RX5 yX5_passLetter yX5_passLetter, Cond.code yX5_passLetter cX5_passLetter 3 none, Cond.fieldLink RX5 96 "TideWords$Gates" "lettersDone" "LTideWords$Cells;", Cond.fieldLink RX5 102 "TideWords$Words" "lengths" "LTideWords$Cells;"]
def wsX6_ifRun_r7 : List Cond := [Cond.fieldLink RX5 108 "TideWords$Gates" "passedWords" "LTideWords$Cells;", Cond.methodLink RX5 99 yX0_add, Cond.instanceMethod yX0_add, Cond.selects RX0 yX0_add yX0_add, Cond.code yX0_add cX0_add 3 none, Cond.methodLink RX5 105 yX1_release, Cond.instanceMethod yX1_release, Cond.selects RX1 yX1_release yX1_release, Cond.code yX1_release cX1_release 2 none, Cond.methodLink RX1 45 yX0_set, Cond.methodLink RX5 111 yX4_markPassed, Cond.instanceMethod yX4_markPassed, Cond.selects RX4 yX4_markPassed yX4_markPassed, Cond.code yX4_markPassed cX4_markPassed 4 none, Cond.methodLink RX5 115 yX4_addLast, Cond.instanceMethod yX4_addLast, Cond.selects RX4 yX4_addLast yX4_addLast, Cond.code yX4_addLast cX4_addLast 4 none, Cond.methodLink RX5 64 yX5_sendBack, Cond.instanceMethod yX5_sendBack, Cond.selects RX5 yX5_sendBack yX5_sendBack, Cond.code yX5_sendBack cX5_sendBack 3 none, Cond.fieldLink RX5 118 "TideWords$Gates" "ways" "LTideWords$Cells;", Cond.fieldLink RX5 121 "TideWords$Gates" "vainLetters" "LTideWords$Cells;"]
def wsX6_ifRun_r8 : List Cond := [Cond.fieldLink RX5 124 "TideWords$Words" "timesBack" "LTideWords$Cells;", Cond.methodLink RX5 127 yX4_addFirst, Cond.instanceMethod yX4_addFirst, Cond.selects RX4 yX4_addFirst yX4_addFirst, Cond.code yX4_addFirst cX4_addFirst 6 none, Cond.methodLink RX6 232 yX5_tally, Cond.instanceMethod yX5_tally, Cond.selects RX5 yX5_tally yX5_tally, Cond.code yX5_tally cX5_tally 2 (some .int), Cond.methodLink RX5 130 yX0_sum, Cond.instanceMethod yX0_sum, Cond.selects RX0 yX0_sum yX0_sum, Cond.code yX0_sum cX0_sum 3 (some .int)]
def wsX6_ifRun : List Cond := .code yX6_ifRun cX6_ifRun 3 (some .int) :: ((wsX6_ifRun_r1 ++ (wsX6_ifRun_r2 ++ (wsX6_ifRun_r3 ++ (wsX6_ifRun_r4 ++ (wsX6_ifRun_r5 ++ (wsX6_ifRun_r6 ++ (wsX6_ifRun_r7 ++ wsX6_ifRun_r8))))))) ++ wsX60 ++ wsX50 ++ wsX30 ++ wsX00 ++ wsX10 ++ wsX40)
def wsX6_findGapsAhead_r1 : List Cond := [Cond.fieldLink RX6 42 "TideWords" "gapsAhead" "LTideWords$Cells;", Cond.fieldLink RX6 10 "TideWords" "now" "LTideWords$World;", Cond.fieldLink RX6 56 "TideWords$World" "tides" "LTideWords$Tides;", Cond.fieldLink RX6 66 "TideWords$World" "steps" "I", Cond.methodLink RX6 286 yX3_gapAt, Cond.instanceMethod yX3_gapAt, Cond.selects RX3 yX3_gapAt yX3_gapAt, Cond.initialized RX3, Cond.code yX3_gapAt cX3_gapAt 2 (some .int), Cond.methodLink RX3 50 yX3_toldAt, Cond.instanceMethod yX3_toldAt, Cond.selects RX3 yX3_toldAt yX3_toldAt, Cond.code yX3_toldAt cX3_toldAt 3 (some .int), Cond.fieldLink RX3 26 "TideWords$Tides" "lies" "LTideWords$Cells;", Cond.methodLink RX3 47 yX3_levelAt, Cond.instanceMethod yX3_levelAt, Cond.selects RX3 yX3_levelAt yX3_levelAt, Cond.code yX3_levelAt cX3_levelAt 6 (some .int), Cond.fieldLink RX3 23 "TideWords$Tides" "periods" "LTideWords$Cells;", Cond.fieldLink RX3 14 "TideWords$Tides" "means" "LTideWords$Cells;", Cond.fieldLink RX3 20 "TideWords$Tides" "swings" "LTideWords$Cells;", Cond.methodLink RX3 41 Lib.Math.min.name, Cond.static Lib.Math.min.name, Cond.initialized "java/lang/Math"]
def wsX6_findGapsAhead_r2 : List Cond := [Cond.code Lib.Math.min.name Lib.Math.min.code 2 (some .int), Cond.methodLink RX3 37 yX0_get, Cond.instanceMethod yX0_get, Cond.selects RX0 yX0_get yX0_get, Cond.initialized RX0, Cond.code yX0_get cX0_get 2 (some .int), Cond.fieldLink RX0 13 "TideWords$Cells" "cells" "[I", Cond.methodLink RX6 81 yX0_set, Cond.instanceMethod yX0_set, Cond.selects RX0 yX0_set yX0_set, Cond.code yX0_set cX0_set 3 none]
def wsX6_findGapsAhead : List Cond := .code yX6_findGapsAhead cX6_findGapsAhead 2 none :: ((wsX6_findGapsAhead_r1 ++ wsX6_findGapsAhead_r2) ++ wsX60 ++ wsX50 ++ wsX30 ++ wsX00)
def wsX6_wordsPassingWith_r1 : List Cond := [Cond.fieldLink RX6 16 "TideWords" "trial" "LTideWords$World;", Cond.fieldLink RX6 10 "TideWords" "now" "LTideWords$World;", Cond.fieldLink RX6 88 "TideWords$World" "gates" "LTideWords$Gates;", Cond.fieldLink RX6 100 "TideWords$Gates" "slacks" "LTideWords$Cells;", Cond.fieldLink RX6 42 "TideWords" "gapsAhead" "LTideWords$Cells;", Cond.fieldLink RX6 136 "TideWords$Gates" "passedWords" "LTideWords$Cells;", Cond.methodLink RX6 228 yX5_copyFrom, Cond.instanceMethod yX5_copyFrom, Cond.selects RX5 yX5_copyFrom yX5_copyFrom, Cond.initialized RX5, Cond.code yX5_copyFrom cX5_copyFrom 2 none, Cond.fieldLink RX5 12 "TideWords$World" "tides" "LTideWords$Tides;", Cond.fieldLink RX5 21 "TideWords$World" "gates" "LTideWords$Gates;", Cond.fieldLink RX5 28 "TideWords$World" "words" "LTideWords$Words;", Cond.fieldLink RX5 40 "TideWords$World" "steps" "I", Cond.fieldLink RX5 93 "TideWords$World" "letters" "I", Cond.fieldLink RX5 67 "TideWords$World" "idleSteps" "I", Cond.methodLink RX5 134 yX3_copyFrom, Cond.instanceMethod yX3_copyFrom, Cond.selects RX3 yX3_copyFrom yX3_copyFrom, Cond.initialized RX3, Cond.code yX3_copyFrom cX3_copyFrom 2 none, Cond.fieldLink RX3 14 "TideWords$Tides" "means" "LTideWords$Cells;", Cond.fieldLink RX3 20 "TideWords$Tides" "swings" "LTideWords$Cells;"]
def wsX6_wordsPassingWith_r2 : List Cond := [Cond.fieldLink RX3 23 "TideWords$Tides" "periods" "LTideWords$Cells;", Cond.fieldLink RX3 26 "TideWords$Tides" "lies" "LTideWords$Cells;", Cond.methodLink RX3 53 yX0_copyFrom, Cond.instanceMethod yX0_copyFrom, Cond.selects RX0 yX0_copyFrom yX0_copyFrom, Cond.initialized RX0, Cond.code yX0_copyFrom cX0_copyFrom 2 none, Cond.fieldLink RX0 13 "TideWords$Cells" "cells" "[I", Cond.methodLink RX0 19 Lib.Math.min.name, Cond.static Lib.Math.min.name, Cond.initialized "java/lang/Math", Cond.code Lib.Math.min.name Lib.Math.min.code 2 (some .int), Cond.methodLink RX0 22 arraycopyName, Cond.native arraycopyName, Cond.static arraycopyName, Cond.initialized "java/lang/System", Cond.methodLink RX5 138 yX1_copyFrom, Cond.instanceMethod yX1_copyFrom, Cond.selects RX1 yX1_copyFrom yX1_copyFrom, Cond.initialized RX1, Cond.code yX1_copyFrom cX1_copyFrom 2 none, Cond.fieldLink RX1 14 "TideWords$Gates" "sides" "LTideWords$Cells;", Cond.fieldLink RX1 20 "TideWords$Gates" "slacks" "LTideWords$Cells;", Cond.fieldLink RX1 23 "TideWords$Gates" "ways" "LTideWords$Cells;"]
def wsX6_wordsPassingWith_r3 : List Cond := [Cond.fieldLink RX1 26 "TideWords$Gates" "shuts" "LTideWords$Cells;", Cond.fieldLink RX1 29 "TideWords$Gates" "held" "LTideWords$Cells;", Cond.fieldLink RX1 32 "TideWords$Gates" "lettersDone" "LTideWords$Cells;", Cond.fieldLink RX1 35 "TideWords$Gates" "passedWords" "LTideWords$Cells;", Cond.fieldLink RX1 38 "TideWords$Gates" "vainLetters" "LTideWords$Cells;", Cond.methodLink RX1 65 yX0_copyFrom, Cond.methodLink RX5 141 yX4_copyFrom, Cond.instanceMethod yX4_copyFrom, Cond.selects RX4 yX4_copyFrom yX4_copyFrom, Cond.initialized RX4, Cond.code yX4_copyFrom cX4_copyFrom 2 none, Cond.fieldLink RX4 14 "TideWords$Words" "lengths" "LTideWords$Cells;", Cond.fieldLink RX4 20 "TideWords$Words" "letters" "LTideWords$Cells;", Cond.fieldLink RX4 23 "TideWords$Words" "passedSteps" "LTideWords$Cells;", Cond.fieldLink RX4 26 "TideWords$Words" "passedGates" "LTideWords$Cells;", Cond.fieldLink RX4 29 "TideWords$Words" "timesBack" "LTideWords$Cells;", Cond.fieldLink RX4 32 "TideWords$Words" "rows" "LTideWords$Cells;", Cond.fieldLink RX4 35 "TideWords$Words" "rowLengths" "LTideWords$Cells;", Cond.fieldLink RX4 38 "TideWords$Words" "total" "I", Cond.methodLink RX4 70 yX0_copyFrom, Cond.methodLink RX6 81 yX0_set, Cond.instanceMethod yX0_set, Cond.selects RX0 yX0_set yX0_set, Cond.code yX0_set cX0_set 3 none]
def wsX6_wordsPassingWith_r4 : List Cond := [Cond.methodLink RX6 77 yX0_get, Cond.instanceMethod yX0_get, Cond.selects RX0 yX0_get yX0_get, Cond.code yX0_get cX0_get 2 (some .int), Cond.methodLink RX6 292 yX5_stepAcross, Cond.instanceMethod yX5_stepAcross, Cond.selects RX5 yX5_stepAcross yX5_stepAcross, Cond.code yX5_stepAcross cX5_stepAcross 4 none, Cond.methodLink RX5 36 yX1_isOpenAcross, Cond.instanceMethod yX1_isOpenAcross, Cond.selects RX1 yX1_isOpenAcross yX1_isOpenAcross, Cond.code yX1_isOpenAcross cX1_isOpenAcross 3 (some .boolean), Cond.methodLink RX1 57 Lib.Math.abs.name, Cond.static Lib.Math.abs.name, Cond.code Lib.Math.abs.name Lib.Math.abs.code 1 (some .int), Cond.methodLink RX1 53 yX1_isShut, Cond.instanceMethod yX1_isShut, Cond.selects RX1 yX1_isShut yX1_isShut, Cond.code yX1_isShut cX1_isShut 2 (some .boolean), Cond.methodLink RX1 49 yX0_get, Cond.methodLink RX5 58 yX5_takeWord, Cond.instanceMethod yX5_takeWord, Cond.selects RX5 yX5_takeWord yX5_takeWord, Cond.code yX5_takeWord cX5_takeWord 2 none]
def wsX6_wordsPassingWith_r5 : List Cond := [Cond.fieldLink RX5 74 "TideWords$Gates" "held" "LTideWords$Cells;", Cond.fieldLink RX5 78 "TideWords$Gates" "sides" "LTideWords$Cells;", Cond.methodLink RX5 70 yX1_hasWord, Cond.instanceMethod yX1_hasWord, Cond.selects RX1 yX1_hasWord yX1_hasWord, Cond.code yX1_hasWord cX1_hasWord 2 (some .boolean), Cond.methodLink RX5 81 yX0_get, Cond.methodLink RX5 86 yX4_takeWaiting, Cond.instanceMethod yX4_takeWaiting, Cond.selects RX4 yX4_takeWaiting yX4_takeWaiting, Cond.code yX4_takeWaiting cX4_takeWaiting 5 (some .int), Cond.methodLink RX4 49 yX0_get, Cond.methodLink RX4 56 yX4_wordAt, Cond.instanceMethod yX4_wordAt, Cond.selects RX4 yX4_wordAt yX4_wordAt, Cond.code yX4_wordAt cX4_wordAt 3 (some .int), Cond.methodLink RX4 63 yX4_hasPassed, Cond.instanceMethod yX4_hasPassed, Cond.selects RX4 yX4_hasPassed yX4_hasPassed, Cond.code yX4_hasPassed cX4_hasPassed 2 (some .boolean), Cond.methodLink RX4 67 yX4_removeFrom, Cond.instanceMethod yX4_removeFrom, Cond.selects RX4 yX4_removeFrom yX4_removeFrom, Cond.code yX4_removeFrom cX4_removeFrom 6 none]
def wsX6_wordsPassingWith_r6 : List Cond := [Cond.methodLink RX4 42 yX0_set, Cond.methodLink RX5 89 yX0_set, Cond.methodLink RX5 61 yX5_passLetter, Cond.instanceMethod yX5_passLetter, Cond.selects RX5 yX5_passLetter yX5_passLetter, Cond.code yX5_passLetter cX5_passLetter 3 none, Cond.fieldLink RX5 96 "TideWords$Gates" "lettersDone" "LTideWords$Cells;", Cond.fieldLink RX5 102 "TideWords$Words" "lengths" "LTideWords$Cells;", Cond.fieldLink RX5 108 "TideWords$Gates" "passedWords" "LTideWords$Cells;", Cond.methodLink RX5 99 yX0_add, Cond.instanceMethod yX0_add, Cond.selects RX0 yX0_add yX0_add, Cond.code yX0_add cX0_add 3 none, Cond.methodLink RX5 105 yX1_release, Cond.instanceMethod yX1_release, Cond.selects RX1 yX1_release yX1_release, Cond.code yX1_release cX1_release 2 none, Cond.methodLink RX1 45 yX0_set, Cond.methodLink RX5 111 yX4_markPassed, Cond.instanceMethod yX4_markPassed, Cond.selects RX4 yX4_markPassed yX4_markPassed, Cond.code yX4_markPassed cX4_markPassed 4 none, Cond.methodLink RX5 115 yX4_addLast, Cond.instanceMethod yX4_addLast]
def wsX6_wordsPassingWith_r7 : List Cond := [Cond.selects RX4 yX4_addLast yX4_addLast, Cond.code yX4_addLast cX4_addLast 4 none, Cond.methodLink RX5 64 yX5_sendBack, Cond.instanceMethod yX5_sendBack, Cond.selects RX5 yX5_sendBack yX5_sendBack, Cond.code yX5_sendBack cX5_sendBack 3 none, Cond.fieldLink RX5 118 "TideWords$Gates" "ways" "LTideWords$Cells;", Cond.fieldLink RX5 121 "TideWords$Gates" "vainLetters" "LTideWords$Cells;", Cond.fieldLink RX5 124 "TideWords$Words" "timesBack" "LTideWords$Cells;", Cond.methodLink RX5 127 yX4_addFirst, Cond.instanceMethod yX4_addFirst, Cond.selects RX4 yX4_addFirst yX4_addFirst, Cond.code yX4_addFirst cX4_addFirst 6 none, Cond.methodLink RX6 110 yX0_sum, Cond.instanceMethod yX0_sum, Cond.selects RX0 yX0_sum yX0_sum, Cond.code yX0_sum cX0_sum 3 (some .int)]
def wsX6_wordsPassingWith : List Cond := .code yX6_wordsPassingWith cX6_wordsPassingWith 4 (some .int) :: ((wsX6_wordsPassingWith_r1 ++ (wsX6_wordsPassingWith_r2 ++ (wsX6_wordsPassingWith_r3 ++ (wsX6_wordsPassingWith_r4 ++ (wsX6_wordsPassingWith_r5 ++ (wsX6_wordsPassingWith_r6 ++ wsX6_wordsPassingWith_r7)))))) ++ wsX60 ++ wsX50 ++ wsX10 ++ wsX30 ++ wsX00 ++ wsX40)
def wsX6_hasGapAhead : List Cond := .code yX6_hasGapAhead cX6_hasGapAhead 3 (some .boolean) :: ([.fieldLink RX6 42 "TideWords" "gapsAhead" "LTideWords$Cells;", .methodLink RX6 289 Lib.Math.abs.name, .static Lib.Math.abs.name, .initialized "java/lang/Math", .code Lib.Math.abs.name Lib.Math.abs.code 1 (some .int), .methodLink RX6 77 yX0_get, .instanceMethod yX0_get, .selects RX0 yX0_get yX0_get, .initialized RX0, .code yX0_get cX0_get 2 (some .int), .fieldLink RX0 13 "TideWords$Cells" "cells" "[I"] ++ wsX60 ++ wsX00)
def wsX6_leastSlack_r1 : List Cond := [Cond.fieldLink RX6 10 "TideWords" "now" "LTideWords$World;", Cond.fieldLink RX6 117 "TideWords$World" "words" "LTideWords$Words;", Cond.fieldLink RX6 121 "TideWords$Words" "total" "I", Cond.fieldLink RX6 88 "TideWords$World" "gates" "LTideWords$Gates;", Cond.fieldLink RX6 136 "TideWords$Gates" "passedWords" "LTideWords$Cells;", Cond.methodLink RX6 85 yX6_isGate, Cond.static yX6_isGate, Cond.initialized RX6, Cond.code yX6_isGate cX6_isGate 1 (some .boolean), Cond.methodLink RX6 49 yX6_isWithin, Cond.static yX6_isWithin, Cond.code yX6_isWithin cX6_isWithin 3 (some .boolean), Cond.methodLink RX6 235 yX6_findGapsAhead, Cond.instanceMethod yX6_findGapsAhead, Cond.selects RX6 yX6_findGapsAhead yX6_findGapsAhead, Cond.code yX6_findGapsAhead cX6_findGapsAhead 2 none, Cond.fieldLink RX6 42 "TideWords" "gapsAhead" "LTideWords$Cells;", Cond.fieldLink RX6 56 "TideWords$World" "tides" "LTideWords$Tides;", Cond.fieldLink RX6 66 "TideWords$World" "steps" "I", Cond.methodLink RX6 286 yX3_gapAt, Cond.instanceMethod yX3_gapAt, Cond.selects RX3 yX3_gapAt yX3_gapAt, Cond.initialized RX3, Cond.code yX3_gapAt cX3_gapAt 2 (some .int)]
def wsX6_leastSlack_r2 : List Cond := [Cond.methodLink RX3 50 yX3_toldAt, Cond.instanceMethod yX3_toldAt, Cond.selects RX3 yX3_toldAt yX3_toldAt, Cond.code yX3_toldAt cX3_toldAt 3 (some .int), Cond.fieldLink RX3 26 "TideWords$Tides" "lies" "LTideWords$Cells;", Cond.methodLink RX3 47 yX3_levelAt, Cond.instanceMethod yX3_levelAt, Cond.selects RX3 yX3_levelAt yX3_levelAt, Cond.code yX3_levelAt cX3_levelAt 6 (some .int), Cond.fieldLink RX3 23 "TideWords$Tides" "periods" "LTideWords$Cells;", Cond.fieldLink RX3 14 "TideWords$Tides" "means" "LTideWords$Cells;", Cond.fieldLink RX3 20 "TideWords$Tides" "swings" "LTideWords$Cells;", Cond.methodLink RX3 41 Lib.Math.min.name, Cond.static Lib.Math.min.name, Cond.initialized "java/lang/Math", Cond.code Lib.Math.min.name Lib.Math.min.code 2 (some .int), Cond.methodLink RX3 37 yX0_get, Cond.instanceMethod yX0_get, Cond.selects RX0 yX0_get yX0_get, Cond.initialized RX0, Cond.code yX0_get cX0_get 2 (some .int), Cond.fieldLink RX0 13 "TideWords$Cells" "cells" "[I", Cond.methodLink RX6 81 yX0_set, Cond.instanceMethod yX0_set]
def wsX6_leastSlack_r3 : List Cond := [Cond.selects RX0 yX0_set yX0_set, Cond.code yX0_set cX0_set 3 none, Cond.methodLink RX6 110 yX0_sum, Cond.instanceMethod yX0_sum, Cond.selects RX0 yX0_sum yX0_sum, Cond.code yX0_sum cX0_sum 3 (some .int), Cond.methodLink RX6 238 yX6_wordsPassingWith, Cond.instanceMethod yX6_wordsPassingWith, Cond.selects RX6 yX6_wordsPassingWith yX6_wordsPassingWith, Cond.code yX6_wordsPassingWith cX6_wordsPassingWith 4 (some .int), Cond.fieldLink RX6 16 "TideWords" "trial" "LTideWords$World;", Cond.fieldLink RX6 100 "TideWords$Gates" "slacks" "LTideWords$Cells;", Cond.methodLink RX6 228 yX5_copyFrom, Cond.instanceMethod yX5_copyFrom, Cond.selects RX5 yX5_copyFrom yX5_copyFrom, Cond.initialized RX5, Cond.code yX5_copyFrom cX5_copyFrom 2 none, Cond.fieldLink RX5 12 "TideWords$World" "tides" "LTideWords$Tides;", Cond.fieldLink RX5 21 "TideWords$World" "gates" "LTideWords$Gates;", Cond.fieldLink RX5 28 "TideWords$World" "words" "LTideWords$Words;", Cond.fieldLink RX5 40 "TideWords$World" "steps" "I", Cond.fieldLink RX5 93 "TideWords$World" "letters" "I", Cond.fieldLink RX5 67 "TideWords$World" "idleSteps" "I", Cond.methodLink RX5 134 yX3_copyFrom]
def wsX6_leastSlack_r4 : List Cond := [Cond.instanceMethod yX3_copyFrom, Cond.selects RX3 yX3_copyFrom yX3_copyFrom, Cond.code yX3_copyFrom cX3_copyFrom 2 none, Cond.methodLink RX3 53 yX0_copyFrom, Cond.instanceMethod yX0_copyFrom, Cond.selects RX0 yX0_copyFrom yX0_copyFrom, Cond.code yX0_copyFrom cX0_copyFrom 2 none, Cond.methodLink RX0 19 Lib.Math.min.name, Cond.methodLink RX0 22 arraycopyName, Cond.native arraycopyName, Cond.static arraycopyName, Cond.initialized "java/lang/System", Cond.methodLink RX5 138 yX1_copyFrom, Cond.instanceMethod yX1_copyFrom, Cond.selects RX1 yX1_copyFrom yX1_copyFrom, Cond.initialized RX1, Cond.code yX1_copyFrom cX1_copyFrom 2 none, Cond.fieldLink RX1 14 "TideWords$Gates" "sides" "LTideWords$Cells;", Cond.fieldLink RX1 20 "TideWords$Gates" "slacks" "LTideWords$Cells;", Cond.fieldLink RX1 23 "TideWords$Gates" "ways" "LTideWords$Cells;", Cond.fieldLink RX1 26 "TideWords$Gates" "shuts" "LTideWords$Cells;", Cond.fieldLink RX1 29 "TideWords$Gates" "held" "LTideWords$Cells;", Cond.fieldLink RX1 32 "TideWords$Gates" "lettersDone" "LTideWords$Cells;", Cond.fieldLink RX1 35 "TideWords$Gates" "passedWords" "LTideWords$Cells;"]
def wsX6_leastSlack_r5 : List Cond := [Cond.fieldLink RX1 38 "TideWords$Gates" "vainLetters" "LTideWords$Cells;", Cond.methodLink RX1 65 yX0_copyFrom, Cond.methodLink RX5 141 yX4_copyFrom, Cond.instanceMethod yX4_copyFrom, Cond.selects RX4 yX4_copyFrom yX4_copyFrom, Cond.initialized RX4, Cond.code yX4_copyFrom cX4_copyFrom 2 none, Cond.fieldLink RX4 14 "TideWords$Words" "lengths" "LTideWords$Cells;", Cond.fieldLink RX4 20 "TideWords$Words" "letters" "LTideWords$Cells;", Cond.fieldLink RX4 23 "TideWords$Words" "passedSteps" "LTideWords$Cells;", Cond.fieldLink RX4 26 "TideWords$Words" "passedGates" "LTideWords$Cells;", Cond.fieldLink RX4 29 "TideWords$Words" "timesBack" "LTideWords$Cells;", Cond.fieldLink RX4 32 "TideWords$Words" "rows" "LTideWords$Cells;", Cond.fieldLink RX4 35 "TideWords$Words" "rowLengths" "LTideWords$Cells;", Cond.fieldLink RX4 38 "TideWords$Words" "total" "I", Cond.methodLink RX4 70 yX0_copyFrom, Cond.methodLink RX6 77 yX0_get, Cond.methodLink RX6 292 yX5_stepAcross, Cond.instanceMethod yX5_stepAcross, Cond.selects RX5 yX5_stepAcross yX5_stepAcross, Cond.code yX5_stepAcross cX5_stepAcross 4 none, Cond.methodLink RX5 36 yX1_isOpenAcross, Cond.instanceMethod yX1_isOpenAcross, Cond.selects RX1 yX1_isOpenAcross yX1_isOpenAcross]
def wsX6_leastSlack_r6 : List Cond := [Cond.code yX1_isOpenAcross cX1_isOpenAcross 3 (some .boolean), Cond.methodLink RX1 57 Lib.Math.abs.name, Cond.static Lib.Math.abs.name, Cond.code Lib.Math.abs.name Lib.Math.abs.code 1 (some .int), Cond.methodLink RX1 53 yX1_isShut, Cond.instanceMethod yX1_isShut, Cond.selects RX1 yX1_isShut yX1_isShut, Cond.code yX1_isShut cX1_isShut 2 (some .boolean), Cond.methodLink RX1 49 yX0_get, Cond.methodLink RX5 58 yX5_takeWord, Cond.instanceMethod yX5_takeWord, Cond.selects RX5 yX5_takeWord yX5_takeWord, Cond.code yX5_takeWord cX5_takeWord 2 none, Cond.fieldLink RX5 74 "TideWords$Gates" "held" "LTideWords$Cells;", Cond.fieldLink RX5 78 "TideWords$Gates" "sides" "LTideWords$Cells;", Cond.methodLink RX5 70 yX1_hasWord, Cond.instanceMethod yX1_hasWord, Cond.selects RX1 yX1_hasWord yX1_hasWord, Cond.code yX1_hasWord cX1_hasWord 2 (some .boolean), Cond.methodLink RX5 81 yX0_get, Cond.methodLink RX5 86 yX4_takeWaiting, Cond.instanceMethod yX4_takeWaiting, Cond.selects RX4 yX4_takeWaiting yX4_takeWaiting, Cond.code yX4_takeWaiting cX4_takeWaiting 5 (some .int)]
def wsX6_leastSlack_r7 : List Cond := [Cond.methodLink RX4 49 yX0_get, Cond.methodLink RX4 56 yX4_wordAt, Cond.instanceMethod yX4_wordAt, Cond.selects RX4 yX4_wordAt yX4_wordAt, Cond.code yX4_wordAt cX4_wordAt 3 (some .int), Cond.methodLink RX4 63 yX4_hasPassed, Cond.instanceMethod yX4_hasPassed, Cond.selects RX4 yX4_hasPassed yX4_hasPassed, Cond.code yX4_hasPassed cX4_hasPassed 2 (some .boolean), Cond.methodLink RX4 67 yX4_removeFrom, Cond.instanceMethod yX4_removeFrom, Cond.selects RX4 yX4_removeFrom yX4_removeFrom, Cond.code yX4_removeFrom cX4_removeFrom 6 none, Cond.methodLink RX4 42 yX0_set, Cond.methodLink RX5 89 yX0_set, Cond.methodLink RX5 61 yX5_passLetter, Cond.instanceMethod yX5_passLetter, Cond.selects RX5 yX5_passLetter yX5_passLetter, Cond.code yX5_passLetter cX5_passLetter 3 none, Cond.fieldLink RX5 96 "TideWords$Gates" "lettersDone" "LTideWords$Cells;", Cond.fieldLink RX5 102 "TideWords$Words" "lengths" "LTideWords$Cells;", Cond.fieldLink RX5 108 "TideWords$Gates" "passedWords" "LTideWords$Cells;", Cond.methodLink RX5 99 yX0_add, Cond.instanceMethod yX0_add]
def wsX6_leastSlack_r8 : List Cond := [Cond.selects RX0 yX0_add yX0_add, Cond.code yX0_add cX0_add 3 none, Cond.methodLink RX5 105 yX1_release, Cond.instanceMethod yX1_release, Cond.selects RX1 yX1_release yX1_release, Cond.code yX1_release cX1_release 2 none, Cond.methodLink RX1 45 yX0_set, Cond.methodLink RX5 111 yX4_markPassed, Cond.instanceMethod yX4_markPassed, Cond.selects RX4 yX4_markPassed yX4_markPassed, Cond.code yX4_markPassed cX4_markPassed 4 none, Cond.methodLink RX5 115 yX4_addLast, Cond.instanceMethod yX4_addLast, Cond.selects RX4 yX4_addLast yX4_addLast, Cond.code yX4_addLast cX4_addLast 4 none, Cond.methodLink RX5 64 yX5_sendBack, Cond.instanceMethod yX5_sendBack, Cond.selects RX5 yX5_sendBack yX5_sendBack, Cond.code yX5_sendBack cX5_sendBack 3 none, Cond.fieldLink RX5 118 "TideWords$Gates" "ways" "LTideWords$Cells;", Cond.fieldLink RX5 121 "TideWords$Gates" "vainLetters" "LTideWords$Cells;", Cond.fieldLink RX5 124 "TideWords$Words" "timesBack" "LTideWords$Cells;", Cond.methodLink RX5 127 yX4_addFirst, Cond.instanceMethod yX4_addFirst]
def wsX6_leastSlack_r9 : List Cond := [Cond.selects RX4 yX4_addFirst yX4_addFirst, Cond.code yX4_addFirst cX4_addFirst 6 none, Cond.methodLink RX6 241 yX6_hasGapAhead, Cond.instanceMethod yX6_hasGapAhead, Cond.selects RX6 yX6_hasGapAhead yX6_hasGapAhead, Cond.code yX6_hasGapAhead cX6_hasGapAhead 3 (some .boolean), Cond.methodLink RX6 289 Lib.Math.abs.name]
def wsX6_leastSlack : List Cond := .code yX6_leastSlack cX6_leastSlack 8 (some .int) :: ((wsX6_leastSlack_r1 ++ (wsX6_leastSlack_r2 ++ (wsX6_leastSlack_r3 ++ (wsX6_leastSlack_r4 ++ (wsX6_leastSlack_r5 ++ (wsX6_leastSlack_r6 ++ (wsX6_leastSlack_r7 ++ (wsX6_leastSlack_r8 ++ wsX6_leastSlack_r9)))))))) ++ wsX60 ++ wsX50 ++ wsX40 ++ wsX10 ++ wsX30 ++ wsX00)
def wsX6_openStepsWith : List Cond := .code yX6_openStepsWith cX6_openStepsWith 9 (some .int) :: ([.fieldLink RX6 10 "TideWords" "now" "LTideWords$World;", .fieldLink RX6 56 "TideWords$World" "tides" "LTideWords$Tides;", .fieldLink RX6 74 "TideWords$Tides" "lies" "LTideWords$Cells;", .fieldLink RX6 88 "TideWords$World" "gates" "LTideWords$Gates;", .fieldLink RX6 100 "TideWords$Gates" "slacks" "LTideWords$Cells;", .fieldLink RX6 42 "TideWords" "gapsAhead" "LTideWords$Cells;", .methodLink RX6 289 Lib.Math.abs.name, .static Lib.Math.abs.name, .initialized "java/lang/Math", .code Lib.Math.abs.name Lib.Math.abs.code 1 (some .int), .methodLink RX6 77 yX0_get, .instanceMethod yX0_get, .selects RX0 yX0_get yX0_get, .initialized RX0, .code yX0_get cX0_get 2 (some .int), .fieldLink RX0 13 "TideWords$Cells" "cells" "[I"] ++ wsX60 ++ wsX50 ++ wsX30 ++ wsX10 ++ wsX00)
def wsX6_bestLie_r1 : List Cond := [Cond.methodLink RX6 45 yX6_isStore, Cond.static yX6_isStore, Cond.initialized RX6, Cond.code yX6_isStore cX6_isStore 1 (some .boolean), Cond.methodLink RX6 49 yX6_isWithin, Cond.static yX6_isWithin, Cond.code yX6_isWithin cX6_isWithin 3 (some .boolean), Cond.methodLink RX6 85 yX6_isGate, Cond.static yX6_isGate, Cond.code yX6_isGate cX6_isGate 1 (some .boolean), Cond.methodLink RX6 235 yX6_findGapsAhead, Cond.instanceMethod yX6_findGapsAhead, Cond.selects RX6 yX6_findGapsAhead yX6_findGapsAhead, Cond.code yX6_findGapsAhead cX6_findGapsAhead 2 none, Cond.fieldLink RX6 42 "TideWords" "gapsAhead" "LTideWords$Cells;", Cond.fieldLink RX6 10 "TideWords" "now" "LTideWords$World;", Cond.fieldLink RX6 56 "TideWords$World" "tides" "LTideWords$Tides;", Cond.fieldLink RX6 66 "TideWords$World" "steps" "I", Cond.methodLink RX6 286 yX3_gapAt, Cond.instanceMethod yX3_gapAt, Cond.selects RX3 yX3_gapAt yX3_gapAt, Cond.initialized RX3, Cond.code yX3_gapAt cX3_gapAt 2 (some .int), Cond.methodLink RX3 50 yX3_toldAt]
def wsX6_bestLie_r2 : List Cond := [Cond.instanceMethod yX3_toldAt, Cond.selects RX3 yX3_toldAt yX3_toldAt, Cond.code yX3_toldAt cX3_toldAt 3 (some .int), Cond.fieldLink RX3 26 "TideWords$Tides" "lies" "LTideWords$Cells;", Cond.methodLink RX3 47 yX3_levelAt, Cond.instanceMethod yX3_levelAt, Cond.selects RX3 yX3_levelAt yX3_levelAt, Cond.code yX3_levelAt cX3_levelAt 6 (some .int), Cond.fieldLink RX3 23 "TideWords$Tides" "periods" "LTideWords$Cells;", Cond.fieldLink RX3 14 "TideWords$Tides" "means" "LTideWords$Cells;", Cond.fieldLink RX3 20 "TideWords$Tides" "swings" "LTideWords$Cells;", Cond.methodLink RX3 41 Lib.Math.min.name, Cond.static Lib.Math.min.name, Cond.initialized "java/lang/Math", Cond.code Lib.Math.min.name Lib.Math.min.code 2 (some .int), Cond.methodLink RX3 37 yX0_get, Cond.instanceMethod yX0_get, Cond.selects RX0 yX0_get yX0_get, Cond.initialized RX0, Cond.code yX0_get cX0_get 2 (some .int), Cond.fieldLink RX0 13 "TideWords$Cells" "cells" "[I", Cond.methodLink RX6 81 yX0_set, Cond.instanceMethod yX0_set, Cond.selects RX0 yX0_set yX0_set]
def wsX6_bestLie_r3 : List Cond := [Cond.code yX0_set cX0_set 3 none, Cond.methodLink RX6 244 yX6_openStepsWith, Cond.instanceMethod yX6_openStepsWith, Cond.selects RX6 yX6_openStepsWith yX6_openStepsWith, Cond.code yX6_openStepsWith cX6_openStepsWith 9 (some .int), Cond.fieldLink RX6 74 "TideWords$Tides" "lies" "LTideWords$Cells;", Cond.fieldLink RX6 88 "TideWords$World" "gates" "LTideWords$Gates;", Cond.fieldLink RX6 100 "TideWords$Gates" "slacks" "LTideWords$Cells;", Cond.methodLink RX6 289 Lib.Math.abs.name, Cond.static Lib.Math.abs.name, Cond.code Lib.Math.abs.name Lib.Math.abs.code 1 (some .int), Cond.methodLink RX6 77 yX0_get]
def wsX6_bestLie : List Cond := .code yX6_bestLie cX6_bestLie 8 (some .int) :: ((wsX6_bestLie_r1 ++ (wsX6_bestLie_r2 ++ wsX6_bestLie_r3)) ++ wsX60 ++ wsX50 ++ wsX30 ++ wsX00 ++ wsX10)
def wsX6_codesIn : List Cond := .code yX6_codesIn cX6_codesIn 6 (some .int) :: ([.constantLong RX6 284 (255), .methodLink RX6 49 yX6_isWithin, .static yX6_isWithin, .initialized RX6, .code yX6_isWithin cX6_isWithin 3 (some .boolean)])
def wsX6_codeAt : List Cond := .code yX6_codeAt cX6_codeAt 3 (some .int) :: ([])
def wsX6_write_r1 : List Cond := [Cond.fieldLink RX6 22 "TideWords" "pad" "LTideWords$Pad;", Cond.fieldLink RX6 132 "TideWords$Pad" "length" "I", Cond.methodLink RX6 248 yX6_codesIn, Cond.static yX6_codesIn, Cond.initialized RX6, Cond.code yX6_codesIn cX6_codesIn 6 (some .int), Cond.constantLong RX6 284 (255), Cond.methodLink RX6 49 yX6_isWithin, Cond.static yX6_isWithin, Cond.code yX6_isWithin cX6_isWithin 3 (some .boolean), Cond.methodLink RX6 252 yX6_codeAt, Cond.static yX6_codeAt, Cond.code yX6_codeAt cX6_codeAt 3 (some .int), Cond.methodLink RX6 256 yX2_append, Cond.instanceMethod yX2_append, Cond.selects RX2 yX2_append yX2_append, Cond.initialized RX2, Cond.code yX2_append cX2_append 2 none, Cond.fieldLink RX2 20 "TideWords$Pad" "length" "I", Cond.fieldLink RX2 14 "TideWords$Pad" "codes" "LTideWords$Cells;", Cond.methodLink RX2 24 yX0_set, Cond.instanceMethod yX0_set, Cond.selects RX0 yX0_set yX0_set, Cond.initialized RX0]
def wsX6_write_r2 : List Cond := [Cond.code yX0_set cX0_set 3 none, Cond.fieldLink RX0 13 "TideWords$Cells" "cells" "[I"]
def wsX6_write : List Cond := .code yX6_write cX6_write 5 (some .int) :: ((wsX6_write_r1 ++ wsX6_write_r2) ++ wsX60 ++ wsX20 ++ wsX00)
def wsX6_wipe : List Cond := .code yX6_wipe cX6_wipe 2 (some .int) :: ([.fieldLink RX6 22 "TideWords" "pad" "LTideWords$Pad;", .fieldLink RX6 132 "TideWords$Pad" "length" "I"] ++ wsX60 ++ wsX20)
def wsX6_fault : List Cond := .code yX6_fault cX6_fault 1 (some .int) :: ([.fieldLink RX6 22 "TideWords" "pad" "LTideWords$Pad;", .methodLink RX6 114 yX2_faultPlace, .instanceMethod yX2_faultPlace, .selects RX2 yX2_faultPlace yX2_faultPlace, .initialized RX2, .code yX2_faultPlace cX2_faultPlace 6 (some .int), .fieldLink RX2 20 "TideWords$Pad" "length" "I", .fieldLink RX2 14 "TideWords$Pad" "codes" "LTideWords$Cells;", .methodLink RX2 28 yX0_get, .instanceMethod yX0_get, .selects RX0 yX0_get yX0_get, .initialized RX0, .code yX0_get cX0_get 2 (some .int), .fieldLink RX0 13 "TideWords$Cells" "cells" "[I"] ++ wsX60 ++ wsX20 ++ wsX00)
def wsX6_undo_r1 : List Cond := [Cond.fieldLink RX6 219 "TideWords" "records" "I", Cond.fieldLink RX6 259 "TideWords" "nextRecord" "I", Cond.fieldLink RX6 10 "TideWords" "now" "LTideWords$World;", Cond.fieldLink RX6 26 "TideWords" "history" "[LTideWords$World;", Cond.methodLink RX6 262 yX6_worldIn, Cond.static yX6_worldIn, Cond.initialized RX6, Cond.code yX6_worldIn cX6_worldIn 2 (some (.object "TideWords$World")), Cond.methodLink RX6 228 yX5_copyFrom, Cond.instanceMethod yX5_copyFrom, Cond.selects RX5 yX5_copyFrom yX5_copyFrom, Cond.initialized RX5, Cond.code yX5_copyFrom cX5_copyFrom 2 none, Cond.fieldLink RX5 12 "TideWords$World" "tides" "LTideWords$Tides;", Cond.fieldLink RX5 21 "TideWords$World" "gates" "LTideWords$Gates;", Cond.fieldLink RX5 28 "TideWords$World" "words" "LTideWords$Words;", Cond.fieldLink RX5 40 "TideWords$World" "steps" "I", Cond.fieldLink RX5 93 "TideWords$World" "letters" "I", Cond.fieldLink RX5 67 "TideWords$World" "idleSteps" "I", Cond.methodLink RX5 134 yX3_copyFrom, Cond.instanceMethod yX3_copyFrom, Cond.selects RX3 yX3_copyFrom yX3_copyFrom, Cond.initialized RX3, Cond.code yX3_copyFrom cX3_copyFrom 2 none]
def wsX6_undo_r2 : List Cond := [Cond.fieldLink RX3 14 "TideWords$Tides" "means" "LTideWords$Cells;", Cond.fieldLink RX3 20 "TideWords$Tides" "swings" "LTideWords$Cells;", Cond.fieldLink RX3 23 "TideWords$Tides" "periods" "LTideWords$Cells;", Cond.fieldLink RX3 26 "TideWords$Tides" "lies" "LTideWords$Cells;", Cond.methodLink RX3 53 yX0_copyFrom, Cond.instanceMethod yX0_copyFrom, Cond.selects RX0 yX0_copyFrom yX0_copyFrom, Cond.initialized RX0, Cond.code yX0_copyFrom cX0_copyFrom 2 none, Cond.fieldLink RX0 13 "TideWords$Cells" "cells" "[I", Cond.methodLink RX0 19 Lib.Math.min.name, Cond.static Lib.Math.min.name, Cond.initialized "java/lang/Math", Cond.code Lib.Math.min.name Lib.Math.min.code 2 (some .int), Cond.methodLink RX0 22 arraycopyName, Cond.native arraycopyName, Cond.static arraycopyName, Cond.initialized "java/lang/System", Cond.methodLink RX5 138 yX1_copyFrom, Cond.instanceMethod yX1_copyFrom, Cond.selects RX1 yX1_copyFrom yX1_copyFrom, Cond.initialized RX1, Cond.code yX1_copyFrom cX1_copyFrom 2 none, Cond.fieldLink RX1 14 "TideWords$Gates" "sides" "LTideWords$Cells;"]
def wsX6_undo_r3 : List Cond := [Cond.fieldLink RX1 20 "TideWords$Gates" "slacks" "LTideWords$Cells;", Cond.fieldLink RX1 23 "TideWords$Gates" "ways" "LTideWords$Cells;", Cond.fieldLink RX1 26 "TideWords$Gates" "shuts" "LTideWords$Cells;", Cond.fieldLink RX1 29 "TideWords$Gates" "held" "LTideWords$Cells;", Cond.fieldLink RX1 32 "TideWords$Gates" "lettersDone" "LTideWords$Cells;", Cond.fieldLink RX1 35 "TideWords$Gates" "passedWords" "LTideWords$Cells;", Cond.fieldLink RX1 38 "TideWords$Gates" "vainLetters" "LTideWords$Cells;", Cond.methodLink RX1 65 yX0_copyFrom, Cond.methodLink RX5 141 yX4_copyFrom, Cond.instanceMethod yX4_copyFrom, Cond.selects RX4 yX4_copyFrom yX4_copyFrom, Cond.initialized RX4, Cond.code yX4_copyFrom cX4_copyFrom 2 none, Cond.fieldLink RX4 14 "TideWords$Words" "lengths" "LTideWords$Cells;", Cond.fieldLink RX4 20 "TideWords$Words" "letters" "LTideWords$Cells;", Cond.fieldLink RX4 23 "TideWords$Words" "passedSteps" "LTideWords$Cells;", Cond.fieldLink RX4 26 "TideWords$Words" "passedGates" "LTideWords$Cells;", Cond.fieldLink RX4 29 "TideWords$Words" "timesBack" "LTideWords$Cells;", Cond.fieldLink RX4 32 "TideWords$Words" "rows" "LTideWords$Cells;", Cond.fieldLink RX4 35 "TideWords$Words" "rowLengths" "LTideWords$Cells;", Cond.fieldLink RX4 38 "TideWords$Words" "total" "I", Cond.methodLink RX4 70 yX0_copyFrom]
def wsX6_undo : List Cond := .code yX6_undo cX6_undo 1 (some .int) :: ((wsX6_undo_r1 ++ (wsX6_undo_r2 ++ wsX6_undo_r3)) ++ wsX60 ++ wsX50 ++ wsX30 ++ wsX00 ++ wsX10 ++ wsX40)
def wsX6_save_r1 : List Cond := [Cond.fieldLink RX6 30 "TideWords" "slots" "[LTideWords$World;", Cond.fieldLink RX6 38 "TideWords" "isSaved" "LTideWords$Cells;", Cond.fieldLink RX6 10 "TideWords" "now" "LTideWords$World;", Cond.fieldLink RX6 66 "TideWords$World" "steps" "I", Cond.methodLink RX6 49 yX6_isWithin, Cond.static yX6_isWithin, Cond.initialized RX6, Cond.code yX6_isWithin cX6_isWithin 3 (some .boolean), Cond.methodLink RX6 266 yX6_copyInto, Cond.instanceMethod yX6_copyInto, Cond.selects RX6 yX6_copyInto yX6_copyInto, Cond.code yX6_copyInto cX6_copyInto 4 none, Cond.methodLink RX6 262 yX6_worldIn, Cond.static yX6_worldIn, Cond.code yX6_worldIn cX6_worldIn 2 (some (.object "TideWords$World")), Cond.methodLink RX6 228 yX5_copyFrom, Cond.instanceMethod yX5_copyFrom, Cond.selects RX5 yX5_copyFrom yX5_copyFrom, Cond.initialized RX5, Cond.code yX5_copyFrom cX5_copyFrom 2 none, Cond.fieldLink RX5 12 "TideWords$World" "tides" "LTideWords$Tides;", Cond.fieldLink RX5 21 "TideWords$World" "gates" "LTideWords$Gates;", Cond.fieldLink RX5 28 "TideWords$World" "words" "LTideWords$Words;", Cond.fieldLink RX5 40 "TideWords$World" "steps" "I"]
def wsX6_save_r2 : List Cond := [Cond.fieldLink RX5 93 "TideWords$World" "letters" "I", Cond.fieldLink RX5 67 "TideWords$World" "idleSteps" "I", Cond.methodLink RX5 134 yX3_copyFrom, Cond.instanceMethod yX3_copyFrom, Cond.selects RX3 yX3_copyFrom yX3_copyFrom, Cond.initialized RX3, Cond.code yX3_copyFrom cX3_copyFrom 2 none, Cond.fieldLink RX3 14 "TideWords$Tides" "means" "LTideWords$Cells;", Cond.fieldLink RX3 20 "TideWords$Tides" "swings" "LTideWords$Cells;", Cond.fieldLink RX3 23 "TideWords$Tides" "periods" "LTideWords$Cells;", Cond.fieldLink RX3 26 "TideWords$Tides" "lies" "LTideWords$Cells;", Cond.methodLink RX3 53 yX0_copyFrom, Cond.instanceMethod yX0_copyFrom, Cond.selects RX0 yX0_copyFrom yX0_copyFrom, Cond.initialized RX0, Cond.code yX0_copyFrom cX0_copyFrom 2 none, Cond.fieldLink RX0 13 "TideWords$Cells" "cells" "[I", Cond.methodLink RX0 19 Lib.Math.min.name, Cond.static Lib.Math.min.name, Cond.initialized "java/lang/Math", Cond.code Lib.Math.min.name Lib.Math.min.code 2 (some .int), Cond.methodLink RX0 22 arraycopyName, Cond.native arraycopyName, Cond.static arraycopyName]
def wsX6_save_r3 : List Cond := [Cond.initialized "java/lang/System", Cond.methodLink RX5 138 yX1_copyFrom, Cond.instanceMethod yX1_copyFrom, Cond.selects RX1 yX1_copyFrom yX1_copyFrom, Cond.initialized RX1, Cond.code yX1_copyFrom cX1_copyFrom 2 none, Cond.fieldLink RX1 14 "TideWords$Gates" "sides" "LTideWords$Cells;", Cond.fieldLink RX1 20 "TideWords$Gates" "slacks" "LTideWords$Cells;", Cond.fieldLink RX1 23 "TideWords$Gates" "ways" "LTideWords$Cells;", Cond.fieldLink RX1 26 "TideWords$Gates" "shuts" "LTideWords$Cells;", Cond.fieldLink RX1 29 "TideWords$Gates" "held" "LTideWords$Cells;", Cond.fieldLink RX1 32 "TideWords$Gates" "lettersDone" "LTideWords$Cells;", Cond.fieldLink RX1 35 "TideWords$Gates" "passedWords" "LTideWords$Cells;", Cond.fieldLink RX1 38 "TideWords$Gates" "vainLetters" "LTideWords$Cells;", Cond.methodLink RX1 65 yX0_copyFrom, Cond.methodLink RX5 141 yX4_copyFrom, Cond.instanceMethod yX4_copyFrom, Cond.selects RX4 yX4_copyFrom yX4_copyFrom, Cond.initialized RX4, Cond.code yX4_copyFrom cX4_copyFrom 2 none, Cond.fieldLink RX4 14 "TideWords$Words" "lengths" "LTideWords$Cells;", Cond.fieldLink RX4 20 "TideWords$Words" "letters" "LTideWords$Cells;", Cond.fieldLink RX4 23 "TideWords$Words" "passedSteps" "LTideWords$Cells;", Cond.fieldLink RX4 26 "TideWords$Words" "passedGates" "LTideWords$Cells;"]
def wsX6_save_r4 : List Cond := [Cond.fieldLink RX4 29 "TideWords$Words" "timesBack" "LTideWords$Cells;", Cond.fieldLink RX4 32 "TideWords$Words" "rows" "LTideWords$Cells;", Cond.fieldLink RX4 35 "TideWords$Words" "rowLengths" "LTideWords$Cells;", Cond.fieldLink RX4 38 "TideWords$Words" "total" "I", Cond.methodLink RX4 70 yX0_copyFrom, Cond.methodLink RX6 81 yX0_set, Cond.instanceMethod yX0_set, Cond.selects RX0 yX0_set yX0_set, Cond.code yX0_set cX0_set 3 none]
def wsX6_save : List Cond := .code yX6_save cX6_save 2 (some .int) :: ((wsX6_save_r1 ++ (wsX6_save_r2 ++ (wsX6_save_r3 ++ wsX6_save_r4))) ++ wsX60 ++ wsX50 ++ wsX30 ++ wsX00 ++ wsX10 ++ wsX40)
def wsX6_restore_r1 : List Cond := [Cond.fieldLink RX6 38 "TideWords" "isSaved" "LTideWords$Cells;", Cond.fieldLink RX6 10 "TideWords" "now" "LTideWords$World;", Cond.fieldLink RX6 30 "TideWords" "slots" "[LTideWords$World;", Cond.fieldLink RX6 66 "TideWords$World" "steps" "I", Cond.methodLink RX6 49 yX6_isWithin, Cond.static yX6_isWithin, Cond.initialized RX6, Cond.code yX6_isWithin cX6_isWithin 3 (some .boolean), Cond.methodLink RX6 77 yX0_get, Cond.instanceMethod yX0_get, Cond.selects RX0 yX0_get yX0_get, Cond.initialized RX0, Cond.code yX0_get cX0_get 2 (some .int), Cond.fieldLink RX0 13 "TideWords$Cells" "cells" "[I", Cond.methodLink RX6 53 yX6_record, Cond.instanceMethod yX6_record, Cond.selects RX6 yX6_record yX6_record, Cond.code yX6_record cX6_record 1 none, Cond.fieldLink RX6 26 "TideWords" "history" "[LTideWords$World;", Cond.fieldLink RX6 259 "TideWords" "nextRecord" "I", Cond.fieldLink RX6 219 "TideWords" "records" "I", Cond.methodLink RX6 270 Lib.Math.min.name, Cond.static Lib.Math.min.name, Cond.initialized "java/lang/Math"]
def wsX6_restore_r2 : List Cond := [Cond.code Lib.Math.min.name Lib.Math.min.code 2 (some .int), Cond.methodLink RX6 266 yX6_copyInto, Cond.instanceMethod yX6_copyInto, Cond.selects RX6 yX6_copyInto yX6_copyInto, Cond.code yX6_copyInto cX6_copyInto 4 none, Cond.methodLink RX6 262 yX6_worldIn, Cond.static yX6_worldIn, Cond.code yX6_worldIn cX6_worldIn 2 (some (.object "TideWords$World")), Cond.methodLink RX6 228 yX5_copyFrom, Cond.instanceMethod yX5_copyFrom, Cond.selects RX5 yX5_copyFrom yX5_copyFrom, Cond.initialized RX5, Cond.code yX5_copyFrom cX5_copyFrom 2 none, Cond.fieldLink RX5 12 "TideWords$World" "tides" "LTideWords$Tides;", Cond.fieldLink RX5 21 "TideWords$World" "gates" "LTideWords$Gates;", Cond.fieldLink RX5 28 "TideWords$World" "words" "LTideWords$Words;", Cond.fieldLink RX5 40 "TideWords$World" "steps" "I", Cond.fieldLink RX5 93 "TideWords$World" "letters" "I", Cond.fieldLink RX5 67 "TideWords$World" "idleSteps" "I", Cond.methodLink RX5 134 yX3_copyFrom, Cond.instanceMethod yX3_copyFrom, Cond.selects RX3 yX3_copyFrom yX3_copyFrom, Cond.initialized RX3, Cond.code yX3_copyFrom cX3_copyFrom 2 none]
def wsX6_restore_r3 : List Cond := [Cond.fieldLink RX3 14 "TideWords$Tides" "means" "LTideWords$Cells;", Cond.fieldLink RX3 20 "TideWords$Tides" "swings" "LTideWords$Cells;", Cond.fieldLink RX3 23 "TideWords$Tides" "periods" "LTideWords$Cells;", Cond.fieldLink RX3 26 "TideWords$Tides" "lies" "LTideWords$Cells;", Cond.methodLink RX3 53 yX0_copyFrom, Cond.instanceMethod yX0_copyFrom, Cond.selects RX0 yX0_copyFrom yX0_copyFrom, Cond.code yX0_copyFrom cX0_copyFrom 2 none, Cond.methodLink RX0 19 Lib.Math.min.name, Cond.methodLink RX0 22 arraycopyName, Cond.native arraycopyName, Cond.static arraycopyName, Cond.initialized "java/lang/System", Cond.methodLink RX5 138 yX1_copyFrom, Cond.instanceMethod yX1_copyFrom, Cond.selects RX1 yX1_copyFrom yX1_copyFrom, Cond.initialized RX1, Cond.code yX1_copyFrom cX1_copyFrom 2 none, Cond.fieldLink RX1 14 "TideWords$Gates" "sides" "LTideWords$Cells;", Cond.fieldLink RX1 20 "TideWords$Gates" "slacks" "LTideWords$Cells;", Cond.fieldLink RX1 23 "TideWords$Gates" "ways" "LTideWords$Cells;", Cond.fieldLink RX1 26 "TideWords$Gates" "shuts" "LTideWords$Cells;", Cond.fieldLink RX1 29 "TideWords$Gates" "held" "LTideWords$Cells;", Cond.fieldLink RX1 32 "TideWords$Gates" "lettersDone" "LTideWords$Cells;"]
def wsX6_restore_r4 : List Cond := [Cond.fieldLink RX1 35 "TideWords$Gates" "passedWords" "LTideWords$Cells;", Cond.fieldLink RX1 38 "TideWords$Gates" "vainLetters" "LTideWords$Cells;", Cond.methodLink RX1 65 yX0_copyFrom, Cond.methodLink RX5 141 yX4_copyFrom, Cond.instanceMethod yX4_copyFrom, Cond.selects RX4 yX4_copyFrom yX4_copyFrom, Cond.initialized RX4, Cond.code yX4_copyFrom cX4_copyFrom 2 none, Cond.fieldLink RX4 14 "TideWords$Words" "lengths" "LTideWords$Cells;", Cond.fieldLink RX4 20 "TideWords$Words" "letters" "LTideWords$Cells;", Cond.fieldLink RX4 23 "TideWords$Words" "passedSteps" "LTideWords$Cells;", Cond.fieldLink RX4 26 "TideWords$Words" "passedGates" "LTideWords$Cells;", Cond.fieldLink RX4 29 "TideWords$Words" "timesBack" "LTideWords$Cells;", Cond.fieldLink RX4 32 "TideWords$Words" "rows" "LTideWords$Cells;", Cond.fieldLink RX4 35 "TideWords$Words" "rowLengths" "LTideWords$Cells;", Cond.fieldLink RX4 38 "TideWords$Words" "total" "I", Cond.methodLink RX4 70 yX0_copyFrom]
def wsX6_restore : List Cond := .code yX6_restore cX6_restore 2 (some .int) :: ((wsX6_restore_r1 ++ (wsX6_restore_r2 ++ (wsX6_restore_r3 ++ wsX6_restore_r4))) ++ wsX60 ++ wsX50 ++ wsX00 ++ wsX30 ++ wsX10 ++ wsX40)
def wsX7_ofStore : List Cond := .code yX7_ofStore cX7_ofStore 2 (some .int) :: ([])
def wsX7_ofGate : List Cond := .code yX7_ofGate cX7_ofGate 2 (some .int) :: ([])
def wsX7_init : List Cond := .code yX7_init cX7_init 2 none :: ([.methodLink RX7 1 objectInit, .instanceMethod objectInit, .code objectInit ⟨#[0xb1]⟩ 1 none, .arrayClass .int, .fieldLink RX7 7 "TideWordsModel" "s" "[I", .fieldLink RX7 13 "TideWordsModel" "aside" "[I", .fieldLink RX7 16 "TideWordsModel" "history" "[I", .fieldLink RX7 19 "TideWordsModel" "slots" "[I", .arrayClass .boolean, .fieldLink RX7 22 "TideWordsModel" "isSaved" "[Z", .fieldLink RX7 26 "TideWordsModel" "pad" "[I", .methodLink RX7 29 yX7_ofStore, .static yX7_ofStore, .initialized RX7, .code yX7_ofStore cX7_ofStore 2 (some .int), .methodLink RX7 33 yX7_ofGate, .static yX7_ofGate, .code yX7_ofGate cX7_ofGate 2 (some .int)] ++ wsX70)
def wsX7_in : List Cond := .code yX7_in cX7_in 3 (some .boolean) :: ([])
def wsX7_isStore : List Cond := .code yX7_isStore cX7_isStore 1 (some .boolean) :: ([.methodLink RX7 36 yX7_in, .static yX7_in, .initialized RX7, .code yX7_in cX7_in 3 (some .boolean)])
def wsX7_isGate : List Cond := .code yX7_isGate cX7_isGate 1 (some .boolean) :: ([.methodLink RX7 36 yX7_in, .static yX7_in, .initialized RX7, .code yX7_in cX7_in 3 (some .boolean)])
def wsX7_isWord : List Cond := .code yX7_isWord cX7_isWord 2 (some .boolean) :: ([.fieldLink RX7 7 "TideWordsModel" "s" "[I", .methodLink RX7 36 yX7_in, .static yX7_in, .initialized RX7, .code yX7_in cX7_in 3 (some .boolean)] ++ wsX70)
def wsX7_ofWord : List Cond := .code yX7_ofWord cX7_ofWord 2 (some .int) :: ([])
def wsX7_inRow : List Cond := .code yX7_inRow cX7_inRow 2 (some .int) :: ([])
def wsX7_record : List Cond := .code yX7_record cX7_record 2 none :: ([.fieldLink RX7 40 "TideWordsModel" "kept" "I", .fieldLink RX7 16 "TideWordsModel" "history" "[I", .fieldLink RX7 7 "TideWordsModel" "s" "[I"] ++ wsX70)
def wsX7_putAside : List Cond := .code yX7_putAside cX7_putAside 2 none :: ([.fieldLink RX7 13 "TideWordsModel" "aside" "[I", .fieldLink RX7 7 "TideWordsModel" "s" "[I"] ++ wsX70)
def wsX7_putBack : List Cond := .code yX7_putBack cX7_putBack 2 none :: ([.fieldLink RX7 7 "TideWordsModel" "s" "[I", .fieldLink RX7 13 "TideWordsModel" "aside" "[I"] ++ wsX70)
def wsX7_level : List Cond := .code yX7_level cX7_level 6 (some .int) :: ([.fieldLink RX7 7 "TideWordsModel" "s" "[I", .methodLink RX7 29 yX7_ofStore, .static yX7_ofStore, .initialized RX7, .code yX7_ofStore cX7_ofStore 2 (some .int)] ++ wsX70)
def wsX7_off : List Cond := .code yX7_off cX7_off 4 (some .int) :: ([.fieldLink RX7 7 "TideWordsModel" "s" "[I", .methodLink RX7 44 yX7_level, .instanceMethod yX7_level, .selects RX7 yX7_level yX7_level, .initialized RX7, .code yX7_level cX7_level 6 (some .int), .methodLink RX7 29 yX7_ofStore, .static yX7_ofStore, .code yX7_ofStore cX7_ofStore 2 (some .int)] ++ wsX70)
def wsX7_isOpen : List Cond := .code yX7_isOpen cX7_isOpen 3 (some .boolean) :: ([.fieldLink RX7 7 "TideWordsModel" "s" "[I", .methodLink RX7 33 yX7_ofGate, .static yX7_ofGate, .initialized RX7, .code yX7_ofGate cX7_ofGate 2 (some .int), .methodLink RX7 47 yX7_off, .instanceMethod yX7_off, .selects RX7 yX7_off yX7_off, .code yX7_off cX7_off 4 (some .int), .methodLink RX7 44 yX7_level, .instanceMethod yX7_level, .selects RX7 yX7_level yX7_level, .code yX7_level cX7_level 6 (some .int), .methodLink RX7 29 yX7_ofStore, .static yX7_ofStore, .code yX7_ofStore cX7_ofStore 2 (some .int)] ++ wsX70)
def wsX7_openNow : List Cond := .code yX7_openNow cX7_openNow 3 (some .int) :: ([.fieldLink RX7 7 "TideWordsModel" "s" "[I", .methodLink RX7 51 yX7_isOpen, .instanceMethod yX7_isOpen, .selects RX7 yX7_isOpen yX7_isOpen, .initialized RX7, .code yX7_isOpen cX7_isOpen 3 (some .boolean), .methodLink RX7 33 yX7_ofGate, .static yX7_ofGate, .code yX7_ofGate cX7_ofGate 2 (some .int), .methodLink RX7 47 yX7_off, .instanceMethod yX7_off, .selects RX7 yX7_off yX7_off, .code yX7_off cX7_off 4 (some .int), .methodLink RX7 44 yX7_level, .instanceMethod yX7_level, .selects RX7 yX7_level yX7_level, .code yX7_level cX7_level 6 (some .int), .methodLink RX7 29 yX7_ofStore, .static yX7_ofStore, .code yX7_ofStore cX7_ofStore 2 (some .int)] ++ wsX70)
def wsX7_lettersOf : List Cond := .code yX7_lettersOf cX7_lettersOf 4 (some .int) :: ([.fieldLink RX7 7 "TideWordsModel" "s" "[I", .methodLink RX7 55 yX7_ofWord, .static yX7_ofWord, .initialized RX7, .code yX7_ofWord cX7_ofWord 2 (some .int)] ++ wsX70)
def wsX7_letterOf : List Cond := .code yX7_letterOf cX7_letterOf 5 (some .int) :: ([.fieldLink RX7 7 "TideWordsModel" "s" "[I", .methodLink RX7 55 yX7_ofWord, .static yX7_ofWord, .initialized RX7, .code yX7_ofWord cX7_ofWord 2 (some .int), .methodLink RX7 58 yX7_lettersOf, .instanceMethod yX7_lettersOf, .selects RX7 yX7_lettersOf yX7_lettersOf, .code yX7_lettersOf cX7_lettersOf 4 (some .int), .methodLink RX7 36 yX7_in, .static yX7_in, .code yX7_in cX7_in 3 (some .boolean)] ++ wsX70)
def wsX7_hasPassed : List Cond := .code yX7_hasPassed cX7_hasPassed 2 (some .boolean) :: ([.fieldLink RX7 7 "TideWordsModel" "s" "[I", .methodLink RX7 55 yX7_ofWord, .static yX7_ofWord, .initialized RX7, .code yX7_ofWord cX7_ofWord 2 (some .int)] ++ wsX70)
def wsX7_comes : List Cond := .code yX7_comes cX7_comes 3 none :: ([.fieldLink RX7 7 "TideWordsModel" "s" "[I", .methodLink RX7 61 yX7_inRow, .static yX7_inRow, .initialized RX7, .code yX7_inRow cX7_inRow 2 (some .int)] ++ wsX70)
def wsX7_goesBack : List Cond := .code yX7_goesBack cX7_goesBack 4 none :: ([.fieldLink RX7 7 "TideWordsModel" "s" "[I", .methodLink RX7 61 yX7_inRow, .static yX7_inRow, .initialized RX7, .code yX7_inRow cX7_inRow 2 (some .int)] ++ wsX70)
def wsX7_takes : List Cond := .code yX7_takes cX7_takes 5 (some .int) :: ([.fieldLink RX7 7 "TideWordsModel" "s" "[I", .methodLink RX7 61 yX7_inRow, .static yX7_inRow, .initialized RX7, .code yX7_inRow cX7_inRow 2 (some .int), .methodLink RX7 64 yX7_hasPassed, .instanceMethod yX7_hasPassed, .selects RX7 yX7_hasPassed yX7_hasPassed, .code yX7_hasPassed cX7_hasPassed 2 (some .boolean), .methodLink RX7 55 yX7_ofWord, .static yX7_ofWord, .code yX7_ofWord cX7_ofWord 2 (some .int)] ++ wsX70)
def wsX7_acts_r1 : List Cond := [Cond.fieldLink RX7 7 "TideWordsModel" "s" "[I", Cond.methodLink RX7 51 yX7_isOpen, Cond.instanceMethod yX7_isOpen, Cond.selects RX7 yX7_isOpen yX7_isOpen, Cond.initialized RX7, Cond.code yX7_isOpen cX7_isOpen 3 (some .boolean), Cond.methodLink RX7 33 yX7_ofGate, Cond.static yX7_ofGate, Cond.code yX7_ofGate cX7_ofGate 2 (some .int), Cond.methodLink RX7 47 yX7_off, Cond.instanceMethod yX7_off, Cond.selects RX7 yX7_off yX7_off, Cond.code yX7_off cX7_off 4 (some .int), Cond.methodLink RX7 44 yX7_level, Cond.instanceMethod yX7_level, Cond.selects RX7 yX7_level yX7_level, Cond.code yX7_level cX7_level 6 (some .int), Cond.methodLink RX7 29 yX7_ofStore, Cond.static yX7_ofStore, Cond.code yX7_ofStore cX7_ofStore 2 (some .int), Cond.methodLink RX7 68 yX7_takes, Cond.instanceMethod yX7_takes, Cond.selects RX7 yX7_takes yX7_takes, Cond.code yX7_takes cX7_takes 5 (some .int)]
def wsX7_acts_r2 : List Cond := [Cond.methodLink RX7 61 yX7_inRow, Cond.static yX7_inRow, Cond.code yX7_inRow cX7_inRow 2 (some .int), Cond.methodLink RX7 64 yX7_hasPassed, Cond.instanceMethod yX7_hasPassed, Cond.selects RX7 yX7_hasPassed yX7_hasPassed, Cond.code yX7_hasPassed cX7_hasPassed 2 (some .boolean), Cond.methodLink RX7 55 yX7_ofWord, Cond.static yX7_ofWord, Cond.code yX7_ofWord cX7_ofWord 2 (some .int), Cond.methodLink RX7 58 yX7_lettersOf, Cond.instanceMethod yX7_lettersOf, Cond.selects RX7 yX7_lettersOf yX7_lettersOf, Cond.code yX7_lettersOf cX7_lettersOf 4 (some .int), Cond.methodLink RX7 71 yX7_comes, Cond.instanceMethod yX7_comes, Cond.selects RX7 yX7_comes yX7_comes, Cond.code yX7_comes cX7_comes 3 none, Cond.methodLink RX7 75 yX7_goesBack, Cond.instanceMethod yX7_goesBack, Cond.selects RX7 yX7_goesBack yX7_goesBack, Cond.code yX7_goesBack cX7_goesBack 4 none]
def wsX7_acts : List Cond := .code yX7_acts cX7_acts 5 none :: ((wsX7_acts_r1 ++ wsX7_acts_r2) ++ wsX70)
def wsX7_step_r1 : List Cond := [Cond.fieldLink RX7 7 "TideWordsModel" "s" "[I", Cond.methodLink RX7 78 yX7_openNow, Cond.instanceMethod yX7_openNow, Cond.selects RX7 yX7_openNow yX7_openNow, Cond.initialized RX7, Cond.code yX7_openNow cX7_openNow 3 (some .int), Cond.methodLink RX7 51 yX7_isOpen, Cond.instanceMethod yX7_isOpen, Cond.selects RX7 yX7_isOpen yX7_isOpen, Cond.code yX7_isOpen cX7_isOpen 3 (some .boolean), Cond.methodLink RX7 33 yX7_ofGate, Cond.static yX7_ofGate, Cond.code yX7_ofGate cX7_ofGate 2 (some .int), Cond.methodLink RX7 47 yX7_off, Cond.instanceMethod yX7_off, Cond.selects RX7 yX7_off yX7_off, Cond.code yX7_off cX7_off 4 (some .int), Cond.methodLink RX7 44 yX7_level, Cond.instanceMethod yX7_level, Cond.selects RX7 yX7_level yX7_level, Cond.code yX7_level cX7_level 6 (some .int), Cond.methodLink RX7 29 yX7_ofStore, Cond.static yX7_ofStore, Cond.code yX7_ofStore cX7_ofStore 2 (some .int)]
def wsX7_step_r2 : List Cond := [Cond.methodLink RX7 82 yX7_acts, Cond.instanceMethod yX7_acts, Cond.selects RX7 yX7_acts yX7_acts, Cond.code yX7_acts cX7_acts 5 none, Cond.methodLink RX7 68 yX7_takes, Cond.instanceMethod yX7_takes, Cond.selects RX7 yX7_takes yX7_takes, Cond.code yX7_takes cX7_takes 5 (some .int), Cond.methodLink RX7 61 yX7_inRow, Cond.static yX7_inRow, Cond.code yX7_inRow cX7_inRow 2 (some .int), Cond.methodLink RX7 64 yX7_hasPassed, Cond.instanceMethod yX7_hasPassed, Cond.selects RX7 yX7_hasPassed yX7_hasPassed, Cond.code yX7_hasPassed cX7_hasPassed 2 (some .boolean), Cond.methodLink RX7 55 yX7_ofWord, Cond.static yX7_ofWord, Cond.code yX7_ofWord cX7_ofWord 2 (some .int), Cond.methodLink RX7 58 yX7_lettersOf, Cond.instanceMethod yX7_lettersOf, Cond.selects RX7 yX7_lettersOf yX7_lettersOf, Cond.code yX7_lettersOf cX7_lettersOf 4 (some .int), Cond.methodLink RX7 71 yX7_comes, Cond.instanceMethod yX7_comes]
def wsX7_step_r3 : List Cond := [Cond.selects RX7 yX7_comes yX7_comes, Cond.code yX7_comes cX7_comes 3 none, Cond.methodLink RX7 75 yX7_goesBack, Cond.instanceMethod yX7_goesBack, Cond.selects RX7 yX7_goesBack yX7_goesBack, Cond.code yX7_goesBack cX7_goesBack 4 none]
def wsX7_step : List Cond := .code yX7_step cX7_step 2 none :: ((wsX7_step_r1 ++ (wsX7_step_r2 ++ wsX7_step_r3)) ++ wsX70)
def wsX7_runs_r1 : List Cond := [Cond.methodLink RX7 86 yX7_step, Cond.instanceMethod yX7_step, Cond.selects RX7 yX7_step yX7_step, Cond.initialized RX7, Cond.code yX7_step cX7_step 2 none, Cond.fieldLink RX7 7 "TideWordsModel" "s" "[I", Cond.methodLink RX7 78 yX7_openNow, Cond.instanceMethod yX7_openNow, Cond.selects RX7 yX7_openNow yX7_openNow, Cond.code yX7_openNow cX7_openNow 3 (some .int), Cond.methodLink RX7 51 yX7_isOpen, Cond.instanceMethod yX7_isOpen, Cond.selects RX7 yX7_isOpen yX7_isOpen, Cond.code yX7_isOpen cX7_isOpen 3 (some .boolean), Cond.methodLink RX7 33 yX7_ofGate, Cond.static yX7_ofGate, Cond.code yX7_ofGate cX7_ofGate 2 (some .int), Cond.methodLink RX7 47 yX7_off, Cond.instanceMethod yX7_off, Cond.selects RX7 yX7_off yX7_off, Cond.code yX7_off cX7_off 4 (some .int), Cond.methodLink RX7 44 yX7_level, Cond.instanceMethod yX7_level, Cond.selects RX7 yX7_level yX7_level]
def wsX7_runs_r2 : List Cond := [Cond.code yX7_level cX7_level 6 (some .int), Cond.methodLink RX7 29 yX7_ofStore, Cond.static yX7_ofStore, Cond.code yX7_ofStore cX7_ofStore 2 (some .int), Cond.methodLink RX7 82 yX7_acts, Cond.instanceMethod yX7_acts, Cond.selects RX7 yX7_acts yX7_acts, Cond.code yX7_acts cX7_acts 5 none, Cond.methodLink RX7 68 yX7_takes, Cond.instanceMethod yX7_takes, Cond.selects RX7 yX7_takes yX7_takes, Cond.code yX7_takes cX7_takes 5 (some .int), Cond.methodLink RX7 61 yX7_inRow, Cond.static yX7_inRow, Cond.code yX7_inRow cX7_inRow 2 (some .int), Cond.methodLink RX7 64 yX7_hasPassed, Cond.instanceMethod yX7_hasPassed, Cond.selects RX7 yX7_hasPassed yX7_hasPassed, Cond.code yX7_hasPassed cX7_hasPassed 2 (some .boolean), Cond.methodLink RX7 55 yX7_ofWord, Cond.static yX7_ofWord, Cond.code yX7_ofWord cX7_ofWord 2 (some .int), Cond.methodLink RX7 58 yX7_lettersOf, Cond.instanceMethod yX7_lettersOf]
def wsX7_runs_r3 : List Cond := [Cond.selects RX7 yX7_lettersOf yX7_lettersOf, Cond.code yX7_lettersOf cX7_lettersOf 4 (some .int), Cond.methodLink RX7 71 yX7_comes, Cond.instanceMethod yX7_comes, Cond.selects RX7 yX7_comes yX7_comes, Cond.code yX7_comes cX7_comes 3 none, Cond.methodLink RX7 75 yX7_goesBack, Cond.instanceMethod yX7_goesBack, Cond.selects RX7 yX7_goesBack yX7_goesBack, Cond.code yX7_goesBack cX7_goesBack 4 none]
def wsX7_runs : List Cond := .code yX7_runs cX7_runs 3 none :: ((wsX7_runs_r1 ++ (wsX7_runs_r2 ++ wsX7_runs_r3)) ++ wsX70)
def wsX7_passedWords : List Cond := .code yX7_passedWords cX7_passedWords 3 (some .int) :: ([.fieldLink RX7 7 "TideWordsModel" "s" "[I", .methodLink RX7 55 yX7_ofWord, .static yX7_ofWord, .initialized RX7, .code yX7_ofWord cX7_ofWord 2 (some .int)] ++ wsX70)
def wsX7_backs : List Cond := .code yX7_backs cX7_backs 3 (some .int) :: ([.fieldLink RX7 7 "TideWordsModel" "s" "[I", .methodLink RX7 55 yX7_ofWord, .static yX7_ofWord, .initialized RX7, .code yX7_ofWord cX7_ofWord 2 (some .int)] ++ wsX70)
def wsX7_tide : List Cond := .code yX7_tide cX7_tide 5 (some .int) :: ([.fieldLink RX7 7 "TideWordsModel" "s" "[I", .methodLink RX7 89 yX7_isStore, .static yX7_isStore, .initialized RX7, .code yX7_isStore cX7_isStore 1 (some .boolean), .methodLink RX7 36 yX7_in, .static yX7_in, .code yX7_in cX7_in 3 (some .boolean), .methodLink RX7 92 yX7_record, .instanceMethod yX7_record, .selects RX7 yX7_record yX7_record, .code yX7_record cX7_record 2 none, .fieldLink RX7 40 "TideWordsModel" "kept" "I", .fieldLink RX7 16 "TideWordsModel" "history" "[I", .methodLink RX7 29 yX7_ofStore, .static yX7_ofStore, .code yX7_ofStore cX7_ofStore 2 (some .int), .methodLink RX7 44 yX7_level, .instanceMethod yX7_level, .selects RX7 yX7_level yX7_level, .code yX7_level cX7_level 6 (some .int)] ++ wsX70)
def wsX7_lays : List Cond := .code yX7_lays cX7_lays 4 (some .int) :: ([.fieldLink RX7 7 "TideWordsModel" "s" "[I", .methodLink RX7 92 yX7_record, .instanceMethod yX7_record, .selects RX7 yX7_record yX7_record, .initialized RX7, .code yX7_record cX7_record 2 none, .fieldLink RX7 40 "TideWordsModel" "kept" "I", .fieldLink RX7 16 "TideWordsModel" "history" "[I"] ++ wsX70)
def wsX7_gauge : List Cond := .code yX7_gauge cX7_gauge 3 (some .int) :: ([.methodLink RX7 89 yX7_isStore, .static yX7_isStore, .initialized RX7, .code yX7_isStore cX7_isStore 1 (some .boolean), .methodLink RX7 36 yX7_in, .static yX7_in, .code yX7_in cX7_in 3 (some .boolean), .methodLink RX7 29 yX7_ofStore, .static yX7_ofStore, .code yX7_ofStore cX7_ofStore 2 (some .int), .methodLink RX7 95 yX7_lays, .instanceMethod yX7_lays, .selects RX7 yX7_lays yX7_lays, .code yX7_lays cX7_lays 4 (some .int), .fieldLink RX7 7 "TideWordsModel" "s" "[I", .methodLink RX7 92 yX7_record, .instanceMethod yX7_record, .selects RX7 yX7_record yX7_record, .code yX7_record cX7_record 2 none, .fieldLink RX7 40 "TideWordsModel" "kept" "I", .fieldLink RX7 16 "TideWordsModel" "history" "[I"] ++ wsX70)
def wsX7_gate : List Cond := .code yX7_gate cX7_gate 6 (some .int) :: ([.fieldLink RX7 7 "TideWordsModel" "s" "[I", .methodLink RX7 98 yX7_isGate, .static yX7_isGate, .initialized RX7, .code yX7_isGate cX7_isGate 1 (some .boolean), .methodLink RX7 36 yX7_in, .static yX7_in, .code yX7_in cX7_in 3 (some .boolean), .methodLink RX7 33 yX7_ofGate, .static yX7_ofGate, .code yX7_ofGate cX7_ofGate 2 (some .int), .methodLink RX7 95 yX7_lays, .instanceMethod yX7_lays, .selects RX7 yX7_lays yX7_lays, .code yX7_lays cX7_lays 4 (some .int), .methodLink RX7 92 yX7_record, .instanceMethod yX7_record, .selects RX7 yX7_record yX7_record, .code yX7_record cX7_record 2 none, .fieldLink RX7 40 "TideWordsModel" "kept" "I", .fieldLink RX7 16 "TideWordsModel" "history" "[I"] ++ wsX70)
def wsX7_shut : List Cond := .code yX7_shut cX7_shut 4 (some .int) :: ([.fieldLink RX7 7 "TideWordsModel" "s" "[I", .methodLink RX7 98 yX7_isGate, .static yX7_isGate, .initialized RX7, .code yX7_isGate cX7_isGate 1 (some .boolean), .methodLink RX7 36 yX7_in, .static yX7_in, .code yX7_in cX7_in 3 (some .boolean), .methodLink RX7 33 yX7_ofGate, .static yX7_ofGate, .code yX7_ofGate cX7_ofGate 2 (some .int), .methodLink RX7 95 yX7_lays, .instanceMethod yX7_lays, .selects RX7 yX7_lays yX7_lays, .code yX7_lays cX7_lays 4 (some .int), .methodLink RX7 92 yX7_record, .instanceMethod yX7_record, .selects RX7 yX7_record yX7_record, .code yX7_record cX7_record 2 none, .fieldLink RX7 40 "TideWordsModel" "kept" "I", .fieldLink RX7 16 "TideWordsModel" "history" "[I"] ++ wsX70)
def wsX7_run_r1 : List Cond := [Cond.fieldLink RX7 7 "TideWordsModel" "s" "[I", Cond.constant RX7 101 (99999), Cond.methodLink RX7 36 yX7_in, Cond.static yX7_in, Cond.initialized RX7, Cond.code yX7_in cX7_in 3 (some .boolean), Cond.methodLink RX7 92 yX7_record, Cond.instanceMethod yX7_record, Cond.selects RX7 yX7_record yX7_record, Cond.code yX7_record cX7_record 2 none, Cond.fieldLink RX7 40 "TideWordsModel" "kept" "I", Cond.fieldLink RX7 16 "TideWordsModel" "history" "[I", Cond.methodLink RX7 102 yX7_passedWords, Cond.instanceMethod yX7_passedWords, Cond.selects RX7 yX7_passedWords yX7_passedWords, Cond.code yX7_passedWords cX7_passedWords 3 (some .int), Cond.methodLink RX7 55 yX7_ofWord, Cond.static yX7_ofWord, Cond.code yX7_ofWord cX7_ofWord 2 (some .int), Cond.methodLink RX7 105 yX7_runs, Cond.instanceMethod yX7_runs, Cond.selects RX7 yX7_runs yX7_runs, Cond.code yX7_runs cX7_runs 3 none, Cond.methodLink RX7 86 yX7_step]
def wsX7_run_r2 : List Cond := [Cond.instanceMethod yX7_step, Cond.selects RX7 yX7_step yX7_step, Cond.code yX7_step cX7_step 2 none, Cond.methodLink RX7 78 yX7_openNow, Cond.instanceMethod yX7_openNow, Cond.selects RX7 yX7_openNow yX7_openNow, Cond.code yX7_openNow cX7_openNow 3 (some .int), Cond.methodLink RX7 51 yX7_isOpen, Cond.instanceMethod yX7_isOpen, Cond.selects RX7 yX7_isOpen yX7_isOpen, Cond.code yX7_isOpen cX7_isOpen 3 (some .boolean), Cond.methodLink RX7 33 yX7_ofGate, Cond.static yX7_ofGate, Cond.code yX7_ofGate cX7_ofGate 2 (some .int), Cond.methodLink RX7 47 yX7_off, Cond.instanceMethod yX7_off, Cond.selects RX7 yX7_off yX7_off, Cond.code yX7_off cX7_off 4 (some .int), Cond.methodLink RX7 44 yX7_level, Cond.instanceMethod yX7_level, Cond.selects RX7 yX7_level yX7_level, Cond.code yX7_level cX7_level 6 (some .int), Cond.methodLink RX7 29 yX7_ofStore, Cond.static yX7_ofStore]
def wsX7_run_r3 : List Cond := [Cond.code yX7_ofStore cX7_ofStore 2 (some .int), Cond.methodLink RX7 82 yX7_acts, Cond.instanceMethod yX7_acts, Cond.selects RX7 yX7_acts yX7_acts, Cond.code yX7_acts cX7_acts 5 none, Cond.methodLink RX7 68 yX7_takes, Cond.instanceMethod yX7_takes, Cond.selects RX7 yX7_takes yX7_takes, Cond.code yX7_takes cX7_takes 5 (some .int), Cond.methodLink RX7 61 yX7_inRow, Cond.static yX7_inRow, Cond.code yX7_inRow cX7_inRow 2 (some .int), Cond.methodLink RX7 64 yX7_hasPassed, Cond.instanceMethod yX7_hasPassed, Cond.selects RX7 yX7_hasPassed yX7_hasPassed, Cond.code yX7_hasPassed cX7_hasPassed 2 (some .boolean), Cond.methodLink RX7 58 yX7_lettersOf, Cond.instanceMethod yX7_lettersOf, Cond.selects RX7 yX7_lettersOf yX7_lettersOf, Cond.code yX7_lettersOf cX7_lettersOf 4 (some .int), Cond.methodLink RX7 71 yX7_comes, Cond.instanceMethod yX7_comes, Cond.selects RX7 yX7_comes yX7_comes, Cond.code yX7_comes cX7_comes 3 none]
def wsX7_run_r4 : List Cond := [Cond.methodLink RX7 75 yX7_goesBack, Cond.instanceMethod yX7_goesBack, Cond.selects RX7 yX7_goesBack yX7_goesBack, Cond.code yX7_goesBack cX7_goesBack 4 none]
def wsX7_run : List Cond := .code yX7_run cX7_run 3 (some .int) :: ((wsX7_run_r1 ++ (wsX7_run_r2 ++ (wsX7_run_r3 ++ wsX7_run_r4))) ++ wsX70)
def wsX7_sumOf : List Cond := .code yX7_sumOf cX7_sumOf 6 (some .int) :: ([.fieldLink RX7 7 "TideWordsModel" "s" "[I", .methodLink RX7 61 yX7_inRow, .static yX7_inRow, .initialized RX7, .code yX7_inRow cX7_inRow 2 (some .int), .methodLink RX7 58 yX7_lettersOf, .instanceMethod yX7_lettersOf, .selects RX7 yX7_lettersOf yX7_lettersOf, .code yX7_lettersOf cX7_lettersOf 4 (some .int), .methodLink RX7 55 yX7_ofWord, .static yX7_ofWord, .code yX7_ofWord cX7_ofWord 2 (some .int), .methodLink RX7 64 yX7_hasPassed, .instanceMethod yX7_hasPassed, .selects RX7 yX7_hasPassed yX7_hasPassed, .code yX7_hasPassed cX7_hasPassed 2 (some .boolean)] ++ wsX70)
def wsX7_store_r1 : List Cond := [Cond.fieldLink RX7 7 "TideWordsModel" "s" "[I", Cond.methodLink RX7 89 yX7_isStore, Cond.static yX7_isStore, Cond.initialized RX7, Cond.code yX7_isStore cX7_isStore 1 (some .boolean), Cond.methodLink RX7 36 yX7_in, Cond.static yX7_in, Cond.code yX7_in cX7_in 3 (some .boolean), Cond.methodLink RX7 29 yX7_ofStore, Cond.static yX7_ofStore, Cond.code yX7_ofStore cX7_ofStore 2 (some .int), Cond.methodLink RX7 44 yX7_level, Cond.instanceMethod yX7_level, Cond.selects RX7 yX7_level yX7_level, Cond.code yX7_level cX7_level 6 (some .int), Cond.methodLink RX7 108 yX7_sumOf, Cond.instanceMethod yX7_sumOf, Cond.selects RX7 yX7_sumOf yX7_sumOf, Cond.code yX7_sumOf cX7_sumOf 6 (some .int), Cond.methodLink RX7 61 yX7_inRow, Cond.static yX7_inRow, Cond.code yX7_inRow cX7_inRow 2 (some .int), Cond.methodLink RX7 58 yX7_lettersOf, Cond.instanceMethod yX7_lettersOf]
def wsX7_store_r2 : List Cond := [Cond.selects RX7 yX7_lettersOf yX7_lettersOf, Cond.code yX7_lettersOf cX7_lettersOf 4 (some .int), Cond.methodLink RX7 55 yX7_ofWord, Cond.static yX7_ofWord, Cond.code yX7_ofWord cX7_ofWord 2 (some .int), Cond.methodLink RX7 64 yX7_hasPassed, Cond.instanceMethod yX7_hasPassed, Cond.selects RX7 yX7_hasPassed yX7_hasPassed, Cond.code yX7_hasPassed cX7_hasPassed 2 (some .boolean)]
def wsX7_store : List Cond := .code yX7_store cX7_store 3 (some .int) :: ((wsX7_store_r1 ++ wsX7_store_r2) ++ wsX70)
def wsX7_gateOf_r1 : List Cond := [Cond.fieldLink RX7 7 "TideWordsModel" "s" "[I", Cond.methodLink RX7 98 yX7_isGate, Cond.static yX7_isGate, Cond.initialized RX7, Cond.code yX7_isGate cX7_isGate 1 (some .boolean), Cond.methodLink RX7 36 yX7_in, Cond.static yX7_in, Cond.code yX7_in cX7_in 3 (some .boolean), Cond.methodLink RX7 51 yX7_isOpen, Cond.instanceMethod yX7_isOpen, Cond.selects RX7 yX7_isOpen yX7_isOpen, Cond.code yX7_isOpen cX7_isOpen 3 (some .boolean), Cond.methodLink RX7 33 yX7_ofGate, Cond.static yX7_ofGate, Cond.code yX7_ofGate cX7_ofGate 2 (some .int), Cond.methodLink RX7 47 yX7_off, Cond.instanceMethod yX7_off, Cond.selects RX7 yX7_off yX7_off, Cond.code yX7_off cX7_off 4 (some .int), Cond.methodLink RX7 44 yX7_level, Cond.instanceMethod yX7_level, Cond.selects RX7 yX7_level yX7_level, Cond.code yX7_level cX7_level 6 (some .int), Cond.methodLink RX7 29 yX7_ofStore]
def wsX7_gateOf_r2 : List Cond := [Cond.static yX7_ofStore, Cond.code yX7_ofStore cX7_ofStore 2 (some .int)]
def wsX7_gateOf : List Cond := .code yX7_gateOf cX7_gateOf 3 (some .int) :: ((wsX7_gateOf_r1 ++ wsX7_gateOf_r2) ++ wsX70)
def wsX7_whereIs : List Cond := .code yX7_whereIs cX7_whereIs 4 (some .int) :: ([.fieldLink RX7 7 "TideWordsModel" "s" "[I", .methodLink RX7 61 yX7_inRow, .static yX7_inRow, .initialized RX7, .code yX7_inRow cX7_inRow 2 (some .int), .methodLink RX7 33 yX7_ofGate, .static yX7_ofGate, .code yX7_ofGate cX7_ofGate 2 (some .int)] ++ wsX70)
def wsX7_word_r1 : List Cond := [Cond.fieldLink RX7 7 "TideWordsModel" "s" "[I", Cond.methodLink RX7 111 yX7_isWord, Cond.instanceMethod yX7_isWord, Cond.selects RX7 yX7_isWord yX7_isWord, Cond.initialized RX7, Cond.code yX7_isWord cX7_isWord 2 (some .boolean), Cond.methodLink RX7 36 yX7_in, Cond.static yX7_in, Cond.code yX7_in cX7_in 3 (some .boolean), Cond.methodLink RX7 114 yX7_whereIs, Cond.instanceMethod yX7_whereIs, Cond.selects RX7 yX7_whereIs yX7_whereIs, Cond.code yX7_whereIs cX7_whereIs 4 (some .int), Cond.methodLink RX7 61 yX7_inRow, Cond.static yX7_inRow, Cond.code yX7_inRow cX7_inRow 2 (some .int), Cond.methodLink RX7 33 yX7_ofGate, Cond.static yX7_ofGate, Cond.code yX7_ofGate cX7_ofGate 2 (some .int), Cond.methodLink RX7 58 yX7_lettersOf, Cond.instanceMethod yX7_lettersOf, Cond.selects RX7 yX7_lettersOf yX7_lettersOf, Cond.code yX7_lettersOf cX7_lettersOf 4 (some .int), Cond.methodLink RX7 55 yX7_ofWord]
def wsX7_word_r2 : List Cond := [Cond.static yX7_ofWord, Cond.code yX7_ofWord cX7_ofWord 2 (some .int), Cond.methodLink RX7 117 yX7_letterOf, Cond.instanceMethod yX7_letterOf, Cond.selects RX7 yX7_letterOf yX7_letterOf, Cond.code yX7_letterOf cX7_letterOf 5 (some .int)]
def wsX7_word : List Cond := .code yX7_word cX7_word 3 (some .int) :: ((wsX7_word_r1 ++ wsX7_word_r2) ++ wsX70)
def wsX7_at : List Cond := .code yX7_at cX7_at 3 (some .int) :: ([.fieldLink RX7 7 "TideWordsModel" "s" "[I", .methodLink RX7 89 yX7_isStore, .static yX7_isStore, .initialized RX7, .code yX7_isStore cX7_isStore 1 (some .boolean), .methodLink RX7 36 yX7_in, .static yX7_in, .code yX7_in cX7_in 3 (some .boolean), .methodLink RX7 61 yX7_inRow, .static yX7_inRow, .code yX7_inRow cX7_inRow 2 (some .int)] ++ wsX70)
def wsX7_inGates : List Cond := .code yX7_inGates cX7_inGates 3 (some .int) :: ([.fieldLink RX7 7 "TideWordsModel" "s" "[I", .methodLink RX7 33 yX7_ofGate, .static yX7_ofGate, .initialized RX7, .code yX7_ofGate cX7_ofGate 2 (some .int)] ++ wsX70)
def wsX7_count_r1 : List Cond := [Cond.fieldLink RX7 7 "TideWordsModel" "s" "[I", Cond.fieldLink RX7 123 "TideWordsModel" "length" "I", Cond.fieldLink RX7 40 "TideWordsModel" "kept" "I", Cond.methodLink RX7 102 yX7_passedWords, Cond.instanceMethod yX7_passedWords, Cond.selects RX7 yX7_passedWords yX7_passedWords, Cond.initialized RX7, Cond.code yX7_passedWords cX7_passedWords 3 (some .int), Cond.methodLink RX7 55 yX7_ofWord, Cond.static yX7_ofWord, Cond.code yX7_ofWord cX7_ofWord 2 (some .int), Cond.methodLink RX7 120 yX7_inGates, Cond.instanceMethod yX7_inGates, Cond.selects RX7 yX7_inGates yX7_inGates, Cond.code yX7_inGates cX7_inGates 3 (some .int), Cond.methodLink RX7 33 yX7_ofGate, Cond.static yX7_ofGate, Cond.code yX7_ofGate cX7_ofGate 2 (some .int), Cond.methodLink RX7 78 yX7_openNow, Cond.instanceMethod yX7_openNow, Cond.selects RX7 yX7_openNow yX7_openNow, Cond.code yX7_openNow cX7_openNow 3 (some .int), Cond.methodLink RX7 51 yX7_isOpen, Cond.instanceMethod yX7_isOpen]
def wsX7_count_r2 : List Cond := [Cond.selects RX7 yX7_isOpen yX7_isOpen, Cond.code yX7_isOpen cX7_isOpen 3 (some .boolean), Cond.methodLink RX7 47 yX7_off, Cond.instanceMethod yX7_off, Cond.selects RX7 yX7_off yX7_off, Cond.code yX7_off cX7_off 4 (some .int), Cond.methodLink RX7 44 yX7_level, Cond.instanceMethod yX7_level, Cond.selects RX7 yX7_level yX7_level, Cond.code yX7_level cX7_level 6 (some .int), Cond.methodLink RX7 29 yX7_ofStore, Cond.static yX7_ofStore, Cond.code yX7_ofStore cX7_ofStore 2 (some .int)]
def wsX7_count : List Cond := .code yX7_count cX7_count 2 (some .int) :: ((wsX7_count_r1 ++ wsX7_count_r2) ++ wsX70)
def wsX7_opensIn : List Cond := .code yX7_opensIn cX7_opensIn 3 (some .int) :: ([.fieldLink RX7 7 "TideWordsModel" "s" "[I", .methodLink RX7 51 yX7_isOpen, .instanceMethod yX7_isOpen, .selects RX7 yX7_isOpen yX7_isOpen, .initialized RX7, .code yX7_isOpen cX7_isOpen 3 (some .boolean), .methodLink RX7 33 yX7_ofGate, .static yX7_ofGate, .code yX7_ofGate cX7_ofGate 2 (some .int), .methodLink RX7 47 yX7_off, .instanceMethod yX7_off, .selects RX7 yX7_off yX7_off, .code yX7_off cX7_off 4 (some .int), .methodLink RX7 44 yX7_level, .instanceMethod yX7_level, .selects RX7 yX7_level yX7_level, .code yX7_level cX7_level 6 (some .int), .methodLink RX7 29 yX7_ofStore, .static yX7_ofStore, .code yX7_ofStore cX7_ofStore 2 (some .int)] ++ wsX70)
def wsX7_untilOpen_r1 : List Cond := [Cond.methodLink RX7 98 yX7_isGate, Cond.static yX7_isGate, Cond.initialized RX7, Cond.code yX7_isGate cX7_isGate 1 (some .boolean), Cond.methodLink RX7 36 yX7_in, Cond.static yX7_in, Cond.code yX7_in cX7_in 3 (some .boolean), Cond.methodLink RX7 126 yX7_opensIn, Cond.instanceMethod yX7_opensIn, Cond.selects RX7 yX7_opensIn yX7_opensIn, Cond.code yX7_opensIn cX7_opensIn 3 (some .int), Cond.fieldLink RX7 7 "TideWordsModel" "s" "[I", Cond.methodLink RX7 51 yX7_isOpen, Cond.instanceMethod yX7_isOpen, Cond.selects RX7 yX7_isOpen yX7_isOpen, Cond.code yX7_isOpen cX7_isOpen 3 (some .boolean), Cond.methodLink RX7 33 yX7_ofGate, Cond.static yX7_ofGate, Cond.code yX7_ofGate cX7_ofGate 2 (some .int), Cond.methodLink RX7 47 yX7_off, Cond.instanceMethod yX7_off, Cond.selects RX7 yX7_off yX7_off, Cond.code yX7_off cX7_off 4 (some .int), Cond.methodLink RX7 44 yX7_level]
def wsX7_untilOpen_r2 : List Cond := [Cond.instanceMethod yX7_level, Cond.selects RX7 yX7_level yX7_level, Cond.code yX7_level cX7_level 6 (some .int), Cond.methodLink RX7 29 yX7_ofStore, Cond.static yX7_ofStore, Cond.code yX7_ofStore cX7_ofStore 2 (some .int)]
def wsX7_untilOpen : List Cond := .code yX7_untilOpen cX7_untilOpen 2 (some .int) :: ((wsX7_untilOpen_r1 ++ wsX7_untilOpen_r2) ++ wsX70)
def wsX7_openFor_r1 : List Cond := [Cond.fieldLink RX7 7 "TideWordsModel" "s" "[I", Cond.methodLink RX7 98 yX7_isGate, Cond.static yX7_isGate, Cond.initialized RX7, Cond.code yX7_isGate cX7_isGate 1 (some .boolean), Cond.methodLink RX7 36 yX7_in, Cond.static yX7_in, Cond.code yX7_in cX7_in 3 (some .boolean), Cond.methodLink RX7 126 yX7_opensIn, Cond.instanceMethod yX7_opensIn, Cond.selects RX7 yX7_opensIn yX7_opensIn, Cond.code yX7_opensIn cX7_opensIn 3 (some .int), Cond.methodLink RX7 51 yX7_isOpen, Cond.instanceMethod yX7_isOpen, Cond.selects RX7 yX7_isOpen yX7_isOpen, Cond.code yX7_isOpen cX7_isOpen 3 (some .boolean), Cond.methodLink RX7 33 yX7_ofGate, Cond.static yX7_ofGate, Cond.code yX7_ofGate cX7_ofGate 2 (some .int), Cond.methodLink RX7 47 yX7_off, Cond.instanceMethod yX7_off, Cond.selects RX7 yX7_off yX7_off, Cond.code yX7_off cX7_off 4 (some .int), Cond.methodLink RX7 44 yX7_level]
def wsX7_openFor_r2 : List Cond := [Cond.instanceMethod yX7_level, Cond.selects RX7 yX7_level yX7_level, Cond.code yX7_level cX7_level 6 (some .int), Cond.methodLink RX7 29 yX7_ofStore, Cond.static yX7_ofStore, Cond.code yX7_ofStore cX7_ofStore 2 (some .int)]
def wsX7_openFor : List Cond := .code yX7_openFor cX7_openFor 4 (some .int) :: ((wsX7_openFor_r1 ++ wsX7_openFor_r2) ++ wsX70)
def wsX7_untilPassed_r1 : List Cond := [Cond.methodLink RX7 111 yX7_isWord, Cond.instanceMethod yX7_isWord, Cond.selects RX7 yX7_isWord yX7_isWord, Cond.initialized RX7, Cond.code yX7_isWord cX7_isWord 2 (some .boolean), Cond.fieldLink RX7 7 "TideWordsModel" "s" "[I", Cond.methodLink RX7 36 yX7_in, Cond.static yX7_in, Cond.code yX7_in cX7_in 3 (some .boolean), Cond.methodLink RX7 129 yX7_putAside, Cond.instanceMethod yX7_putAside, Cond.selects RX7 yX7_putAside yX7_putAside, Cond.code yX7_putAside cX7_putAside 2 none, Cond.fieldLink RX7 13 "TideWordsModel" "aside" "[I", Cond.methodLink RX7 64 yX7_hasPassed, Cond.instanceMethod yX7_hasPassed, Cond.selects RX7 yX7_hasPassed yX7_hasPassed, Cond.code yX7_hasPassed cX7_hasPassed 2 (some .boolean), Cond.methodLink RX7 55 yX7_ofWord, Cond.static yX7_ofWord, Cond.code yX7_ofWord cX7_ofWord 2 (some .int), Cond.methodLink RX7 86 yX7_step, Cond.instanceMethod yX7_step, Cond.selects RX7 yX7_step yX7_step]
def wsX7_untilPassed_r2 : List Cond := [Cond.code yX7_step cX7_step 2 none, Cond.methodLink RX7 78 yX7_openNow, Cond.instanceMethod yX7_openNow, Cond.selects RX7 yX7_openNow yX7_openNow, Cond.code yX7_openNow cX7_openNow 3 (some .int), Cond.methodLink RX7 51 yX7_isOpen, Cond.instanceMethod yX7_isOpen, Cond.selects RX7 yX7_isOpen yX7_isOpen, Cond.code yX7_isOpen cX7_isOpen 3 (some .boolean), Cond.methodLink RX7 33 yX7_ofGate, Cond.static yX7_ofGate, Cond.code yX7_ofGate cX7_ofGate 2 (some .int), Cond.methodLink RX7 47 yX7_off, Cond.instanceMethod yX7_off, Cond.selects RX7 yX7_off yX7_off, Cond.code yX7_off cX7_off 4 (some .int), Cond.methodLink RX7 44 yX7_level, Cond.instanceMethod yX7_level, Cond.selects RX7 yX7_level yX7_level, Cond.code yX7_level cX7_level 6 (some .int), Cond.methodLink RX7 29 yX7_ofStore, Cond.static yX7_ofStore, Cond.code yX7_ofStore cX7_ofStore 2 (some .int), Cond.methodLink RX7 82 yX7_acts]
def wsX7_untilPassed_r3 : List Cond := [Cond.instanceMethod yX7_acts, Cond.selects RX7 yX7_acts yX7_acts, Cond.code yX7_acts cX7_acts 5 none, Cond.methodLink RX7 68 yX7_takes, Cond.instanceMethod yX7_takes, Cond.selects RX7 yX7_takes yX7_takes, Cond.code yX7_takes cX7_takes 5 (some .int), Cond.methodLink RX7 61 yX7_inRow, Cond.static yX7_inRow, Cond.code yX7_inRow cX7_inRow 2 (some .int), Cond.methodLink RX7 58 yX7_lettersOf, Cond.instanceMethod yX7_lettersOf, Cond.selects RX7 yX7_lettersOf yX7_lettersOf, Cond.code yX7_lettersOf cX7_lettersOf 4 (some .int), Cond.methodLink RX7 71 yX7_comes, Cond.instanceMethod yX7_comes, Cond.selects RX7 yX7_comes yX7_comes, Cond.code yX7_comes cX7_comes 3 none, Cond.methodLink RX7 75 yX7_goesBack, Cond.instanceMethod yX7_goesBack, Cond.selects RX7 yX7_goesBack yX7_goesBack, Cond.code yX7_goesBack cX7_goesBack 4 none, Cond.methodLink RX7 132 yX7_putBack, Cond.instanceMethod yX7_putBack]
def wsX7_untilPassed_r4 : List Cond := [Cond.selects RX7 yX7_putBack yX7_putBack, Cond.code yX7_putBack cX7_putBack 2 none]
def wsX7_untilPassed : List Cond := .code yX7_untilPassed cX7_untilPassed 4 (some .int) :: ((wsX7_untilPassed_r1 ++ (wsX7_untilPassed_r2 ++ (wsX7_untilPassed_r3 ++ wsX7_untilPassed_r4))) ++ wsX70)
def wsX7_ifRun_r1 : List Cond := [Cond.fieldLink RX7 7 "TideWordsModel" "s" "[I", Cond.methodLink RX7 36 yX7_in, Cond.static yX7_in, Cond.initialized RX7, Cond.code yX7_in cX7_in 3 (some .boolean), Cond.methodLink RX7 129 yX7_putAside, Cond.instanceMethod yX7_putAside, Cond.selects RX7 yX7_putAside yX7_putAside, Cond.code yX7_putAside cX7_putAside 2 none, Cond.fieldLink RX7 13 "TideWordsModel" "aside" "[I", Cond.methodLink RX7 102 yX7_passedWords, Cond.instanceMethod yX7_passedWords, Cond.selects RX7 yX7_passedWords yX7_passedWords, Cond.code yX7_passedWords cX7_passedWords 3 (some .int), Cond.methodLink RX7 55 yX7_ofWord, Cond.static yX7_ofWord, Cond.code yX7_ofWord cX7_ofWord 2 (some .int), Cond.methodLink RX7 135 yX7_backs, Cond.instanceMethod yX7_backs, Cond.selects RX7 yX7_backs yX7_backs, Cond.code yX7_backs cX7_backs 3 (some .int), Cond.methodLink RX7 105 yX7_runs, Cond.instanceMethod yX7_runs, Cond.selects RX7 yX7_runs yX7_runs]
def wsX7_ifRun_r2 : List Cond := [Cond.code yX7_runs cX7_runs 3 none, Cond.methodLink RX7 86 yX7_step, Cond.instanceMethod yX7_step, Cond.selects RX7 yX7_step yX7_step, Cond.code yX7_step cX7_step 2 none, Cond.methodLink RX7 78 yX7_openNow, Cond.instanceMethod yX7_openNow, Cond.selects RX7 yX7_openNow yX7_openNow, Cond.code yX7_openNow cX7_openNow 3 (some .int), Cond.methodLink RX7 51 yX7_isOpen, Cond.instanceMethod yX7_isOpen, Cond.selects RX7 yX7_isOpen yX7_isOpen, Cond.code yX7_isOpen cX7_isOpen 3 (some .boolean), Cond.methodLink RX7 33 yX7_ofGate, Cond.static yX7_ofGate, Cond.code yX7_ofGate cX7_ofGate 2 (some .int), Cond.methodLink RX7 47 yX7_off, Cond.instanceMethod yX7_off, Cond.selects RX7 yX7_off yX7_off, Cond.code yX7_off cX7_off 4 (some .int), Cond.methodLink RX7 44 yX7_level, Cond.instanceMethod yX7_level, Cond.selects RX7 yX7_level yX7_level, Cond.code yX7_level cX7_level 6 (some .int)]
def wsX7_ifRun_r3 : List Cond := [Cond.methodLink RX7 29 yX7_ofStore, Cond.static yX7_ofStore, Cond.code yX7_ofStore cX7_ofStore 2 (some .int), Cond.methodLink RX7 82 yX7_acts, Cond.instanceMethod yX7_acts, Cond.selects RX7 yX7_acts yX7_acts, Cond.code yX7_acts cX7_acts 5 none, Cond.methodLink RX7 68 yX7_takes, Cond.instanceMethod yX7_takes, Cond.selects RX7 yX7_takes yX7_takes, Cond.code yX7_takes cX7_takes 5 (some .int), Cond.methodLink RX7 61 yX7_inRow, Cond.static yX7_inRow, Cond.code yX7_inRow cX7_inRow 2 (some .int), Cond.methodLink RX7 64 yX7_hasPassed, Cond.instanceMethod yX7_hasPassed, Cond.selects RX7 yX7_hasPassed yX7_hasPassed, Cond.code yX7_hasPassed cX7_hasPassed 2 (some .boolean), Cond.methodLink RX7 58 yX7_lettersOf, Cond.instanceMethod yX7_lettersOf, Cond.selects RX7 yX7_lettersOf yX7_lettersOf, Cond.code yX7_lettersOf cX7_lettersOf 4 (some .int), Cond.methodLink RX7 71 yX7_comes, Cond.instanceMethod yX7_comes]
def wsX7_ifRun_r4 : List Cond := [Cond.selects RX7 yX7_comes yX7_comes, Cond.code yX7_comes cX7_comes 3 none, Cond.methodLink RX7 75 yX7_goesBack, Cond.instanceMethod yX7_goesBack, Cond.selects RX7 yX7_goesBack yX7_goesBack, Cond.code yX7_goesBack cX7_goesBack 4 none, Cond.methodLink RX7 132 yX7_putBack, Cond.instanceMethod yX7_putBack, Cond.selects RX7 yX7_putBack yX7_putBack, Cond.code yX7_putBack cX7_putBack 2 none]
def wsX7_ifRun : List Cond := .code yX7_ifRun cX7_ifRun 5 (some .int) :: ((wsX7_ifRun_r1 ++ (wsX7_ifRun_r2 ++ (wsX7_ifRun_r3 ++ wsX7_ifRun_r4))) ++ wsX70)
def wsX7_leastSlack_r1 : List Cond := [Cond.fieldLink RX7 7 "TideWordsModel" "s" "[I", Cond.methodLink RX7 98 yX7_isGate, Cond.static yX7_isGate, Cond.initialized RX7, Cond.code yX7_isGate cX7_isGate 1 (some .boolean), Cond.methodLink RX7 36 yX7_in, Cond.static yX7_in, Cond.code yX7_in cX7_in 3 (some .boolean), Cond.methodLink RX7 102 yX7_passedWords, Cond.instanceMethod yX7_passedWords, Cond.selects RX7 yX7_passedWords yX7_passedWords, Cond.code yX7_passedWords cX7_passedWords 3 (some .int), Cond.methodLink RX7 55 yX7_ofWord, Cond.static yX7_ofWord, Cond.code yX7_ofWord cX7_ofWord 2 (some .int), Cond.methodLink RX7 129 yX7_putAside, Cond.instanceMethod yX7_putAside, Cond.selects RX7 yX7_putAside yX7_putAside, Cond.code yX7_putAside cX7_putAside 2 none, Cond.fieldLink RX7 13 "TideWordsModel" "aside" "[I", Cond.methodLink RX7 33 yX7_ofGate, Cond.static yX7_ofGate, Cond.code yX7_ofGate cX7_ofGate 2 (some .int), Cond.methodLink RX7 105 yX7_runs]
def wsX7_leastSlack_r2 : List Cond := [Cond.instanceMethod yX7_runs, Cond.selects RX7 yX7_runs yX7_runs, Cond.code yX7_runs cX7_runs 3 none, Cond.methodLink RX7 86 yX7_step, Cond.instanceMethod yX7_step, Cond.selects RX7 yX7_step yX7_step, Cond.code yX7_step cX7_step 2 none, Cond.methodLink RX7 78 yX7_openNow, Cond.instanceMethod yX7_openNow, Cond.selects RX7 yX7_openNow yX7_openNow, Cond.code yX7_openNow cX7_openNow 3 (some .int), Cond.methodLink RX7 51 yX7_isOpen, Cond.instanceMethod yX7_isOpen, Cond.selects RX7 yX7_isOpen yX7_isOpen, Cond.code yX7_isOpen cX7_isOpen 3 (some .boolean), Cond.methodLink RX7 47 yX7_off, Cond.instanceMethod yX7_off, Cond.selects RX7 yX7_off yX7_off, Cond.code yX7_off cX7_off 4 (some .int), Cond.methodLink RX7 44 yX7_level, Cond.instanceMethod yX7_level, Cond.selects RX7 yX7_level yX7_level, Cond.code yX7_level cX7_level 6 (some .int), Cond.methodLink RX7 29 yX7_ofStore]
def wsX7_leastSlack_r3 : List Cond := [Cond.static yX7_ofStore, Cond.code yX7_ofStore cX7_ofStore 2 (some .int), Cond.methodLink RX7 82 yX7_acts, Cond.instanceMethod yX7_acts, Cond.selects RX7 yX7_acts yX7_acts, Cond.code yX7_acts cX7_acts 5 none, Cond.methodLink RX7 68 yX7_takes, Cond.instanceMethod yX7_takes, Cond.selects RX7 yX7_takes yX7_takes, Cond.code yX7_takes cX7_takes 5 (some .int), Cond.methodLink RX7 61 yX7_inRow, Cond.static yX7_inRow, Cond.code yX7_inRow cX7_inRow 2 (some .int), Cond.methodLink RX7 64 yX7_hasPassed, Cond.instanceMethod yX7_hasPassed, Cond.selects RX7 yX7_hasPassed yX7_hasPassed, Cond.code yX7_hasPassed cX7_hasPassed 2 (some .boolean), Cond.methodLink RX7 58 yX7_lettersOf, Cond.instanceMethod yX7_lettersOf, Cond.selects RX7 yX7_lettersOf yX7_lettersOf, Cond.code yX7_lettersOf cX7_lettersOf 4 (some .int), Cond.methodLink RX7 71 yX7_comes, Cond.instanceMethod yX7_comes, Cond.selects RX7 yX7_comes yX7_comes]
def wsX7_leastSlack_r4 : List Cond := [Cond.code yX7_comes cX7_comes 3 none, Cond.methodLink RX7 75 yX7_goesBack, Cond.instanceMethod yX7_goesBack, Cond.selects RX7 yX7_goesBack yX7_goesBack, Cond.code yX7_goesBack cX7_goesBack 4 none, Cond.methodLink RX7 132 yX7_putBack, Cond.instanceMethod yX7_putBack, Cond.selects RX7 yX7_putBack yX7_putBack, Cond.code yX7_putBack cX7_putBack 2 none]
def wsX7_leastSlack : List Cond := .code yX7_leastSlack cX7_leastSlack 8 (some .int) :: ((wsX7_leastSlack_r1 ++ (wsX7_leastSlack_r2 ++ (wsX7_leastSlack_r3 ++ wsX7_leastSlack_r4))) ++ wsX70)
def wsX7_opensWith : List Cond := .code yX7_opensWith cX7_opensWith 7 (some .int) :: ([.fieldLink RX7 7 "TideWordsModel" "s" "[I", .methodLink RX7 29 yX7_ofStore, .static yX7_ofStore, .initialized RX7, .code yX7_ofStore cX7_ofStore 2 (some .int), .methodLink RX7 47 yX7_off, .instanceMethod yX7_off, .selects RX7 yX7_off yX7_off, .code yX7_off cX7_off 4 (some .int), .methodLink RX7 44 yX7_level, .instanceMethod yX7_level, .selects RX7 yX7_level yX7_level, .code yX7_level cX7_level 6 (some .int), .methodLink RX7 33 yX7_ofGate, .static yX7_ofGate, .code yX7_ofGate cX7_ofGate 2 (some .int)] ++ wsX70)
def wsX7_bestLie_r1 : List Cond := [Cond.methodLink RX7 89 yX7_isStore, Cond.static yX7_isStore, Cond.initialized RX7, Cond.code yX7_isStore cX7_isStore 1 (some .boolean), Cond.methodLink RX7 36 yX7_in, Cond.static yX7_in, Cond.code yX7_in cX7_in 3 (some .boolean), Cond.methodLink RX7 98 yX7_isGate, Cond.static yX7_isGate, Cond.code yX7_isGate cX7_isGate 1 (some .boolean), Cond.methodLink RX7 138 yX7_opensWith, Cond.instanceMethod yX7_opensWith, Cond.selects RX7 yX7_opensWith yX7_opensWith, Cond.code yX7_opensWith cX7_opensWith 7 (some .int), Cond.fieldLink RX7 7 "TideWordsModel" "s" "[I", Cond.methodLink RX7 29 yX7_ofStore, Cond.static yX7_ofStore, Cond.code yX7_ofStore cX7_ofStore 2 (some .int), Cond.methodLink RX7 47 yX7_off, Cond.instanceMethod yX7_off, Cond.selects RX7 yX7_off yX7_off, Cond.code yX7_off cX7_off 4 (some .int), Cond.methodLink RX7 44 yX7_level, Cond.instanceMethod yX7_level]
def wsX7_bestLie_r2 : List Cond := [Cond.selects RX7 yX7_level yX7_level, Cond.code yX7_level cX7_level 6 (some .int), Cond.methodLink RX7 33 yX7_ofGate, Cond.static yX7_ofGate, Cond.code yX7_ofGate cX7_ofGate 2 (some .int)]
def wsX7_bestLie : List Cond := .code yX7_bestLie cX7_bestLie 8 (some .int) :: ((wsX7_bestLie_r1 ++ wsX7_bestLie_r2) ++ wsX70)
def wsX7_write : List Cond := .code yX7_write cX7_write 8 (some .int) :: ([.constantLong RX7 142 (255), .fieldLink RX7 123 "TideWordsModel" "length" "I", .fieldLink RX7 26 "TideWordsModel" "pad" "[I", .methodLink RX7 36 yX7_in, .static yX7_in, .initialized RX7, .code yX7_in cX7_in 3 (some .boolean)] ++ wsX70)
def wsX7_wipe : List Cond := .code yX7_wipe cX7_wipe 2 (some .int) :: ([.fieldLink RX7 123 "TideWordsModel" "length" "I"] ++ wsX70)
def wsX7_behind : List Cond := .code yX7_behind cX7_behind 3 (some .int) :: ([.fieldLink RX7 123 "TideWordsModel" "length" "I", .fieldLink RX7 26 "TideWordsModel" "pad" "[I", .methodLink RX7 36 yX7_in, .static yX7_in, .initialized RX7, .code yX7_in cX7_in 3 (some .boolean)] ++ wsX70)
def wsX7_wrong : List Cond := .code yX7_wrong cX7_wrong 3 (some .int) :: ([.fieldLink RX7 123 "TideWordsModel" "length" "I", .fieldLink RX7 26 "TideWordsModel" "pad" "[I", .methodLink RX7 144 yX7_behind, .instanceMethod yX7_behind, .selects RX7 yX7_behind yX7_behind, .initialized RX7, .code yX7_behind cX7_behind 3 (some .int), .methodLink RX7 36 yX7_in, .static yX7_in, .code yX7_in cX7_in 3 (some .boolean)] ++ wsX70)
def wsX7_fault : List Cond := .code yX7_fault cX7_fault 1 (some .int) :: ([.methodLink RX7 147 yX7_wrong, .instanceMethod yX7_wrong, .selects RX7 yX7_wrong yX7_wrong, .initialized RX7, .code yX7_wrong cX7_wrong 3 (some .int), .fieldLink RX7 123 "TideWordsModel" "length" "I", .fieldLink RX7 26 "TideWordsModel" "pad" "[I", .methodLink RX7 144 yX7_behind, .instanceMethod yX7_behind, .selects RX7 yX7_behind yX7_behind, .code yX7_behind cX7_behind 3 (some .int), .methodLink RX7 36 yX7_in, .static yX7_in, .code yX7_in cX7_in 3 (some .boolean)] ++ wsX70)
def wsX7_told : List Cond := .code yX7_told cX7_told 3 (some .int) :: ([.fieldLink RX7 123 "TideWordsModel" "length" "I", .fieldLink RX7 26 "TideWordsModel" "pad" "[I"] ++ wsX70)
def wsX7_put_r1 : List Cond := [Cond.fieldLink RX7 7 "TideWordsModel" "s" "[I", Cond.fieldLink RX7 123 "TideWordsModel" "length" "I", Cond.fieldLink RX7 26 "TideWordsModel" "pad" "[I", Cond.methodLink RX7 89 yX7_isStore, Cond.static yX7_isStore, Cond.initialized RX7, Cond.code yX7_isStore cX7_isStore 1 (some .boolean), Cond.methodLink RX7 36 yX7_in, Cond.static yX7_in, Cond.code yX7_in cX7_in 3 (some .boolean), Cond.methodLink RX7 147 yX7_wrong, Cond.instanceMethod yX7_wrong, Cond.selects RX7 yX7_wrong yX7_wrong, Cond.code yX7_wrong cX7_wrong 3 (some .int), Cond.methodLink RX7 144 yX7_behind, Cond.instanceMethod yX7_behind, Cond.selects RX7 yX7_behind yX7_behind, Cond.code yX7_behind cX7_behind 3 (some .int), Cond.methodLink RX7 150 yX7_told, Cond.instanceMethod yX7_told, Cond.selects RX7 yX7_told yX7_told, Cond.code yX7_told cX7_told 3 (some .int), Cond.methodLink RX7 92 yX7_record, Cond.instanceMethod yX7_record]
def wsX7_put_r2 : List Cond := [Cond.selects RX7 yX7_record yX7_record, Cond.code yX7_record cX7_record 2 none, Cond.fieldLink RX7 40 "TideWordsModel" "kept" "I", Cond.fieldLink RX7 16 "TideWordsModel" "history" "[I", Cond.methodLink RX7 55 yX7_ofWord, Cond.static yX7_ofWord, Cond.code yX7_ofWord cX7_ofWord 2 (some .int), Cond.methodLink RX7 71 yX7_comes, Cond.instanceMethod yX7_comes, Cond.selects RX7 yX7_comes yX7_comes, Cond.code yX7_comes cX7_comes 3 none, Cond.methodLink RX7 61 yX7_inRow, Cond.static yX7_inRow, Cond.code yX7_inRow cX7_inRow 2 (some .int)]
def wsX7_put : List Cond := .code yX7_put cX7_put 5 (some .int) :: ((wsX7_put_r1 ++ wsX7_put_r2) ++ wsX70)
def wsX7_undo : List Cond := .code yX7_undo cX7_undo 2 (some .int) :: ([.fieldLink RX7 40 "TideWordsModel" "kept" "I", .fieldLink RX7 7 "TideWordsModel" "s" "[I", .fieldLink RX7 16 "TideWordsModel" "history" "[I"] ++ wsX70)
def wsX7_save : List Cond := .code yX7_save cX7_save 3 (some .int) :: ([.fieldLink RX7 19 "TideWordsModel" "slots" "[I", .fieldLink RX7 7 "TideWordsModel" "s" "[I", .fieldLink RX7 22 "TideWordsModel" "isSaved" "[Z", .methodLink RX7 36 yX7_in, .static yX7_in, .initialized RX7, .code yX7_in cX7_in 3 (some .boolean)] ++ wsX70)
def wsX7_restore : List Cond := .code yX7_restore cX7_restore 3 (some .int) :: ([.fieldLink RX7 22 "TideWordsModel" "isSaved" "[Z", .fieldLink RX7 7 "TideWordsModel" "s" "[I", .fieldLink RX7 19 "TideWordsModel" "slots" "[I", .methodLink RX7 36 yX7_in, .static yX7_in, .initialized RX7, .code yX7_in cX7_in 3 (some .boolean), .methodLink RX7 92 yX7_record, .instanceMethod yX7_record, .selects RX7 yX7_record yX7_record, .code yX7_record cX7_record 2 none, .fieldLink RX7 40 "TideWordsModel" "kept" "I", .fieldLink RX7 16 "TideWordsModel" "history" "[I"] ++ wsX70)
def wsJ9_abs_0f7a4 : List Cond := .code yJ9_abs_0f7a4 cJ9_abs_0f7a4 1 (some .int) :: ([])
def wsJ9_max_7cf53 : List Cond := .code yJ9_max_7cf53 cJ9_max_7cf53 2 (some .int) :: ([])
def wsJ9_min_7cf53 : List Cond := .code yJ9_min_7cf53 cJ9_min_7cf53 2 (some .int) :: ([])
abbrev vwCl : List vw_C := [(RX0, TX0, 1), (RX1, TX1, 8), (RX2, TX2, 2), (RX3, TX3, 4), (RX4, TX4, 8), (RX5, TX5, 6), (RX6, TX6, 9), (RX7, TX7, 8)]
end
section
theorem dX0_init_0 : decode cX0_init 0 = .ok (.aload_n 0, 1) := by decide +kernel
theorem dX0_init_1 : decode cX0_init 1 = .ok (.invokespecial 1, 3) := by decide +kernel
theorem dX0_init_4 : decode cX0_init 4 = .ok (.aload_n 0, 1) := by decide +kernel
theorem dX0_init_5 : decode cX0_init 5 = .ok (.iload_n 1, 1) := by decide +kernel
theorem dX0_init_6 : decode cX0_init 6 = .ok (.iconst 0, 1) := by decide +kernel
theorem dX0_init_7 : decode cX0_init 7 = .ok (.invokestatic 7, 3) := by decide +kernel
theorem dX0_init_10 : decode cX0_init 10 = .ok (.newarray .int, 2) := by decide +kernel
theorem dX0_init_12 : decode cX0_init 12 = .ok (.putfield 13, 3) := by decide +kernel
theorem dX0_init_15 : decode cX0_init 15 = .ok (.return_, 1) := by decide +kernel
theorem dX0_get_0 : decode cX0_get 0 = .ok (.iload_n 1, 1) := by decide +kernel
theorem dX0_get_1 : decode cX0_get 1 = .ok (.ifCond .lt 21, 3) := by decide +kernel
theorem dX0_get_4 : decode cX0_get 4 = .ok (.iload_n 1, 1) := by decide +kernel
theorem dX0_get_5 : decode cX0_get 5 = .ok (.aload_n 0, 1) := by decide +kernel
theorem dX0_get_6 : decode cX0_get 6 = .ok (.getfield 13, 3) := by decide +kernel
theorem dX0_get_9 : decode cX0_get 9 = .ok (.arraylength, 1) := by decide +kernel
theorem dX0_get_10 : decode cX0_get 10 = .ok (.if_icmp .ge 12, 3) := by decide +kernel
theorem dX0_get_13 : decode cX0_get 13 = .ok (.aload_n 0, 1) := by decide +kernel
theorem dX0_get_14 : decode cX0_get 14 = .ok (.getfield 13, 3) := by decide +kernel
theorem dX0_get_17 : decode cX0_get 17 = .ok (.iload_n 1, 1) := by decide +kernel
theorem dX0_get_18 : decode cX0_get 18 = .ok (.iaload, 1) := by decide +kernel
theorem dX0_get_19 : decode cX0_get 19 = .ok (.goto 4, 3) := by decide +kernel
theorem dX0_get_22 : decode cX0_get 22 = .ok (.iconst 0, 1) := by decide +kernel
theorem dX0_get_23 : decode cX0_get 23 = .ok (.ireturn, 1) := by decide +kernel
theorem dX0_set_0 : decode cX0_set 0 = .ok (.iload_n 1, 1) := by decide +kernel
theorem dX0_set_1 : decode cX0_set 1 = .ok (.ifCond .lt 19, 3) := by decide +kernel
theorem dX0_set_4 : decode cX0_set 4 = .ok (.iload_n 1, 1) := by decide +kernel
theorem dX0_set_5 : decode cX0_set 5 = .ok (.aload_n 0, 1) := by decide +kernel
theorem dX0_set_6 : decode cX0_set 6 = .ok (.getfield 13, 3) := by decide +kernel
theorem dX0_set_9 : decode cX0_set 9 = .ok (.arraylength, 1) := by decide +kernel
theorem dX0_set_10 : decode cX0_set 10 = .ok (.if_icmp .ge 10, 3) := by decide +kernel
theorem dX0_set_13 : decode cX0_set 13 = .ok (.aload_n 0, 1) := by decide +kernel
theorem dX0_set_14 : decode cX0_set 14 = .ok (.getfield 13, 3) := by decide +kernel
theorem dX0_set_17 : decode cX0_set 17 = .ok (.iload_n 1, 1) := by decide +kernel
theorem dX0_set_18 : decode cX0_set 18 = .ok (.iload_n 2, 1) := by decide +kernel
theorem dX0_set_19 : decode cX0_set 19 = .ok (.iastore, 1) := by decide +kernel
theorem dX0_set_20 : decode cX0_set 20 = .ok (.return_, 1) := by decide +kernel
theorem dX0_add_0 : decode cX0_add 0 = .ok (.iload_n 1, 1) := by decide +kernel
theorem dX0_add_1 : decode cX0_add 1 = .ok (.ifCond .lt 22, 3) := by decide +kernel
theorem dX0_add_4 : decode cX0_add 4 = .ok (.iload_n 1, 1) := by decide +kernel
theorem dX0_add_5 : decode cX0_add 5 = .ok (.aload_n 0, 1) := by decide +kernel
theorem dX0_add_6 : decode cX0_add 6 = .ok (.getfield 13, 3) := by decide +kernel
theorem dX0_add_9 : decode cX0_add 9 = .ok (.arraylength, 1) := by decide +kernel
theorem dX0_add_10 : decode cX0_add 10 = .ok (.if_icmp .ge 13, 3) := by decide +kernel
theorem dX0_add_13 : decode cX0_add 13 = .ok (.aload_n 0, 1) := by decide +kernel
theorem dX0_add_14 : decode cX0_add 14 = .ok (.getfield 13, 3) := by decide +kernel
theorem dX0_add_17 : decode cX0_add 17 = .ok (.iload_n 1, 1) := by decide +kernel
theorem dX0_add_18 : decode cX0_add 18 = .ok (.dup2, 1) := by decide +kernel
theorem dX0_add_19 : decode cX0_add 19 = .ok (.iaload, 1) := by decide +kernel
theorem dX0_add_20 : decode cX0_add 20 = .ok (.iload_n 2, 1) := by decide +kernel
theorem dX0_add_21 : decode cX0_add 21 = .ok (.iadd, 1) := by decide +kernel
theorem dX0_add_22 : decode cX0_add 22 = .ok (.iastore, 1) := by decide +kernel
theorem dX0_add_23 : decode cX0_add 23 = .ok (.return_, 1) := by decide +kernel
theorem dX0_sum_0 : decode cX0_sum 0 = .ok (.iconst 0, 1) := by decide +kernel
theorem dX0_sum_1 : decode cX0_sum 1 = .ok (.istore_n 1, 1) := by decide +kernel
theorem dX0_sum_2 : decode cX0_sum 2 = .ok (.iconst 0, 1) := by decide +kernel
theorem dX0_sum_3 : decode cX0_sum 3 = .ok (.istore_n 2, 1) := by decide +kernel
theorem dX0_sum_4 : decode cX0_sum 4 = .ok (.iload_n 2, 1) := by decide +kernel
theorem dX0_sum_5 : decode cX0_sum 5 = .ok (.aload_n 0, 1) := by decide +kernel
theorem dX0_sum_6 : decode cX0_sum 6 = .ok (.getfield 13, 3) := by decide +kernel
theorem dX0_sum_9 : decode cX0_sum 9 = .ok (.arraylength, 1) := by decide +kernel
theorem dX0_sum_10 : decode cX0_sum 10 = .ok (.if_icmp .ge 18, 3) := by decide +kernel
theorem dX0_sum_13 : decode cX0_sum 13 = .ok (.iload_n 1, 1) := by decide +kernel
theorem dX0_sum_14 : decode cX0_sum 14 = .ok (.aload_n 0, 1) := by decide +kernel
theorem dX0_sum_15 : decode cX0_sum 15 = .ok (.getfield 13, 3) := by decide +kernel
theorem dX0_sum_18 : decode cX0_sum 18 = .ok (.iload_n 2, 1) := by decide +kernel
theorem dX0_sum_19 : decode cX0_sum 19 = .ok (.iaload, 1) := by decide +kernel
theorem dX0_sum_20 : decode cX0_sum 20 = .ok (.iadd, 1) := by decide +kernel
theorem dX0_sum_21 : decode cX0_sum 21 = .ok (.istore_n 1, 1) := by decide +kernel
theorem dX0_sum_22 : decode cX0_sum 22 = .ok (.iinc 2 1, 3) := by decide +kernel
theorem dX0_sum_25 : decode cX0_sum 25 = .ok (.goto (-21), 3) := by decide +kernel
theorem dX0_sum_28 : decode cX0_sum 28 = .ok (.iload_n 1, 1) := by decide +kernel
theorem dX0_sum_29 : decode cX0_sum 29 = .ok (.ireturn, 1) := by decide +kernel
theorem dX0_copyFrom_0 : decode cX0_copyFrom 0 = .ok (.aload_n 1, 1) := by decide +kernel
theorem dX0_copyFrom_1 : decode cX0_copyFrom 1 = .ok (.ifnull 29, 3) := by decide +kernel
theorem dX0_copyFrom_4 : decode cX0_copyFrom 4 = .ok (.aload_n 1, 1) := by decide +kernel
theorem dX0_copyFrom_5 : decode cX0_copyFrom 5 = .ok (.getfield 13, 3) := by decide +kernel
theorem dX0_copyFrom_8 : decode cX0_copyFrom 8 = .ok (.iconst 0, 1) := by decide +kernel
theorem dX0_copyFrom_9 : decode cX0_copyFrom 9 = .ok (.aload_n 0, 1) := by decide +kernel
theorem dX0_copyFrom_10 : decode cX0_copyFrom 10 = .ok (.getfield 13, 3) := by decide +kernel
theorem dX0_copyFrom_13 : decode cX0_copyFrom 13 = .ok (.iconst 0, 1) := by decide +kernel
theorem dX0_copyFrom_14 : decode cX0_copyFrom 14 = .ok (.aload_n 1, 1) := by decide +kernel
theorem dX0_copyFrom_15 : decode cX0_copyFrom 15 = .ok (.getfield 13, 3) := by decide +kernel
theorem dX0_copyFrom_18 : decode cX0_copyFrom 18 = .ok (.arraylength, 1) := by decide +kernel
theorem dX0_copyFrom_19 : decode cX0_copyFrom 19 = .ok (.aload_n 0, 1) := by decide +kernel
theorem dX0_copyFrom_20 : decode cX0_copyFrom 20 = .ok (.getfield 13, 3) := by decide +kernel
theorem dX0_copyFrom_23 : decode cX0_copyFrom 23 = .ok (.arraylength, 1) := by decide +kernel
theorem dX0_copyFrom_24 : decode cX0_copyFrom 24 = .ok (.invokestatic 19, 3) := by decide +kernel
theorem dX0_copyFrom_27 : decode cX0_copyFrom 27 = .ok (.invokestatic 22, 3) := by decide +kernel
theorem dX0_copyFrom_30 : decode cX0_copyFrom 30 = .ok (.return_, 1) := by decide +kernel
set_option maxRecDepth 20000 in
theorem ggX1_init_X0_init : GoodIn wsX1_init wsX0_init := goodIn_r _ [17, 18, 2, 3, 19, 20, 21, 22, 23, 24, 34] (by decide +kernel) (by decide +kernel)
set_option maxRecDepth 20000 in
theorem gX1_init_X0_init : GoodIn wsX1_init (wsX0_init) := ggX1_init_X0_init
set_option maxRecDepth 20000 in
theorem ggX1_init_X1_change : GoodIn wsX1_init wsX1_change := goodIn_r _ [29, 7, 8, 9, 30, 31, 32, 6, 33, 24, 35, 36, 37, 38, 39, 40, 41, 42, 34] (by decide +kernel) (by decide +kernel)
set_option maxRecDepth 20000 in
theorem gX1_init_X1_change : GoodIn wsX1_init (wsV RX1 41 RX1 yX1_change wsX1_change) := goodIn_app (goodIn_of _ (by decide +kernel)) ggX1_init_X1_change
set_option maxRecDepth 20000 in
theorem ggX1_init_X0_set : GoodIn wsX1_init wsX0_set := goodIn_r _ [33, 24, 34] (by decide +kernel) (by decide +kernel)
set_option maxRecDepth 20000 in
theorem gX1_init_X0_set : GoodIn wsX1_init (wsV RX1 45 RX0 yX0_set wsX0_set) := goodIn_app (goodIn_of _ (by decide +kernel)) ggX1_init_X0_set
theorem dX1_init_0 : decode cX1_init 0 = .ok (.aload_n 0, 1) := by decide +kernel
theorem dX1_init_1 : decode cX1_init 1 = .ok (.invokespecial 3, 3) := by decide +kernel
theorem dX1_init_4 : decode cX1_init 4 = .ok (.aload_n 0, 1) := by decide +kernel
theorem dX1_init_5 : decode cX1_init 5 = .ok (.new 9, 3) := by decide +kernel
theorem dX1_init_8 : decode cX1_init 8 = .ok (.dup, 1) := by decide +kernel
theorem dX1_init_9 : decode cX1_init 9 = .ok (.iconst 4, 1) := by decide +kernel
theorem dX1_init_10 : decode cX1_init 10 = .ok (.invokespecial 11, 3) := by decide +kernel
theorem dX1_init_13 : decode cX1_init 13 = .ok (.putfield 14, 3) := by decide +kernel
theorem dX1_init_16 : decode cX1_init 16 = .ok (.aload_n 0, 1) := by decide +kernel
theorem dX1_init_17 : decode cX1_init 17 = .ok (.new 9, 3) := by decide +kernel
theorem dX1_init_20 : decode cX1_init 20 = .ok (.dup, 1) := by decide +kernel
theorem dX1_init_21 : decode cX1_init 21 = .ok (.iconst 4, 1) := by decide +kernel
theorem dX1_init_22 : decode cX1_init 22 = .ok (.invokespecial 11, 3) := by decide +kernel
theorem dX1_init_25 : decode cX1_init 25 = .ok (.putfield 20, 3) := by decide +kernel
theorem dX1_init_28 : decode cX1_init 28 = .ok (.aload_n 0, 1) := by decide +kernel
theorem dX1_init_29 : decode cX1_init 29 = .ok (.new 9, 3) := by decide +kernel
theorem dX1_init_32 : decode cX1_init 32 = .ok (.dup, 1) := by decide +kernel
theorem dX1_init_33 : decode cX1_init 33 = .ok (.iconst 4, 1) := by decide +kernel
theorem dX1_init_34 : decode cX1_init 34 = .ok (.invokespecial 11, 3) := by decide +kernel
theorem dX1_init_37 : decode cX1_init 37 = .ok (.putfield 23, 3) := by decide +kernel
theorem dX1_init_40 : decode cX1_init 40 = .ok (.aload_n 0, 1) := by decide +kernel
theorem dX1_init_41 : decode cX1_init 41 = .ok (.new 9, 3) := by decide +kernel
theorem dX1_init_44 : decode cX1_init 44 = .ok (.dup, 1) := by decide +kernel
theorem dX1_init_45 : decode cX1_init 45 = .ok (.iconst 4, 1) := by decide +kernel
theorem dX1_init_46 : decode cX1_init 46 = .ok (.invokespecial 11, 3) := by decide +kernel
theorem dX1_init_49 : decode cX1_init 49 = .ok (.putfield 26, 3) := by decide +kernel
theorem dX1_init_52 : decode cX1_init 52 = .ok (.aload_n 0, 1) := by decide +kernel
theorem dX1_init_53 : decode cX1_init 53 = .ok (.new 9, 3) := by decide +kernel
theorem dX1_init_56 : decode cX1_init 56 = .ok (.dup, 1) := by decide +kernel
theorem dX1_init_57 : decode cX1_init 57 = .ok (.iconst 4, 1) := by decide +kernel
theorem dX1_init_58 : decode cX1_init 58 = .ok (.invokespecial 11, 3) := by decide +kernel
theorem dX1_init_61 : decode cX1_init 61 = .ok (.putfield 29, 3) := by decide +kernel
theorem dX1_init_64 : decode cX1_init 64 = .ok (.aload_n 0, 1) := by decide +kernel
theorem dX1_init_65 : decode cX1_init 65 = .ok (.new 9, 3) := by decide +kernel
theorem dX1_init_68 : decode cX1_init 68 = .ok (.dup, 1) := by decide +kernel
theorem dX1_init_69 : decode cX1_init 69 = .ok (.iconst 4, 1) := by decide +kernel
theorem dX1_init_70 : decode cX1_init 70 = .ok (.invokespecial 11, 3) := by decide +kernel
theorem dX1_init_73 : decode cX1_init 73 = .ok (.putfield 32, 3) := by decide +kernel
theorem dX1_init_76 : decode cX1_init 76 = .ok (.aload_n 0, 1) := by decide +kernel
theorem dX1_init_77 : decode cX1_init 77 = .ok (.new 9, 3) := by decide +kernel
theorem dX1_init_80 : decode cX1_init 80 = .ok (.dup, 1) := by decide +kernel
theorem dX1_init_81 : decode cX1_init 81 = .ok (.iconst 4, 1) := by decide +kernel
theorem dX1_init_82 : decode cX1_init 82 = .ok (.invokespecial 11, 3) := by decide +kernel
theorem dX1_init_85 : decode cX1_init 85 = .ok (.putfield 35, 3) := by decide +kernel
theorem dX1_init_88 : decode cX1_init 88 = .ok (.aload_n 0, 1) := by decide +kernel
theorem dX1_init_89 : decode cX1_init 89 = .ok (.new 9, 3) := by decide +kernel
theorem dX1_init_92 : decode cX1_init 92 = .ok (.dup, 1) := by decide +kernel
theorem dX1_init_93 : decode cX1_init 93 = .ok (.iconst 4, 1) := by decide +kernel
theorem dX1_init_94 : decode cX1_init 94 = .ok (.invokespecial 11, 3) := by decide +kernel
theorem dX1_init_97 : decode cX1_init 97 = .ok (.putfield 38, 3) := by decide +kernel
theorem dX1_init_100 : decode cX1_init 100 = .ok (.iconst 0, 1) := by decide +kernel
theorem dX1_init_101 : decode cX1_init 101 = .ok (.istore_n 1, 1) := by decide +kernel
theorem dX1_init_102 : decode cX1_init 102 = .ok (.iload_n 1, 1) := by decide +kernel
theorem dX1_init_103 : decode cX1_init 103 = .ok (.iconst 4, 1) := by decide +kernel
theorem dX1_init_104 : decode cX1_init 104 = .ok (.if_icmp .ge 30, 3) := by decide +kernel
theorem dX1_init_107 : decode cX1_init 107 = .ok (.aload_n 0, 1) := by decide +kernel
theorem dX1_init_108 : decode cX1_init 108 = .ok (.iload_n 1, 1) := by decide +kernel
theorem dX1_init_109 : decode cX1_init 109 = .ok (.iload_n 1, 1) := by decide +kernel
theorem dX1_init_110 : decode cX1_init 110 = .ok (.iconst 1, 1) := by decide +kernel
theorem dX1_init_111 : decode cX1_init 111 = .ok (.iand, 1) := by decide +kernel
theorem dX1_init_112 : decode cX1_init 112 = .ok (.iconst 5, 1) := by decide +kernel
theorem dX1_init_113 : decode cX1_init 113 = .ok (.iconst 0, 1) := by decide +kernel
theorem dX1_init_114 : decode cX1_init 114 = .ok (.invokevirtual 41, 3) := by decide +kernel
theorem dX1_init_117 : decode cX1_init 117 = .ok (.aload_n 0, 1) := by decide +kernel
theorem dX1_init_118 : decode cX1_init 118 = .ok (.getfield 29, 3) := by decide +kernel
theorem dX1_init_121 : decode cX1_init 121 = .ok (.iload_n 1, 1) := by decide +kernel
theorem dX1_init_122 : decode cX1_init 122 = .ok (.sipush (-1006), 3) := by decide +kernel
theorem dX1_init_125 : decode cX1_init 125 = .ok (.invokevirtual 45, 3) := by decide +kernel
theorem dX1_init_128 : decode cX1_init 128 = .ok (.iinc 1 1, 3) := by decide +kernel
theorem dX1_init_131 : decode cX1_init 131 = .ok (.goto (-29), 3) := by decide +kernel
theorem dX1_init_134 : decode cX1_init 134 = .ok (.return_, 1) := by decide +kernel
set_option maxRecDepth 20000 in
theorem ggX1_change_X0_set : GoodIn wsX1_change wsX0_set := goodIn_r _ [8, 9, 18] (by decide +kernel) (by decide +kernel)
set_option maxRecDepth 20000 in
theorem gX1_change_X0_set : GoodIn wsX1_change (wsV RX1 45 RX0 yX0_set wsX0_set) := goodIn_app (goodIn_of _ (by decide +kernel)) ggX1_change_X0_set
theorem dX1_change_0 : decode cX1_change 0 = .ok (.aload_n 0, 1) := by decide +kernel
theorem dX1_change_1 : decode cX1_change 1 = .ok (.getfield 14, 3) := by decide +kernel
theorem dX1_change_4 : decode cX1_change 4 = .ok (.iload_n 1, 1) := by decide +kernel
theorem dX1_change_5 : decode cX1_change 5 = .ok (.iload_n 2, 1) := by decide +kernel
theorem dX1_change_6 : decode cX1_change 6 = .ok (.invokevirtual 45, 3) := by decide +kernel
theorem dX1_change_9 : decode cX1_change 9 = .ok (.aload_n 0, 1) := by decide +kernel
theorem dX1_change_10 : decode cX1_change 10 = .ok (.getfield 20, 3) := by decide +kernel
theorem dX1_change_13 : decode cX1_change 13 = .ok (.iload_n 1, 1) := by decide +kernel
theorem dX1_change_14 : decode cX1_change 14 = .ok (.iload_n 3, 1) := by decide +kernel
theorem dX1_change_15 : decode cX1_change 15 = .ok (.invokevirtual 45, 3) := by decide +kernel
theorem dX1_change_18 : decode cX1_change 18 = .ok (.aload_n 0, 1) := by decide +kernel
theorem dX1_change_19 : decode cX1_change 19 = .ok (.getfield 23, 3) := by decide +kernel
theorem dX1_change_22 : decode cX1_change 22 = .ok (.iload_n 1, 1) := by decide +kernel
theorem dX1_change_23 : decode cX1_change 23 = .ok (.iload 4, 2) := by decide +kernel
theorem dX1_change_25 : decode cX1_change 25 = .ok (.invokevirtual 45, 3) := by decide +kernel
theorem dX1_change_28 : decode cX1_change 28 = .ok (.return_, 1) := by decide +kernel
set_option maxRecDepth 20000 in
theorem ggX1_isShut_X0_get : GoodIn wsX1_isShut wsX0_get := goodIn_r _ [6, 7, 16] (by decide +kernel) (by decide +kernel)
set_option maxRecDepth 20000 in
theorem gX1_isShut_X0_get : GoodIn wsX1_isShut (wsV RX1 49 RX0 yX0_get wsX0_get) := goodIn_app (goodIn_of _ (by decide +kernel)) ggX1_isShut_X0_get
theorem dX1_isShut_0 : decode cX1_isShut 0 = .ok (.aload_n 0, 1) := by decide +kernel
theorem dX1_isShut_1 : decode cX1_isShut 1 = .ok (.getfield 26, 3) := by decide +kernel
theorem dX1_isShut_4 : decode cX1_isShut 4 = .ok (.iload_n 1, 1) := by decide +kernel
theorem dX1_isShut_5 : decode cX1_isShut 5 = .ok (.invokevirtual 49, 3) := by decide +kernel
theorem dX1_isShut_8 : decode cX1_isShut 8 = .ok (.ifCond .eq 7, 3) := by decide +kernel
theorem dX1_isShut_11 : decode cX1_isShut 11 = .ok (.iconst 1, 1) := by decide +kernel
theorem dX1_isShut_12 : decode cX1_isShut 12 = .ok (.goto 4, 3) := by decide +kernel
theorem dX1_isShut_15 : decode cX1_isShut 15 = .ok (.iconst 0, 1) := by decide +kernel
theorem dX1_isShut_16 : decode cX1_isShut 16 = .ok (.ireturn, 1) := by decide +kernel
set_option maxRecDepth 20000 in
theorem ggX1_isOpenAcross_X1_isShut : GoodIn wsX1_isOpenAcross wsX1_isShut := goodIn_r _ [10, 11, 12, 13, 14, 15, 16, 17, 18, 19, 20, 21, 22, 23, 24, 25, 26] (by decide +kernel) (by decide +kernel)
set_option maxRecDepth 20000 in
theorem gX1_isOpenAcross_X1_isShut : GoodIn wsX1_isOpenAcross (wsV RX1 53 RX1 yX1_isShut wsX1_isShut) := goodIn_app (goodIn_of _ (by decide +kernel)) ggX1_isOpenAcross_X1_isShut
set_option maxRecDepth 20000 in
theorem ggX1_isOpenAcross_X0_get : GoodIn wsX1_isOpenAcross wsX0_get := goodIn_r _ [16, 17, 26] (by decide +kernel) (by decide +kernel)
set_option maxRecDepth 20000 in
theorem gX1_isOpenAcross_X0_get : GoodIn wsX1_isOpenAcross (wsV RX1 49 RX0 yX0_get wsX0_get) := goodIn_app (goodIn_of _ (by decide +kernel)) ggX1_isOpenAcross_X0_get
theorem dX1_isOpenAcross_0 : decode cX1_isOpenAcross 0 = .ok (.aload_n 0, 1) := by decide +kernel
theorem dX1_isOpenAcross_1 : decode cX1_isOpenAcross 1 = .ok (.iload_n 1, 1) := by decide +kernel
theorem dX1_isOpenAcross_2 : decode cX1_isOpenAcross 2 = .ok (.invokevirtual 53, 3) := by decide +kernel
theorem dX1_isOpenAcross_5 : decode cX1_isOpenAcross 5 = .ok (.ifCond .ne 22, 3) := by decide +kernel
theorem dX1_isOpenAcross_8 : decode cX1_isOpenAcross 8 = .ok (.iload_n 2, 1) := by decide +kernel
theorem dX1_isOpenAcross_9 : decode cX1_isOpenAcross 9 = .ok (.invokestatic 57, 3) := by decide +kernel
theorem dX1_isOpenAcross_12 : decode cX1_isOpenAcross 12 = .ok (.aload_n 0, 1) := by decide +kernel
theorem dX1_isOpenAcross_13 : decode cX1_isOpenAcross 13 = .ok (.getfield 20, 3) := by decide +kernel
theorem dX1_isOpenAcross_16 : decode cX1_isOpenAcross 16 = .ok (.iload_n 1, 1) := by decide +kernel
theorem dX1_isOpenAcross_17 : decode cX1_isOpenAcross 17 = .ok (.invokevirtual 49, 3) := by decide +kernel
theorem dX1_isOpenAcross_20 : decode cX1_isOpenAcross 20 = .ok (.if_icmp .gt 7, 3) := by decide +kernel
theorem dX1_isOpenAcross_23 : decode cX1_isOpenAcross 23 = .ok (.iconst 1, 1) := by decide +kernel
theorem dX1_isOpenAcross_24 : decode cX1_isOpenAcross 24 = .ok (.goto 4, 3) := by decide +kernel
theorem dX1_isOpenAcross_27 : decode cX1_isOpenAcross 27 = .ok (.iconst 0, 1) := by decide +kernel
theorem dX1_isOpenAcross_28 : decode cX1_isOpenAcross 28 = .ok (.ireturn, 1) := by decide +kernel
set_option maxRecDepth 20000 in
theorem ggX1_hasWord_X0_get : GoodIn wsX1_hasWord wsX0_get := goodIn_r _ [6, 7, 16] (by decide +kernel) (by decide +kernel)
set_option maxRecDepth 20000 in
theorem gX1_hasWord_X0_get : GoodIn wsX1_hasWord (wsV RX1 49 RX0 yX0_get wsX0_get) := goodIn_app (goodIn_of _ (by decide +kernel)) ggX1_hasWord_X0_get
theorem dX1_hasWord_0 : decode cX1_hasWord 0 = .ok (.aload_n 0, 1) := by decide +kernel
theorem dX1_hasWord_1 : decode cX1_hasWord 1 = .ok (.getfield 29, 3) := by decide +kernel
theorem dX1_hasWord_4 : decode cX1_hasWord 4 = .ok (.iload_n 1, 1) := by decide +kernel
theorem dX1_hasWord_5 : decode cX1_hasWord 5 = .ok (.invokevirtual 49, 3) := by decide +kernel
theorem dX1_hasWord_8 : decode cX1_hasWord 8 = .ok (.sipush (-1006), 3) := by decide +kernel
theorem dX1_hasWord_11 : decode cX1_hasWord 11 = .ok (.if_icmp .eq 7, 3) := by decide +kernel
theorem dX1_hasWord_14 : decode cX1_hasWord 14 = .ok (.iconst 1, 1) := by decide +kernel
theorem dX1_hasWord_15 : decode cX1_hasWord 15 = .ok (.goto 4, 3) := by decide +kernel
theorem dX1_hasWord_18 : decode cX1_hasWord 18 = .ok (.iconst 0, 1) := by decide +kernel
theorem dX1_hasWord_19 : decode cX1_hasWord 19 = .ok (.ireturn, 1) := by decide +kernel
set_option maxRecDepth 20000 in
theorem ggX1_release_X0_set : GoodIn wsX1_release wsX0_set := goodIn_r _ [7, 8, 17] (by decide +kernel) (by decide +kernel)
set_option maxRecDepth 20000 in
theorem gX1_release_X0_set : GoodIn wsX1_release (wsV RX1 45 RX0 yX0_set wsX0_set) := goodIn_app (goodIn_of _ (by decide +kernel)) ggX1_release_X0_set
theorem dX1_release_0 : decode cX1_release 0 = .ok (.aload_n 0, 1) := by decide +kernel
theorem dX1_release_1 : decode cX1_release 1 = .ok (.getfield 29, 3) := by decide +kernel
theorem dX1_release_4 : decode cX1_release 4 = .ok (.iload_n 1, 1) := by decide +kernel
theorem dX1_release_5 : decode cX1_release 5 = .ok (.sipush (-1006), 3) := by decide +kernel
theorem dX1_release_8 : decode cX1_release 8 = .ok (.invokevirtual 45, 3) := by decide +kernel
theorem dX1_release_11 : decode cX1_release 11 = .ok (.aload_n 0, 1) := by decide +kernel
theorem dX1_release_12 : decode cX1_release 12 = .ok (.getfield 32, 3) := by decide +kernel
theorem dX1_release_15 : decode cX1_release 15 = .ok (.iload_n 1, 1) := by decide +kernel
theorem dX1_release_16 : decode cX1_release 16 = .ok (.iconst 0, 1) := by decide +kernel
theorem dX1_release_17 : decode cX1_release 17 = .ok (.invokevirtual 45, 3) := by decide +kernel
theorem dX1_release_20 : decode cX1_release 20 = .ok (.return_, 1) := by decide +kernel
set_option maxRecDepth 20000 in
theorem ggX1_wordsInside_X1_hasWord : GoodIn wsX1_wordsInside wsX1_hasWord := goodIn_r _ [5, 6, 7, 8, 9, 10, 11, 12, 13, 14, 15, 16, 17, 18, 19, 20, 21] (by decide +kernel) (by decide +kernel)
set_option maxRecDepth 20000 in
theorem gX1_wordsInside_X1_hasWord : GoodIn wsX1_wordsInside (wsV RX1 62 RX1 yX1_hasWord wsX1_hasWord) := goodIn_app (goodIn_of _ (by decide +kernel)) ggX1_wordsInside_X1_hasWord
theorem dX1_wordsInside_0 : decode cX1_wordsInside 0 = .ok (.iconst 0, 1) := by decide +kernel
theorem dX1_wordsInside_1 : decode cX1_wordsInside 1 = .ok (.istore_n 1, 1) := by decide +kernel
theorem dX1_wordsInside_2 : decode cX1_wordsInside 2 = .ok (.iconst 0, 1) := by decide +kernel
theorem dX1_wordsInside_3 : decode cX1_wordsInside 3 = .ok (.istore_n 2, 1) := by decide +kernel
theorem dX1_wordsInside_4 : decode cX1_wordsInside 4 = .ok (.iload_n 2, 1) := by decide +kernel
theorem dX1_wordsInside_5 : decode cX1_wordsInside 5 = .ok (.iconst 4, 1) := by decide +kernel
theorem dX1_wordsInside_6 : decode cX1_wordsInside 6 = .ok (.if_icmp .ge 25, 3) := by decide +kernel
theorem dX1_wordsInside_9 : decode cX1_wordsInside 9 = .ok (.iload_n 1, 1) := by decide +kernel
theorem dX1_wordsInside_10 : decode cX1_wordsInside 10 = .ok (.aload_n 0, 1) := by decide +kernel
theorem dX1_wordsInside_11 : decode cX1_wordsInside 11 = .ok (.iload_n 2, 1) := by decide +kernel
theorem dX1_wordsInside_12 : decode cX1_wordsInside 12 = .ok (.invokevirtual 62, 3) := by decide +kernel
theorem dX1_wordsInside_15 : decode cX1_wordsInside 15 = .ok (.ifCond .eq 7, 3) := by decide +kernel
theorem dX1_wordsInside_18 : decode cX1_wordsInside 18 = .ok (.iconst 1, 1) := by decide +kernel
theorem dX1_wordsInside_19 : decode cX1_wordsInside 19 = .ok (.goto 4, 3) := by decide +kernel
theorem dX1_wordsInside_22 : decode cX1_wordsInside 22 = .ok (.iconst 0, 1) := by decide +kernel
theorem dX1_wordsInside_23 : decode cX1_wordsInside 23 = .ok (.iadd, 1) := by decide +kernel
theorem dX1_wordsInside_24 : decode cX1_wordsInside 24 = .ok (.istore_n 1, 1) := by decide +kernel
theorem dX1_wordsInside_25 : decode cX1_wordsInside 25 = .ok (.iinc 2 1, 3) := by decide +kernel
theorem dX1_wordsInside_28 : decode cX1_wordsInside 28 = .ok (.goto (-24), 3) := by decide +kernel
theorem dX1_wordsInside_31 : decode cX1_wordsInside 31 = .ok (.iload_n 1, 1) := by decide +kernel
theorem dX1_wordsInside_32 : decode cX1_wordsInside 32 = .ok (.ireturn, 1) := by decide +kernel
set_option maxRecDepth 20000 in
theorem ggX1_gateWith_X0_get : GoodIn wsX1_gateWith wsX0_get := goodIn_r _ [6, 7, 16] (by decide +kernel) (by decide +kernel)
set_option maxRecDepth 20000 in
theorem gX1_gateWith_X0_get : GoodIn wsX1_gateWith (wsV RX1 49 RX0 yX0_get wsX0_get) := goodIn_app (goodIn_of _ (by decide +kernel)) ggX1_gateWith_X0_get
theorem dX1_gateWith_0 : decode cX1_gateWith 0 = .ok (.iconst 0, 1) := by decide +kernel
theorem dX1_gateWith_1 : decode cX1_gateWith 1 = .ok (.istore_n 2, 1) := by decide +kernel
theorem dX1_gateWith_2 : decode cX1_gateWith 2 = .ok (.iload_n 2, 1) := by decide +kernel
theorem dX1_gateWith_3 : decode cX1_gateWith 3 = .ok (.iconst 4, 1) := by decide +kernel
theorem dX1_gateWith_4 : decode cX1_gateWith 4 = .ok (.if_icmp .ge 23, 3) := by decide +kernel
theorem dX1_gateWith_7 : decode cX1_gateWith 7 = .ok (.aload_n 0, 1) := by decide +kernel
theorem dX1_gateWith_8 : decode cX1_gateWith 8 = .ok (.getfield 29, 3) := by decide +kernel
theorem dX1_gateWith_11 : decode cX1_gateWith 11 = .ok (.iload_n 2, 1) := by decide +kernel
theorem dX1_gateWith_12 : decode cX1_gateWith 12 = .ok (.invokevirtual 49, 3) := by decide +kernel
theorem dX1_gateWith_15 : decode cX1_gateWith 15 = .ok (.iload_n 1, 1) := by decide +kernel
theorem dX1_gateWith_16 : decode cX1_gateWith 16 = .ok (.if_icmp .ne 5, 3) := by decide +kernel
theorem dX1_gateWith_19 : decode cX1_gateWith 19 = .ok (.iload_n 2, 1) := by decide +kernel
theorem dX1_gateWith_20 : decode cX1_gateWith 20 = .ok (.ireturn, 1) := by decide +kernel
theorem dX1_gateWith_21 : decode cX1_gateWith 21 = .ok (.iinc 2 1, 3) := by decide +kernel
theorem dX1_gateWith_24 : decode cX1_gateWith 24 = .ok (.goto (-22), 3) := by decide +kernel
theorem dX1_gateWith_27 : decode cX1_gateWith 27 = .ok (.sipush (-1006), 3) := by decide +kernel
theorem dX1_gateWith_30 : decode cX1_gateWith 30 = .ok (.ireturn, 1) := by decide +kernel
set_option maxRecDepth 20000 in
theorem ggX1_copyFrom_X0_copyFrom : GoodIn wsX1_copyFrom wsX0_copyFrom := goodIn_r _ [13, 14, 15, 16, 17, 18, 19, 20, 21, 22, 31] (by decide +kernel) (by decide +kernel)
set_option maxRecDepth 20000 in
theorem gX1_copyFrom_X0_copyFrom : GoodIn wsX1_copyFrom (wsV RX1 65 RX0 yX0_copyFrom wsX0_copyFrom) := goodIn_app (goodIn_of _ (by decide +kernel)) ggX1_copyFrom_X0_copyFrom
theorem dX1_copyFrom_0 : decode cX1_copyFrom 0 = .ok (.aload_n 1, 1) := by decide +kernel
theorem dX1_copyFrom_1 : decode cX1_copyFrom 1 = .ok (.ifnull 91, 3) := by decide +kernel
theorem dX1_copyFrom_4 : decode cX1_copyFrom 4 = .ok (.aload_n 0, 1) := by decide +kernel
theorem dX1_copyFrom_5 : decode cX1_copyFrom 5 = .ok (.getfield 14, 3) := by decide +kernel
theorem dX1_copyFrom_8 : decode cX1_copyFrom 8 = .ok (.aload_n 1, 1) := by decide +kernel
theorem dX1_copyFrom_9 : decode cX1_copyFrom 9 = .ok (.getfield 14, 3) := by decide +kernel
theorem dX1_copyFrom_12 : decode cX1_copyFrom 12 = .ok (.invokevirtual 65, 3) := by decide +kernel
theorem dX1_copyFrom_15 : decode cX1_copyFrom 15 = .ok (.aload_n 0, 1) := by decide +kernel
theorem dX1_copyFrom_16 : decode cX1_copyFrom 16 = .ok (.getfield 20, 3) := by decide +kernel
theorem dX1_copyFrom_19 : decode cX1_copyFrom 19 = .ok (.aload_n 1, 1) := by decide +kernel
theorem dX1_copyFrom_20 : decode cX1_copyFrom 20 = .ok (.getfield 20, 3) := by decide +kernel
theorem dX1_copyFrom_23 : decode cX1_copyFrom 23 = .ok (.invokevirtual 65, 3) := by decide +kernel
theorem dX1_copyFrom_26 : decode cX1_copyFrom 26 = .ok (.aload_n 0, 1) := by decide +kernel
theorem dX1_copyFrom_27 : decode cX1_copyFrom 27 = .ok (.getfield 23, 3) := by decide +kernel
theorem dX1_copyFrom_30 : decode cX1_copyFrom 30 = .ok (.aload_n 1, 1) := by decide +kernel
theorem dX1_copyFrom_31 : decode cX1_copyFrom 31 = .ok (.getfield 23, 3) := by decide +kernel
theorem dX1_copyFrom_34 : decode cX1_copyFrom 34 = .ok (.invokevirtual 65, 3) := by decide +kernel
theorem dX1_copyFrom_37 : decode cX1_copyFrom 37 = .ok (.aload_n 0, 1) := by decide +kernel
theorem dX1_copyFrom_38 : decode cX1_copyFrom 38 = .ok (.getfield 26, 3) := by decide +kernel
theorem dX1_copyFrom_41 : decode cX1_copyFrom 41 = .ok (.aload_n 1, 1) := by decide +kernel
theorem dX1_copyFrom_42 : decode cX1_copyFrom 42 = .ok (.getfield 26, 3) := by decide +kernel
theorem dX1_copyFrom_45 : decode cX1_copyFrom 45 = .ok (.invokevirtual 65, 3) := by decide +kernel
theorem dX1_copyFrom_48 : decode cX1_copyFrom 48 = .ok (.aload_n 0, 1) := by decide +kernel
theorem dX1_copyFrom_49 : decode cX1_copyFrom 49 = .ok (.getfield 29, 3) := by decide +kernel
theorem dX1_copyFrom_52 : decode cX1_copyFrom 52 = .ok (.aload_n 1, 1) := by decide +kernel
theorem dX1_copyFrom_53 : decode cX1_copyFrom 53 = .ok (.getfield 29, 3) := by decide +kernel
theorem dX1_copyFrom_56 : decode cX1_copyFrom 56 = .ok (.invokevirtual 65, 3) := by decide +kernel
theorem dX1_copyFrom_59 : decode cX1_copyFrom 59 = .ok (.aload_n 0, 1) := by decide +kernel
theorem dX1_copyFrom_60 : decode cX1_copyFrom 60 = .ok (.getfield 32, 3) := by decide +kernel
theorem dX1_copyFrom_63 : decode cX1_copyFrom 63 = .ok (.aload_n 1, 1) := by decide +kernel
theorem dX1_copyFrom_64 : decode cX1_copyFrom 64 = .ok (.getfield 32, 3) := by decide +kernel
theorem dX1_copyFrom_67 : decode cX1_copyFrom 67 = .ok (.invokevirtual 65, 3) := by decide +kernel
theorem dX1_copyFrom_70 : decode cX1_copyFrom 70 = .ok (.aload_n 0, 1) := by decide +kernel
theorem dX1_copyFrom_71 : decode cX1_copyFrom 71 = .ok (.getfield 35, 3) := by decide +kernel
theorem dX1_copyFrom_74 : decode cX1_copyFrom 74 = .ok (.aload_n 1, 1) := by decide +kernel
theorem dX1_copyFrom_75 : decode cX1_copyFrom 75 = .ok (.getfield 35, 3) := by decide +kernel
theorem dX1_copyFrom_78 : decode cX1_copyFrom 78 = .ok (.invokevirtual 65, 3) := by decide +kernel
theorem dX1_copyFrom_81 : decode cX1_copyFrom 81 = .ok (.aload_n 0, 1) := by decide +kernel
theorem dX1_copyFrom_82 : decode cX1_copyFrom 82 = .ok (.getfield 38, 3) := by decide +kernel
theorem dX1_copyFrom_85 : decode cX1_copyFrom 85 = .ok (.aload_n 1, 1) := by decide +kernel
theorem dX1_copyFrom_86 : decode cX1_copyFrom 86 = .ok (.getfield 38, 3) := by decide +kernel
theorem dX1_copyFrom_89 : decode cX1_copyFrom 89 = .ok (.invokevirtual 65, 3) := by decide +kernel
theorem dX1_copyFrom_92 : decode cX1_copyFrom 92 = .ok (.return_, 1) := by decide +kernel
set_option maxRecDepth 20000 in
theorem ggX2_init_X0_init : GoodIn wsX2_init wsX0_init := goodIn_r _ [10, 11, 2, 3, 12, 13, 14, 15, 16, 17, 18] (by decide +kernel) (by decide +kernel)
set_option maxRecDepth 20000 in
theorem gX2_init_X0_init : GoodIn wsX2_init (wsX0_init) := ggX2_init_X0_init
theorem dX2_init_0 : decode cX2_init 0 = .ok (.aload_n 0, 1) := by decide +kernel
theorem dX2_init_1 : decode cX2_init 1 = .ok (.invokespecial 3, 3) := by decide +kernel
theorem dX2_init_4 : decode cX2_init 4 = .ok (.aload_n 0, 1) := by decide +kernel
theorem dX2_init_5 : decode cX2_init 5 = .ok (.new 9, 3) := by decide +kernel
theorem dX2_init_8 : decode cX2_init 8 = .ok (.dup, 1) := by decide +kernel
theorem dX2_init_9 : decode cX2_init 9 = .ok (.bipush 60, 2) := by decide +kernel
theorem dX2_init_11 : decode cX2_init 11 = .ok (.invokespecial 11, 3) := by decide +kernel
theorem dX2_init_14 : decode cX2_init 14 = .ok (.putfield 14, 3) := by decide +kernel
theorem dX2_init_17 : decode cX2_init 17 = .ok (.return_, 1) := by decide +kernel
set_option maxRecDepth 20000 in
theorem ggX2_append_X0_set : GoodIn wsX2_append wsX0_set := goodIn_r _ [7, 8, 11] (by decide +kernel) (by decide +kernel)
set_option maxRecDepth 20000 in
theorem gX2_append_X0_set : GoodIn wsX2_append (wsV RX2 24 RX0 yX0_set wsX0_set) := goodIn_app (goodIn_of _ (by decide +kernel)) ggX2_append_X0_set
theorem dX2_append_0 : decode cX2_append 0 = .ok (.aload_n 0, 1) := by decide +kernel
theorem dX2_append_1 : decode cX2_append 1 = .ok (.getfield 20, 3) := by decide +kernel
theorem dX2_append_4 : decode cX2_append 4 = .ok (.bipush 60, 2) := by decide +kernel
theorem dX2_append_6 : decode cX2_append 6 = .ok (.if_icmp .ge 25, 3) := by decide +kernel
theorem dX2_append_9 : decode cX2_append 9 = .ok (.aload_n 0, 1) := by decide +kernel
theorem dX2_append_10 : decode cX2_append 10 = .ok (.getfield 14, 3) := by decide +kernel
theorem dX2_append_13 : decode cX2_append 13 = .ok (.aload_n 0, 1) := by decide +kernel
theorem dX2_append_14 : decode cX2_append 14 = .ok (.getfield 20, 3) := by decide +kernel
theorem dX2_append_17 : decode cX2_append 17 = .ok (.iload_n 1, 1) := by decide +kernel
theorem dX2_append_18 : decode cX2_append 18 = .ok (.invokevirtual 24, 3) := by decide +kernel
theorem dX2_append_21 : decode cX2_append 21 = .ok (.aload_n 0, 1) := by decide +kernel
theorem dX2_append_22 : decode cX2_append 22 = .ok (.dup, 1) := by decide +kernel
theorem dX2_append_23 : decode cX2_append 23 = .ok (.getfield 20, 3) := by decide +kernel
theorem dX2_append_26 : decode cX2_append 26 = .ok (.iconst 1, 1) := by decide +kernel
theorem dX2_append_27 : decode cX2_append 27 = .ok (.iadd, 1) := by decide +kernel
theorem dX2_append_28 : decode cX2_append 28 = .ok (.putfield 20, 3) := by decide +kernel
theorem dX2_append_31 : decode cX2_append 31 = .ok (.return_, 1) := by decide +kernel
set_option maxRecDepth 20000 in
theorem ggX2_wordsInside_X0_get : GoodIn wsX2_wordsInside wsX0_get := goodIn_r _ [7, 8, 11] (by decide +kernel) (by decide +kernel)
set_option maxRecDepth 20000 in
theorem gX2_wordsInside_X0_get : GoodIn wsX2_wordsInside (wsV RX2 28 RX0 yX0_get wsX0_get) := goodIn_app (goodIn_of _ (by decide +kernel)) ggX2_wordsInside_X0_get
theorem dX2_wordsInside_0 : decode cX2_wordsInside 0 = .ok (.iconst 1, 1) := by decide +kernel
theorem dX2_wordsInside_1 : decode cX2_wordsInside 1 = .ok (.istore_n 1, 1) := by decide +kernel
theorem dX2_wordsInside_2 : decode cX2_wordsInside 2 = .ok (.iconst 0, 1) := by decide +kernel
theorem dX2_wordsInside_3 : decode cX2_wordsInside 3 = .ok (.istore_n 2, 1) := by decide +kernel
theorem dX2_wordsInside_4 : decode cX2_wordsInside 4 = .ok (.iload_n 2, 1) := by decide +kernel
theorem dX2_wordsInside_5 : decode cX2_wordsInside 5 = .ok (.aload_n 0, 1) := by decide +kernel
theorem dX2_wordsInside_6 : decode cX2_wordsInside 6 = .ok (.getfield 20, 3) := by decide +kernel
theorem dX2_wordsInside_9 : decode cX2_wordsInside 9 = .ok (.if_icmp .ge 30, 3) := by decide +kernel
theorem dX2_wordsInside_12 : decode cX2_wordsInside 12 = .ok (.iload_n 1, 1) := by decide +kernel
theorem dX2_wordsInside_13 : decode cX2_wordsInside 13 = .ok (.aload_n 0, 1) := by decide +kernel
theorem dX2_wordsInside_14 : decode cX2_wordsInside 14 = .ok (.getfield 14, 3) := by decide +kernel
theorem dX2_wordsInside_17 : decode cX2_wordsInside 17 = .ok (.iload_n 2, 1) := by decide +kernel
theorem dX2_wordsInside_18 : decode cX2_wordsInside 18 = .ok (.invokevirtual 28, 3) := by decide +kernel
theorem dX2_wordsInside_21 : decode cX2_wordsInside 21 = .ok (.bipush 44, 2) := by decide +kernel
theorem dX2_wordsInside_23 : decode cX2_wordsInside 23 = .ok (.if_icmp .ne 7, 3) := by decide +kernel
theorem dX2_wordsInside_26 : decode cX2_wordsInside 26 = .ok (.iconst 1, 1) := by decide +kernel
theorem dX2_wordsInside_27 : decode cX2_wordsInside 27 = .ok (.goto 4, 3) := by decide +kernel
theorem dX2_wordsInside_30 : decode cX2_wordsInside 30 = .ok (.iconst 0, 1) := by decide +kernel
theorem dX2_wordsInside_31 : decode cX2_wordsInside 31 = .ok (.iadd, 1) := by decide +kernel
theorem dX2_wordsInside_32 : decode cX2_wordsInside 32 = .ok (.istore_n 1, 1) := by decide +kernel
theorem dX2_wordsInside_33 : decode cX2_wordsInside 33 = .ok (.iinc 2 1, 3) := by decide +kernel
theorem dX2_wordsInside_36 : decode cX2_wordsInside 36 = .ok (.goto (-32), 3) := by decide +kernel
theorem dX2_wordsInside_39 : decode cX2_wordsInside 39 = .ok (.iload_n 1, 1) := by decide +kernel
theorem dX2_wordsInside_40 : decode cX2_wordsInside 40 = .ok (.ireturn, 1) := by decide +kernel
set_option maxRecDepth 20000 in
theorem ggX2_faultPlace_X0_get : GoodIn wsX2_faultPlace wsX0_get := goodIn_r _ [7, 8, 11] (by decide +kernel) (by decide +kernel)
set_option maxRecDepth 20000 in
theorem gX2_faultPlace_X0_get : GoodIn wsX2_faultPlace (wsV RX2 28 RX0 yX0_get wsX0_get) := goodIn_app (goodIn_of _ (by decide +kernel)) ggX2_faultPlace_X0_get
theorem dX2_faultPlace_0 : decode cX2_faultPlace 0 = .ok (.iconst 0, 1) := by decide +kernel
theorem dX2_faultPlace_1 : decode cX2_faultPlace 1 = .ok (.istore_n 1, 1) := by decide +kernel
theorem dX2_faultPlace_2 : decode cX2_faultPlace 2 = .ok (.iconst 0, 1) := by decide +kernel
theorem dX2_faultPlace_3 : decode cX2_faultPlace 3 = .ok (.istore_n 2, 1) := by decide +kernel
theorem dX2_faultPlace_4 : decode cX2_faultPlace 4 = .ok (.iload_n 2, 1) := by decide +kernel
theorem dX2_faultPlace_5 : decode cX2_faultPlace 5 = .ok (.aload_n 0, 1) := by decide +kernel
theorem dX2_faultPlace_6 : decode cX2_faultPlace 6 = .ok (.getfield 20, 3) := by decide +kernel
theorem dX2_faultPlace_9 : decode cX2_faultPlace 9 = .ok (.if_icmp .ge 93, 3) := by decide +kernel
theorem dX2_faultPlace_12 : decode cX2_faultPlace 12 = .ok (.aload_n 0, 1) := by decide +kernel
theorem dX2_faultPlace_13 : decode cX2_faultPlace 13 = .ok (.getfield 14, 3) := by decide +kernel
theorem dX2_faultPlace_16 : decode cX2_faultPlace 16 = .ok (.iload_n 2, 1) := by decide +kernel
theorem dX2_faultPlace_17 : decode cX2_faultPlace 17 = .ok (.invokevirtual 28, 3) := by decide +kernel
theorem dX2_faultPlace_20 : decode cX2_faultPlace 20 = .ok (.istore_n 3, 1) := by decide +kernel
theorem dX2_faultPlace_21 : decode cX2_faultPlace 21 = .ok (.iload_n 3, 1) := by decide +kernel
theorem dX2_faultPlace_22 : decode cX2_faultPlace 22 = .ok (.bipush 97, 2) := by decide +kernel
theorem dX2_faultPlace_24 : decode cX2_faultPlace 24 = .ok (.if_icmp .lt 13, 3) := by decide +kernel
theorem dX2_faultPlace_27 : decode cX2_faultPlace 27 = .ok (.iload_n 3, 1) := by decide +kernel
theorem dX2_faultPlace_28 : decode cX2_faultPlace 28 = .ok (.bipush 122, 2) := by decide +kernel
theorem dX2_faultPlace_30 : decode cX2_faultPlace 30 = .ok (.if_icmp .gt 7, 3) := by decide +kernel
theorem dX2_faultPlace_33 : decode cX2_faultPlace 33 = .ok (.iconst 1, 1) := by decide +kernel
theorem dX2_faultPlace_34 : decode cX2_faultPlace 34 = .ok (.goto 4, 3) := by decide +kernel
theorem dX2_faultPlace_37 : decode cX2_faultPlace 37 = .ok (.iconst 0, 1) := by decide +kernel
theorem dX2_faultPlace_38 : decode cX2_faultPlace 38 = .ok (.istore 4, 2) := by decide +kernel
theorem dX2_faultPlace_40 : decode cX2_faultPlace 40 = .ok (.iload 4, 2) := by decide +kernel
theorem dX2_faultPlace_42 : decode cX2_faultPlace 42 = .ok (.ifCond .eq 17, 3) := by decide +kernel
theorem dX2_faultPlace_45 : decode cX2_faultPlace 45 = .ok (.iload_n 1, 1) := by decide +kernel
theorem dX2_faultPlace_46 : decode cX2_faultPlace 46 = .ok (.bipush 6, 2) := by decide +kernel
theorem dX2_faultPlace_48 : decode cX2_faultPlace 48 = .ok (.if_icmp .ge 7, 3) := by decide +kernel
theorem dX2_faultPlace_51 : decode cX2_faultPlace 51 = .ok (.iconst 1, 1) := by decide +kernel
theorem dX2_faultPlace_52 : decode cX2_faultPlace 52 = .ok (.goto 22, 3) := by decide +kernel
theorem dX2_faultPlace_55 : decode cX2_faultPlace 55 = .ok (.iconst 0, 1) := by decide +kernel
theorem dX2_faultPlace_56 : decode cX2_faultPlace 56 = .ok (.goto 18, 3) := by decide +kernel
theorem dX2_faultPlace_59 : decode cX2_faultPlace 59 = .ok (.iload_n 3, 1) := by decide +kernel
theorem dX2_faultPlace_60 : decode cX2_faultPlace 60 = .ok (.bipush 44, 2) := by decide +kernel
theorem dX2_faultPlace_62 : decode cX2_faultPlace 62 = .ok (.if_icmp .ne 11, 3) := by decide +kernel
theorem dX2_faultPlace_65 : decode cX2_faultPlace 65 = .ok (.iload_n 1, 1) := by decide +kernel
theorem dX2_faultPlace_66 : decode cX2_faultPlace 66 = .ok (.ifCond .le 7, 3) := by decide +kernel
theorem dX2_faultPlace_69 : decode cX2_faultPlace 69 = .ok (.iconst 1, 1) := by decide +kernel
theorem dX2_faultPlace_70 : decode cX2_faultPlace 70 = .ok (.goto 4, 3) := by decide +kernel
theorem dX2_faultPlace_73 : decode cX2_faultPlace 73 = .ok (.iconst 0, 1) := by decide +kernel
theorem dX2_faultPlace_74 : decode cX2_faultPlace 74 = .ok (.istore 5, 2) := by decide +kernel
theorem dX2_faultPlace_76 : decode cX2_faultPlace 76 = .ok (.iload 5, 2) := by decide +kernel
theorem dX2_faultPlace_78 : decode cX2_faultPlace 78 = .ok (.ifCond .ne 5, 3) := by decide +kernel
theorem dX2_faultPlace_81 : decode cX2_faultPlace 81 = .ok (.iload_n 2, 1) := by decide +kernel
theorem dX2_faultPlace_82 : decode cX2_faultPlace 82 = .ok (.ireturn, 1) := by decide +kernel
theorem dX2_faultPlace_83 : decode cX2_faultPlace 83 = .ok (.iload 4, 2) := by decide +kernel
theorem dX2_faultPlace_85 : decode cX2_faultPlace 85 = .ok (.ifCond .eq 9, 3) := by decide +kernel
theorem dX2_faultPlace_88 : decode cX2_faultPlace 88 = .ok (.iload_n 1, 1) := by decide +kernel
theorem dX2_faultPlace_89 : decode cX2_faultPlace 89 = .ok (.iconst 1, 1) := by decide +kernel
theorem dX2_faultPlace_90 : decode cX2_faultPlace 90 = .ok (.iadd, 1) := by decide +kernel
theorem dX2_faultPlace_91 : decode cX2_faultPlace 91 = .ok (.goto 4, 3) := by decide +kernel
theorem dX2_faultPlace_94 : decode cX2_faultPlace 94 = .ok (.iconst 0, 1) := by decide +kernel
theorem dX2_faultPlace_95 : decode cX2_faultPlace 95 = .ok (.istore_n 1, 1) := by decide +kernel
theorem dX2_faultPlace_96 : decode cX2_faultPlace 96 = .ok (.iinc 2 1, 3) := by decide +kernel
theorem dX2_faultPlace_99 : decode cX2_faultPlace 99 = .ok (.goto (-95), 3) := by decide +kernel
theorem dX2_faultPlace_102 : decode cX2_faultPlace 102 = .ok (.iload_n 1, 1) := by decide +kernel
theorem dX2_faultPlace_103 : decode cX2_faultPlace 103 = .ok (.ifCond .ne 10, 3) := by decide +kernel
theorem dX2_faultPlace_106 : decode cX2_faultPlace 106 = .ok (.aload_n 0, 1) := by decide +kernel
theorem dX2_faultPlace_107 : decode cX2_faultPlace 107 = .ok (.getfield 20, 3) := by decide +kernel
theorem dX2_faultPlace_110 : decode cX2_faultPlace 110 = .ok (.goto 6, 3) := by decide +kernel
theorem dX2_faultPlace_113 : decode cX2_faultPlace 113 = .ok (.sipush (-1006), 3) := by decide +kernel
theorem dX2_faultPlace_116 : decode cX2_faultPlace 116 = .ok (.ireturn, 1) := by decide +kernel
set_option maxRecDepth 20000 in
theorem ggX3_init_X0_init : GoodIn wsX3_init wsX0_init := goodIn_r _ [13, 14, 2, 3, 15, 16, 17, 18, 19, 20, 30] (by decide +kernel) (by decide +kernel)
set_option maxRecDepth 20000 in
theorem gX3_init_X0_init : GoodIn wsX3_init (wsX0_init) := ggX3_init_X0_init
set_option maxRecDepth 20000 in
theorem ggX3_init_X3_change : GoodIn wsX3_init wsX3_change := goodIn_r _ [25, 7, 8, 9, 26, 27, 28, 6, 29, 20, 31, 32, 33, 34, 30] (by decide +kernel) (by decide +kernel)
set_option maxRecDepth 20000 in
theorem gX3_init_X3_change : GoodIn wsX3_init (wsV RX3 29 RX3 yX3_change wsX3_change) := goodIn_app (goodIn_of _ (by decide +kernel)) ggX3_init_X3_change
theorem dX3_init_0 : decode cX3_init 0 = .ok (.aload_n 0, 1) := by decide +kernel
theorem dX3_init_1 : decode cX3_init 1 = .ok (.invokespecial 3, 3) := by decide +kernel
theorem dX3_init_4 : decode cX3_init 4 = .ok (.aload_n 0, 1) := by decide +kernel
theorem dX3_init_5 : decode cX3_init 5 = .ok (.new 9, 3) := by decide +kernel
theorem dX3_init_8 : decode cX3_init 8 = .ok (.dup, 1) := by decide +kernel
theorem dX3_init_9 : decode cX3_init 9 = .ok (.iconst 2, 1) := by decide +kernel
theorem dX3_init_10 : decode cX3_init 10 = .ok (.invokespecial 11, 3) := by decide +kernel
theorem dX3_init_13 : decode cX3_init 13 = .ok (.putfield 14, 3) := by decide +kernel
theorem dX3_init_16 : decode cX3_init 16 = .ok (.aload_n 0, 1) := by decide +kernel
theorem dX3_init_17 : decode cX3_init 17 = .ok (.new 9, 3) := by decide +kernel
theorem dX3_init_20 : decode cX3_init 20 = .ok (.dup, 1) := by decide +kernel
theorem dX3_init_21 : decode cX3_init 21 = .ok (.iconst 2, 1) := by decide +kernel
theorem dX3_init_22 : decode cX3_init 22 = .ok (.invokespecial 11, 3) := by decide +kernel
theorem dX3_init_25 : decode cX3_init 25 = .ok (.putfield 20, 3) := by decide +kernel
theorem dX3_init_28 : decode cX3_init 28 = .ok (.aload_n 0, 1) := by decide +kernel
theorem dX3_init_29 : decode cX3_init 29 = .ok (.new 9, 3) := by decide +kernel
theorem dX3_init_32 : decode cX3_init 32 = .ok (.dup, 1) := by decide +kernel
theorem dX3_init_33 : decode cX3_init 33 = .ok (.iconst 2, 1) := by decide +kernel
theorem dX3_init_34 : decode cX3_init 34 = .ok (.invokespecial 11, 3) := by decide +kernel
theorem dX3_init_37 : decode cX3_init 37 = .ok (.putfield 23, 3) := by decide +kernel
theorem dX3_init_40 : decode cX3_init 40 = .ok (.aload_n 0, 1) := by decide +kernel
theorem dX3_init_41 : decode cX3_init 41 = .ok (.new 9, 3) := by decide +kernel
theorem dX3_init_44 : decode cX3_init 44 = .ok (.dup, 1) := by decide +kernel
theorem dX3_init_45 : decode cX3_init 45 = .ok (.iconst 2, 1) := by decide +kernel
theorem dX3_init_46 : decode cX3_init 46 = .ok (.invokespecial 11, 3) := by decide +kernel
theorem dX3_init_49 : decode cX3_init 49 = .ok (.putfield 26, 3) := by decide +kernel
theorem dX3_init_52 : decode cX3_init 52 = .ok (.aload_n 0, 1) := by decide +kernel
theorem dX3_init_53 : decode cX3_init 53 = .ok (.iconst 0, 1) := by decide +kernel
theorem dX3_init_54 : decode cX3_init 54 = .ok (.bipush 100, 2) := by decide +kernel
theorem dX3_init_56 : decode cX3_init 56 = .ok (.bipush 30, 2) := by decide +kernel
theorem dX3_init_58 : decode cX3_init 58 = .ok (.bipush 24, 2) := by decide +kernel
theorem dX3_init_60 : decode cX3_init 60 = .ok (.invokevirtual 29, 3) := by decide +kernel
theorem dX3_init_63 : decode cX3_init 63 = .ok (.aload_n 0, 1) := by decide +kernel
theorem dX3_init_64 : decode cX3_init 64 = .ok (.iconst 1, 1) := by decide +kernel
theorem dX3_init_65 : decode cX3_init 65 = .ok (.bipush 100, 2) := by decide +kernel
theorem dX3_init_67 : decode cX3_init 67 = .ok (.bipush 30, 2) := by decide +kernel
theorem dX3_init_69 : decode cX3_init 69 = .ok (.bipush 20, 2) := by decide +kernel
theorem dX3_init_71 : decode cX3_init 71 = .ok (.invokevirtual 29, 3) := by decide +kernel
theorem dX3_init_74 : decode cX3_init 74 = .ok (.return_, 1) := by decide +kernel
set_option maxRecDepth 20000 in
theorem ggX3_change_X0_set : GoodIn wsX3_change wsX0_set := goodIn_r _ [8, 9, 14] (by decide +kernel) (by decide +kernel)
set_option maxRecDepth 20000 in
theorem gX3_change_X0_set : GoodIn wsX3_change (wsV RX3 33 RX0 yX0_set wsX0_set) := goodIn_app (goodIn_of _ (by decide +kernel)) ggX3_change_X0_set
theorem dX3_change_0 : decode cX3_change 0 = .ok (.aload_n 0, 1) := by decide +kernel
theorem dX3_change_1 : decode cX3_change 1 = .ok (.getfield 14, 3) := by decide +kernel
theorem dX3_change_4 : decode cX3_change 4 = .ok (.iload_n 1, 1) := by decide +kernel
theorem dX3_change_5 : decode cX3_change 5 = .ok (.iload_n 2, 1) := by decide +kernel
theorem dX3_change_6 : decode cX3_change 6 = .ok (.invokevirtual 33, 3) := by decide +kernel
theorem dX3_change_9 : decode cX3_change 9 = .ok (.aload_n 0, 1) := by decide +kernel
theorem dX3_change_10 : decode cX3_change 10 = .ok (.getfield 20, 3) := by decide +kernel
theorem dX3_change_13 : decode cX3_change 13 = .ok (.iload_n 1, 1) := by decide +kernel
theorem dX3_change_14 : decode cX3_change 14 = .ok (.iload_n 3, 1) := by decide +kernel
theorem dX3_change_15 : decode cX3_change 15 = .ok (.invokevirtual 33, 3) := by decide +kernel
theorem dX3_change_18 : decode cX3_change 18 = .ok (.aload_n 0, 1) := by decide +kernel
theorem dX3_change_19 : decode cX3_change 19 = .ok (.getfield 23, 3) := by decide +kernel
theorem dX3_change_22 : decode cX3_change 22 = .ok (.iload_n 1, 1) := by decide +kernel
theorem dX3_change_23 : decode cX3_change 23 = .ok (.iload 4, 2) := by decide +kernel
theorem dX3_change_25 : decode cX3_change 25 = .ok (.invokevirtual 33, 3) := by decide +kernel
theorem dX3_change_28 : decode cX3_change 28 = .ok (.return_, 1) := by decide +kernel
set_option maxRecDepth 20000 in
theorem ggX3_levelAt_X0_get : GoodIn wsX3_levelAt wsX0_get := goodIn_r _ [12, 13, 18] (by decide +kernel) (by decide +kernel)
set_option maxRecDepth 20000 in
theorem gX3_levelAt_X0_get : GoodIn wsX3_levelAt (wsV RX3 37 RX0 yX0_get wsX0_get) := goodIn_app (goodIn_of _ (by decide +kernel)) ggX3_levelAt_X0_get
theorem dX3_levelAt_0 : decode cX3_levelAt 0 = .ok (.aload_n 0, 1) := by decide +kernel
theorem dX3_levelAt_1 : decode cX3_levelAt 1 = .ok (.getfield 23, 3) := by decide +kernel
theorem dX3_levelAt_4 : decode cX3_levelAt 4 = .ok (.iload_n 1, 1) := by decide +kernel
theorem dX3_levelAt_5 : decode cX3_levelAt 5 = .ok (.invokevirtual 37, 3) := by decide +kernel
theorem dX3_levelAt_8 : decode cX3_levelAt 8 = .ok (.istore_n 3, 1) := by decide +kernel
theorem dX3_levelAt_9 : decode cX3_levelAt 9 = .ok (.aload_n 0, 1) := by decide +kernel
theorem dX3_levelAt_10 : decode cX3_levelAt 10 = .ok (.getfield 14, 3) := by decide +kernel
theorem dX3_levelAt_13 : decode cX3_levelAt 13 = .ok (.iload_n 1, 1) := by decide +kernel
theorem dX3_levelAt_14 : decode cX3_levelAt 14 = .ok (.invokevirtual 37, 3) := by decide +kernel
theorem dX3_levelAt_17 : decode cX3_levelAt 17 = .ok (.aload_n 0, 1) := by decide +kernel
theorem dX3_levelAt_18 : decode cX3_levelAt 18 = .ok (.getfield 20, 3) := by decide +kernel
theorem dX3_levelAt_21 : decode cX3_levelAt 21 = .ok (.iload_n 1, 1) := by decide +kernel
theorem dX3_levelAt_22 : decode cX3_levelAt 22 = .ok (.invokevirtual 37, 3) := by decide +kernel
theorem dX3_levelAt_25 : decode cX3_levelAt 25 = .ok (.isub, 1) := by decide +kernel
theorem dX3_levelAt_26 : decode cX3_levelAt 26 = .ok (.istore 4, 2) := by decide +kernel
theorem dX3_levelAt_28 : decode cX3_levelAt 28 = .ok (.iload_n 3, 1) := by decide +kernel
theorem dX3_levelAt_29 : decode cX3_levelAt 29 = .ok (.iconst 2, 1) := by decide +kernel
theorem dX3_levelAt_30 : decode cX3_levelAt 30 = .ok (.if_icmp .ge 6, 3) := by decide +kernel
theorem dX3_levelAt_33 : decode cX3_levelAt 33 = .ok (.iload 4, 2) := by decide +kernel
theorem dX3_levelAt_35 : decode cX3_levelAt 35 = .ok (.ireturn, 1) := by decide +kernel
theorem dX3_levelAt_36 : decode cX3_levelAt 36 = .ok (.iload_n 2, 1) := by decide +kernel
theorem dX3_levelAt_37 : decode cX3_levelAt 37 = .ok (.iload_n 3, 1) := by decide +kernel
theorem dX3_levelAt_38 : decode cX3_levelAt 38 = .ok (.irem, 1) := by decide +kernel
theorem dX3_levelAt_39 : decode cX3_levelAt 39 = .ok (.istore 5, 2) := by decide +kernel
theorem dX3_levelAt_41 : decode cX3_levelAt 41 = .ok (.iload 4, 2) := by decide +kernel
theorem dX3_levelAt_43 : decode cX3_levelAt 43 = .ok (.iconst 4, 1) := by decide +kernel
theorem dX3_levelAt_44 : decode cX3_levelAt 44 = .ok (.aload_n 0, 1) := by decide +kernel
theorem dX3_levelAt_45 : decode cX3_levelAt 45 = .ok (.getfield 20, 3) := by decide +kernel
theorem dX3_levelAt_48 : decode cX3_levelAt 48 = .ok (.iload_n 1, 1) := by decide +kernel
theorem dX3_levelAt_49 : decode cX3_levelAt 49 = .ok (.invokevirtual 37, 3) := by decide +kernel
theorem dX3_levelAt_52 : decode cX3_levelAt 52 = .ok (.imul, 1) := by decide +kernel
theorem dX3_levelAt_53 : decode cX3_levelAt 53 = .ok (.iload 5, 2) := by decide +kernel
theorem dX3_levelAt_55 : decode cX3_levelAt 55 = .ok (.iload_n 3, 1) := by decide +kernel
theorem dX3_levelAt_56 : decode cX3_levelAt 56 = .ok (.iload 5, 2) := by decide +kernel
theorem dX3_levelAt_58 : decode cX3_levelAt 58 = .ok (.isub, 1) := by decide +kernel
theorem dX3_levelAt_59 : decode cX3_levelAt 59 = .ok (.invokestatic 41, 3) := by decide +kernel
theorem dX3_levelAt_62 : decode cX3_levelAt 62 = .ok (.imul, 1) := by decide +kernel
theorem dX3_levelAt_63 : decode cX3_levelAt 63 = .ok (.iload_n 3, 1) := by decide +kernel
theorem dX3_levelAt_64 : decode cX3_levelAt 64 = .ok (.idiv, 1) := by decide +kernel
theorem dX3_levelAt_65 : decode cX3_levelAt 65 = .ok (.iadd, 1) := by decide +kernel
theorem dX3_levelAt_66 : decode cX3_levelAt 66 = .ok (.ireturn, 1) := by decide +kernel
set_option maxRecDepth 20000 in
theorem ggX3_toldAt_X3_levelAt : GoodIn wsX3_toldAt wsX3_levelAt := goodIn_r _ [6, 7, 8, 9, 10, 11, 12, 13, 14, 15, 16, 17, 18, 19, 20, 21, 22, 23, 24] (by decide +kernel) (by decide +kernel)
set_option maxRecDepth 20000 in
theorem gX3_toldAt_X3_levelAt : GoodIn wsX3_toldAt (wsV RX3 47 RX3 yX3_levelAt wsX3_levelAt) := goodIn_app (goodIn_of _ (by decide +kernel)) ggX3_toldAt_X3_levelAt
set_option maxRecDepth 20000 in
theorem ggX3_toldAt_X0_get : GoodIn wsX3_toldAt wsX0_get := goodIn_r _ [18, 19, 24] (by decide +kernel) (by decide +kernel)
set_option maxRecDepth 20000 in
theorem gX3_toldAt_X0_get : GoodIn wsX3_toldAt (wsV RX3 37 RX0 yX0_get wsX0_get) := goodIn_app (goodIn_of _ (by decide +kernel)) ggX3_toldAt_X0_get
theorem dX3_toldAt_0 : decode cX3_toldAt 0 = .ok (.aload_n 0, 1) := by decide +kernel
theorem dX3_toldAt_1 : decode cX3_toldAt 1 = .ok (.iload_n 1, 1) := by decide +kernel
theorem dX3_toldAt_2 : decode cX3_toldAt 2 = .ok (.iload_n 2, 1) := by decide +kernel
theorem dX3_toldAt_3 : decode cX3_toldAt 3 = .ok (.invokevirtual 47, 3) := by decide +kernel
theorem dX3_toldAt_6 : decode cX3_toldAt 6 = .ok (.aload_n 0, 1) := by decide +kernel
theorem dX3_toldAt_7 : decode cX3_toldAt 7 = .ok (.getfield 26, 3) := by decide +kernel
theorem dX3_toldAt_10 : decode cX3_toldAt 10 = .ok (.iload_n 1, 1) := by decide +kernel
theorem dX3_toldAt_11 : decode cX3_toldAt 11 = .ok (.invokevirtual 37, 3) := by decide +kernel
theorem dX3_toldAt_14 : decode cX3_toldAt 14 = .ok (.iadd, 1) := by decide +kernel
theorem dX3_toldAt_15 : decode cX3_toldAt 15 = .ok (.ireturn, 1) := by decide +kernel
set_option maxRecDepth 20000 in
theorem ggX3_gapAt_X3_toldAt : GoodIn wsX3_gapAt wsX3_toldAt := goodIn_r _ [5, 6, 7, 8, 9, 4, 10, 11, 12, 13, 14, 15, 16, 17, 18, 19, 20, 21, 22, 23, 24, 25, 26, 27, 28] (by decide +kernel) (by decide +kernel)
set_option maxRecDepth 20000 in
theorem gX3_gapAt_X3_toldAt : GoodIn wsX3_gapAt (wsV RX3 50 RX3 yX3_toldAt wsX3_toldAt) := goodIn_app (goodIn_of _ (by decide +kernel)) ggX3_gapAt_X3_toldAt
theorem dX3_gapAt_0 : decode cX3_gapAt 0 = .ok (.aload_n 0, 1) := by decide +kernel
theorem dX3_gapAt_1 : decode cX3_gapAt 1 = .ok (.iconst 0, 1) := by decide +kernel
theorem dX3_gapAt_2 : decode cX3_gapAt 2 = .ok (.iload_n 1, 1) := by decide +kernel
theorem dX3_gapAt_3 : decode cX3_gapAt 3 = .ok (.invokevirtual 50, 3) := by decide +kernel
theorem dX3_gapAt_6 : decode cX3_gapAt 6 = .ok (.aload_n 0, 1) := by decide +kernel
theorem dX3_gapAt_7 : decode cX3_gapAt 7 = .ok (.iconst 1, 1) := by decide +kernel
theorem dX3_gapAt_8 : decode cX3_gapAt 8 = .ok (.iload_n 1, 1) := by decide +kernel
theorem dX3_gapAt_9 : decode cX3_gapAt 9 = .ok (.invokevirtual 50, 3) := by decide +kernel
theorem dX3_gapAt_12 : decode cX3_gapAt 12 = .ok (.isub, 1) := by decide +kernel
theorem dX3_gapAt_13 : decode cX3_gapAt 13 = .ok (.ireturn, 1) := by decide +kernel
set_option maxRecDepth 20000 in
theorem ggX3_copyFrom_X0_copyFrom : GoodIn wsX3_copyFrom wsX0_copyFrom := goodIn_r _ [9, 10, 11, 12, 13, 14, 15, 16, 17, 18, 23] (by decide +kernel) (by decide +kernel)
set_option maxRecDepth 20000 in
theorem gX3_copyFrom_X0_copyFrom : GoodIn wsX3_copyFrom (wsV RX3 53 RX0 yX0_copyFrom wsX0_copyFrom) := goodIn_app (goodIn_of _ (by decide +kernel)) ggX3_copyFrom_X0_copyFrom
theorem dX3_copyFrom_0 : decode cX3_copyFrom 0 = .ok (.aload_n 1, 1) := by decide +kernel
theorem dX3_copyFrom_1 : decode cX3_copyFrom 1 = .ok (.ifnull 47, 3) := by decide +kernel
theorem dX3_copyFrom_4 : decode cX3_copyFrom 4 = .ok (.aload_n 0, 1) := by decide +kernel
theorem dX3_copyFrom_5 : decode cX3_copyFrom 5 = .ok (.getfield 14, 3) := by decide +kernel
theorem dX3_copyFrom_8 : decode cX3_copyFrom 8 = .ok (.aload_n 1, 1) := by decide +kernel
theorem dX3_copyFrom_9 : decode cX3_copyFrom 9 = .ok (.getfield 14, 3) := by decide +kernel
theorem dX3_copyFrom_12 : decode cX3_copyFrom 12 = .ok (.invokevirtual 53, 3) := by decide +kernel
theorem dX3_copyFrom_15 : decode cX3_copyFrom 15 = .ok (.aload_n 0, 1) := by decide +kernel
theorem dX3_copyFrom_16 : decode cX3_copyFrom 16 = .ok (.getfield 20, 3) := by decide +kernel
theorem dX3_copyFrom_19 : decode cX3_copyFrom 19 = .ok (.aload_n 1, 1) := by decide +kernel
theorem dX3_copyFrom_20 : decode cX3_copyFrom 20 = .ok (.getfield 20, 3) := by decide +kernel
theorem dX3_copyFrom_23 : decode cX3_copyFrom 23 = .ok (.invokevirtual 53, 3) := by decide +kernel
theorem dX3_copyFrom_26 : decode cX3_copyFrom 26 = .ok (.aload_n 0, 1) := by decide +kernel
theorem dX3_copyFrom_27 : decode cX3_copyFrom 27 = .ok (.getfield 23, 3) := by decide +kernel
theorem dX3_copyFrom_30 : decode cX3_copyFrom 30 = .ok (.aload_n 1, 1) := by decide +kernel
theorem dX3_copyFrom_31 : decode cX3_copyFrom 31 = .ok (.getfield 23, 3) := by decide +kernel
theorem dX3_copyFrom_34 : decode cX3_copyFrom 34 = .ok (.invokevirtual 53, 3) := by decide +kernel
theorem dX3_copyFrom_37 : decode cX3_copyFrom 37 = .ok (.aload_n 0, 1) := by decide +kernel
theorem dX3_copyFrom_38 : decode cX3_copyFrom 38 = .ok (.getfield 26, 3) := by decide +kernel
theorem dX3_copyFrom_41 : decode cX3_copyFrom 41 = .ok (.aload_n 1, 1) := by decide +kernel
theorem dX3_copyFrom_42 : decode cX3_copyFrom 42 = .ok (.getfield 26, 3) := by decide +kernel
theorem dX3_copyFrom_45 : decode cX3_copyFrom 45 = .ok (.invokevirtual 53, 3) := by decide +kernel
theorem dX3_copyFrom_48 : decode cX3_copyFrom 48 = .ok (.return_, 1) := by decide +kernel
set_option maxRecDepth 20000 in
theorem ggX4_init_X0_init : GoodIn wsX4_init wsX0_init := goodIn_r _ [16, 17, 2, 3, 18, 19, 20, 21, 22, 23, 24] (by decide +kernel) (by decide +kernel)
set_option maxRecDepth 20000 in
theorem gX4_init_X0_init : GoodIn wsX4_init (wsX0_init) := ggX4_init_X0_init
theorem dX4_init_0 : decode cX4_init 0 = .ok (.aload_n 0, 1) := by decide +kernel
theorem dX4_init_1 : decode cX4_init 1 = .ok (.invokespecial 3, 3) := by decide +kernel
theorem dX4_init_4 : decode cX4_init 4 = .ok (.aload_n 0, 1) := by decide +kernel
theorem dX4_init_5 : decode cX4_init 5 = .ok (.new 9, 3) := by decide +kernel
theorem dX4_init_8 : decode cX4_init 8 = .ok (.dup, 1) := by decide +kernel
theorem dX4_init_9 : decode cX4_init 9 = .ok (.bipush 12, 2) := by decide +kernel
theorem dX4_init_11 : decode cX4_init 11 = .ok (.invokespecial 11, 3) := by decide +kernel
theorem dX4_init_14 : decode cX4_init 14 = .ok (.putfield 14, 3) := by decide +kernel
theorem dX4_init_17 : decode cX4_init 17 = .ok (.aload_n 0, 1) := by decide +kernel
theorem dX4_init_18 : decode cX4_init 18 = .ok (.new 9, 3) := by decide +kernel
theorem dX4_init_21 : decode cX4_init 21 = .ok (.dup, 1) := by decide +kernel
theorem dX4_init_22 : decode cX4_init 22 = .ok (.bipush 72, 2) := by decide +kernel
theorem dX4_init_24 : decode cX4_init 24 = .ok (.invokespecial 11, 3) := by decide +kernel
theorem dX4_init_27 : decode cX4_init 27 = .ok (.putfield 20, 3) := by decide +kernel
theorem dX4_init_30 : decode cX4_init 30 = .ok (.aload_n 0, 1) := by decide +kernel
theorem dX4_init_31 : decode cX4_init 31 = .ok (.new 9, 3) := by decide +kernel
theorem dX4_init_34 : decode cX4_init 34 = .ok (.dup, 1) := by decide +kernel
theorem dX4_init_35 : decode cX4_init 35 = .ok (.bipush 12, 2) := by decide +kernel
theorem dX4_init_37 : decode cX4_init 37 = .ok (.invokespecial 11, 3) := by decide +kernel
theorem dX4_init_40 : decode cX4_init 40 = .ok (.putfield 23, 3) := by decide +kernel
theorem dX4_init_43 : decode cX4_init 43 = .ok (.aload_n 0, 1) := by decide +kernel
theorem dX4_init_44 : decode cX4_init 44 = .ok (.new 9, 3) := by decide +kernel
theorem dX4_init_47 : decode cX4_init 47 = .ok (.dup, 1) := by decide +kernel
theorem dX4_init_48 : decode cX4_init 48 = .ok (.bipush 12, 2) := by decide +kernel
theorem dX4_init_50 : decode cX4_init 50 = .ok (.invokespecial 11, 3) := by decide +kernel
theorem dX4_init_53 : decode cX4_init 53 = .ok (.putfield 26, 3) := by decide +kernel
theorem dX4_init_56 : decode cX4_init 56 = .ok (.aload_n 0, 1) := by decide +kernel
theorem dX4_init_57 : decode cX4_init 57 = .ok (.new 9, 3) := by decide +kernel
theorem dX4_init_60 : decode cX4_init 60 = .ok (.dup, 1) := by decide +kernel
theorem dX4_init_61 : decode cX4_init 61 = .ok (.bipush 12, 2) := by decide +kernel
theorem dX4_init_63 : decode cX4_init 63 = .ok (.invokespecial 11, 3) := by decide +kernel
theorem dX4_init_66 : decode cX4_init 66 = .ok (.putfield 29, 3) := by decide +kernel
theorem dX4_init_69 : decode cX4_init 69 = .ok (.aload_n 0, 1) := by decide +kernel
theorem dX4_init_70 : decode cX4_init 70 = .ok (.new 9, 3) := by decide +kernel
theorem dX4_init_73 : decode cX4_init 73 = .ok (.dup, 1) := by decide +kernel
theorem dX4_init_74 : decode cX4_init 74 = .ok (.bipush 24, 2) := by decide +kernel
theorem dX4_init_76 : decode cX4_init 76 = .ok (.invokespecial 11, 3) := by decide +kernel
theorem dX4_init_79 : decode cX4_init 79 = .ok (.putfield 32, 3) := by decide +kernel
theorem dX4_init_82 : decode cX4_init 82 = .ok (.aload_n 0, 1) := by decide +kernel
theorem dX4_init_83 : decode cX4_init 83 = .ok (.new 9, 3) := by decide +kernel
theorem dX4_init_86 : decode cX4_init 86 = .ok (.dup, 1) := by decide +kernel
theorem dX4_init_87 : decode cX4_init 87 = .ok (.iconst 2, 1) := by decide +kernel
theorem dX4_init_88 : decode cX4_init 88 = .ok (.invokespecial 11, 3) := by decide +kernel
theorem dX4_init_91 : decode cX4_init 91 = .ok (.putfield 35, 3) := by decide +kernel
theorem dX4_init_94 : decode cX4_init 94 = .ok (.return_, 1) := by decide +kernel
set_option maxRecDepth 20000 in
theorem ggX4_startWord_X0_set : GoodIn wsX4_startWord wsX0_set := goodIn_r _ [9, 10, 30] (by decide +kernel) (by decide +kernel)
set_option maxRecDepth 20000 in
theorem gX4_startWord_X0_set : GoodIn wsX4_startWord (wsV RX4 42 RX0 yX0_set wsX0_set) := goodIn_app (goodIn_of _ (by decide +kernel)) ggX4_startWord_X0_set
set_option maxRecDepth 20000 in
theorem ggX4_startWord_X4_addLast : GoodIn wsX4_startWord wsX4_addLast := goodIn_r _ [15, 16, 17, 18, 19, 20, 8, 21, 10, 5, 6, 7, 9, 22, 23, 24, 25, 26, 27, 28, 29, 30] (by decide +kernel) (by decide +kernel)
set_option maxRecDepth 20000 in
theorem gX4_startWord_X4_addLast : GoodIn wsX4_startWord (wsV RX4 46 RX4 yX4_addLast wsX4_addLast) := goodIn_app (goodIn_of _ (by decide +kernel)) ggX4_startWord_X4_addLast
theorem dX4_startWord_0 : decode cX4_startWord 0 = .ok (.aload_n 0, 1) := by decide +kernel
theorem dX4_startWord_1 : decode cX4_startWord 1 = .ok (.getfield 38, 3) := by decide +kernel
theorem dX4_startWord_4 : decode cX4_startWord 4 = .ok (.istore_n 2, 1) := by decide +kernel
theorem dX4_startWord_5 : decode cX4_startWord 5 = .ok (.iload_n 2, 1) := by decide +kernel
theorem dX4_startWord_6 : decode cX4_startWord 6 = .ok (.bipush 12, 2) := by decide +kernel
theorem dX4_startWord_8 : decode cX4_startWord 8 = .ok (.if_icmp .lt 4, 3) := by decide +kernel
theorem dX4_startWord_11 : decode cX4_startWord 11 = .ok (.return_, 1) := by decide +kernel
theorem dX4_startWord_12 : decode cX4_startWord 12 = .ok (.aload_n 0, 1) := by decide +kernel
theorem dX4_startWord_13 : decode cX4_startWord 13 = .ok (.getfield 14, 3) := by decide +kernel
theorem dX4_startWord_16 : decode cX4_startWord 16 = .ok (.iload_n 2, 1) := by decide +kernel
theorem dX4_startWord_17 : decode cX4_startWord 17 = .ok (.iconst 0, 1) := by decide +kernel
theorem dX4_startWord_18 : decode cX4_startWord 18 = .ok (.invokevirtual 42, 3) := by decide +kernel
theorem dX4_startWord_21 : decode cX4_startWord 21 = .ok (.aload_n 0, 1) := by decide +kernel
theorem dX4_startWord_22 : decode cX4_startWord 22 = .ok (.getfield 23, 3) := by decide +kernel
theorem dX4_startWord_25 : decode cX4_startWord 25 = .ok (.iload_n 2, 1) := by decide +kernel
theorem dX4_startWord_26 : decode cX4_startWord 26 = .ok (.sipush (-1006), 3) := by decide +kernel
theorem dX4_startWord_29 : decode cX4_startWord 29 = .ok (.invokevirtual 42, 3) := by decide +kernel
theorem dX4_startWord_32 : decode cX4_startWord 32 = .ok (.aload_n 0, 1) := by decide +kernel
theorem dX4_startWord_33 : decode cX4_startWord 33 = .ok (.getfield 26, 3) := by decide +kernel
theorem dX4_startWord_36 : decode cX4_startWord 36 = .ok (.iload_n 2, 1) := by decide +kernel
theorem dX4_startWord_37 : decode cX4_startWord 37 = .ok (.sipush (-1006), 3) := by decide +kernel
theorem dX4_startWord_40 : decode cX4_startWord 40 = .ok (.invokevirtual 42, 3) := by decide +kernel
theorem dX4_startWord_43 : decode cX4_startWord 43 = .ok (.aload_n 0, 1) := by decide +kernel
theorem dX4_startWord_44 : decode cX4_startWord 44 = .ok (.iload_n 1, 1) := by decide +kernel
theorem dX4_startWord_45 : decode cX4_startWord 45 = .ok (.iload_n 2, 1) := by decide +kernel
theorem dX4_startWord_46 : decode cX4_startWord 46 = .ok (.invokevirtual 46, 3) := by decide +kernel
theorem dX4_startWord_49 : decode cX4_startWord 49 = .ok (.aload_n 0, 1) := by decide +kernel
theorem dX4_startWord_50 : decode cX4_startWord 50 = .ok (.dup, 1) := by decide +kernel
theorem dX4_startWord_51 : decode cX4_startWord 51 = .ok (.getfield 38, 3) := by decide +kernel
theorem dX4_startWord_54 : decode cX4_startWord 54 = .ok (.iconst 1, 1) := by decide +kernel
theorem dX4_startWord_55 : decode cX4_startWord 55 = .ok (.iadd, 1) := by decide +kernel
theorem dX4_startWord_56 : decode cX4_startWord 56 = .ok (.putfield 38, 3) := by decide +kernel
theorem dX4_startWord_59 : decode cX4_startWord 59 = .ok (.return_, 1) := by decide +kernel
set_option maxRecDepth 20000 in
theorem ggX4_addLetter_X0_get : GoodIn wsX4_addLetter wsX0_get := goodIn_r _ [8, 9, 26] (by decide +kernel) (by decide +kernel)
set_option maxRecDepth 20000 in
theorem gX4_addLetter_X0_get : GoodIn wsX4_addLetter (wsV RX4 49 RX0 yX0_get wsX0_get) := goodIn_app (goodIn_of _ (by decide +kernel)) ggX4_addLetter_X0_get
set_option maxRecDepth 20000 in
theorem ggX4_addLetter_X0_set : GoodIn wsX4_addLetter wsX0_set := goodIn_r _ [13, 9, 26] (by decide +kernel) (by decide +kernel)
set_option maxRecDepth 20000 in
theorem gX4_addLetter_X0_set : GoodIn wsX4_addLetter (wsV RX4 42 RX0 yX0_set wsX0_set) := goodIn_app (goodIn_of _ (by decide +kernel)) ggX4_addLetter_X0_set
set_option maxRecDepth 20000 in
theorem ggX4_addLetter_X0_add : GoodIn wsX4_addLetter wsX0_add := goodIn_r _ [17, 9, 26] (by decide +kernel) (by decide +kernel)
set_option maxRecDepth 20000 in
theorem gX4_addLetter_X0_add : GoodIn wsX4_addLetter (wsV RX4 53 RX0 yX0_add wsX0_add) := goodIn_app (goodIn_of _ (by decide +kernel)) ggX4_addLetter_X0_add
theorem dX4_addLetter_0 : decode cX4_addLetter 0 = .ok (.aload_n 0, 1) := by decide +kernel
theorem dX4_addLetter_1 : decode cX4_addLetter 1 = .ok (.getfield 38, 3) := by decide +kernel
theorem dX4_addLetter_4 : decode cX4_addLetter 4 = .ok (.iconst 1, 1) := by decide +kernel
theorem dX4_addLetter_5 : decode cX4_addLetter 5 = .ok (.isub, 1) := by decide +kernel
theorem dX4_addLetter_6 : decode cX4_addLetter 6 = .ok (.istore_n 2, 1) := by decide +kernel
theorem dX4_addLetter_7 : decode cX4_addLetter 7 = .ok (.aload_n 0, 1) := by decide +kernel
theorem dX4_addLetter_8 : decode cX4_addLetter 8 = .ok (.getfield 14, 3) := by decide +kernel
theorem dX4_addLetter_11 : decode cX4_addLetter 11 = .ok (.iload_n 2, 1) := by decide +kernel
theorem dX4_addLetter_12 : decode cX4_addLetter 12 = .ok (.invokevirtual 49, 3) := by decide +kernel
theorem dX4_addLetter_15 : decode cX4_addLetter 15 = .ok (.istore_n 3, 1) := by decide +kernel
theorem dX4_addLetter_16 : decode cX4_addLetter 16 = .ok (.iload_n 3, 1) := by decide +kernel
theorem dX4_addLetter_17 : decode cX4_addLetter 17 = .ok (.bipush 6, 2) := by decide +kernel
theorem dX4_addLetter_19 : decode cX4_addLetter 19 = .ok (.if_icmp .ge 26, 3) := by decide +kernel
theorem dX4_addLetter_22 : decode cX4_addLetter 22 = .ok (.aload_n 0, 1) := by decide +kernel
theorem dX4_addLetter_23 : decode cX4_addLetter 23 = .ok (.getfield 20, 3) := by decide +kernel
theorem dX4_addLetter_26 : decode cX4_addLetter 26 = .ok (.iload_n 2, 1) := by decide +kernel
theorem dX4_addLetter_27 : decode cX4_addLetter 27 = .ok (.bipush 6, 2) := by decide +kernel
theorem dX4_addLetter_29 : decode cX4_addLetter 29 = .ok (.imul, 1) := by decide +kernel
theorem dX4_addLetter_30 : decode cX4_addLetter 30 = .ok (.iload_n 3, 1) := by decide +kernel
theorem dX4_addLetter_31 : decode cX4_addLetter 31 = .ok (.iadd, 1) := by decide +kernel
theorem dX4_addLetter_32 : decode cX4_addLetter 32 = .ok (.iload_n 1, 1) := by decide +kernel
theorem dX4_addLetter_33 : decode cX4_addLetter 33 = .ok (.invokevirtual 42, 3) := by decide +kernel
theorem dX4_addLetter_36 : decode cX4_addLetter 36 = .ok (.aload_n 0, 1) := by decide +kernel
theorem dX4_addLetter_37 : decode cX4_addLetter 37 = .ok (.getfield 14, 3) := by decide +kernel
theorem dX4_addLetter_40 : decode cX4_addLetter 40 = .ok (.iload_n 2, 1) := by decide +kernel
theorem dX4_addLetter_41 : decode cX4_addLetter 41 = .ok (.iconst 1, 1) := by decide +kernel
theorem dX4_addLetter_42 : decode cX4_addLetter 42 = .ok (.invokevirtual 53, 3) := by decide +kernel
theorem dX4_addLetter_45 : decode cX4_addLetter 45 = .ok (.return_, 1) := by decide +kernel
set_option maxRecDepth 20000 in
theorem ggX4_letterOf_X0_get : GoodIn wsX4_letterOf wsX0_get := goodIn_r _ [7, 8, 17] (by decide +kernel) (by decide +kernel)
set_option maxRecDepth 20000 in
theorem gX4_letterOf_X0_get : GoodIn wsX4_letterOf (wsV RX4 49 RX0 yX0_get wsX0_get) := goodIn_app (goodIn_of _ (by decide +kernel)) ggX4_letterOf_X0_get
theorem dX4_letterOf_0 : decode cX4_letterOf 0 = .ok (.iload_n 2, 1) := by decide +kernel
theorem dX4_letterOf_1 : decode cX4_letterOf 1 = .ok (.ifCond .lt 19, 3) := by decide +kernel
theorem dX4_letterOf_4 : decode cX4_letterOf 4 = .ok (.iload_n 2, 1) := by decide +kernel
theorem dX4_letterOf_5 : decode cX4_letterOf 5 = .ok (.aload_n 0, 1) := by decide +kernel
theorem dX4_letterOf_6 : decode cX4_letterOf 6 = .ok (.getfield 14, 3) := by decide +kernel
theorem dX4_letterOf_9 : decode cX4_letterOf 9 = .ok (.iload_n 1, 1) := by decide +kernel
theorem dX4_letterOf_10 : decode cX4_letterOf 10 = .ok (.invokevirtual 49, 3) := by decide +kernel
theorem dX4_letterOf_13 : decode cX4_letterOf 13 = .ok (.if_icmp .ge 7, 3) := by decide +kernel
theorem dX4_letterOf_16 : decode cX4_letterOf 16 = .ok (.iconst 1, 1) := by decide +kernel
theorem dX4_letterOf_17 : decode cX4_letterOf 17 = .ok (.goto 4, 3) := by decide +kernel
theorem dX4_letterOf_20 : decode cX4_letterOf 20 = .ok (.iconst 0, 1) := by decide +kernel
theorem dX4_letterOf_21 : decode cX4_letterOf 21 = .ok (.istore_n 3, 1) := by decide +kernel
theorem dX4_letterOf_22 : decode cX4_letterOf 22 = .ok (.iload_n 3, 1) := by decide +kernel
theorem dX4_letterOf_23 : decode cX4_letterOf 23 = .ok (.ifCond .eq 19, 3) := by decide +kernel
theorem dX4_letterOf_26 : decode cX4_letterOf 26 = .ok (.aload_n 0, 1) := by decide +kernel
theorem dX4_letterOf_27 : decode cX4_letterOf 27 = .ok (.getfield 20, 3) := by decide +kernel
theorem dX4_letterOf_30 : decode cX4_letterOf 30 = .ok (.iload_n 1, 1) := by decide +kernel
theorem dX4_letterOf_31 : decode cX4_letterOf 31 = .ok (.bipush 6, 2) := by decide +kernel
theorem dX4_letterOf_33 : decode cX4_letterOf 33 = .ok (.imul, 1) := by decide +kernel
theorem dX4_letterOf_34 : decode cX4_letterOf 34 = .ok (.iload_n 2, 1) := by decide +kernel
theorem dX4_letterOf_35 : decode cX4_letterOf 35 = .ok (.iadd, 1) := by decide +kernel
theorem dX4_letterOf_36 : decode cX4_letterOf 36 = .ok (.invokevirtual 49, 3) := by decide +kernel
theorem dX4_letterOf_39 : decode cX4_letterOf 39 = .ok (.goto 6, 3) := by decide +kernel
theorem dX4_letterOf_42 : decode cX4_letterOf 42 = .ok (.sipush (-1006), 3) := by decide +kernel
theorem dX4_letterOf_45 : decode cX4_letterOf 45 = .ok (.ireturn, 1) := by decide +kernel
set_option maxRecDepth 20000 in
theorem ggX4_hasPassed_X0_get : GoodIn wsX4_hasPassed wsX0_get := goodIn_r _ [6, 7, 16] (by decide +kernel) (by decide +kernel)
set_option maxRecDepth 20000 in
theorem gX4_hasPassed_X0_get : GoodIn wsX4_hasPassed (wsV RX4 49 RX0 yX0_get wsX0_get) := goodIn_app (goodIn_of _ (by decide +kernel)) ggX4_hasPassed_X0_get
theorem dX4_hasPassed_0 : decode cX4_hasPassed 0 = .ok (.aload_n 0, 1) := by decide +kernel
theorem dX4_hasPassed_1 : decode cX4_hasPassed 1 = .ok (.getfield 23, 3) := by decide +kernel
theorem dX4_hasPassed_4 : decode cX4_hasPassed 4 = .ok (.iload_n 1, 1) := by decide +kernel
theorem dX4_hasPassed_5 : decode cX4_hasPassed 5 = .ok (.invokevirtual 49, 3) := by decide +kernel
theorem dX4_hasPassed_8 : decode cX4_hasPassed 8 = .ok (.sipush (-1006), 3) := by decide +kernel
theorem dX4_hasPassed_11 : decode cX4_hasPassed 11 = .ok (.if_icmp .eq 7, 3) := by decide +kernel
theorem dX4_hasPassed_14 : decode cX4_hasPassed 14 = .ok (.iconst 1, 1) := by decide +kernel
theorem dX4_hasPassed_15 : decode cX4_hasPassed 15 = .ok (.goto 4, 3) := by decide +kernel
theorem dX4_hasPassed_18 : decode cX4_hasPassed 18 = .ok (.iconst 0, 1) := by decide +kernel
theorem dX4_hasPassed_19 : decode cX4_hasPassed 19 = .ok (.ireturn, 1) := by decide +kernel
set_option maxRecDepth 20000 in
theorem ggX4_markPassed_X0_set : GoodIn wsX4_markPassed wsX0_set := goodIn_r _ [7, 8, 17] (by decide +kernel) (by decide +kernel)
set_option maxRecDepth 20000 in
theorem gX4_markPassed_X0_set : GoodIn wsX4_markPassed (wsV RX4 42 RX0 yX0_set wsX0_set) := goodIn_app (goodIn_of _ (by decide +kernel)) ggX4_markPassed_X0_set
theorem dX4_markPassed_0 : decode cX4_markPassed 0 = .ok (.aload_n 0, 1) := by decide +kernel
theorem dX4_markPassed_1 : decode cX4_markPassed 1 = .ok (.getfield 23, 3) := by decide +kernel
theorem dX4_markPassed_4 : decode cX4_markPassed 4 = .ok (.iload_n 1, 1) := by decide +kernel
theorem dX4_markPassed_5 : decode cX4_markPassed 5 = .ok (.iload_n 2, 1) := by decide +kernel
theorem dX4_markPassed_6 : decode cX4_markPassed 6 = .ok (.invokevirtual 42, 3) := by decide +kernel
theorem dX4_markPassed_9 : decode cX4_markPassed 9 = .ok (.aload_n 0, 1) := by decide +kernel
theorem dX4_markPassed_10 : decode cX4_markPassed 10 = .ok (.getfield 26, 3) := by decide +kernel
theorem dX4_markPassed_13 : decode cX4_markPassed 13 = .ok (.iload_n 1, 1) := by decide +kernel
theorem dX4_markPassed_14 : decode cX4_markPassed 14 = .ok (.iload_n 3, 1) := by decide +kernel
theorem dX4_markPassed_15 : decode cX4_markPassed 15 = .ok (.invokevirtual 42, 3) := by decide +kernel
theorem dX4_markPassed_18 : decode cX4_markPassed 18 = .ok (.return_, 1) := by decide +kernel
set_option maxRecDepth 20000 in
theorem ggX4_wordAt_X0_get : GoodIn wsX4_wordAt wsX0_get := goodIn_r _ [6, 7, 16] (by decide +kernel) (by decide +kernel)
set_option maxRecDepth 20000 in
theorem gX4_wordAt_X0_get : GoodIn wsX4_wordAt (wsV RX4 49 RX0 yX0_get wsX0_get) := goodIn_app (goodIn_of _ (by decide +kernel)) ggX4_wordAt_X0_get
theorem dX4_wordAt_0 : decode cX4_wordAt 0 = .ok (.aload_n 0, 1) := by decide +kernel
theorem dX4_wordAt_1 : decode cX4_wordAt 1 = .ok (.getfield 32, 3) := by decide +kernel
theorem dX4_wordAt_4 : decode cX4_wordAt 4 = .ok (.iload_n 1, 1) := by decide +kernel
theorem dX4_wordAt_5 : decode cX4_wordAt 5 = .ok (.bipush 12, 2) := by decide +kernel
theorem dX4_wordAt_7 : decode cX4_wordAt 7 = .ok (.imul, 1) := by decide +kernel
theorem dX4_wordAt_8 : decode cX4_wordAt 8 = .ok (.iload_n 2, 1) := by decide +kernel
theorem dX4_wordAt_9 : decode cX4_wordAt 9 = .ok (.iadd, 1) := by decide +kernel
theorem dX4_wordAt_10 : decode cX4_wordAt 10 = .ok (.invokevirtual 49, 3) := by decide +kernel
theorem dX4_wordAt_13 : decode cX4_wordAt 13 = .ok (.ireturn, 1) := by decide +kernel
set_option maxRecDepth 20000 in
theorem ggX4_placeIn_X0_get : GoodIn wsX4_placeIn wsX0_get := goodIn_r _ [6, 7, 22] (by decide +kernel) (by decide +kernel)
set_option maxRecDepth 20000 in
theorem gX4_placeIn_X0_get : GoodIn wsX4_placeIn (wsV RX4 49 RX0 yX0_get wsX0_get) := goodIn_app (goodIn_of _ (by decide +kernel)) ggX4_placeIn_X0_get
set_option maxRecDepth 20000 in
theorem ggX4_placeIn_X4_wordAt : GoodIn wsX4_placeIn wsX4_wordAt := goodIn_r _ [12, 13, 2, 3, 4, 5, 6, 7, 14, 15, 16, 17, 18, 19, 20, 21, 22] (by decide +kernel) (by decide +kernel)
set_option maxRecDepth 20000 in
theorem gX4_placeIn_X4_wordAt : GoodIn wsX4_placeIn (wsV RX4 56 RX4 yX4_wordAt wsX4_wordAt) := goodIn_app (goodIn_of _ (by decide +kernel)) ggX4_placeIn_X4_wordAt
theorem dX4_placeIn_0 : decode cX4_placeIn 0 = .ok (.aload_n 0, 1) := by decide +kernel
theorem dX4_placeIn_1 : decode cX4_placeIn 1 = .ok (.getfield 35, 3) := by decide +kernel
theorem dX4_placeIn_4 : decode cX4_placeIn 4 = .ok (.iload_n 1, 1) := by decide +kernel
theorem dX4_placeIn_5 : decode cX4_placeIn 5 = .ok (.invokevirtual 49, 3) := by decide +kernel
theorem dX4_placeIn_8 : decode cX4_placeIn 8 = .ok (.istore_n 3, 1) := by decide +kernel
theorem dX4_placeIn_9 : decode cX4_placeIn 9 = .ok (.iconst 0, 1) := by decide +kernel
theorem dX4_placeIn_10 : decode cX4_placeIn 10 = .ok (.istore 4, 2) := by decide +kernel
theorem dX4_placeIn_12 : decode cX4_placeIn 12 = .ok (.iload 4, 2) := by decide +kernel
theorem dX4_placeIn_14 : decode cX4_placeIn 14 = .ok (.iload_n 3, 1) := by decide +kernel
theorem dX4_placeIn_15 : decode cX4_placeIn 15 = .ok (.if_icmp .ge 23, 3) := by decide +kernel
theorem dX4_placeIn_18 : decode cX4_placeIn 18 = .ok (.aload_n 0, 1) := by decide +kernel
theorem dX4_placeIn_19 : decode cX4_placeIn 19 = .ok (.iload_n 1, 1) := by decide +kernel
theorem dX4_placeIn_20 : decode cX4_placeIn 20 = .ok (.iload 4, 2) := by decide +kernel
theorem dX4_placeIn_22 : decode cX4_placeIn 22 = .ok (.invokevirtual 56, 3) := by decide +kernel
theorem dX4_placeIn_25 : decode cX4_placeIn 25 = .ok (.iload_n 2, 1) := by decide +kernel
theorem dX4_placeIn_26 : decode cX4_placeIn 26 = .ok (.if_icmp .ne 6, 3) := by decide +kernel
theorem dX4_placeIn_29 : decode cX4_placeIn 29 = .ok (.iload 4, 2) := by decide +kernel
theorem dX4_placeIn_31 : decode cX4_placeIn 31 = .ok (.ireturn, 1) := by decide +kernel
theorem dX4_placeIn_32 : decode cX4_placeIn 32 = .ok (.iinc 4 1, 3) := by decide +kernel
theorem dX4_placeIn_35 : decode cX4_placeIn 35 = .ok (.goto (-23), 3) := by decide +kernel
theorem dX4_placeIn_38 : decode cX4_placeIn 38 = .ok (.sipush (-1006), 3) := by decide +kernel
theorem dX4_placeIn_41 : decode cX4_placeIn 41 = .ok (.ireturn, 1) := by decide +kernel
set_option maxRecDepth 20000 in
theorem ggX4_placeOf_X4_placeIn : GoodIn wsX4_placeOf wsX4_placeIn := goodIn_r _ [5, 6, 7, 8, 9, 10, 11, 12, 13, 14, 15, 4, 16, 17, 18, 19, 20, 21, 22, 23, 24, 25, 26] (by decide +kernel) (by decide +kernel)
set_option maxRecDepth 20000 in
theorem gX4_placeOf_X4_placeIn : GoodIn wsX4_placeOf (wsV RX4 60 RX4 yX4_placeIn wsX4_placeIn) := goodIn_app (goodIn_of _ (by decide +kernel)) ggX4_placeOf_X4_placeIn
theorem dX4_placeOf_0 : decode cX4_placeOf 0 = .ok (.aload_n 0, 1) := by decide +kernel
theorem dX4_placeOf_1 : decode cX4_placeOf 1 = .ok (.iconst 0, 1) := by decide +kernel
theorem dX4_placeOf_2 : decode cX4_placeOf 2 = .ok (.iload_n 1, 1) := by decide +kernel
theorem dX4_placeOf_3 : decode cX4_placeOf 3 = .ok (.invokevirtual 60, 3) := by decide +kernel
theorem dX4_placeOf_6 : decode cX4_placeOf 6 = .ok (.istore_n 2, 1) := by decide +kernel
theorem dX4_placeOf_7 : decode cX4_placeOf 7 = .ok (.iload_n 2, 1) := by decide +kernel
theorem dX4_placeOf_8 : decode cX4_placeOf 8 = .ok (.sipush (-1006), 3) := by decide +kernel
theorem dX4_placeOf_11 : decode cX4_placeOf 11 = .ok (.if_icmp .eq 7, 3) := by decide +kernel
theorem dX4_placeOf_14 : decode cX4_placeOf 14 = .ok (.iload_n 2, 1) := by decide +kernel
theorem dX4_placeOf_15 : decode cX4_placeOf 15 = .ok (.goto 9, 3) := by decide +kernel
theorem dX4_placeOf_18 : decode cX4_placeOf 18 = .ok (.aload_n 0, 1) := by decide +kernel
theorem dX4_placeOf_19 : decode cX4_placeOf 19 = .ok (.iconst 1, 1) := by decide +kernel
theorem dX4_placeOf_20 : decode cX4_placeOf 20 = .ok (.iload_n 1, 1) := by decide +kernel
theorem dX4_placeOf_21 : decode cX4_placeOf 21 = .ok (.invokevirtual 60, 3) := by decide +kernel
theorem dX4_placeOf_24 : decode cX4_placeOf 24 = .ok (.ireturn, 1) := by decide +kernel
set_option maxRecDepth 20000 in
theorem ggX4_lettersInRow_X0_get : GoodIn wsX4_lettersInRow wsX0_get := goodIn_r _ [7, 8, 23] (by decide +kernel) (by decide +kernel)
set_option maxRecDepth 20000 in
theorem gX4_lettersInRow_X0_get : GoodIn wsX4_lettersInRow (wsV RX4 49 RX0 yX0_get wsX0_get) := goodIn_app (goodIn_of _ (by decide +kernel)) ggX4_lettersInRow_X0_get
set_option maxRecDepth 20000 in
theorem ggX4_lettersInRow_X4_wordAt : GoodIn wsX4_lettersInRow wsX4_wordAt := goodIn_r _ [13, 14, 3, 4, 5, 6, 7, 8, 15, 16, 17, 18, 19, 20, 21, 22, 23] (by decide +kernel) (by decide +kernel)
set_option maxRecDepth 20000 in
theorem gX4_lettersInRow_X4_wordAt : GoodIn wsX4_lettersInRow (wsV RX4 56 RX4 yX4_wordAt wsX4_wordAt) := goodIn_app (goodIn_of _ (by decide +kernel)) ggX4_lettersInRow_X4_wordAt
theorem dX4_lettersInRow_0 : decode cX4_lettersInRow 0 = .ok (.aload_n 0, 1) := by decide +kernel
theorem dX4_lettersInRow_1 : decode cX4_lettersInRow 1 = .ok (.getfield 35, 3) := by decide +kernel
theorem dX4_lettersInRow_4 : decode cX4_lettersInRow 4 = .ok (.iload_n 1, 1) := by decide +kernel
theorem dX4_lettersInRow_5 : decode cX4_lettersInRow 5 = .ok (.invokevirtual 49, 3) := by decide +kernel
theorem dX4_lettersInRow_8 : decode cX4_lettersInRow 8 = .ok (.istore_n 2, 1) := by decide +kernel
theorem dX4_lettersInRow_9 : decode cX4_lettersInRow 9 = .ok (.iconst 0, 1) := by decide +kernel
theorem dX4_lettersInRow_10 : decode cX4_lettersInRow 10 = .ok (.istore_n 3, 1) := by decide +kernel
theorem dX4_lettersInRow_11 : decode cX4_lettersInRow 11 = .ok (.iconst 0, 1) := by decide +kernel
theorem dX4_lettersInRow_12 : decode cX4_lettersInRow 12 = .ok (.istore 4, 2) := by decide +kernel
theorem dX4_lettersInRow_14 : decode cX4_lettersInRow 14 = .ok (.iload 4, 2) := by decide +kernel
theorem dX4_lettersInRow_16 : decode cX4_lettersInRow 16 = .ok (.iload_n 2, 1) := by decide +kernel
theorem dX4_lettersInRow_17 : decode cX4_lettersInRow 17 = .ok (.if_icmp .ge 26, 3) := by decide +kernel
theorem dX4_lettersInRow_20 : decode cX4_lettersInRow 20 = .ok (.iload_n 3, 1) := by decide +kernel
theorem dX4_lettersInRow_21 : decode cX4_lettersInRow 21 = .ok (.aload_n 0, 1) := by decide +kernel
theorem dX4_lettersInRow_22 : decode cX4_lettersInRow 22 = .ok (.getfield 14, 3) := by decide +kernel
theorem dX4_lettersInRow_25 : decode cX4_lettersInRow 25 = .ok (.aload_n 0, 1) := by decide +kernel
theorem dX4_lettersInRow_26 : decode cX4_lettersInRow 26 = .ok (.iload_n 1, 1) := by decide +kernel
theorem dX4_lettersInRow_27 : decode cX4_lettersInRow 27 = .ok (.iload 4, 2) := by decide +kernel
theorem dX4_lettersInRow_29 : decode cX4_lettersInRow 29 = .ok (.invokevirtual 56, 3) := by decide +kernel
theorem dX4_lettersInRow_32 : decode cX4_lettersInRow 32 = .ok (.invokevirtual 49, 3) := by decide +kernel
theorem dX4_lettersInRow_35 : decode cX4_lettersInRow 35 = .ok (.iadd, 1) := by decide +kernel
theorem dX4_lettersInRow_36 : decode cX4_lettersInRow 36 = .ok (.istore_n 3, 1) := by decide +kernel
theorem dX4_lettersInRow_37 : decode cX4_lettersInRow 37 = .ok (.iinc 4 1, 3) := by decide +kernel
theorem dX4_lettersInRow_40 : decode cX4_lettersInRow 40 = .ok (.goto (-26), 3) := by decide +kernel
theorem dX4_lettersInRow_43 : decode cX4_lettersInRow 43 = .ok (.iload_n 3, 1) := by decide +kernel
theorem dX4_lettersInRow_44 : decode cX4_lettersInRow 44 = .ok (.ireturn, 1) := by decide +kernel
set_option maxRecDepth 20000 in
theorem ggX4_waitingInRow_X0_get : GoodIn wsX4_waitingInRow wsX0_get := goodIn_r _ [6, 7, 27] (by decide +kernel) (by decide +kernel)
set_option maxRecDepth 20000 in
theorem gX4_waitingInRow_X0_get : GoodIn wsX4_waitingInRow (wsV RX4 49 RX0 yX0_get wsX0_get) := goodIn_app (goodIn_of _ (by decide +kernel)) ggX4_waitingInRow_X0_get
set_option maxRecDepth 20000 in
theorem ggX4_waitingInRow_X4_wordAt : GoodIn wsX4_waitingInRow wsX4_wordAt := goodIn_r _ [12, 13, 2, 3, 4, 5, 6, 7, 19, 20, 21, 22, 23, 24, 25, 26, 27] (by decide +kernel) (by decide +kernel)
set_option maxRecDepth 20000 in
theorem gX4_waitingInRow_X4_wordAt : GoodIn wsX4_waitingInRow (wsV RX4 56 RX4 yX4_wordAt wsX4_wordAt) := goodIn_app (goodIn_of _ (by decide +kernel)) ggX4_waitingInRow_X4_wordAt
set_option maxRecDepth 20000 in
theorem ggX4_waitingInRow_X4_hasPassed : GoodIn wsX4_waitingInRow wsX4_hasPassed := goodIn_r _ [17, 18, 2, 3, 4, 5, 6, 7, 19, 20, 21, 22, 23, 24, 25, 26, 27] (by decide +kernel) (by decide +kernel)
set_option maxRecDepth 20000 in
theorem gX4_waitingInRow_X4_hasPassed : GoodIn wsX4_waitingInRow (wsV RX4 63 RX4 yX4_hasPassed wsX4_hasPassed) := goodIn_app (goodIn_of _ (by decide +kernel)) ggX4_waitingInRow_X4_hasPassed
theorem dX4_waitingInRow_0 : decode cX4_waitingInRow 0 = .ok (.aload_n 0, 1) := by decide +kernel
theorem dX4_waitingInRow_1 : decode cX4_waitingInRow 1 = .ok (.getfield 35, 3) := by decide +kernel
theorem dX4_waitingInRow_4 : decode cX4_waitingInRow 4 = .ok (.iload_n 1, 1) := by decide +kernel
theorem dX4_waitingInRow_5 : decode cX4_waitingInRow 5 = .ok (.invokevirtual 49, 3) := by decide +kernel
theorem dX4_waitingInRow_8 : decode cX4_waitingInRow 8 = .ok (.istore_n 2, 1) := by decide +kernel
theorem dX4_waitingInRow_9 : decode cX4_waitingInRow 9 = .ok (.iconst 0, 1) := by decide +kernel
theorem dX4_waitingInRow_10 : decode cX4_waitingInRow 10 = .ok (.istore_n 3, 1) := by decide +kernel
theorem dX4_waitingInRow_11 : decode cX4_waitingInRow 11 = .ok (.iconst 0, 1) := by decide +kernel
theorem dX4_waitingInRow_12 : decode cX4_waitingInRow 12 = .ok (.istore 4, 2) := by decide +kernel
theorem dX4_waitingInRow_14 : decode cX4_waitingInRow 14 = .ok (.iload 4, 2) := by decide +kernel
theorem dX4_waitingInRow_16 : decode cX4_waitingInRow 16 = .ok (.iload_n 2, 1) := by decide +kernel
theorem dX4_waitingInRow_17 : decode cX4_waitingInRow 17 = .ok (.if_icmp .ge 31, 3) := by decide +kernel
theorem dX4_waitingInRow_20 : decode cX4_waitingInRow 20 = .ok (.iload_n 3, 1) := by decide +kernel
theorem dX4_waitingInRow_21 : decode cX4_waitingInRow 21 = .ok (.aload_n 0, 1) := by decide +kernel
theorem dX4_waitingInRow_22 : decode cX4_waitingInRow 22 = .ok (.aload_n 0, 1) := by decide +kernel
theorem dX4_waitingInRow_23 : decode cX4_waitingInRow 23 = .ok (.iload_n 1, 1) := by decide +kernel
theorem dX4_waitingInRow_24 : decode cX4_waitingInRow 24 = .ok (.iload 4, 2) := by decide +kernel
theorem dX4_waitingInRow_26 : decode cX4_waitingInRow 26 = .ok (.invokevirtual 56, 3) := by decide +kernel
theorem dX4_waitingInRow_29 : decode cX4_waitingInRow 29 = .ok (.invokevirtual 63, 3) := by decide +kernel
theorem dX4_waitingInRow_32 : decode cX4_waitingInRow 32 = .ok (.ifCond .eq 7, 3) := by decide +kernel
theorem dX4_waitingInRow_35 : decode cX4_waitingInRow 35 = .ok (.iconst 0, 1) := by decide +kernel
theorem dX4_waitingInRow_36 : decode cX4_waitingInRow 36 = .ok (.goto 4, 3) := by decide +kernel
theorem dX4_waitingInRow_39 : decode cX4_waitingInRow 39 = .ok (.iconst 1, 1) := by decide +kernel
theorem dX4_waitingInRow_40 : decode cX4_waitingInRow 40 = .ok (.iadd, 1) := by decide +kernel
theorem dX4_waitingInRow_41 : decode cX4_waitingInRow 41 = .ok (.istore_n 3, 1) := by decide +kernel
theorem dX4_waitingInRow_42 : decode cX4_waitingInRow 42 = .ok (.iinc 4 1, 3) := by decide +kernel
theorem dX4_waitingInRow_45 : decode cX4_waitingInRow 45 = .ok (.goto (-31), 3) := by decide +kernel
theorem dX4_waitingInRow_48 : decode cX4_waitingInRow 48 = .ok (.iload_n 3, 1) := by decide +kernel
theorem dX4_waitingInRow_49 : decode cX4_waitingInRow 49 = .ok (.ireturn, 1) := by decide +kernel
set_option maxRecDepth 20000 in
theorem ggX4_addLast_X0_get : GoodIn wsX4_addLast wsX0_get := goodIn_r _ [7, 8, 21] (by decide +kernel) (by decide +kernel)
set_option maxRecDepth 20000 in
theorem gX4_addLast_X0_get : GoodIn wsX4_addLast (wsV RX4 49 RX0 yX0_get wsX0_get) := goodIn_app (goodIn_of _ (by decide +kernel)) ggX4_addLast_X0_get
set_option maxRecDepth 20000 in
theorem ggX4_addLast_X0_set : GoodIn wsX4_addLast wsX0_set := goodIn_r _ [12, 8, 21] (by decide +kernel) (by decide +kernel)
set_option maxRecDepth 20000 in
theorem gX4_addLast_X0_set : GoodIn wsX4_addLast (wsV RX4 42 RX0 yX0_set wsX0_set) := goodIn_app (goodIn_of _ (by decide +kernel)) ggX4_addLast_X0_set
theorem dX4_addLast_0 : decode cX4_addLast 0 = .ok (.aload_n 0, 1) := by decide +kernel
theorem dX4_addLast_1 : decode cX4_addLast 1 = .ok (.getfield 35, 3) := by decide +kernel
theorem dX4_addLast_4 : decode cX4_addLast 4 = .ok (.iload_n 1, 1) := by decide +kernel
theorem dX4_addLast_5 : decode cX4_addLast 5 = .ok (.invokevirtual 49, 3) := by decide +kernel
theorem dX4_addLast_8 : decode cX4_addLast 8 = .ok (.istore_n 3, 1) := by decide +kernel
theorem dX4_addLast_9 : decode cX4_addLast 9 = .ok (.iload_n 3, 1) := by decide +kernel
theorem dX4_addLast_10 : decode cX4_addLast 10 = .ok (.bipush 12, 2) := by decide +kernel
theorem dX4_addLast_12 : decode cX4_addLast 12 = .ok (.if_icmp .ge 28, 3) := by decide +kernel
theorem dX4_addLast_15 : decode cX4_addLast 15 = .ok (.aload_n 0, 1) := by decide +kernel
theorem dX4_addLast_16 : decode cX4_addLast 16 = .ok (.getfield 32, 3) := by decide +kernel
theorem dX4_addLast_19 : decode cX4_addLast 19 = .ok (.iload_n 1, 1) := by decide +kernel
theorem dX4_addLast_20 : decode cX4_addLast 20 = .ok (.bipush 12, 2) := by decide +kernel
theorem dX4_addLast_22 : decode cX4_addLast 22 = .ok (.imul, 1) := by decide +kernel
theorem dX4_addLast_23 : decode cX4_addLast 23 = .ok (.iload_n 3, 1) := by decide +kernel
theorem dX4_addLast_24 : decode cX4_addLast 24 = .ok (.iadd, 1) := by decide +kernel
theorem dX4_addLast_25 : decode cX4_addLast 25 = .ok (.iload_n 2, 1) := by decide +kernel
theorem dX4_addLast_26 : decode cX4_addLast 26 = .ok (.invokevirtual 42, 3) := by decide +kernel
theorem dX4_addLast_29 : decode cX4_addLast 29 = .ok (.aload_n 0, 1) := by decide +kernel
theorem dX4_addLast_30 : decode cX4_addLast 30 = .ok (.getfield 35, 3) := by decide +kernel
theorem dX4_addLast_33 : decode cX4_addLast 33 = .ok (.iload_n 1, 1) := by decide +kernel
theorem dX4_addLast_34 : decode cX4_addLast 34 = .ok (.iload_n 3, 1) := by decide +kernel
theorem dX4_addLast_35 : decode cX4_addLast 35 = .ok (.iconst 1, 1) := by decide +kernel
theorem dX4_addLast_36 : decode cX4_addLast 36 = .ok (.iadd, 1) := by decide +kernel
theorem dX4_addLast_37 : decode cX4_addLast 37 = .ok (.invokevirtual 42, 3) := by decide +kernel
theorem dX4_addLast_40 : decode cX4_addLast 40 = .ok (.return_, 1) := by decide +kernel
set_option maxRecDepth 20000 in
theorem ggX4_addFirst_X0_get : GoodIn wsX4_addFirst wsX0_get := goodIn_r _ [7, 8, 21] (by decide +kernel) (by decide +kernel)
set_option maxRecDepth 20000 in
theorem gX4_addFirst_X0_get : GoodIn wsX4_addFirst (wsV RX4 49 RX0 yX0_get wsX0_get) := goodIn_app (goodIn_of _ (by decide +kernel)) ggX4_addFirst_X0_get
set_option maxRecDepth 20000 in
theorem ggX4_addFirst_X0_set : GoodIn wsX4_addFirst wsX0_set := goodIn_r _ [12, 8, 21] (by decide +kernel) (by decide +kernel)
set_option maxRecDepth 20000 in
theorem gX4_addFirst_X0_set : GoodIn wsX4_addFirst (wsV RX4 42 RX0 yX0_set wsX0_set) := goodIn_app (goodIn_of _ (by decide +kernel)) ggX4_addFirst_X0_set
theorem dX4_addFirst_0 : decode cX4_addFirst 0 = .ok (.iload_n 1, 1) := by decide +kernel
theorem dX4_addFirst_1 : decode cX4_addFirst 1 = .ok (.bipush 12, 2) := by decide +kernel
theorem dX4_addFirst_3 : decode cX4_addFirst 3 = .ok (.imul, 1) := by decide +kernel
theorem dX4_addFirst_4 : decode cX4_addFirst 4 = .ok (.istore_n 3, 1) := by decide +kernel
theorem dX4_addFirst_5 : decode cX4_addFirst 5 = .ok (.aload_n 0, 1) := by decide +kernel
theorem dX4_addFirst_6 : decode cX4_addFirst 6 = .ok (.getfield 35, 3) := by decide +kernel
theorem dX4_addFirst_9 : decode cX4_addFirst 9 = .ok (.iload_n 1, 1) := by decide +kernel
theorem dX4_addFirst_10 : decode cX4_addFirst 10 = .ok (.invokevirtual 49, 3) := by decide +kernel
theorem dX4_addFirst_13 : decode cX4_addFirst 13 = .ok (.istore 4, 2) := by decide +kernel
theorem dX4_addFirst_15 : decode cX4_addFirst 15 = .ok (.iload 4, 2) := by decide +kernel
theorem dX4_addFirst_17 : decode cX4_addFirst 17 = .ok (.bipush 12, 2) := by decide +kernel
theorem dX4_addFirst_19 : decode cX4_addFirst 19 = .ok (.if_icmp .ge 63, 3) := by decide +kernel
theorem dX4_addFirst_22 : decode cX4_addFirst 22 = .ok (.iload 4, 2) := by decide +kernel
theorem dX4_addFirst_24 : decode cX4_addFirst 24 = .ok (.istore 5, 2) := by decide +kernel
theorem dX4_addFirst_26 : decode cX4_addFirst 26 = .ok (.iload 5, 2) := by decide +kernel
theorem dX4_addFirst_28 : decode cX4_addFirst 28 = .ok (.ifCond .le 33, 3) := by decide +kernel
theorem dX4_addFirst_31 : decode cX4_addFirst 31 = .ok (.aload_n 0, 1) := by decide +kernel
theorem dX4_addFirst_32 : decode cX4_addFirst 32 = .ok (.getfield 32, 3) := by decide +kernel
theorem dX4_addFirst_35 : decode cX4_addFirst 35 = .ok (.iload_n 3, 1) := by decide +kernel
theorem dX4_addFirst_36 : decode cX4_addFirst 36 = .ok (.iload 5, 2) := by decide +kernel
theorem dX4_addFirst_38 : decode cX4_addFirst 38 = .ok (.iadd, 1) := by decide +kernel
theorem dX4_addFirst_39 : decode cX4_addFirst 39 = .ok (.aload_n 0, 1) := by decide +kernel
theorem dX4_addFirst_40 : decode cX4_addFirst 40 = .ok (.getfield 32, 3) := by decide +kernel
theorem dX4_addFirst_43 : decode cX4_addFirst 43 = .ok (.iload_n 3, 1) := by decide +kernel
theorem dX4_addFirst_44 : decode cX4_addFirst 44 = .ok (.iload 5, 2) := by decide +kernel
theorem dX4_addFirst_46 : decode cX4_addFirst 46 = .ok (.iadd, 1) := by decide +kernel
theorem dX4_addFirst_47 : decode cX4_addFirst 47 = .ok (.iconst 1, 1) := by decide +kernel
theorem dX4_addFirst_48 : decode cX4_addFirst 48 = .ok (.isub, 1) := by decide +kernel
theorem dX4_addFirst_49 : decode cX4_addFirst 49 = .ok (.invokevirtual 49, 3) := by decide +kernel
theorem dX4_addFirst_52 : decode cX4_addFirst 52 = .ok (.invokevirtual 42, 3) := by decide +kernel
theorem dX4_addFirst_55 : decode cX4_addFirst 55 = .ok (.iinc 5 (-1), 3) := by decide +kernel
theorem dX4_addFirst_58 : decode cX4_addFirst 58 = .ok (.goto (-32), 3) := by decide +kernel
theorem dX4_addFirst_61 : decode cX4_addFirst 61 = .ok (.aload_n 0, 1) := by decide +kernel
theorem dX4_addFirst_62 : decode cX4_addFirst 62 = .ok (.getfield 32, 3) := by decide +kernel
theorem dX4_addFirst_65 : decode cX4_addFirst 65 = .ok (.iload_n 3, 1) := by decide +kernel
theorem dX4_addFirst_66 : decode cX4_addFirst 66 = .ok (.iload_n 2, 1) := by decide +kernel
theorem dX4_addFirst_67 : decode cX4_addFirst 67 = .ok (.invokevirtual 42, 3) := by decide +kernel
theorem dX4_addFirst_70 : decode cX4_addFirst 70 = .ok (.aload_n 0, 1) := by decide +kernel
theorem dX4_addFirst_71 : decode cX4_addFirst 71 = .ok (.getfield 35, 3) := by decide +kernel
theorem dX4_addFirst_74 : decode cX4_addFirst 74 = .ok (.iload_n 1, 1) := by decide +kernel
theorem dX4_addFirst_75 : decode cX4_addFirst 75 = .ok (.iload 4, 2) := by decide +kernel
theorem dX4_addFirst_77 : decode cX4_addFirst 77 = .ok (.iconst 1, 1) := by decide +kernel
theorem dX4_addFirst_78 : decode cX4_addFirst 78 = .ok (.iadd, 1) := by decide +kernel
theorem dX4_addFirst_79 : decode cX4_addFirst 79 = .ok (.invokevirtual 42, 3) := by decide +kernel
theorem dX4_addFirst_82 : decode cX4_addFirst 82 = .ok (.return_, 1) := by decide +kernel
set_option maxRecDepth 20000 in
theorem ggX4_takeWaiting_X0_get : GoodIn wsX4_takeWaiting wsX0_get := goodIn_r _ [6, 7, 35] (by decide +kernel) (by decide +kernel)
set_option maxRecDepth 20000 in
theorem gX4_takeWaiting_X0_get : GoodIn wsX4_takeWaiting (wsV RX4 49 RX0 yX0_get wsX0_get) := goodIn_app (goodIn_of _ (by decide +kernel)) ggX4_takeWaiting_X0_get
set_option maxRecDepth 20000 in
theorem ggX4_takeWaiting_X4_wordAt : GoodIn wsX4_takeWaiting wsX4_wordAt := goodIn_r _ [12, 13, 2, 3, 4, 5, 6, 7, 27, 28, 29, 30, 31, 32, 33, 34, 35] (by decide +kernel) (by decide +kernel)
set_option maxRecDepth 20000 in
theorem gX4_takeWaiting_X4_wordAt : GoodIn wsX4_takeWaiting (wsV RX4 56 RX4 yX4_wordAt wsX4_wordAt) := goodIn_app (goodIn_of _ (by decide +kernel)) ggX4_takeWaiting_X4_wordAt
set_option maxRecDepth 20000 in
theorem ggX4_takeWaiting_X4_hasPassed : GoodIn wsX4_takeWaiting wsX4_hasPassed := goodIn_r _ [17, 18, 2, 3, 4, 5, 6, 7, 27, 28, 29, 30, 31, 32, 33, 34, 35] (by decide +kernel) (by decide +kernel)
set_option maxRecDepth 20000 in
theorem gX4_takeWaiting_X4_hasPassed : GoodIn wsX4_takeWaiting (wsV RX4 63 RX4 yX4_hasPassed wsX4_hasPassed) := goodIn_app (goodIn_of _ (by decide +kernel)) ggX4_takeWaiting_X4_hasPassed
set_option maxRecDepth 20000 in
theorem ggX4_takeWaiting_X4_removeFrom : GoodIn wsX4_takeWaiting wsX4_removeFrom := goodIn_r _ [22, 1, 13, 2, 3, 4, 5, 6, 7, 23, 24, 25, 26, 27, 28, 29, 30, 31, 32, 33, 34, 35] (by decide +kernel) (by decide +kernel)
set_option maxRecDepth 20000 in
theorem gX4_takeWaiting_X4_removeFrom : GoodIn wsX4_takeWaiting (wsV RX4 67 RX4 yX4_removeFrom wsX4_removeFrom) := goodIn_app (goodIn_of _ (by decide +kernel)) ggX4_takeWaiting_X4_removeFrom
theorem dX4_takeWaiting_0 : decode cX4_takeWaiting 0 = .ok (.aload_n 0, 1) := by decide +kernel
theorem dX4_takeWaiting_1 : decode cX4_takeWaiting 1 = .ok (.getfield 35, 3) := by decide +kernel
theorem dX4_takeWaiting_4 : decode cX4_takeWaiting 4 = .ok (.iload_n 1, 1) := by decide +kernel
theorem dX4_takeWaiting_5 : decode cX4_takeWaiting 5 = .ok (.invokevirtual 49, 3) := by decide +kernel
theorem dX4_takeWaiting_8 : decode cX4_takeWaiting 8 = .ok (.istore_n 2, 1) := by decide +kernel
theorem dX4_takeWaiting_9 : decode cX4_takeWaiting 9 = .ok (.iconst 0, 1) := by decide +kernel
theorem dX4_takeWaiting_10 : decode cX4_takeWaiting 10 = .ok (.istore_n 3, 1) := by decide +kernel
theorem dX4_takeWaiting_11 : decode cX4_takeWaiting 11 = .ok (.iload_n 3, 1) := by decide +kernel
theorem dX4_takeWaiting_12 : decode cX4_takeWaiting 12 = .ok (.iload_n 2, 1) := by decide +kernel
theorem dX4_takeWaiting_13 : decode cX4_takeWaiting 13 = .ok (.if_icmp .ge 35, 3) := by decide +kernel
theorem dX4_takeWaiting_16 : decode cX4_takeWaiting 16 = .ok (.aload_n 0, 1) := by decide +kernel
theorem dX4_takeWaiting_17 : decode cX4_takeWaiting 17 = .ok (.iload_n 1, 1) := by decide +kernel
theorem dX4_takeWaiting_18 : decode cX4_takeWaiting 18 = .ok (.iload_n 3, 1) := by decide +kernel
theorem dX4_takeWaiting_19 : decode cX4_takeWaiting 19 = .ok (.invokevirtual 56, 3) := by decide +kernel
theorem dX4_takeWaiting_22 : decode cX4_takeWaiting 22 = .ok (.istore 4, 2) := by decide +kernel
theorem dX4_takeWaiting_24 : decode cX4_takeWaiting 24 = .ok (.aload_n 0, 1) := by decide +kernel
theorem dX4_takeWaiting_25 : decode cX4_takeWaiting 25 = .ok (.iload 4, 2) := by decide +kernel
theorem dX4_takeWaiting_27 : decode cX4_takeWaiting 27 = .ok (.invokevirtual 63, 3) := by decide +kernel
theorem dX4_takeWaiting_30 : decode cX4_takeWaiting 30 = .ok (.ifCond .ne 12, 3) := by decide +kernel
theorem dX4_takeWaiting_33 : decode cX4_takeWaiting 33 = .ok (.aload_n 0, 1) := by decide +kernel
theorem dX4_takeWaiting_34 : decode cX4_takeWaiting 34 = .ok (.iload_n 1, 1) := by decide +kernel
theorem dX4_takeWaiting_35 : decode cX4_takeWaiting 35 = .ok (.iload_n 3, 1) := by decide +kernel
theorem dX4_takeWaiting_36 : decode cX4_takeWaiting 36 = .ok (.invokevirtual 67, 3) := by decide +kernel
theorem dX4_takeWaiting_39 : decode cX4_takeWaiting 39 = .ok (.iload 4, 2) := by decide +kernel
theorem dX4_takeWaiting_41 : decode cX4_takeWaiting 41 = .ok (.ireturn, 1) := by decide +kernel
theorem dX4_takeWaiting_42 : decode cX4_takeWaiting 42 = .ok (.iinc 3 1, 3) := by decide +kernel
theorem dX4_takeWaiting_45 : decode cX4_takeWaiting 45 = .ok (.goto (-34), 3) := by decide +kernel
theorem dX4_takeWaiting_48 : decode cX4_takeWaiting 48 = .ok (.sipush (-1006), 3) := by decide +kernel
theorem dX4_takeWaiting_51 : decode cX4_takeWaiting 51 = .ok (.ireturn, 1) := by decide +kernel
set_option maxRecDepth 20000 in
theorem ggX4_removeFrom_X0_get : GoodIn wsX4_removeFrom wsX0_get := goodIn_r _ [7, 8, 21] (by decide +kernel) (by decide +kernel)
set_option maxRecDepth 20000 in
theorem gX4_removeFrom_X0_get : GoodIn wsX4_removeFrom (wsV RX4 49 RX0 yX0_get wsX0_get) := goodIn_app (goodIn_of _ (by decide +kernel)) ggX4_removeFrom_X0_get
set_option maxRecDepth 20000 in
theorem ggX4_removeFrom_X0_set : GoodIn wsX4_removeFrom wsX0_set := goodIn_r _ [12, 8, 21] (by decide +kernel) (by decide +kernel)
set_option maxRecDepth 20000 in
theorem gX4_removeFrom_X0_set : GoodIn wsX4_removeFrom (wsV RX4 42 RX0 yX0_set wsX0_set) := goodIn_app (goodIn_of _ (by decide +kernel)) ggX4_removeFrom_X0_set
theorem dX4_removeFrom_0 : decode cX4_removeFrom 0 = .ok (.iload_n 1, 1) := by decide +kernel
theorem dX4_removeFrom_1 : decode cX4_removeFrom 1 = .ok (.bipush 12, 2) := by decide +kernel
theorem dX4_removeFrom_3 : decode cX4_removeFrom 3 = .ok (.imul, 1) := by decide +kernel
theorem dX4_removeFrom_4 : decode cX4_removeFrom 4 = .ok (.istore_n 3, 1) := by decide +kernel
theorem dX4_removeFrom_5 : decode cX4_removeFrom 5 = .ok (.aload_n 0, 1) := by decide +kernel
theorem dX4_removeFrom_6 : decode cX4_removeFrom 6 = .ok (.getfield 35, 3) := by decide +kernel
theorem dX4_removeFrom_9 : decode cX4_removeFrom 9 = .ok (.iload_n 1, 1) := by decide +kernel
theorem dX4_removeFrom_10 : decode cX4_removeFrom 10 = .ok (.invokevirtual 49, 3) := by decide +kernel
theorem dX4_removeFrom_13 : decode cX4_removeFrom 13 = .ok (.istore 4, 2) := by decide +kernel
theorem dX4_removeFrom_15 : decode cX4_removeFrom 15 = .ok (.iload_n 2, 1) := by decide +kernel
theorem dX4_removeFrom_16 : decode cX4_removeFrom 16 = .ok (.iconst 1, 1) := by decide +kernel
theorem dX4_removeFrom_17 : decode cX4_removeFrom 17 = .ok (.iadd, 1) := by decide +kernel
theorem dX4_removeFrom_18 : decode cX4_removeFrom 18 = .ok (.istore 5, 2) := by decide +kernel
theorem dX4_removeFrom_20 : decode cX4_removeFrom 20 = .ok (.iload 5, 2) := by decide +kernel
theorem dX4_removeFrom_22 : decode cX4_removeFrom 22 = .ok (.iload 4, 2) := by decide +kernel
theorem dX4_removeFrom_24 : decode cX4_removeFrom 24 = .ok (.if_icmp .ge 33, 3) := by decide +kernel
theorem dX4_removeFrom_27 : decode cX4_removeFrom 27 = .ok (.aload_n 0, 1) := by decide +kernel
theorem dX4_removeFrom_28 : decode cX4_removeFrom 28 = .ok (.getfield 32, 3) := by decide +kernel
theorem dX4_removeFrom_31 : decode cX4_removeFrom 31 = .ok (.iload_n 3, 1) := by decide +kernel
theorem dX4_removeFrom_32 : decode cX4_removeFrom 32 = .ok (.iload 5, 2) := by decide +kernel
theorem dX4_removeFrom_34 : decode cX4_removeFrom 34 = .ok (.iadd, 1) := by decide +kernel
theorem dX4_removeFrom_35 : decode cX4_removeFrom 35 = .ok (.iconst 1, 1) := by decide +kernel
theorem dX4_removeFrom_36 : decode cX4_removeFrom 36 = .ok (.isub, 1) := by decide +kernel
theorem dX4_removeFrom_37 : decode cX4_removeFrom 37 = .ok (.aload_n 0, 1) := by decide +kernel
theorem dX4_removeFrom_38 : decode cX4_removeFrom 38 = .ok (.getfield 32, 3) := by decide +kernel
theorem dX4_removeFrom_41 : decode cX4_removeFrom 41 = .ok (.iload_n 3, 1) := by decide +kernel
theorem dX4_removeFrom_42 : decode cX4_removeFrom 42 = .ok (.iload 5, 2) := by decide +kernel
theorem dX4_removeFrom_44 : decode cX4_removeFrom 44 = .ok (.iadd, 1) := by decide +kernel
theorem dX4_removeFrom_45 : decode cX4_removeFrom 45 = .ok (.invokevirtual 49, 3) := by decide +kernel
theorem dX4_removeFrom_48 : decode cX4_removeFrom 48 = .ok (.invokevirtual 42, 3) := by decide +kernel
theorem dX4_removeFrom_51 : decode cX4_removeFrom 51 = .ok (.iinc 5 1, 3) := by decide +kernel
theorem dX4_removeFrom_54 : decode cX4_removeFrom 54 = .ok (.goto (-34), 3) := by decide +kernel
theorem dX4_removeFrom_57 : decode cX4_removeFrom 57 = .ok (.aload_n 0, 1) := by decide +kernel
theorem dX4_removeFrom_58 : decode cX4_removeFrom 58 = .ok (.getfield 35, 3) := by decide +kernel
theorem dX4_removeFrom_61 : decode cX4_removeFrom 61 = .ok (.iload_n 1, 1) := by decide +kernel
theorem dX4_removeFrom_62 : decode cX4_removeFrom 62 = .ok (.iload 4, 2) := by decide +kernel
theorem dX4_removeFrom_64 : decode cX4_removeFrom 64 = .ok (.iconst 1, 1) := by decide +kernel
theorem dX4_removeFrom_65 : decode cX4_removeFrom 65 = .ok (.isub, 1) := by decide +kernel
theorem dX4_removeFrom_66 : decode cX4_removeFrom 66 = .ok (.invokevirtual 42, 3) := by decide +kernel
theorem dX4_removeFrom_69 : decode cX4_removeFrom 69 = .ok (.return_, 1) := by decide +kernel
set_option maxRecDepth 20000 in
theorem ggX4_copyFrom_X0_copyFrom : GoodIn wsX4_copyFrom wsX0_copyFrom := goodIn_r _ [13, 14, 15, 16, 17, 18, 19, 20, 21, 22, 31] (by decide +kernel) (by decide +kernel)
set_option maxRecDepth 20000 in
theorem gX4_copyFrom_X0_copyFrom : GoodIn wsX4_copyFrom (wsV RX4 70 RX0 yX0_copyFrom wsX0_copyFrom) := goodIn_app (goodIn_of _ (by decide +kernel)) ggX4_copyFrom_X0_copyFrom
theorem dX4_copyFrom_0 : decode cX4_copyFrom 0 = .ok (.aload_n 1, 1) := by decide +kernel
theorem dX4_copyFrom_1 : decode cX4_copyFrom 1 = .ok (.ifnull 88, 3) := by decide +kernel
theorem dX4_copyFrom_4 : decode cX4_copyFrom 4 = .ok (.aload_n 0, 1) := by decide +kernel
theorem dX4_copyFrom_5 : decode cX4_copyFrom 5 = .ok (.getfield 14, 3) := by decide +kernel
theorem dX4_copyFrom_8 : decode cX4_copyFrom 8 = .ok (.aload_n 1, 1) := by decide +kernel
theorem dX4_copyFrom_9 : decode cX4_copyFrom 9 = .ok (.getfield 14, 3) := by decide +kernel
theorem dX4_copyFrom_12 : decode cX4_copyFrom 12 = .ok (.invokevirtual 70, 3) := by decide +kernel
theorem dX4_copyFrom_15 : decode cX4_copyFrom 15 = .ok (.aload_n 0, 1) := by decide +kernel
theorem dX4_copyFrom_16 : decode cX4_copyFrom 16 = .ok (.getfield 20, 3) := by decide +kernel
theorem dX4_copyFrom_19 : decode cX4_copyFrom 19 = .ok (.aload_n 1, 1) := by decide +kernel
theorem dX4_copyFrom_20 : decode cX4_copyFrom 20 = .ok (.getfield 20, 3) := by decide +kernel
theorem dX4_copyFrom_23 : decode cX4_copyFrom 23 = .ok (.invokevirtual 70, 3) := by decide +kernel
theorem dX4_copyFrom_26 : decode cX4_copyFrom 26 = .ok (.aload_n 0, 1) := by decide +kernel
theorem dX4_copyFrom_27 : decode cX4_copyFrom 27 = .ok (.getfield 23, 3) := by decide +kernel
theorem dX4_copyFrom_30 : decode cX4_copyFrom 30 = .ok (.aload_n 1, 1) := by decide +kernel
theorem dX4_copyFrom_31 : decode cX4_copyFrom 31 = .ok (.getfield 23, 3) := by decide +kernel
theorem dX4_copyFrom_34 : decode cX4_copyFrom 34 = .ok (.invokevirtual 70, 3) := by decide +kernel
theorem dX4_copyFrom_37 : decode cX4_copyFrom 37 = .ok (.aload_n 0, 1) := by decide +kernel
theorem dX4_copyFrom_38 : decode cX4_copyFrom 38 = .ok (.getfield 26, 3) := by decide +kernel
theorem dX4_copyFrom_41 : decode cX4_copyFrom 41 = .ok (.aload_n 1, 1) := by decide +kernel
theorem dX4_copyFrom_42 : decode cX4_copyFrom 42 = .ok (.getfield 26, 3) := by decide +kernel
theorem dX4_copyFrom_45 : decode cX4_copyFrom 45 = .ok (.invokevirtual 70, 3) := by decide +kernel
theorem dX4_copyFrom_48 : decode cX4_copyFrom 48 = .ok (.aload_n 0, 1) := by decide +kernel
theorem dX4_copyFrom_49 : decode cX4_copyFrom 49 = .ok (.getfield 29, 3) := by decide +kernel
theorem dX4_copyFrom_52 : decode cX4_copyFrom 52 = .ok (.aload_n 1, 1) := by decide +kernel
theorem dX4_copyFrom_53 : decode cX4_copyFrom 53 = .ok (.getfield 29, 3) := by decide +kernel
theorem dX4_copyFrom_56 : decode cX4_copyFrom 56 = .ok (.invokevirtual 70, 3) := by decide +kernel
theorem dX4_copyFrom_59 : decode cX4_copyFrom 59 = .ok (.aload_n 0, 1) := by decide +kernel
theorem dX4_copyFrom_60 : decode cX4_copyFrom 60 = .ok (.getfield 32, 3) := by decide +kernel
theorem dX4_copyFrom_63 : decode cX4_copyFrom 63 = .ok (.aload_n 1, 1) := by decide +kernel
theorem dX4_copyFrom_64 : decode cX4_copyFrom 64 = .ok (.getfield 32, 3) := by decide +kernel
theorem dX4_copyFrom_67 : decode cX4_copyFrom 67 = .ok (.invokevirtual 70, 3) := by decide +kernel
theorem dX4_copyFrom_70 : decode cX4_copyFrom 70 = .ok (.aload_n 0, 1) := by decide +kernel
theorem dX4_copyFrom_71 : decode cX4_copyFrom 71 = .ok (.getfield 35, 3) := by decide +kernel
theorem dX4_copyFrom_74 : decode cX4_copyFrom 74 = .ok (.aload_n 1, 1) := by decide +kernel
theorem dX4_copyFrom_75 : decode cX4_copyFrom 75 = .ok (.getfield 35, 3) := by decide +kernel
theorem dX4_copyFrom_78 : decode cX4_copyFrom 78 = .ok (.invokevirtual 70, 3) := by decide +kernel
theorem dX4_copyFrom_81 : decode cX4_copyFrom 81 = .ok (.aload_n 0, 1) := by decide +kernel
theorem dX4_copyFrom_82 : decode cX4_copyFrom 82 = .ok (.aload_n 1, 1) := by decide +kernel
theorem dX4_copyFrom_83 : decode cX4_copyFrom 83 = .ok (.getfield 38, 3) := by decide +kernel
theorem dX4_copyFrom_86 : decode cX4_copyFrom 86 = .ok (.putfield 38, 3) := by decide +kernel
theorem dX4_copyFrom_89 : decode cX4_copyFrom 89 = .ok (.return_, 1) := by decide +kernel
set_option maxRecDepth 20000 in
theorem ggX5_init_X3_init : GoodIn wsX5_init wsX3_init := goodIn_r _ [18, 19, 2, 3, 20, 21, 22, 23, 24, 25, 26, 27, 28, 29, 30, 31, 32, 33, 34, 35, 36, 37, 38, 39, 6, 40, 41, 42, 43, 44, 102, 76, 77, 78, 79] (by decide +kernel) (by decide +kernel)
set_option maxRecDepth 20000 in
theorem gX5_init_X3_init : GoodIn wsX5_init (wsX3_init) := ggX5_init_X3_init
set_option maxRecDepth 20000 in
theorem ggX5_init_X1_init : GoodIn wsX5_init wsX1_init := goodIn_r _ [47, 48, 2, 3, 49, 21, 22, 50, 51, 52, 53, 54, 55, 56, 57, 58, 28, 29, 30, 31, 32, 33, 34, 35, 36, 59, 60, 61, 10, 62, 63, 42, 43, 44, 102, 86, 87, 88, 89, 90, 91, 92, 93] (by decide +kernel) (by decide +kernel)
set_option maxRecDepth 20000 in
theorem gX5_init_X1_init : GoodIn wsX5_init (wsX1_init) := ggX5_init_X1_init
set_option maxRecDepth 20000 in
theorem ggX5_init_X4_init : GoodIn wsX5_init wsX4_init := goodIn_r _ [65, 66, 2, 3, 67, 21, 22, 68, 69, 70, 71, 72, 73, 74, 75, 28, 29, 30, 31, 32, 33, 34, 35, 36, 102, 94, 95, 96, 97, 98, 99, 100, 101] (by decide +kernel) (by decide +kernel)
set_option maxRecDepth 20000 in
theorem gX5_init_X4_init_n27 : GoodIn wsX5_init (wsX4_init) := ggX5_init_X4_init
theorem dX5_init_0 : decode cX5_init 0 = .ok (.aload_n 0, 1) := by decide +kernel
theorem dX5_init_1 : decode cX5_init 1 = .ok (.invokespecial 3, 3) := by decide +kernel
theorem dX5_init_4 : decode cX5_init 4 = .ok (.aload_n 0, 1) := by decide +kernel
theorem dX5_init_5 : decode cX5_init 5 = .ok (.new 9, 3) := by decide +kernel
theorem dX5_init_8 : decode cX5_init 8 = .ok (.dup, 1) := by decide +kernel
theorem dX5_init_9 : decode cX5_init 9 = .ok (.invokespecial 11, 3) := by decide +kernel
theorem dX5_init_12 : decode cX5_init 12 = .ok (.putfield 12, 3) := by decide +kernel
theorem dX5_init_15 : decode cX5_init 15 = .ok (.aload_n 0, 1) := by decide +kernel
theorem dX5_init_16 : decode cX5_init 16 = .ok (.new 18, 3) := by decide +kernel
theorem dX5_init_19 : decode cX5_init 19 = .ok (.dup, 1) := by decide +kernel
theorem dX5_init_20 : decode cX5_init 20 = .ok (.invokespecial 20, 3) := by decide +kernel
theorem dX5_init_23 : decode cX5_init 23 = .ok (.putfield 21, 3) := by decide +kernel
theorem dX5_init_26 : decode cX5_init 26 = .ok (.aload_n 0, 1) := by decide +kernel
theorem dX5_init_27 : decode cX5_init 27 = .ok (.new 25, 3) := by decide +kernel
theorem dX5_init_30 : decode cX5_init 30 = .ok (.dup, 1) := by decide +kernel
theorem dX5_init_31 : decode cX5_init 31 = .ok (.invokespecial 27, 3) := by decide +kernel
theorem dX5_init_34 : decode cX5_init 34 = .ok (.putfield 28, 3) := by decide +kernel
theorem dX5_init_37 : decode cX5_init 37 = .ok (.return_, 1) := by decide +kernel
set_option maxRecDepth 20000 in
theorem ggX5_isOpenAt_X3_gapAt : GoodIn wsX5_isOpenAt wsX3_gapAt := goodIn_r _ [7, 8, 9, 10, 6, 11, 12, 13, 14, 15, 16, 17, 18, 19, 20, 21, 22, 23, 24, 25, 26, 27, 28, 29, 51, 52, 53, 54, 55] (by decide +kernel) (by decide +kernel)
set_option maxRecDepth 20000 in
theorem gX5_isOpenAt_X3_gapAt : GoodIn wsX5_isOpenAt (wsV RX5 32 RX3 yX3_gapAt wsX3_gapAt) := goodIn_app (goodIn_of _ (by decide +kernel)) ggX5_isOpenAt_X3_gapAt
set_option maxRecDepth 20000 in
theorem ggX5_isOpenAt_X1_isOpenAcross : GoodIn wsX5_isOpenAt wsX1_isOpenAcross := goodIn_r _ [34, 35, 36, 22, 37, 38, 39, 40, 41, 33, 42, 43, 44, 25, 26, 27, 28, 29, 56, 57, 58, 59, 60, 61, 62, 63, 55] (by decide +kernel) (by decide +kernel)
set_option maxRecDepth 20000 in
theorem gX5_isOpenAt_X1_isOpenAcross : GoodIn wsX5_isOpenAt (wsV RX5 36 RX1 yX1_isOpenAcross wsX1_isOpenAcross) := goodIn_app (goodIn_of _ (by decide +kernel)) ggX5_isOpenAt_X1_isOpenAcross
theorem dX5_isOpenAt_0 : decode cX5_isOpenAt 0 = .ok (.aload_n 0, 1) := by decide +kernel
theorem dX5_isOpenAt_1 : decode cX5_isOpenAt 1 = .ok (.getfield 21, 3) := by decide +kernel
theorem dX5_isOpenAt_4 : decode cX5_isOpenAt 4 = .ok (.iload_n 1, 1) := by decide +kernel
theorem dX5_isOpenAt_5 : decode cX5_isOpenAt 5 = .ok (.aload_n 0, 1) := by decide +kernel
theorem dX5_isOpenAt_6 : decode cX5_isOpenAt 6 = .ok (.getfield 12, 3) := by decide +kernel
theorem dX5_isOpenAt_9 : decode cX5_isOpenAt 9 = .ok (.iload_n 2, 1) := by decide +kernel
theorem dX5_isOpenAt_10 : decode cX5_isOpenAt 10 = .ok (.invokevirtual 32, 3) := by decide +kernel
theorem dX5_isOpenAt_13 : decode cX5_isOpenAt 13 = .ok (.invokevirtual 36, 3) := by decide +kernel
theorem dX5_isOpenAt_16 : decode cX5_isOpenAt 16 = .ok (.ireturn, 1) := by decide +kernel
set_option maxRecDepth 20000 in
theorem ggX5_openMask_X5_isOpenAt : GoodIn wsX5_openMask wsX5_isOpenAt := goodIn_r _ [6, 7, 8, 9, 10, 11, 12, 13, 14, 15, 16, 17, 18, 19, 20, 21, 22, 23, 24, 25, 26, 27, 28, 29, 30, 31, 32, 33, 34, 35, 36, 37, 38, 39, 40, 41, 42, 43, 44, 45, 46, 47, 48, 49, 50, 51, 52, 53, 54, 55, 56, 57, 58, 59, 60, 61, 62, 63, 64, 65, 66, 67, 68, 69] (by decide +kernel) (by decide +kernel)
set_option maxRecDepth 20000 in
theorem gX5_openMask_X5_isOpenAt : GoodIn wsX5_openMask (wsV RX5 44 RX5 yX5_isOpenAt wsX5_isOpenAt) := goodIn_app (goodIn_of _ (by decide +kernel)) ggX5_openMask_X5_isOpenAt
theorem dX5_openMask_0 : decode cX5_openMask 0 = .ok (.iconst 0, 1) := by decide +kernel
theorem dX5_openMask_1 : decode cX5_openMask 1 = .ok (.istore_n 1, 1) := by decide +kernel
theorem dX5_openMask_2 : decode cX5_openMask 2 = .ok (.iconst 0, 1) := by decide +kernel
theorem dX5_openMask_3 : decode cX5_openMask 3 = .ok (.istore_n 2, 1) := by decide +kernel
theorem dX5_openMask_4 : decode cX5_openMask 4 = .ok (.iload_n 2, 1) := by decide +kernel
theorem dX5_openMask_5 : decode cX5_openMask 5 = .ok (.iconst 4, 1) := by decide +kernel
theorem dX5_openMask_6 : decode cX5_openMask 6 = .ok (.if_icmp .ge 31, 3) := by decide +kernel
theorem dX5_openMask_9 : decode cX5_openMask 9 = .ok (.iload_n 1, 1) := by decide +kernel
theorem dX5_openMask_10 : decode cX5_openMask 10 = .ok (.aload_n 0, 1) := by decide +kernel
theorem dX5_openMask_11 : decode cX5_openMask 11 = .ok (.iload_n 2, 1) := by decide +kernel
theorem dX5_openMask_12 : decode cX5_openMask 12 = .ok (.aload_n 0, 1) := by decide +kernel
theorem dX5_openMask_13 : decode cX5_openMask 13 = .ok (.getfield 40, 3) := by decide +kernel
theorem dX5_openMask_16 : decode cX5_openMask 16 = .ok (.invokevirtual 44, 3) := by decide +kernel
theorem dX5_openMask_19 : decode cX5_openMask 19 = .ok (.ifCond .eq 9, 3) := by decide +kernel
theorem dX5_openMask_22 : decode cX5_openMask 22 = .ok (.iconst 1, 1) := by decide +kernel
theorem dX5_openMask_23 : decode cX5_openMask 23 = .ok (.iload_n 2, 1) := by decide +kernel
theorem dX5_openMask_24 : decode cX5_openMask 24 = .ok (.ishl, 1) := by decide +kernel
theorem dX5_openMask_25 : decode cX5_openMask 25 = .ok (.goto 4, 3) := by decide +kernel
theorem dX5_openMask_28 : decode cX5_openMask 28 = .ok (.iconst 0, 1) := by decide +kernel
theorem dX5_openMask_29 : decode cX5_openMask 29 = .ok (.ior, 1) := by decide +kernel
theorem dX5_openMask_30 : decode cX5_openMask 30 = .ok (.istore_n 1, 1) := by decide +kernel
theorem dX5_openMask_31 : decode cX5_openMask 31 = .ok (.iinc 2 1, 3) := by decide +kernel
theorem dX5_openMask_34 : decode cX5_openMask 34 = .ok (.goto (-30), 3) := by decide +kernel
theorem dX5_openMask_37 : decode cX5_openMask 37 = .ok (.iload_n 1, 1) := by decide +kernel
theorem dX5_openMask_38 : decode cX5_openMask 38 = .ok (.ireturn, 1) := by decide +kernel
set_option maxRecDepth 20000 in
theorem ggX5_stepsUntilOpen_X5_isOpenAt : GoodIn wsX5_stepsUntilOpen wsX5_isOpenAt := goodIn_r _ [6, 7, 8, 9, 10, 11, 12, 13, 14, 15, 16, 17, 18, 19, 20, 21, 22, 23, 24, 25, 26, 27, 28, 29, 30, 31, 32, 33, 34, 35, 36, 37, 38, 39, 40, 41, 42, 43, 44, 45, 46, 47, 48, 49, 50, 51, 52, 53, 54, 55, 56, 57, 58, 59, 60, 61, 62, 63, 64, 65, 66, 67, 68, 69] (by decide +kernel) (by decide +kernel)
set_option maxRecDepth 20000 in
theorem gX5_stepsUntilOpen_X5_isOpenAt : GoodIn wsX5_stepsUntilOpen (wsV RX5 44 RX5 yX5_isOpenAt wsX5_isOpenAt) := goodIn_app (goodIn_of _ (by decide +kernel)) ggX5_stepsUntilOpen_X5_isOpenAt
theorem dX5_stepsUntilOpen_0 : decode cX5_stepsUntilOpen 0 = .ok (.iconst 0, 1) := by decide +kernel
theorem dX5_stepsUntilOpen_1 : decode cX5_stepsUntilOpen 1 = .ok (.istore_n 2, 1) := by decide +kernel
theorem dX5_stepsUntilOpen_2 : decode cX5_stepsUntilOpen 2 = .ok (.iload_n 2, 1) := by decide +kernel
theorem dX5_stepsUntilOpen_3 : decode cX5_stepsUntilOpen 3 = .ok (.sipush 4000, 3) := by decide +kernel
theorem dX5_stepsUntilOpen_6 : decode cX5_stepsUntilOpen 6 = .ok (.if_icmp .ge 25, 3) := by decide +kernel
theorem dX5_stepsUntilOpen_9 : decode cX5_stepsUntilOpen 9 = .ok (.aload_n 0, 1) := by decide +kernel
theorem dX5_stepsUntilOpen_10 : decode cX5_stepsUntilOpen 10 = .ok (.iload_n 1, 1) := by decide +kernel
theorem dX5_stepsUntilOpen_11 : decode cX5_stepsUntilOpen 11 = .ok (.aload_n 0, 1) := by decide +kernel
theorem dX5_stepsUntilOpen_12 : decode cX5_stepsUntilOpen 12 = .ok (.getfield 40, 3) := by decide +kernel
theorem dX5_stepsUntilOpen_15 : decode cX5_stepsUntilOpen 15 = .ok (.iload_n 2, 1) := by decide +kernel
theorem dX5_stepsUntilOpen_16 : decode cX5_stepsUntilOpen 16 = .ok (.iadd, 1) := by decide +kernel
theorem dX5_stepsUntilOpen_17 : decode cX5_stepsUntilOpen 17 = .ok (.invokevirtual 44, 3) := by decide +kernel
theorem dX5_stepsUntilOpen_20 : decode cX5_stepsUntilOpen 20 = .ok (.ifCond .eq 5, 3) := by decide +kernel
theorem dX5_stepsUntilOpen_23 : decode cX5_stepsUntilOpen 23 = .ok (.iload_n 2, 1) := by decide +kernel
theorem dX5_stepsUntilOpen_24 : decode cX5_stepsUntilOpen 24 = .ok (.ireturn, 1) := by decide +kernel
theorem dX5_stepsUntilOpen_25 : decode cX5_stepsUntilOpen 25 = .ok (.iinc 2 1, 3) := by decide +kernel
theorem dX5_stepsUntilOpen_28 : decode cX5_stepsUntilOpen 28 = .ok (.goto (-26), 3) := by decide +kernel
theorem dX5_stepsUntilOpen_31 : decode cX5_stepsUntilOpen 31 = .ok (.sipush (-1006), 3) := by decide +kernel
theorem dX5_stepsUntilOpen_34 : decode cX5_stepsUntilOpen 34 = .ok (.ireturn, 1) := by decide +kernel
set_option maxRecDepth 20000 in
theorem ggX5_openStepsFrom_X5_isOpenAt : GoodIn wsX5_openStepsFrom wsX5_isOpenAt := goodIn_r _ [5, 6, 7, 8, 9, 10, 11, 12, 13, 14, 15, 16, 17, 18, 19, 20, 21, 22, 23, 24, 25, 26, 27, 28, 29, 30, 31, 32, 33, 34, 35, 36, 37, 38, 39, 40, 41, 42, 43, 44, 45, 46, 47, 48, 49, 50, 51, 52, 53, 54, 55, 56, 57, 58, 59, 60, 61, 62, 63, 64, 65, 66, 67, 68] (by decide +kernel) (by decide +kernel)
set_option maxRecDepth 20000 in
theorem gX5_openStepsFrom_X5_isOpenAt : GoodIn wsX5_openStepsFrom (wsV RX5 44 RX5 yX5_isOpenAt wsX5_isOpenAt) := goodIn_app (goodIn_of _ (by decide +kernel)) ggX5_openStepsFrom_X5_isOpenAt
theorem dX5_openStepsFrom_0 : decode cX5_openStepsFrom 0 = .ok (.iconst 0, 1) := by decide +kernel
theorem dX5_openStepsFrom_1 : decode cX5_openStepsFrom 1 = .ok (.istore_n 3, 1) := by decide +kernel
theorem dX5_openStepsFrom_2 : decode cX5_openStepsFrom 2 = .ok (.iload_n 3, 1) := by decide +kernel
theorem dX5_openStepsFrom_3 : decode cX5_openStepsFrom 3 = .ok (.sipush 4000, 3) := by decide +kernel
theorem dX5_openStepsFrom_6 : decode cX5_openStepsFrom 6 = .ok (.if_icmp .ge 20, 3) := by decide +kernel
theorem dX5_openStepsFrom_9 : decode cX5_openStepsFrom 9 = .ok (.aload_n 0, 1) := by decide +kernel
theorem dX5_openStepsFrom_10 : decode cX5_openStepsFrom 10 = .ok (.iload_n 1, 1) := by decide +kernel
theorem dX5_openStepsFrom_11 : decode cX5_openStepsFrom 11 = .ok (.iload_n 2, 1) := by decide +kernel
theorem dX5_openStepsFrom_12 : decode cX5_openStepsFrom 12 = .ok (.iload_n 3, 1) := by decide +kernel
theorem dX5_openStepsFrom_13 : decode cX5_openStepsFrom 13 = .ok (.iadd, 1) := by decide +kernel
theorem dX5_openStepsFrom_14 : decode cX5_openStepsFrom 14 = .ok (.invokevirtual 44, 3) := by decide +kernel
theorem dX5_openStepsFrom_17 : decode cX5_openStepsFrom 17 = .ok (.ifCond .eq 9, 3) := by decide +kernel
theorem dX5_openStepsFrom_20 : decode cX5_openStepsFrom 20 = .ok (.iinc 3 1, 3) := by decide +kernel
theorem dX5_openStepsFrom_23 : decode cX5_openStepsFrom 23 = .ok (.goto (-21), 3) := by decide +kernel
theorem dX5_openStepsFrom_26 : decode cX5_openStepsFrom 26 = .ok (.iload_n 3, 1) := by decide +kernel
theorem dX5_openStepsFrom_27 : decode cX5_openStepsFrom 27 = .ok (.ireturn, 1) := by decide +kernel
set_option maxRecDepth 20000 in
theorem ggX5_whereIs_X1_gateWith : GoodIn wsX5_whereIs wsX1_gateWith := goodIn_r _ [7, 8, 9, 10, 11, 12, 13, 14, 33, 34, 35, 36, 37, 38, 39, 40, 41] (by decide +kernel) (by decide +kernel)
set_option maxRecDepth 20000 in
theorem gX5_whereIs_X1_gateWith : GoodIn wsX5_whereIs (wsV RX5 47 RX1 yX1_gateWith wsX1_gateWith) := goodIn_app (goodIn_of _ (by decide +kernel)) ggX5_whereIs_X1_gateWith
set_option maxRecDepth 20000 in
theorem ggX5_whereIs_X4_placeIn : GoodIn wsX5_whereIs wsX4_placeIn := goodIn_r _ [19, 20, 21, 10, 11, 12, 13, 14, 22, 23, 24, 18, 25, 26, 42, 43, 44, 45, 46, 47, 48, 49, 41] (by decide +kernel) (by decide +kernel)
set_option maxRecDepth 20000 in
theorem gX5_whereIs_X4_placeIn : GoodIn wsX5_whereIs (wsV RX5 50 RX4 yX4_placeIn wsX4_placeIn) := goodIn_app (goodIn_of _ (by decide +kernel)) ggX5_whereIs_X4_placeIn
theorem dX5_whereIs_0 : decode cX5_whereIs 0 = .ok (.aload_n 0, 1) := by decide +kernel
theorem dX5_whereIs_1 : decode cX5_whereIs 1 = .ok (.getfield 21, 3) := by decide +kernel
theorem dX5_whereIs_4 : decode cX5_whereIs 4 = .ok (.iload_n 1, 1) := by decide +kernel
theorem dX5_whereIs_5 : decode cX5_whereIs 5 = .ok (.invokevirtual 47, 3) := by decide +kernel
theorem dX5_whereIs_8 : decode cX5_whereIs 8 = .ok (.istore_n 2, 1) := by decide +kernel
theorem dX5_whereIs_9 : decode cX5_whereIs 9 = .ok (.iload_n 2, 1) := by decide +kernel
theorem dX5_whereIs_10 : decode cX5_whereIs 10 = .ok (.sipush (-1006), 3) := by decide +kernel
theorem dX5_whereIs_13 : decode cX5_whereIs 13 = .ok (.if_icmp .eq 7, 3) := by decide +kernel
theorem dX5_whereIs_16 : decode cX5_whereIs 16 = .ok (.iconst 2, 1) := by decide +kernel
theorem dX5_whereIs_17 : decode cX5_whereIs 17 = .ok (.iload_n 2, 1) := by decide +kernel
theorem dX5_whereIs_18 : decode cX5_whereIs 18 = .ok (.iadd, 1) := by decide +kernel
theorem dX5_whereIs_19 : decode cX5_whereIs 19 = .ok (.ireturn, 1) := by decide +kernel
theorem dX5_whereIs_20 : decode cX5_whereIs 20 = .ok (.aload_n 0, 1) := by decide +kernel
theorem dX5_whereIs_21 : decode cX5_whereIs 21 = .ok (.getfield 28, 3) := by decide +kernel
theorem dX5_whereIs_24 : decode cX5_whereIs 24 = .ok (.iconst 0, 1) := by decide +kernel
theorem dX5_whereIs_25 : decode cX5_whereIs 25 = .ok (.iload_n 1, 1) := by decide +kernel
theorem dX5_whereIs_26 : decode cX5_whereIs 26 = .ok (.invokevirtual 50, 3) := by decide +kernel
theorem dX5_whereIs_29 : decode cX5_whereIs 29 = .ok (.sipush (-1006), 3) := by decide +kernel
theorem dX5_whereIs_32 : decode cX5_whereIs 32 = .ok (.if_icmp .eq 7, 3) := by decide +kernel
theorem dX5_whereIs_35 : decode cX5_whereIs 35 = .ok (.iconst 0, 1) := by decide +kernel
theorem dX5_whereIs_36 : decode cX5_whereIs 36 = .ok (.goto 4, 3) := by decide +kernel
theorem dX5_whereIs_39 : decode cX5_whereIs 39 = .ok (.iconst 1, 1) := by decide +kernel
theorem dX5_whereIs_40 : decode cX5_whereIs 40 = .ok (.ireturn, 1) := by decide +kernel
set_option maxRecDepth 20000 in
theorem ggX5_makeSteps_X3_gapAt : GoodIn wsX5_makeSteps wsX3_gapAt := goodIn_r _ [7, 8, 9, 10, 6, 11, 12, 13, 14, 15, 16, 17, 18, 19, 20, 21, 22, 23, 24, 25, 26, 27, 28, 29, 135, 136, 137, 138, 139] (by decide +kernel) (by decide +kernel)
set_option maxRecDepth 20000 in
theorem gX5_makeSteps_X3_gapAt : GoodIn wsX5_makeSteps (wsV RX5 32 RX3 yX3_gapAt wsX3_gapAt) := goodIn_app (goodIn_of _ (by decide +kernel)) ggX5_makeSteps_X3_gapAt
set_option maxRecDepth 20000 in
theorem ggX5_makeSteps_X5_stepAcross : GoodIn wsX5_makeSteps wsX5_stepAcross := goodIn_r _ [34, 35, 36, 2, 37, 38, 39, 40, 41, 42, 43, 22, 44, 45, 46, 47, 48, 49, 50, 51, 25, 26, 27, 28, 29, 52, 53, 54, 33, 55, 56, 57, 58, 59, 60, 61, 62, 63, 64, 65, 66, 67, 68, 69, 70, 71, 72, 73, 74, 75, 76, 77, 78, 79, 80, 81, 82, 83, 84, 85, 86, 87, 88, 89, 90, 91, 92, 93, 94, 95, 96, 97, 98, 99, 100, 101, 102, 103, 104, 105, 106, 107, 108, 109, 110, 111, 112, 113, 114, 115, 116, 117, 118, 119, 120, 121, 122, 123, 124, 125, 126, 127, 128, 129, 130, 131, 132, 133, 134, 140, 141, 142, 143, 144, 145, 146, 147, 139, 148, 149, 150, 151, 152, 153, 154, 155] (by decide +kernel) (by decide +kernel)
set_option maxRecDepth 20000 in
theorem gX5_makeSteps_X5_stepAcross : GoodIn wsX5_makeSteps (wsV RX5 54 RX5 yX5_stepAcross wsX5_stepAcross) := goodIn_app (goodIn_of _ (by decide +kernel)) ggX5_makeSteps_X5_stepAcross
theorem dX5_makeSteps_0 : decode cX5_makeSteps 0 = .ok (.iconst 0, 1) := by decide +kernel
theorem dX5_makeSteps_1 : decode cX5_makeSteps 1 = .ok (.istore_n 2, 1) := by decide +kernel
theorem dX5_makeSteps_2 : decode cX5_makeSteps 2 = .ok (.iload_n 2, 1) := by decide +kernel
theorem dX5_makeSteps_3 : decode cX5_makeSteps 3 = .ok (.iload_n 1, 1) := by decide +kernel
theorem dX5_makeSteps_4 : decode cX5_makeSteps 4 = .ok (.if_icmp .ge 24, 3) := by decide +kernel
theorem dX5_makeSteps_7 : decode cX5_makeSteps 7 = .ok (.aload_n 0, 1) := by decide +kernel
theorem dX5_makeSteps_8 : decode cX5_makeSteps 8 = .ok (.aload_n 0, 1) := by decide +kernel
theorem dX5_makeSteps_9 : decode cX5_makeSteps 9 = .ok (.getfield 12, 3) := by decide +kernel
theorem dX5_makeSteps_12 : decode cX5_makeSteps 12 = .ok (.aload_n 0, 1) := by decide +kernel
theorem dX5_makeSteps_13 : decode cX5_makeSteps 13 = .ok (.getfield 40, 3) := by decide +kernel
theorem dX5_makeSteps_16 : decode cX5_makeSteps 16 = .ok (.invokevirtual 32, 3) := by decide +kernel
theorem dX5_makeSteps_19 : decode cX5_makeSteps 19 = .ok (.invokevirtual 54, 3) := by decide +kernel
theorem dX5_makeSteps_22 : decode cX5_makeSteps 22 = .ok (.iinc 2 1, 3) := by decide +kernel
theorem dX5_makeSteps_25 : decode cX5_makeSteps 25 = .ok (.goto (-23), 3) := by decide +kernel
theorem dX5_makeSteps_28 : decode cX5_makeSteps 28 = .ok (.return_, 1) := by decide +kernel
set_option maxRecDepth 20000 in
theorem ggX5_stepAcross_X1_isOpenAcross : GoodIn wsX5_stepAcross wsX1_isOpenAcross := goodIn_r _ [8, 9, 10, 11, 12, 13, 14, 15, 16, 7, 17, 18, 19, 20, 21, 22, 23, 24, 109, 110, 111, 112, 113, 114, 115, 116, 117] (by decide +kernel) (by decide +kernel)
set_option maxRecDepth 20000 in
theorem gX5_stepAcross_X1_isOpenAcross : GoodIn wsX5_stepAcross (wsV RX5 36 RX1 yX1_isOpenAcross wsX1_isOpenAcross) := goodIn_app (goodIn_of _ (by decide +kernel)) ggX5_stepAcross_X1_isOpenAcross
set_option maxRecDepth 20000 in
theorem ggX5_stepAcross_X5_takeWord : GoodIn wsX5_stepAcross wsX5_takeWord := goodIn_r _ [29, 1, 30, 31, 32, 33, 34, 35, 7, 36, 37, 19, 20, 21, 22, 23, 24, 38, 39, 40, 41, 42, 43, 44, 45, 46, 47, 48, 49, 50, 51, 52, 53, 54, 55, 56, 57, 58, 59, 60, 61, 62, 63, 64, 103, 104, 105, 106, 107, 108, 109, 110, 111, 112, 113, 114, 115, 116, 117, 118, 119, 120, 121, 122, 123, 124, 125] (by decide +kernel) (by decide +kernel)
set_option maxRecDepth 20000 in
theorem gX5_stepAcross_X5_takeWord : GoodIn wsX5_stepAcross (wsV RX5 58 RX5 yX5_takeWord wsX5_takeWord) := goodIn_app (goodIn_of _ (by decide +kernel)) ggX5_stepAcross_X5_takeWord
set_option maxRecDepth 20000 in
theorem ggX5_stepAcross_X5_passLetter : GoodIn wsX5_stepAcross wsX5_passLetter := goodIn_r _ [68, 1, 30, 69, 70, 31, 71, 72, 3, 32, 38, 20, 21, 22, 23, 24, 73, 74, 75, 76, 77, 78, 79, 7, 80, 37, 81, 82, 61, 62, 63, 83, 84, 85, 42, 86, 55, 87, 60, 88, 89, 90, 91, 44, 50, 45, 103, 104, 105, 106, 107, 108, 109, 110, 111, 112, 113, 114, 115, 116, 118, 119, 120, 121, 122, 123, 124, 125, 117] (by decide +kernel) (by decide +kernel)
set_option maxRecDepth 20000 in
theorem gX5_stepAcross_X5_passLetter : GoodIn wsX5_stepAcross (wsV RX5 61 RX5 yX5_passLetter wsX5_passLetter) := goodIn_app (goodIn_of _ (by decide +kernel)) ggX5_stepAcross_X5_passLetter
set_option maxRecDepth 20000 in
theorem ggX5_stepAcross_X5_sendBack : GoodIn wsX5_stepAcross wsX5_sendBack := goodIn_r _ [95, 1, 30, 96, 97, 70, 31, 98, 32, 38, 20, 21, 22, 23, 24, 73, 74, 75, 76, 77, 78, 79, 7, 80, 37, 81, 82, 61, 62, 63, 99, 100, 101, 42, 102, 44, 50, 45, 60, 103, 104, 105, 106, 107, 108, 109, 110, 111, 112, 113, 114, 115, 116, 118, 119, 120, 121, 122, 123, 124, 125, 117] (by decide +kernel) (by decide +kernel)
set_option maxRecDepth 20000 in
theorem gX5_stepAcross_X5_sendBack : GoodIn wsX5_stepAcross (wsV RX5 64 RX5 yX5_sendBack wsX5_sendBack) := goodIn_app (goodIn_of _ (by decide +kernel)) ggX5_stepAcross_X5_sendBack
theorem dX5_stepAcross_0 : decode cX5_stepAcross 0 = .ok (.iconst 1, 1) := by decide +kernel
theorem dX5_stepAcross_1 : decode cX5_stepAcross 1 = .ok (.istore_n 2, 1) := by decide +kernel
theorem dX5_stepAcross_2 : decode cX5_stepAcross 2 = .ok (.iconst 0, 1) := by decide +kernel
theorem dX5_stepAcross_3 : decode cX5_stepAcross 3 = .ok (.istore_n 3, 1) := by decide +kernel
theorem dX5_stepAcross_4 : decode cX5_stepAcross 4 = .ok (.iload_n 3, 1) := by decide +kernel
theorem dX5_stepAcross_5 : decode cX5_stepAcross 5 = .ok (.iconst 4, 1) := by decide +kernel
theorem dX5_stepAcross_6 : decode cX5_stepAcross 6 = .ok (.if_icmp .ge 41, 3) := by decide +kernel
theorem dX5_stepAcross_9 : decode cX5_stepAcross 9 = .ok (.aload_n 0, 1) := by decide +kernel
theorem dX5_stepAcross_10 : decode cX5_stepAcross 10 = .ok (.getfield 21, 3) := by decide +kernel
theorem dX5_stepAcross_13 : decode cX5_stepAcross 13 = .ok (.iload_n 3, 1) := by decide +kernel
theorem dX5_stepAcross_14 : decode cX5_stepAcross 14 = .ok (.iload_n 1, 1) := by decide +kernel
theorem dX5_stepAcross_15 : decode cX5_stepAcross 15 = .ok (.invokevirtual 36, 3) := by decide +kernel
theorem dX5_stepAcross_18 : decode cX5_stepAcross 18 = .ok (.ifCond .eq 18, 3) := by decide +kernel
theorem dX5_stepAcross_21 : decode cX5_stepAcross 21 = .ok (.iconst 0, 1) := by decide +kernel
theorem dX5_stepAcross_22 : decode cX5_stepAcross 22 = .ok (.istore_n 2, 1) := by decide +kernel
theorem dX5_stepAcross_23 : decode cX5_stepAcross 23 = .ok (.aload_n 0, 1) := by decide +kernel
theorem dX5_stepAcross_24 : decode cX5_stepAcross 24 = .ok (.iload_n 3, 1) := by decide +kernel
theorem dX5_stepAcross_25 : decode cX5_stepAcross 25 = .ok (.invokevirtual 58, 3) := by decide +kernel
theorem dX5_stepAcross_28 : decode cX5_stepAcross 28 = .ok (.aload_n 0, 1) := by decide +kernel
theorem dX5_stepAcross_29 : decode cX5_stepAcross 29 = .ok (.iload_n 3, 1) := by decide +kernel
theorem dX5_stepAcross_30 : decode cX5_stepAcross 30 = .ok (.invokevirtual 61, 3) := by decide +kernel
theorem dX5_stepAcross_33 : decode cX5_stepAcross 33 = .ok (.goto 8, 3) := by decide +kernel
theorem dX5_stepAcross_36 : decode cX5_stepAcross 36 = .ok (.aload_n 0, 1) := by decide +kernel
theorem dX5_stepAcross_37 : decode cX5_stepAcross 37 = .ok (.iload_n 3, 1) := by decide +kernel
theorem dX5_stepAcross_38 : decode cX5_stepAcross 38 = .ok (.invokevirtual 64, 3) := by decide +kernel
theorem dX5_stepAcross_41 : decode cX5_stepAcross 41 = .ok (.iinc 3 1, 3) := by decide +kernel
theorem dX5_stepAcross_44 : decode cX5_stepAcross 44 = .ok (.goto (-40), 3) := by decide +kernel
theorem dX5_stepAcross_47 : decode cX5_stepAcross 47 = .ok (.aload_n 0, 1) := by decide +kernel
theorem dX5_stepAcross_48 : decode cX5_stepAcross 48 = .ok (.dup, 1) := by decide +kernel
theorem dX5_stepAcross_49 : decode cX5_stepAcross 49 = .ok (.getfield 67, 3) := by decide +kernel
theorem dX5_stepAcross_52 : decode cX5_stepAcross 52 = .ok (.iload_n 2, 1) := by decide +kernel
theorem dX5_stepAcross_53 : decode cX5_stepAcross 53 = .ok (.ifCond .eq 7, 3) := by decide +kernel
theorem dX5_stepAcross_56 : decode cX5_stepAcross 56 = .ok (.iconst 1, 1) := by decide +kernel
theorem dX5_stepAcross_57 : decode cX5_stepAcross 57 = .ok (.goto 4, 3) := by decide +kernel
theorem dX5_stepAcross_60 : decode cX5_stepAcross 60 = .ok (.iconst 0, 1) := by decide +kernel
theorem dX5_stepAcross_61 : decode cX5_stepAcross 61 = .ok (.iadd, 1) := by decide +kernel
theorem dX5_stepAcross_62 : decode cX5_stepAcross 62 = .ok (.putfield 67, 3) := by decide +kernel
theorem dX5_stepAcross_65 : decode cX5_stepAcross 65 = .ok (.aload_n 0, 1) := by decide +kernel
theorem dX5_stepAcross_66 : decode cX5_stepAcross 66 = .ok (.dup, 1) := by decide +kernel
theorem dX5_stepAcross_67 : decode cX5_stepAcross 67 = .ok (.getfield 40, 3) := by decide +kernel
theorem dX5_stepAcross_70 : decode cX5_stepAcross 70 = .ok (.iconst 1, 1) := by decide +kernel
theorem dX5_stepAcross_71 : decode cX5_stepAcross 71 = .ok (.iadd, 1) := by decide +kernel
theorem dX5_stepAcross_72 : decode cX5_stepAcross 72 = .ok (.putfield 40, 3) := by decide +kernel
theorem dX5_stepAcross_75 : decode cX5_stepAcross 75 = .ok (.return_, 1) := by decide +kernel
set_option maxRecDepth 20000 in
theorem ggX5_takeWord_X1_hasWord : GoodIn wsX5_takeWord wsX1_hasWord := goodIn_r _ [9, 10, 11, 12, 13, 14, 15, 16, 50, 51, 52, 53, 54, 55, 56, 57, 58] (by decide +kernel) (by decide +kernel)
set_option maxRecDepth 20000 in
theorem gX5_takeWord_X1_hasWord : GoodIn wsX5_takeWord (wsV RX5 70 RX1 yX1_hasWord wsX1_hasWord) := goodIn_app (goodIn_of _ (by decide +kernel)) ggX5_takeWord_X1_hasWord
set_option maxRecDepth 20000 in
theorem ggX5_takeWord_X0_get : GoodIn wsX5_takeWord wsX0_get := goodIn_r _ [15, 16, 58] (by decide +kernel) (by decide +kernel)
set_option maxRecDepth 20000 in
theorem gX5_takeWord_X0_get : GoodIn wsX5_takeWord (wsV RX5 81 RX0 yX0_get wsX0_get) := goodIn_app (goodIn_of _ (by decide +kernel)) ggX5_takeWord_X0_get
set_option maxRecDepth 20000 in
theorem ggX5_takeWord_X4_takeWaiting : GoodIn wsX5_takeWord wsX4_takeWaiting := goodIn_r _ [22, 23, 24, 12, 13, 14, 15, 16, 25, 26, 27, 21, 28, 29, 30, 31, 32, 33, 34, 35, 36, 37, 38, 39, 40, 41, 42, 59, 60, 61, 62, 63, 64, 65, 66, 58] (by decide +kernel) (by decide +kernel)
set_option maxRecDepth 20000 in
theorem gX5_takeWord_X4_takeWaiting : GoodIn wsX5_takeWord (wsV RX5 86 RX4 yX4_takeWaiting wsX4_takeWaiting) := goodIn_app (goodIn_of _ (by decide +kernel)) ggX5_takeWord_X4_takeWaiting
set_option maxRecDepth 20000 in
theorem ggX5_takeWord_X0_set : GoodIn wsX5_takeWord wsX0_set := goodIn_r _ [42, 16, 58] (by decide +kernel) (by decide +kernel)
set_option maxRecDepth 20000 in
theorem gX5_takeWord_X0_set : GoodIn wsX5_takeWord (wsV RX5 89 RX0 yX0_set wsX0_set) := goodIn_app (goodIn_of _ (by decide +kernel)) ggX5_takeWord_X0_set
theorem dX5_takeWord_0 : decode cX5_takeWord 0 = .ok (.aload_n 0, 1) := by decide +kernel
theorem dX5_takeWord_1 : decode cX5_takeWord 1 = .ok (.getfield 21, 3) := by decide +kernel
theorem dX5_takeWord_4 : decode cX5_takeWord 4 = .ok (.iload_n 1, 1) := by decide +kernel
theorem dX5_takeWord_5 : decode cX5_takeWord 5 = .ok (.invokevirtual 70, 3) := by decide +kernel
theorem dX5_takeWord_8 : decode cX5_takeWord 8 = .ok (.ifCond .ne 32, 3) := by decide +kernel
theorem dX5_takeWord_11 : decode cX5_takeWord 11 = .ok (.aload_n 0, 1) := by decide +kernel
theorem dX5_takeWord_12 : decode cX5_takeWord 12 = .ok (.getfield 21, 3) := by decide +kernel
theorem dX5_takeWord_15 : decode cX5_takeWord 15 = .ok (.getfield 74, 3) := by decide +kernel
theorem dX5_takeWord_18 : decode cX5_takeWord 18 = .ok (.iload_n 1, 1) := by decide +kernel
theorem dX5_takeWord_19 : decode cX5_takeWord 19 = .ok (.aload_n 0, 1) := by decide +kernel
theorem dX5_takeWord_20 : decode cX5_takeWord 20 = .ok (.getfield 28, 3) := by decide +kernel
theorem dX5_takeWord_23 : decode cX5_takeWord 23 = .ok (.aload_n 0, 1) := by decide +kernel
theorem dX5_takeWord_24 : decode cX5_takeWord 24 = .ok (.getfield 21, 3) := by decide +kernel
theorem dX5_takeWord_27 : decode cX5_takeWord 27 = .ok (.getfield 78, 3) := by decide +kernel
theorem dX5_takeWord_30 : decode cX5_takeWord 30 = .ok (.iload_n 1, 1) := by decide +kernel
theorem dX5_takeWord_31 : decode cX5_takeWord 31 = .ok (.invokevirtual 81, 3) := by decide +kernel
theorem dX5_takeWord_34 : decode cX5_takeWord 34 = .ok (.invokevirtual 86, 3) := by decide +kernel
theorem dX5_takeWord_37 : decode cX5_takeWord 37 = .ok (.invokevirtual 89, 3) := by decide +kernel
theorem dX5_takeWord_40 : decode cX5_takeWord 40 = .ok (.return_, 1) := by decide +kernel
set_option maxRecDepth 20000 in
theorem ggX5_passLetter_X0_get : GoodIn wsX5_passLetter wsX0_get := goodIn_r _ [14, 15, 68] (by decide +kernel) (by decide +kernel)
set_option maxRecDepth 20000 in
theorem gX5_passLetter_X0_get : GoodIn wsX5_passLetter (wsV RX5 81 RX0 yX0_get wsX0_get) := goodIn_app (goodIn_of _ (by decide +kernel)) ggX5_passLetter_X0_get
set_option maxRecDepth 20000 in
theorem ggX5_passLetter_X0_add : GoodIn wsX5_passLetter wsX0_add := goodIn_r _ [19, 15, 68] (by decide +kernel) (by decide +kernel)
set_option maxRecDepth 20000 in
theorem gX5_passLetter_X0_add : GoodIn wsX5_passLetter (wsV RX5 99 RX0 yX0_add wsX0_add) := goodIn_app (goodIn_of _ (by decide +kernel)) ggX5_passLetter_X0_add
set_option maxRecDepth 20000 in
theorem ggX5_passLetter_X1_release : GoodIn wsX5_passLetter wsX1_release := goodIn_r _ [24, 25, 26, 27, 28, 29, 13, 30, 15, 52, 53, 54, 55, 56, 57, 58, 59, 68] (by decide +kernel) (by decide +kernel)
set_option maxRecDepth 20000 in
theorem gX5_passLetter_X1_release : GoodIn wsX5_passLetter (wsV RX5 105 RX1 yX1_release wsX1_release) := goodIn_app (goodIn_of _ (by decide +kernel)) ggX5_passLetter_X1_release
set_option maxRecDepth 20000 in
theorem ggX5_passLetter_X4_markPassed : GoodIn wsX5_passLetter wsX4_markPassed := goodIn_r _ [35, 36, 37, 38, 28, 29, 13, 30, 15, 60, 61, 62, 63, 64, 65, 66, 67, 68] (by decide +kernel) (by decide +kernel)
set_option maxRecDepth 20000 in
theorem gX5_passLetter_X4_markPassed : GoodIn wsX5_passLetter (wsV RX5 111 RX4 yX4_markPassed wsX4_markPassed) := goodIn_app (goodIn_of _ (by decide +kernel)) ggX5_passLetter_X4_markPassed
set_option maxRecDepth 20000 in
theorem ggX5_passLetter_X4_addLast : GoodIn wsX5_passLetter wsX4_addLast := goodIn_r _ [42, 43, 44, 45, 11, 12, 13, 14, 15, 38, 28, 29, 30, 60, 61, 62, 63, 64, 65, 66, 67, 68] (by decide +kernel) (by decide +kernel)
set_option maxRecDepth 20000 in
theorem gX5_passLetter_X4_addLast : GoodIn wsX5_passLetter (wsV RX5 115 RX4 yX4_addLast wsX4_addLast) := goodIn_app (goodIn_of _ (by decide +kernel)) ggX5_passLetter_X4_addLast
theorem dX5_passLetter_0 : decode cX5_passLetter 0 = .ok (.aload_n 0, 1) := by decide +kernel
theorem dX5_passLetter_1 : decode cX5_passLetter 1 = .ok (.getfield 21, 3) := by decide +kernel
theorem dX5_passLetter_4 : decode cX5_passLetter 4 = .ok (.getfield 74, 3) := by decide +kernel
theorem dX5_passLetter_7 : decode cX5_passLetter 7 = .ok (.iload_n 1, 1) := by decide +kernel
theorem dX5_passLetter_8 : decode cX5_passLetter 8 = .ok (.invokevirtual 81, 3) := by decide +kernel
theorem dX5_passLetter_11 : decode cX5_passLetter 11 = .ok (.istore_n 2, 1) := by decide +kernel
theorem dX5_passLetter_12 : decode cX5_passLetter 12 = .ok (.iload_n 2, 1) := by decide +kernel
theorem dX5_passLetter_13 : decode cX5_passLetter 13 = .ok (.sipush (-1006), 3) := by decide +kernel
theorem dX5_passLetter_16 : decode cX5_passLetter 16 = .ok (.if_icmp .ne 4, 3) := by decide +kernel
theorem dX5_passLetter_19 : decode cX5_passLetter 19 = .ok (.return_, 1) := by decide +kernel
theorem dX5_passLetter_20 : decode cX5_passLetter 20 = .ok (.aload_n 0, 1) := by decide +kernel
theorem dX5_passLetter_21 : decode cX5_passLetter 21 = .ok (.dup, 1) := by decide +kernel
theorem dX5_passLetter_22 : decode cX5_passLetter 22 = .ok (.getfield 93, 3) := by decide +kernel
theorem dX5_passLetter_25 : decode cX5_passLetter 25 = .ok (.iconst 1, 1) := by decide +kernel
theorem dX5_passLetter_26 : decode cX5_passLetter 26 = .ok (.iadd, 1) := by decide +kernel
theorem dX5_passLetter_27 : decode cX5_passLetter 27 = .ok (.putfield 93, 3) := by decide +kernel
theorem dX5_passLetter_30 : decode cX5_passLetter 30 = .ok (.aload_n 0, 1) := by decide +kernel
theorem dX5_passLetter_31 : decode cX5_passLetter 31 = .ok (.getfield 21, 3) := by decide +kernel
theorem dX5_passLetter_34 : decode cX5_passLetter 34 = .ok (.getfield 96, 3) := by decide +kernel
theorem dX5_passLetter_37 : decode cX5_passLetter 37 = .ok (.iload_n 1, 1) := by decide +kernel
theorem dX5_passLetter_38 : decode cX5_passLetter 38 = .ok (.iconst 1, 1) := by decide +kernel
theorem dX5_passLetter_39 : decode cX5_passLetter 39 = .ok (.invokevirtual 99, 3) := by decide +kernel
theorem dX5_passLetter_42 : decode cX5_passLetter 42 = .ok (.aload_n 0, 1) := by decide +kernel
theorem dX5_passLetter_43 : decode cX5_passLetter 43 = .ok (.getfield 21, 3) := by decide +kernel
theorem dX5_passLetter_46 : decode cX5_passLetter 46 = .ok (.getfield 96, 3) := by decide +kernel
theorem dX5_passLetter_49 : decode cX5_passLetter 49 = .ok (.iload_n 1, 1) := by decide +kernel
theorem dX5_passLetter_50 : decode cX5_passLetter 50 = .ok (.invokevirtual 81, 3) := by decide +kernel
theorem dX5_passLetter_53 : decode cX5_passLetter 53 = .ok (.aload_n 0, 1) := by decide +kernel
theorem dX5_passLetter_54 : decode cX5_passLetter 54 = .ok (.getfield 28, 3) := by decide +kernel
theorem dX5_passLetter_57 : decode cX5_passLetter 57 = .ok (.getfield 102, 3) := by decide +kernel
theorem dX5_passLetter_60 : decode cX5_passLetter 60 = .ok (.iload_n 2, 1) := by decide +kernel
theorem dX5_passLetter_61 : decode cX5_passLetter 61 = .ok (.invokevirtual 81, 3) := by decide +kernel
theorem dX5_passLetter_64 : decode cX5_passLetter 64 = .ok (.if_icmp .ge 4, 3) := by decide +kernel
theorem dX5_passLetter_67 : decode cX5_passLetter 67 = .ok (.return_, 1) := by decide +kernel
theorem dX5_passLetter_68 : decode cX5_passLetter 68 = .ok (.aload_n 0, 1) := by decide +kernel
theorem dX5_passLetter_69 : decode cX5_passLetter 69 = .ok (.getfield 21, 3) := by decide +kernel
theorem dX5_passLetter_72 : decode cX5_passLetter 72 = .ok (.iload_n 1, 1) := by decide +kernel
theorem dX5_passLetter_73 : decode cX5_passLetter 73 = .ok (.invokevirtual 105, 3) := by decide +kernel
theorem dX5_passLetter_76 : decode cX5_passLetter 76 = .ok (.aload_n 0, 1) := by decide +kernel
theorem dX5_passLetter_77 : decode cX5_passLetter 77 = .ok (.getfield 21, 3) := by decide +kernel
theorem dX5_passLetter_80 : decode cX5_passLetter 80 = .ok (.getfield 108, 3) := by decide +kernel
theorem dX5_passLetter_83 : decode cX5_passLetter 83 = .ok (.iload_n 1, 1) := by decide +kernel
theorem dX5_passLetter_84 : decode cX5_passLetter 84 = .ok (.iconst 1, 1) := by decide +kernel
theorem dX5_passLetter_85 : decode cX5_passLetter 85 = .ok (.invokevirtual 99, 3) := by decide +kernel
theorem dX5_passLetter_88 : decode cX5_passLetter 88 = .ok (.aload_n 0, 1) := by decide +kernel
theorem dX5_passLetter_89 : decode cX5_passLetter 89 = .ok (.getfield 28, 3) := by decide +kernel
theorem dX5_passLetter_92 : decode cX5_passLetter 92 = .ok (.iload_n 2, 1) := by decide +kernel
theorem dX5_passLetter_93 : decode cX5_passLetter 93 = .ok (.aload_n 0, 1) := by decide +kernel
theorem dX5_passLetter_94 : decode cX5_passLetter 94 = .ok (.getfield 40, 3) := by decide +kernel
theorem dX5_passLetter_97 : decode cX5_passLetter 97 = .ok (.iload_n 1, 1) := by decide +kernel
theorem dX5_passLetter_98 : decode cX5_passLetter 98 = .ok (.invokevirtual 111, 3) := by decide +kernel
theorem dX5_passLetter_101 : decode cX5_passLetter 101 = .ok (.aload_n 0, 1) := by decide +kernel
theorem dX5_passLetter_102 : decode cX5_passLetter 102 = .ok (.getfield 28, 3) := by decide +kernel
theorem dX5_passLetter_105 : decode cX5_passLetter 105 = .ok (.iconst 1, 1) := by decide +kernel
theorem dX5_passLetter_106 : decode cX5_passLetter 106 = .ok (.aload_n 0, 1) := by decide +kernel
theorem dX5_passLetter_107 : decode cX5_passLetter 107 = .ok (.getfield 21, 3) := by decide +kernel
theorem dX5_passLetter_110 : decode cX5_passLetter 110 = .ok (.getfield 78, 3) := by decide +kernel
theorem dX5_passLetter_113 : decode cX5_passLetter 113 = .ok (.iload_n 1, 1) := by decide +kernel
theorem dX5_passLetter_114 : decode cX5_passLetter 114 = .ok (.invokevirtual 81, 3) := by decide +kernel
theorem dX5_passLetter_117 : decode cX5_passLetter 117 = .ok (.isub, 1) := by decide +kernel
theorem dX5_passLetter_118 : decode cX5_passLetter 118 = .ok (.iload_n 2, 1) := by decide +kernel
theorem dX5_passLetter_119 : decode cX5_passLetter 119 = .ok (.invokevirtual 115, 3) := by decide +kernel
theorem dX5_passLetter_122 : decode cX5_passLetter 122 = .ok (.return_, 1) := by decide +kernel
set_option maxRecDepth 20000 in
theorem ggX5_sendBack_X0_get : GoodIn wsX5_sendBack wsX0_get := goodIn_r _ [13, 14, 61] (by decide +kernel) (by decide +kernel)
set_option maxRecDepth 20000 in
theorem gX5_sendBack_X0_get : GoodIn wsX5_sendBack (wsV RX5 81 RX0 yX0_get wsX0_get) := goodIn_app (goodIn_of _ (by decide +kernel)) ggX5_sendBack_X0_get
set_option maxRecDepth 20000 in
theorem ggX5_sendBack_X0_add : GoodIn wsX5_sendBack wsX0_add := goodIn_r _ [18, 14, 61] (by decide +kernel) (by decide +kernel)
set_option maxRecDepth 20000 in
theorem gX5_sendBack_X0_add : GoodIn wsX5_sendBack (wsV RX5 99 RX0 yX0_add wsX0_add) := goodIn_app (goodIn_of _ (by decide +kernel)) ggX5_sendBack_X0_add
set_option maxRecDepth 20000 in
theorem ggX5_sendBack_X1_release : GoodIn wsX5_sendBack wsX1_release := goodIn_r _ [23, 24, 25, 26, 27, 28, 12, 29, 14, 45, 46, 47, 48, 49, 50, 51, 52, 61] (by decide +kernel) (by decide +kernel)
set_option maxRecDepth 20000 in
theorem gX5_sendBack_X1_release : GoodIn wsX5_sendBack (wsV RX5 105 RX1 yX1_release wsX1_release) := goodIn_app (goodIn_of _ (by decide +kernel)) ggX5_sendBack_X1_release
set_option maxRecDepth 20000 in
theorem ggX5_sendBack_X4_addFirst : GoodIn wsX5_sendBack wsX4_addFirst := goodIn_r _ [34, 35, 36, 37, 10, 11, 12, 13, 14, 38, 27, 28, 29, 53, 54, 55, 56, 57, 58, 59, 60, 61] (by decide +kernel) (by decide +kernel)
set_option maxRecDepth 20000 in
theorem gX5_sendBack_X4_addFirst : GoodIn wsX5_sendBack (wsV RX5 127 RX4 yX4_addFirst wsX4_addFirst) := goodIn_app (goodIn_of _ (by decide +kernel)) ggX5_sendBack_X4_addFirst
theorem dX5_sendBack_0 : decode cX5_sendBack 0 = .ok (.aload_n 0, 1) := by decide +kernel
theorem dX5_sendBack_1 : decode cX5_sendBack 1 = .ok (.getfield 21, 3) := by decide +kernel
theorem dX5_sendBack_4 : decode cX5_sendBack 4 = .ok (.getfield 74, 3) := by decide +kernel
theorem dX5_sendBack_7 : decode cX5_sendBack 7 = .ok (.iload_n 1, 1) := by decide +kernel
theorem dX5_sendBack_8 : decode cX5_sendBack 8 = .ok (.invokevirtual 81, 3) := by decide +kernel
theorem dX5_sendBack_11 : decode cX5_sendBack 11 = .ok (.istore_n 2, 1) := by decide +kernel
theorem dX5_sendBack_12 : decode cX5_sendBack 12 = .ok (.iload_n 2, 1) := by decide +kernel
theorem dX5_sendBack_13 : decode cX5_sendBack 13 = .ok (.sipush (-1006), 3) := by decide +kernel
theorem dX5_sendBack_16 : decode cX5_sendBack 16 = .ok (.if_icmp .eq 18, 3) := by decide +kernel
theorem dX5_sendBack_19 : decode cX5_sendBack 19 = .ok (.aload_n 0, 1) := by decide +kernel
theorem dX5_sendBack_20 : decode cX5_sendBack 20 = .ok (.getfield 21, 3) := by decide +kernel
theorem dX5_sendBack_23 : decode cX5_sendBack 23 = .ok (.getfield 118, 3) := by decide +kernel
theorem dX5_sendBack_26 : decode cX5_sendBack 26 = .ok (.iload_n 1, 1) := by decide +kernel
theorem dX5_sendBack_27 : decode cX5_sendBack 27 = .ok (.invokevirtual 81, 3) := by decide +kernel
theorem dX5_sendBack_30 : decode cX5_sendBack 30 = .ok (.iconst 1, 1) := by decide +kernel
theorem dX5_sendBack_31 : decode cX5_sendBack 31 = .ok (.if_icmp .ne 4, 3) := by decide +kernel
theorem dX5_sendBack_34 : decode cX5_sendBack 34 = .ok (.return_, 1) := by decide +kernel
theorem dX5_sendBack_35 : decode cX5_sendBack 35 = .ok (.aload_n 0, 1) := by decide +kernel
theorem dX5_sendBack_36 : decode cX5_sendBack 36 = .ok (.getfield 21, 3) := by decide +kernel
theorem dX5_sendBack_39 : decode cX5_sendBack 39 = .ok (.getfield 121, 3) := by decide +kernel
theorem dX5_sendBack_42 : decode cX5_sendBack 42 = .ok (.iload_n 1, 1) := by decide +kernel
theorem dX5_sendBack_43 : decode cX5_sendBack 43 = .ok (.aload_n 0, 1) := by decide +kernel
theorem dX5_sendBack_44 : decode cX5_sendBack 44 = .ok (.getfield 21, 3) := by decide +kernel
theorem dX5_sendBack_47 : decode cX5_sendBack 47 = .ok (.getfield 96, 3) := by decide +kernel
theorem dX5_sendBack_50 : decode cX5_sendBack 50 = .ok (.iload_n 1, 1) := by decide +kernel
theorem dX5_sendBack_51 : decode cX5_sendBack 51 = .ok (.invokevirtual 81, 3) := by decide +kernel
theorem dX5_sendBack_54 : decode cX5_sendBack 54 = .ok (.invokevirtual 99, 3) := by decide +kernel
theorem dX5_sendBack_57 : decode cX5_sendBack 57 = .ok (.aload_n 0, 1) := by decide +kernel
theorem dX5_sendBack_58 : decode cX5_sendBack 58 = .ok (.getfield 21, 3) := by decide +kernel
theorem dX5_sendBack_61 : decode cX5_sendBack 61 = .ok (.iload_n 1, 1) := by decide +kernel
theorem dX5_sendBack_62 : decode cX5_sendBack 62 = .ok (.invokevirtual 105, 3) := by decide +kernel
theorem dX5_sendBack_65 : decode cX5_sendBack 65 = .ok (.aload_n 0, 1) := by decide +kernel
theorem dX5_sendBack_66 : decode cX5_sendBack 66 = .ok (.getfield 28, 3) := by decide +kernel
theorem dX5_sendBack_69 : decode cX5_sendBack 69 = .ok (.getfield 124, 3) := by decide +kernel
theorem dX5_sendBack_72 : decode cX5_sendBack 72 = .ok (.iload_n 2, 1) := by decide +kernel
theorem dX5_sendBack_73 : decode cX5_sendBack 73 = .ok (.iconst 1, 1) := by decide +kernel
theorem dX5_sendBack_74 : decode cX5_sendBack 74 = .ok (.invokevirtual 99, 3) := by decide +kernel
theorem dX5_sendBack_77 : decode cX5_sendBack 77 = .ok (.aload_n 0, 1) := by decide +kernel
theorem dX5_sendBack_78 : decode cX5_sendBack 78 = .ok (.getfield 28, 3) := by decide +kernel
theorem dX5_sendBack_81 : decode cX5_sendBack 81 = .ok (.aload_n 0, 1) := by decide +kernel
theorem dX5_sendBack_82 : decode cX5_sendBack 82 = .ok (.getfield 21, 3) := by decide +kernel
theorem dX5_sendBack_85 : decode cX5_sendBack 85 = .ok (.getfield 78, 3) := by decide +kernel
theorem dX5_sendBack_88 : decode cX5_sendBack 88 = .ok (.iload_n 1, 1) := by decide +kernel
theorem dX5_sendBack_89 : decode cX5_sendBack 89 = .ok (.invokevirtual 81, 3) := by decide +kernel
theorem dX5_sendBack_92 : decode cX5_sendBack 92 = .ok (.iload_n 2, 1) := by decide +kernel
theorem dX5_sendBack_93 : decode cX5_sendBack 93 = .ok (.invokevirtual 127, 3) := by decide +kernel
theorem dX5_sendBack_96 : decode cX5_sendBack 96 = .ok (.return_, 1) := by decide +kernel
set_option maxRecDepth 20000 in
theorem ggX5_tally_X0_sum : GoodIn wsX5_tally wsX0_sum := goodIn_r _ [11, 12, 35] (by decide +kernel) (by decide +kernel)
set_option maxRecDepth 20000 in
theorem gX5_tally_X0_sum : GoodIn wsX5_tally (wsV RX5 130 RX0 yX0_sum wsX0_sum) := goodIn_app (goodIn_of _ (by decide +kernel)) ggX5_tally_X0_sum
theorem dX5_tally_0 : decode cX5_tally 0 = .ok (.iload_n 1, 1) := by decide +kernel
theorem dX5_tally_1 : decode cX5_tally 1 = .ok (.tableswitch 60 0 2 #[27, 38, 49], 27) := by decide +kernel
theorem dX5_tally_28 : decode cX5_tally 28 = .ok (.aload_n 0, 1) := by decide +kernel
theorem dX5_tally_29 : decode cX5_tally 29 = .ok (.getfield 21, 3) := by decide +kernel
theorem dX5_tally_32 : decode cX5_tally 32 = .ok (.getfield 108, 3) := by decide +kernel
theorem dX5_tally_35 : decode cX5_tally 35 = .ok (.invokevirtual 130, 3) := by decide +kernel
theorem dX5_tally_38 : decode cX5_tally 38 = .ok (.ireturn, 1) := by decide +kernel
theorem dX5_tally_39 : decode cX5_tally 39 = .ok (.aload_n 0, 1) := by decide +kernel
theorem dX5_tally_40 : decode cX5_tally 40 = .ok (.getfield 21, 3) := by decide +kernel
theorem dX5_tally_43 : decode cX5_tally 43 = .ok (.getfield 121, 3) := by decide +kernel
theorem dX5_tally_46 : decode cX5_tally 46 = .ok (.invokevirtual 130, 3) := by decide +kernel
theorem dX5_tally_49 : decode cX5_tally 49 = .ok (.ireturn, 1) := by decide +kernel
theorem dX5_tally_50 : decode cX5_tally 50 = .ok (.aload_n 0, 1) := by decide +kernel
theorem dX5_tally_51 : decode cX5_tally 51 = .ok (.getfield 28, 3) := by decide +kernel
theorem dX5_tally_54 : decode cX5_tally 54 = .ok (.getfield 124, 3) := by decide +kernel
theorem dX5_tally_57 : decode cX5_tally 57 = .ok (.invokevirtual 130, 3) := by decide +kernel
theorem dX5_tally_60 : decode cX5_tally 60 = .ok (.ireturn, 1) := by decide +kernel
theorem dX5_tally_61 : decode cX5_tally 61 = .ok (.aload_n 0, 1) := by decide +kernel
theorem dX5_tally_62 : decode cX5_tally 62 = .ok (.getfield 67, 3) := by decide +kernel
theorem dX5_tally_65 : decode cX5_tally 65 = .ok (.ireturn, 1) := by decide +kernel
set_option maxRecDepth 20000 in
theorem ggX5_copyFrom_X3_copyFrom : GoodIn wsX5_copyFrom wsX3_copyFrom := goodIn_r _ [11, 12, 13, 14, 15, 16, 17, 18, 19, 20, 21, 22, 23, 24, 25, 26, 27, 28, 29, 64, 65, 66, 67, 68] (by decide +kernel) (by decide +kernel)
set_option maxRecDepth 20000 in
theorem gX5_copyFrom_X3_copyFrom : GoodIn wsX5_copyFrom (wsV RX5 134 RX3 yX3_copyFrom wsX3_copyFrom) := goodIn_app (goodIn_of _ (by decide +kernel)) ggX5_copyFrom_X3_copyFrom
set_option maxRecDepth 20000 in
theorem ggX5_copyFrom_X1_copyFrom : GoodIn wsX5_copyFrom wsX1_copyFrom := goodIn_r _ [34, 35, 36, 37, 38, 39, 40, 41, 42, 43, 17, 18, 19, 20, 21, 22, 23, 24, 25, 26, 27, 28, 29, 69, 70, 71, 72, 73, 74, 75, 76, 68] (by decide +kernel) (by decide +kernel)
set_option maxRecDepth 20000 in
theorem gX5_copyFrom_X1_copyFrom : GoodIn wsX5_copyFrom (wsV RX5 138 RX1 yX1_copyFrom wsX1_copyFrom) := goodIn_app (goodIn_of _ (by decide +kernel)) ggX5_copyFrom_X1_copyFrom
set_option maxRecDepth 20000 in
theorem ggX5_copyFrom_X4_copyFrom : GoodIn wsX5_copyFrom wsX4_copyFrom := goodIn_r _ [48, 49, 50, 51, 52, 53, 54, 55, 56, 57, 17, 18, 19, 20, 21, 22, 23, 24, 25, 26, 27, 28, 29, 77, 78, 79, 80, 81, 82, 83, 84, 68] (by decide +kernel) (by decide +kernel)
set_option maxRecDepth 20000 in
theorem gX5_copyFrom_X4_copyFrom : GoodIn wsX5_copyFrom (wsV RX5 141 RX4 yX4_copyFrom wsX4_copyFrom) := goodIn_app (goodIn_of _ (by decide +kernel)) ggX5_copyFrom_X4_copyFrom
theorem dX5_copyFrom_0 : decode cX5_copyFrom 0 = .ok (.aload_n 1, 1) := by decide +kernel
theorem dX5_copyFrom_1 : decode cX5_copyFrom 1 = .ok (.ifnull 60, 3) := by decide +kernel
theorem dX5_copyFrom_4 : decode cX5_copyFrom 4 = .ok (.aload_n 0, 1) := by decide +kernel
theorem dX5_copyFrom_5 : decode cX5_copyFrom 5 = .ok (.getfield 12, 3) := by decide +kernel
theorem dX5_copyFrom_8 : decode cX5_copyFrom 8 = .ok (.aload_n 1, 1) := by decide +kernel
theorem dX5_copyFrom_9 : decode cX5_copyFrom 9 = .ok (.getfield 12, 3) := by decide +kernel
theorem dX5_copyFrom_12 : decode cX5_copyFrom 12 = .ok (.invokevirtual 134, 3) := by decide +kernel
theorem dX5_copyFrom_15 : decode cX5_copyFrom 15 = .ok (.aload_n 0, 1) := by decide +kernel
theorem dX5_copyFrom_16 : decode cX5_copyFrom 16 = .ok (.getfield 21, 3) := by decide +kernel
theorem dX5_copyFrom_19 : decode cX5_copyFrom 19 = .ok (.aload_n 1, 1) := by decide +kernel
theorem dX5_copyFrom_20 : decode cX5_copyFrom 20 = .ok (.getfield 21, 3) := by decide +kernel
theorem dX5_copyFrom_23 : decode cX5_copyFrom 23 = .ok (.invokevirtual 138, 3) := by decide +kernel
theorem dX5_copyFrom_26 : decode cX5_copyFrom 26 = .ok (.aload_n 0, 1) := by decide +kernel
theorem dX5_copyFrom_27 : decode cX5_copyFrom 27 = .ok (.getfield 28, 3) := by decide +kernel
theorem dX5_copyFrom_30 : decode cX5_copyFrom 30 = .ok (.aload_n 1, 1) := by decide +kernel
theorem dX5_copyFrom_31 : decode cX5_copyFrom 31 = .ok (.getfield 28, 3) := by decide +kernel
theorem dX5_copyFrom_34 : decode cX5_copyFrom 34 = .ok (.invokevirtual 141, 3) := by decide +kernel
theorem dX5_copyFrom_37 : decode cX5_copyFrom 37 = .ok (.aload_n 0, 1) := by decide +kernel
theorem dX5_copyFrom_38 : decode cX5_copyFrom 38 = .ok (.aload_n 1, 1) := by decide +kernel
theorem dX5_copyFrom_39 : decode cX5_copyFrom 39 = .ok (.getfield 40, 3) := by decide +kernel
theorem dX5_copyFrom_42 : decode cX5_copyFrom 42 = .ok (.putfield 40, 3) := by decide +kernel
theorem dX5_copyFrom_45 : decode cX5_copyFrom 45 = .ok (.aload_n 0, 1) := by decide +kernel
theorem dX5_copyFrom_46 : decode cX5_copyFrom 46 = .ok (.aload_n 1, 1) := by decide +kernel
theorem dX5_copyFrom_47 : decode cX5_copyFrom 47 = .ok (.getfield 93, 3) := by decide +kernel
theorem dX5_copyFrom_50 : decode cX5_copyFrom 50 = .ok (.putfield 93, 3) := by decide +kernel
theorem dX5_copyFrom_53 : decode cX5_copyFrom 53 = .ok (.aload_n 0, 1) := by decide +kernel
theorem dX5_copyFrom_54 : decode cX5_copyFrom 54 = .ok (.aload_n 1, 1) := by decide +kernel
theorem dX5_copyFrom_55 : decode cX5_copyFrom 55 = .ok (.getfield 67, 3) := by decide +kernel
theorem dX5_copyFrom_58 : decode cX5_copyFrom 58 = .ok (.putfield 67, 3) := by decide +kernel
theorem dX5_copyFrom_61 : decode cX5_copyFrom 61 = .ok (.return_, 1) := by decide +kernel
theorem dJ9_abs_0f7a4_0 : decode cJ9_abs_0f7a4 0 = .ok (.iload_n 0, 1) := by decide +kernel
theorem dJ9_abs_0f7a4_1 : decode cJ9_abs_0f7a4 1 = .ok (.ifCond .ge 8, 3) := by decide +kernel
theorem dJ9_abs_0f7a4_4 : decode cJ9_abs_0f7a4 4 = .ok (.iload_n 0, 1) := by decide +kernel
theorem dJ9_abs_0f7a4_5 : decode cJ9_abs_0f7a4 5 = .ok (.ineg, 1) := by decide +kernel
theorem dJ9_abs_0f7a4_6 : decode cJ9_abs_0f7a4 6 = .ok (.goto 4, 3) := by decide +kernel
theorem dJ9_abs_0f7a4_9 : decode cJ9_abs_0f7a4 9 = .ok (.iload_n 0, 1) := by decide +kernel
theorem dJ9_abs_0f7a4_10 : decode cJ9_abs_0f7a4 10 = .ok (.ireturn, 1) := by decide +kernel
theorem dJ9_max_7cf53_0 : decode cJ9_max_7cf53 0 = .ok (.iload_n 0, 1) := by decide +kernel
theorem dJ9_max_7cf53_1 : decode cJ9_max_7cf53 1 = .ok (.iload_n 1, 1) := by decide +kernel
theorem dJ9_max_7cf53_2 : decode cJ9_max_7cf53 2 = .ok (.if_icmp .lt 7, 3) := by decide +kernel
theorem dJ9_max_7cf53_5 : decode cJ9_max_7cf53 5 = .ok (.iload_n 0, 1) := by decide +kernel
theorem dJ9_max_7cf53_6 : decode cJ9_max_7cf53 6 = .ok (.goto 4, 3) := by decide +kernel
theorem dJ9_max_7cf53_9 : decode cJ9_max_7cf53 9 = .ok (.iload_n 1, 1) := by decide +kernel
theorem dJ9_max_7cf53_10 : decode cJ9_max_7cf53 10 = .ok (.ireturn, 1) := by decide +kernel
theorem dJ9_min_7cf53_0 : decode cJ9_min_7cf53 0 = .ok (.iload_n 0, 1) := by decide +kernel
theorem dJ9_min_7cf53_1 : decode cJ9_min_7cf53 1 = .ok (.iload_n 1, 1) := by decide +kernel
theorem dJ9_min_7cf53_2 : decode cJ9_min_7cf53 2 = .ok (.if_icmp .gt 7, 3) := by decide +kernel
theorem dJ9_min_7cf53_5 : decode cJ9_min_7cf53 5 = .ok (.iload_n 0, 1) := by decide +kernel
theorem dJ9_min_7cf53_6 : decode cJ9_min_7cf53 6 = .ok (.goto 4, 3) := by decide +kernel
theorem dJ9_min_7cf53_9 : decode cJ9_min_7cf53 9 = .ok (.iload_n 1, 1) := by decide +kernel
theorem dJ9_min_7cf53_10 : decode cJ9_min_7cf53 10 = .ok (.ireturn, 1) := by decide +kernel
end
section
/-! regions: a row of cells at consecutive addresses, each of a fixed kind; what varies is numbers: Mem -/
abbrev Mem : Type := Nat → Nat → Int32
def sv (V : Mem) (k j : Nat) (v : Int32) : Mem := fun k' j' => if k' = k ∧ j' = j then v else V k' j'
def gv (V : Mem) (k : Nat) : Mem := fun j => V (k + j)
def pv (V : Mem) (k n : Nat) (U : Mem) : Mem := fun j => if k ≤ j ∧ j < k + n then U (j - k) else V j
abbrev kX : Type := va_G × ClassId × ClassId × ClassId
abbrev kTys (X : kX) : List (ClassId × FieldType) := [(X.2.1, .int), (X.2.2.1, .boolean), (X.2.2.2, .object "TideWords$World")]
abbrev kOK (X : kX) (U : State) : Prop := va_K X.1 vwCl (kTys X) U
/-- a field: null, the cell so many behind its own, the number of that place -/
abbrev Kf : Type := Option (Nat ⊕ Nat)
/-- a cell: an object of a class with fields; a row of numbers (0 int, 1 boolean) of a length; a row of references -/
abbrev Kd : Type := (Nat × List Kf) ⊕ ((Nat × Nat) ⊕ List (Option Nat))
def kFv (a : Nat) (f : Nat → Int32) (x : Kf) : Value := match x with
  | none => .null
  | some (.inl d) => .ref (a + d)
  | some (.inr j) => .int (f j)
def kE (X : kX) (k : Kd) (a : Nat) (f : Nat → Int32) : va_E := match k with
  | .inl o => .inr (o.1, o.2.map (kFv a f))
  | .inr (.inl r) => .inl (if r.1 = 0 then X.2.1 else X.2.2.1, r.2, .inl f)
  | .inr (.inr ds) => .inl (X.2.2.2, ds.length, .inr (.inr (.inr (.inr (fun j => (ds.getD j none).map (fun d => a + d))))))
def RP (X : kX) (L : List Kd) (b : Nat) (V : Mem) (H : Heap) : Prop := ∀ (j : Nat) (k : Kd), L[j]? = some k → va_at X.1 vwCl (b + j, kE X k (b + j) (V j)) H
theorem RP.kept {X : kX} {L : List Kd} {b : Nat} {V : Mem} {H H1 : Heap} (h : RP X L b V H) (hk : ∀ q : Nat, b ≤ q → q < b + L.length → H1[q]? = H[q]?) : RP X L b V H1 := fun j k hj => (h j k hj).kept (hk (b + j) (Nat.le_add_right _ _) (Nat.add_lt_add_left (List.getElem?_eq_some_iff.mp hj).1 _))
theorem RP.set {X : kX} {L : List Kd} {b : Nat} {V V' : Mem} {H H1 : Heap} (h : RP X L b V H) {j : Nat} {k : Kd} (hj : L[j]? = some k) (hn : va_at X.1 vwCl (b + j, kE X k (b + j) (V' j)) H1) (ho : ∀ q : Nat, q ≠ b + j → H1[q]? = H[q]?) (h2 : ∀ i, i ≠ j → V' i = V i) : RP X L b V' H1 := by
  intro i k' hi
  by_cases e : i = j
  · subst e
    rw [hj] at hi
    cases hi
    exact hn
  · rw [h2 i e]
    exact (h i k' hi).kept (ho _ (by omega))
def sbL (L : List Kd) (k : Nat) (Lc : List Kd) : Prop := ∀ j, j < Lc.length → L[k + j]? = Lc[j]?
theorem RP.sub {X : kX} {L Lc : List Kd} {b : Nat} {V : Mem} {H : Heap} (h : RP X L b V H) (k : Nat) (hs : sbL L k Lc) : RP X Lc (b + k) (gv V k) H := by
  intro j kd hj
  have hl := (List.getElem?_eq_some_iff.mp hj).1
  have h1 := h (k + j) kd ((hs j hl).trans hj)
  rw [← Nat.add_assoc] at h1
  exact h1
theorem RP.paste {X : kX} {L Lc : List Kd} {b : Nat} {V U : Mem} {H H1 : Heap} (h : RP X L b V H) (k : Nat) (hs : sbL L k Lc) (h1 : RP X Lc (b + k) U H1) (ho : ∀ q : Nat, (q < b + k ∨ b + k + Lc.length ≤ q) → H1[q]? = H[q]?) : RP X L b (pv V k Lc.length U) H1 := by
  intro j kd hj
  by_cases c : k ≤ j ∧ j < k + Lc.length
  · have e : pv V k Lc.length U j = U (j - k) := by unfold pv; rw [if_pos c]
    have hj2 : Lc[j - k]? = some kd := by
      rw [← hs (j - k) (by omega), show k + (j - k) = j by omega]
      exact hj
    have h2 := h1 (j - k) kd hj2
    rw [show b + k + (j - k) = b + j by omega] at h2
    rw [e]
    exact h2
  · have e : pv V k Lc.length U j = V j := by unfold pv; rw [if_neg c]
    rw [e]
    exact (h j kd hj).kept (ho _ (by omega))
/-! contracts -/
def cPc (X : kX) (av : List Value) (P : Heap → Prop) : Array Value → State → Prop := fun v U => v = av.toArray ∧ P U.heap ∧ kOK X U
def cQr (r : Option Value) : Array Value → State → Outcome → State → Prop := fun _ st o t => o = .returned r ∧ t.heap = st.heap
def cQw (r : Option Value) (lo hi : Nat) (P : Heap → Prop) : Array Value → State → Outcome → State → Prop := fun _ st o t => o = .returned r ∧ P t.heap ∧ t.heap.size = st.heap.size ∧ ∀ q : Nat, (q < lo ∨ hi ≤ q) → t.heap[q]? = st.heap[q]?
abbrev MR (l : Launch) (y : MethodName) (ws : List Cond) (rm : Room) (X : kX) (av : List Value) (P : Heap → Prop) (r : Option Value) : Prop := Met l y ws rm (cPc X av P) (cQr r) 0 0 (fun _ => False)
abbrev MW (l : Launch) (y : MethodName) (ws : List Cond) (rm : Room) (X : kX) (av : List Value) (P : Heap → Prop) (r : Option Value) (lo hi : Nat) (P' : Heap → Prop) : Prop := Met l y ws rm (cPc X av P) (cQw r lo hi P') 0 0 (t_fr lo hi)
theorem cPc_blind {X : kX} {av : List Value} {P : Heap → Prop} : FrameBlind (cPc X av P) := fun a U g mk h => ⟨h.1, h.2.1, va_K.moved (u := U) (U := U.calling g mk a) (Vm.Alike.refl U.vm) h.2.2⟩
abbrev Fx (p : Program) (c : Code) (s : State) (m : MethodId) (args : Array Value) (Ts : List Cond) (own : String) (cc : ByteArray) (nL : Nat) (X : kX) : Prop := CallFix p m c cc nL s args Ts own ∧ kOK X s
abbrev Hp (A : Nat → Prop) (H0 : Heap) (z : Nat) (X : kX) (L : List Kd) (b : Nat) (V : Mem) (H : Heap) (locs : List Loc) : Prop := RP X L b V H ∧ va_S A H0 H locs ∧ H.size = z
theorem mt_head {l : Launch} {y : MethodName} {ws ws' : List Cond} {rm : Room} {X : kX} {av : List Value} {P : Heap → Prop} {Qc : Array Value → State → Outcome → State → Prop} {mc ms : Nat} {free : Addr → Prop} {cc : ByteArray} {maxL : Nat} {ret : Option FieldType} {own : String}
    (hy : plainName y.cls = true) (ho : y.cls = own) (hw : ws = Cond.code y cc maxL ret :: ws') (hn : (lg_sl av).length ≤ maxL)
    (body : ∀ (p : Program) (e : Env) (s : State) (m : MethodId) (below : List Frame) (meth : Method) (c : Code) (ls : Array Slot), Fx p c s m av.toArray ws own cc maxL X → meth.sig.returnType = ret → meth.locks = false → meth.name = y.name → P s.heap → lv_has ls maxL (lv_args 0 av) →
      W p l e rm s m av.toArray below meth c s.heap [] 0 0 (MQ below Qc av.toArray s mc ms free) (F0 m 0 ls [])) : Met l y ws rm (cPc X av P) Qc mc ms free := by
  refine Met.ofW (cc := cc) (maxL := maxL) (ret := ret) hy hw ?_
  intro p e s m args below meth c s₁ B hml hv
  obtain ⟨rfl, hP, hK⟩ := hv
  have hl := lv_entry av hn
  rw [lg_entry_eq]
  subst ho
  exact body p e s m below meth c _ ⟨⟨B.exec, B.bytes, hml, findClass_of_methodNamed B.named, atoms_spec (ws := ws) B.pre⟩, hK⟩ B.returns B.notSynchronized (name_of_methodNamed B.named B.method).1 hP hl
/-! the decompiled functions' words -/
def lt {α β : Type} (a : α) (f : α → β) : β := f a
theorem lt_el {α β : Type} {a : α} {f : α → β} {y : β} (h : lt a f = y) : ∃ x, a = x ∧ f x = y := ⟨a, rfl, h⟩
theorem bd_el {α β : Type} {o : Option α} {f : α → Option β} {y : β} (h : o.bind f = some y) : ∃ x, o = some x ∧ f x = some y := Option.bind_eq_some_iff.mp h
theorem gd_el {c : Prop} [Decidable c] {α : Type} {x : Option α} {y : α} (h : (if c then none else x) = some y) : ¬ c ∧ x = some y := by
  by_cases hc : c
  · rw [if_pos hc] at h
    cases h
  · rw [if_neg hc] at h
    exact ⟨hc, h⟩
def fuel : Nat := 8589934592
def it {σ ε : Type} (body : σ → Option (σ ⊕ ε)) : Nat → σ → Option ε
  | 0, _ => none
  | n + 1, s => (body s).bind (fun r => match r with
    | .inl s' => it body n s'
    | .inr e => some e)
theorem it_walk {σ ε : Type} {body : σ → Option (σ ⊕ ε)} (Wh : σ → Prop) (We : ε → Prop) (hl : ∀ s s', body s = some (.inl s') → Wh s' → Wh s) (hr : ∀ s e, body s = some (.inr e) → We e → Wh s) : ∀ (n : Nat) (s : σ) (e : ε), it body n s = some e → We e → Wh s
  | 0, s, e, h, _ => by cases h
  | n + 1, s, e, h, he => by
    obtain ⟨r, h1, h2⟩ := bd_el h
    cases r with
    | inl s' => exact hl s s' h1 (it_walk Wh We hl hr n s' e h2 he)
    | inr e' =>
      cases h2
      exact hr s e h1 he
theorem it_mono {σ ε : Type} {body : σ → Option (σ ⊕ ε)} : ∀ (n m : Nat) (s : σ) (e : ε), n ≤ m → it body n s = some e → it body m s = some e
  | 0, _, _, _, _, h => by cases h
  | n + 1, 0, _, _, hm, _ => by omega
  | n + 1, m + 1, s, e, hm, h => by
    obtain ⟨r, h1, h2⟩ := bd_el h
    show (body s).bind _ = _
    rw [h1]
    cases r with
    | inl s' => exact it_mono n m s' e (by omega) h2
    | inr e' => exact h2
theorem it_walk2 {σ ε : Type} {body : σ → Option (σ ⊕ ε)} (Wh : σ → Prop) (We : ε → Prop) (hb : ∀ s r, body s = some r → (∀ s', r = .inl s' → Wh s') → (∀ e, r = .inr e → We e) → Wh s) : ∀ (n : Nat) (s : σ) (e : ε), it body n s = some e → We e → Wh s
  | 0, s, e, h, _ => by cases h
  | n + 1, s, e, h, he => by
    obtain ⟨r, h1, h2⟩ := bd_el h
    refine hb s r h1 (fun s' hs => ?_) (fun e' hs => ?_)
    · subst hs
      exact it_walk2 Wh We hb n s' e h2 he
    · subst hs
      cases h2
      exact he
theorem sel_r {α β γ : Type} {f : α → γ} {g : β → γ} {s : β} {y : γ} (h : Sum.elim f g (.inr s) = y) : g s = y := h
theorem hp_cast {A : Nat → Prop} {H0 H : Heap} {z b : Nat} {X : kX} {L : List Kd} {V1 V2 : Mem} {locs : List Loc} (e : V1 = V2) (h : Hp A H0 z X L b V1 H locs) : Hp A H0 z X L b V2 H locs := e ▸ h
theorem ts_lo {x : Int32} {n : Nat} (hn : n < 2 ^ 31) (h : ∀ k, k < n → ¬ x = nI k) : x.toInt < 0 ∨ (n : Int) ≤ x.toInt := by
  rcases Int.lt_or_le x.toInt 0 with h1 | h1
  · exact Or.inl h1
  · refine Or.inr (Int.not_lt.mp fun h2 => ?_)
    refine h x.toInt.toNat (by omega) ?_
    apply Int32.toInt_inj.mp
    rw [nI_toInt (by omega)]
    omega
theorem ts_out3 {x : Int32} (h0 : ¬ x = 0) (h1 : ¬ x = 1) (h2 : ¬ x = 2) : x.toInt < 0 ∨ 2 < x.toInt := by
  have := ts_lo (x := x) (n := 3) (by decide) (fun k hk => by
    rcases (show k = 0 ∨ k = 1 ∨ k = 2 by omega) with rfl | rfl | rfl <;> assumption)
  omega
theorem ts_out7 {x : Int32} (h0 : ¬ x = 0) (h1 : ¬ x = 1) (h2 : ¬ x = 2) (h3 : ¬ x = 3) (h4 : ¬ x = 4) (h5 : ¬ x = 5) (h6 : ¬ x = 6) : x.toInt < 0 ∨ 6 < x.toInt := by
  have := ts_lo (x := x) (n := 7) (by decide) (fun k hk => by
    rcases (show k = 0 ∨ k = 1 ∨ k = 2 ∨ k = 3 ∨ k = 4 ∨ k = 5 ∨ k = 6 by omega) with rfl | rfl | rfl | rfl | rfl | rfl | rfl <;> assumption)
  omega
theorem ts_out9 {x : Int32} (h0 : ¬ x = 0) (h1 : ¬ x = 1) (h2 : ¬ x = 2) (h3 : ¬ x = 3) (h4 : ¬ x = 4) (h5 : ¬ x = 5) (h6 : ¬ x = 6) (h7 : ¬ x = 7) (h8 : ¬ x = 8) : x.toInt < 0 ∨ 8 < x.toInt := by
  have := ts_lo (x := x) (n := 9) (by decide) (fun k hk => by
    rcases (show k = 0 ∨ k = 1 ∨ k = 2 ∨ k = 3 ∨ k = 4 ∨ k = 5 ∨ k = 6 ∨ k = 7 ∨ k = 8 by omega) with rfl | rfl | rfl | rfl | rfl | rfl | rfl | rfl | rfl <;> assumption)
  omega
theorem ts_out11 {x : Int32} (h0 : ¬ x = 0) (h1 : ¬ x = 1) (h2 : ¬ x = 2) (h3 : ¬ x = 3) (h4 : ¬ x = 4) (h5 : ¬ x = 5) (h6 : ¬ x = 6) (h7 : ¬ x = 7) (h8 : ¬ x = 8) (h9 : ¬ x = 9) (h10 : ¬ x = 10) : x.toInt < 0 ∨ 10 < x.toInt := by
  have := ts_lo (x := x) (n := 11) (by decide) (fun k hk => by
    rcases (show k = 0 ∨ k = 1 ∨ k = 2 ∨ k = 3 ∨ k = 4 ∨ k = 5 ∨ k = 6 ∨ k = 7 ∨ k = 8 ∨ k = 9 ∨ k = 10 by omega) with rfl | rfl | rfl | rfl | rfl | rfl | rfl | rfl | rfl | rfl | rfl <;> assumption)
  omega
end
section
section KB
variable {p : Program} {l : Launch} {e : Env} {R : Room} {s : State} {m : MethodId} {args : Array Value} {below : List Frame} {meth : Method} {c : Code} {H : Heap} {locs : List Loc} {cells slots : Nat} {Q : State → Prop}
variable {cc : ByteArray} {pc nL : Nat} {ls : Array Slot} {rest : List Value} {Ts : List Cond} {own : String} {X : kX} {L : List Kd} {b : Nat} {V : Mem} {A : Nat → Prop} {H0 : Heap} {z : Nat}
theorem rg_at (hR : RP X L b V H) (j : Nat) {k : Kd} (hj : L[j]? = some k) : va_P X.1 vwCl [(b + j, kE X k (b + j) (V j))] H := by
  intro i q hi
  cases i with
  | zero =>
    rw [List.getElem?_cons_zero] at hi
    cases hi
    exact hR j k hj
  | succ i =>
    rw [List.getElem?_cons_succ] at hi
    cases hi
theorem rg_getr (F : Fx p c s m args Ts own cc nL X) (hR : RP X L b V H) (j : Nat) {ci : Nat} {fl : List Kf} (hj : L[j]? = some (.inl (ci, fl))) {C : String} {T : u_T} {N : Nat} (hc : vwCl[ci]? = some (C, T, N)) (hin : ∀ w ∈ u_ws C T N, w ∈ Ts) (k : Nat) {d n : Nat} (hv : fl[k]? = some (some (.inl d))) (hd : j + d = n) {index : Nat} (hk : k < N) (hown : (T k).1 = C) (hlink : Cond.fieldLink own index C (T k).2.1 (T k).2.2.1 ∈ Ts) {a : Nat} (ha : a = b + j) (hdg : decode cc pc = .ok (.getfield index, 3))
    (kk : W p l e R s m args below meth c H locs cells slots Q (F0 m (pc + 3) ls (.ref (b + n) :: rest))) : W p l e R s m args below meth c H locs cells slots Q (F0 m pc ls (.ref a :: rest)) := by
  subst ha
  refine va_get (tys := kTys X) (ref := C) (a := b + j) (fs := fl.map (kFv (b + j) (V j))) (v := .ref (b + n)) F.1.1 F.1.2.1 F.1.2.2.2.2 hin F.1.2.2.2.1 F.2 (rg_at hR j hj) 0 rfl hc k hk (F.1.2.2.2.2 _ hlink) (fun x h => by rw [hown] at h; exact h) ?_ hdg kk
  rw [List.getElem?_map, hv]
  show some (Value.ref (b + j + d)) = _
  rw [Nat.add_assoc, hd]
theorem rg_geti (F : Fx p c s m args Ts own cc nL X) (hR : RP X L b V H) (j : Nat) {ci : Nat} {fl : List Kf} (hj : L[j]? = some (.inl (ci, fl))) {C : String} {T : u_T} {N : Nat} (hc : vwCl[ci]? = some (C, T, N)) (hin : ∀ w ∈ u_ws C T N, w ∈ Ts) (k : Nat) {i : Nat} (hv : fl[k]? = some (some (.inr i))) {index : Nat} (hk : k < N) (hown : (T k).1 = C) (hlink : Cond.fieldLink own index C (T k).2.1 (T k).2.2.1 ∈ Ts) {a : Nat} (ha : a = b + j) (hdg : decode cc pc = .ok (.getfield index, 3))
    (kk : W p l e R s m args below meth c H locs cells slots Q (F0 m (pc + 3) ls (.int (V j i) :: rest))) : W p l e R s m args below meth c H locs cells slots Q (F0 m pc ls (.ref a :: rest)) := by
  subst ha
  refine va_get (tys := kTys X) (ref := C) (a := b + j) (fs := fl.map (kFv (b + j) (V j))) (v := .int (V j i)) F.1.1 F.1.2.1 F.1.2.2.2.2 hin F.1.2.2.2.1 F.2 (rg_at hR j hj) 0 rfl hc k hk (F.1.2.2.2.2 _ hlink) (fun x h => by rw [hown] at h; exact h) ?_ hdg kk
  rw [List.getElem?_map, hv]
  rfl
theorem rg_put (F : Fx p c s m args Ts own cc nL X) (hH : Hp A H0 z X L b V H locs) (hA : ∀ q : Nat, b ≤ q → q < b + L.length → A q) (j : Nat) {ci : Nat} {fl : List Kf} (hj : L[j]? = some (.inl (ci, fl))) {C : String} {T : u_T} {N : Nat} (hc : vwCl[ci]? = some (C, T, N)) (hin : ∀ w ∈ u_ws C T N, w ∈ Ts) (ty0 : Nat → FieldType) (hty : ∀ k, k < N → parseFieldDescriptor (T k).2.2.1 = some (ty0 k)) (hnm : ∀ a, a < N → ∀ b, b < N → a ≠ b → (T a).2.1 ≠ (T b).2.1)
    (k : Nat) {i : Nat} (hv : fl[k]? = some (some (.inr i))) (hu : ∀ k2, k2 < N → k2 ≠ k → fl[k2]? ≠ some (some (.inr i))) {index : Nat} (hk : k < N) (hown : (T k).1 = C) (hfin : (T k).2.2.2 = false) (hd : parseFieldDescriptor (T k).2.2.1 = some .int) (hlink : Cond.fieldLink own index C (T k).2.1 (T k).2.2.1 ∈ Ts) {a : Nat} (ha : a = b + j) {x : Int32} (hdg : decode cc pc = .ok (.putfield index, 3))
    (kk : ∀ (H1 : Heap) (locs1 : List Loc), Hp A H0 z X L b (sv V j i x) H1 locs1 → (∀ q : Nat, q ≠ b + j → H1[q]? = H[q]?) → W p l e R s m args below meth c H1 locs1 cells slots Q (F0 m (pc + 3) ls rest)) : W p l e R s m args below meth c H locs cells slots Q (F0 m pc ls (.int x :: .ref a :: rest)) := by
  subst ha
  obtain ⟨hR, hS0, hz⟩ := hH
  have hts := F.1.2.2.2.2
  have hK := F.2
  have hap := va_apart (own := own) hts hin ty0 hty hnm hK hc
  obtain ⟨r, h1, cell, q1, q2, q3, q4⟩ := hR j _ hj
  have hr : r = (C, T, N) := Option.some.inj (h1.symm.trans hc)
  subst hr
  obtain ⟨hSl, hfc, kC, hkC, hkind⟩ := hK.1 ci _ hc
  obtain ⟨cf, kf, fi, f, hi, hsl⟩ := hSl k hk
  have hlay := hts _ (hin _ (u_in_lay hk))
  unfold u_lay at hlay
  rw [if_neg (by rw [hfin]; decide)] at hlay
  have hst := (u_facts hfc hkC (u_lays hts hin hk) hi).1
  have h6 := u_store (v := .int x) hfc hkC hkind hlay hi hd rfl rfl
  have hjl := (List.getElem?_eq_some_iff.mp hj).1
  refine W.putK F.1.1 F.1.2.1 (f := f) (v := .int x) ⟨F.1.2.2.2.1, hts _ hlink, ⟨_, _, _, by rw [hown] at hi; exact hi⟩, hst⟩ (by rw [q2]; exact h6) q1 q3 (by rw [hsl]; exact k2_hasslot (q4 k hk)) rfl rfl hdg fun H' e1 e2 e3 => ?_
  rw [hsl] at e1 ⊢
  refine kk H' _ ⟨hR.set (V' := sv V j i x) hj ⟨_, hc, t_OB.to (V := updV (vp_V (fl.map (kFv (b + j) (V j)))) k (.int x)) ⟨_, e1, q2, q3, t_set q4 hap hk (.int x)⟩ ?_⟩ e3 ?_, hS0.put e2 e3 (hA _ (Nat.le_add_right _ _) (Nat.add_lt_add_left hjl _)), e2.trans hz⟩ e3
  · intro j' hj'
    by_cases hjk : j' = k
    · subst hjk
      simp [updV, vp_V, List.getElem?_map, hv, kFv, sv]
    · have hne := hu j' hj' hjk
      simp only [updV, if_neg hjk, vp_V, List.getD_eq_getElem?_getD, List.getElem?_map]
      cases hf : fl[j']? with
      | none => rfl
      | some x9 =>
        match x9, hf with
        | none, _ => rfl
        | some (.inl d), _ => rfl
        | some (.inr i2), hf =>
          have : i2 ≠ i := fun h => hne (by rw [hf, h])
          simp [kFv, sv, this]
  · intro i' hi'
    funext q
    simp [sv, hi']
theorem rg_iald (F : Fx p c s m args Ts own cc nL X) (hR : RP X L b V H) (j : Nat) {n : Nat} (hj : L[j]? = some (.inr (.inl (0, n)))) {i : Int32} (hin : ¬ (i < 0 ∨ n ≤ i.toNatClampNeg)) {a : Nat} (ha : a = b + j) (hdg : decode cc pc = .ok (.iaload, 1))
    (kk : W p l e R s m args below meth c H locs cells slots Q (F0 m (pc + 1) ls (.int (V j i.toNatClampNeg) :: rest))) : W p l e R s m args below meth c H locs cells slots Q (F0 m pc ls (.int i :: .ref a :: rest)) := by
  subst ha
  exact va_iald (cA := X.2.1) (n := n) (f := V j) F.1.1 F.1.2.1 F.2 (rg_at hR j hj) 0 0 rfl rfl hin hdg kk
theorem rg_zald (F : Fx p c s m args Ts own cc nL X) (hR : RP X L b V H) (j : Nat) {n : Nat} (hj : L[j]? = some (.inr (.inl (1, n)))) {i : Int32} (hin : ¬ (i < 0 ∨ n ≤ i.toNatClampNeg)) {a : Nat} (ha : a = b + j) (hdg : decode cc pc = .ok (.baload, 1))
    (kk : W p l e R s m args below meth c H locs cells slots Q (F0 m (pc + 1) ls (.int (V j i.toNatClampNeg) :: rest))) : W p l e R s m args below meth c H locs cells slots Q (F0 m pc ls (.int i :: .ref a :: rest)) := by
  subst ha
  exact va_zald (cA := X.2.2.1) (n := n) (f := V j) F.1.1 F.1.2.1 F.2 (rg_at hR j hj) 0 1 rfl rfl hin hdg kk
theorem rg_alen (F : Fx p c s m args Ts own cc nL X) (hR : RP X L b V H) (j : Nat) {n : Nat} (hj : L[j]? = some (.inr (.inl (0, n)))) {a : Nat} (ha : a = b + j) (hdg : decode cc pc = .ok (.arraylength, 1))
    (kk : W p l e R s m args below meth c H locs cells slots Q (F0 m (pc + 1) ls (.int (nI n) :: rest))) : W p l e R s m args below meth c H locs cells slots Q (F0 m pc ls (.ref a :: rest)) := by
  subst ha
  exact va_alen (cA := X.2.1) (x := (n, .inl (V j))) (ty := .int) (v := nI n) F.1.1 F.1.2.1 F.2 (rg_at hR j hj) 0 0 rfl rfl rfl hdg kk
theorem rg_alenq (F : Fx p c s m args Ts own cc nL X) (hR : RP X L b V H) (j : Nat) {ds : List (Option Nat)} (hj : L[j]? = some (.inr (.inr ds))) {a : Nat} (ha : a = b + j) (hdg : decode cc pc = .ok (.arraylength, 1))
    (kk : W p l e R s m args below meth c H locs cells slots Q (F0 m (pc + 1) ls (.int (nI ds.length) :: rest))) : W p l e R s m args below meth c H locs cells slots Q (F0 m pc ls (.ref a :: rest)) := by
  subst ha
  exact va_alen (cA := X.2.2.2) (x := (ds.length, .inr (.inr (.inr (.inr (fun q => (ds.getD q none).map (fun d => b + j + d))))))) (ty := .object "TideWords$World") (v := nI ds.length) F.1.1 F.1.2.1 F.2 (rg_at hR j hj) 0 2 rfl rfl rfl hdg kk
theorem rg_aald (F : Fx p c s m args Ts own cc nL X) (hR : RP X L b V H) (j : Nat) {ds : List (Option Nat)} (hj : L[j]? = some (.inr (.inr ds))) {i : Int32} (hin : ¬ (i < 0 ∨ ds.length ≤ i.toNatClampNeg)) {a : Nat} (ha : a = b + j) {w : Nat} (hw : (ds.getD i.toNatClampNeg none).map (fun d => b + j + d) = some w) (hdg : decode cc pc = .ok (.aaload, 1))
    (kk : W p l e R s m args below meth c H locs cells slots Q (F0 m (pc + 1) ls (.ref w :: rest))) : W p l e R s m args below meth c H locs cells slots Q (F0 m pc ls (.int i :: .ref a :: rest)) := by
  subst ha
  refine va_aldq (cA := X.2.2.2) (n := ds.length) (f := fun q => (ds.getD q none).map (fun d => b + j + d)) F.1.1 F.1.2.1 F.2 (rg_at hR j hj) 0 2 rfl rfl hin hdg ?_
  rw [hw]
  exact kk
theorem rg_iast (F : Fx p c s m args Ts own cc nL X) (hH : Hp A H0 z X L b V H locs) (hA : ∀ q : Nat, b ≤ q → q < b + L.length → A q) (j : Nat) {n : Nat} (hj : L[j]? = some (.inr (.inl (0, n)))) {i x : Int32} (hin : ¬ (i < 0 ∨ n ≤ i.toNatClampNeg)) {a : Nat} (ha : a = b + j) (hdg : decode cc pc = .ok (.iastore, 1))
    (kk : ∀ (H1 : Heap) (locs1 : List Loc), Hp A H0 z X L b (sv V j i.toNatClampNeg x) H1 locs1 → W p l e R s m args below meth c H1 locs1 cells slots Q (F0 m (pc + 1) ls rest)) : W p l e R s m args below meth c H locs cells slots Q (F0 m pc ls (.int x :: .int i :: .ref a :: rest)) := by
  subst ha
  obtain ⟨hR, hS, hz⟩ := hH
  have hjl := (List.getElem?_eq_some_iff.mp hj).1
  have hc : H[b + j]? = some (arrV X.2.1 n (fun q => .int (V j q))) := hR j _ hj
  refine W.iast F.1.1 F.1.2.1 hc ((F.2.2 0 _ rfl).1 n (fun q => .int (V j q))) (fun q => by cases q) (by rw [arrV_size]; exact hin) rfl rfl hdg fun H1 e1 z1 oq => ?_
  refine kk H1 _ ⟨hR.set (V' := sv V j i.toNatClampNeg x) hj ?_ oq ?_, hS.put z1 oq (hA _ (Nat.le_add_right _ _) (Nat.add_lt_add_left hjl _)), z1.trans hz⟩
  · show H1[b + j]? = some (arrV X.2.1 n (fun q => .int (sv V j i.toNatClampNeg x j q)))
    rw [e1, arrV_store]
    congr 2
    funext q
    by_cases hq : q = i.toNatClampNeg
    · subst hq
      simp [updV, sv]
    · simp [updV, sv, hq]
  · intro i' hi'
    funext q
    simp [sv, hi']
theorem rg_zast (F : Fx p c s m args Ts own cc nL X) (hH : Hp A H0 z X L b V H locs) (hA : ∀ q : Nat, b ≤ q → q < b + L.length → A q) (j : Nat) {n : Nat} (hj : L[j]? = some (.inr (.inl (1, n)))) {i x : Int32} (hx : narrow .boolean (.int x) = .int x) (hin : ¬ (i < 0 ∨ n ≤ i.toNatClampNeg)) {a : Nat} (ha : a = b + j) (hdg : decode cc pc = .ok (.bastore, 1))
    (kk : ∀ (H1 : Heap) (locs1 : List Loc), Hp A H0 z X L b (sv V j i.toNatClampNeg x) H1 locs1 → W p l e R s m args below meth c H1 locs1 cells slots Q (F0 m (pc + 1) ls rest)) : W p l e R s m args below meth c H locs cells slots Q (F0 m pc ls (.int x :: .int i :: .ref a :: rest)) := by
  subst ha
  obtain ⟨hR, hS, hz⟩ := hH
  have hjl := (List.getElem?_eq_some_iff.mp hj).1
  have hc : H[b + j]? = some (arrV X.2.2.1 n (fun q => .int (V j q))) := hR j _ hj
  refine W.zast F.1.1 F.1.2.1 hc ((F.2.2 1 _ rfl).1 n (fun q => .int (V j q))) (fun q => by cases q) (by rw [arrV_size]; exact hin) rfl rfl hdg fun H1 e1 z1 oq => ?_
  rw [hx] at e1
  refine kk H1 _ ⟨hR.set (V' := sv V j i.toNatClampNeg x) hj ?_ oq ?_, hS.put z1 oq (hA _ (Nat.le_add_right _ _) (Nat.add_lt_add_left hjl _)), z1.trans hz⟩
  · show H1[b + j]? = some (arrV X.2.2.1 n (fun q => .int (sv V j i.toNatClampNeg x j q)))
    rw [e1, arrV_store]
    congr 2
    funext q
    by_cases hq : q = i.toNatClampNeg
    · subst hq
      simp [updV, sv]
    · simp [updV, sv, hq]
  · intro i' hi'
    funext q
    simp [sv, hi']
theorem rp_recv (F : Fx p c s m args Ts own cc nL X) (hR : RP X L b V H) (j : Nat) {ci : Nat} {fl : List Kf} (hj : L[j]? = some (.inl (ci, fl))) {C : String} {T : u_T} {N : Nat} (hc : vwCl[ci]? = some (C, T, N)) {a : Nat} (ha : a = b + j) : ∃ cell : Cell, H[a]? = some cell ∧ cell.vm.isStatics = false ∧ s.vm.findClass C = some cell.cls := by
  subst ha
  exact va_recv (fs := fl.map (kFv (b + j) (V j))) F.2 (rg_at hR j hj) (q0 := 0) hc rfl
/-! calls -/
variable {y : MethodName} {bytes : ByteArray} {maxL n index : Nat} {ret : Option FieldType} {ws : List Cond} {rm : Room} {P : Heap → Prop} {C : String} {a : Nat} {As st : List Value}
theorem rg_callRV {r : Value} (F : Fx p c s m args Ts own cc nL X) (hM : MR l y ws rm X (.ref a :: As) P (some r)) (cw : CallW R s args own C index y bytes maxL ret ws rm 0 0 n) (hrec : ∃ cell : Cell, H[a]? = some cell ∧ cell.vm.isStatics = false ∧ s.vm.findClass C = some cell.cls) (hP : P H) (hn : As.length = n) (hsz : ls.size = nL) (hw : (rest.map fun v => v.category).sum ≤ 8) (hdg : decode cc pc = .ok (.invokevirtual index, 3)) (hf : cells ≤ R.cells ∧ slots ≤ R.slots) (hst : st = As.reverse ++ .ref a :: rest)
    (kk : W p l e R s m args below meth c H locs cells slots Q (F0 m (pc + 3) ls (r :: rest))) : W p l e R s m args below meth c H locs cells slots Q (F0 m pc ls st) := by
  subst hst
  have hr := va_runV (e := e) (below := below) (meth := meth) (g := F0 m pc ls (As.reverse ++ .ref a :: rest)) (locs := locs) (cells := cells) (slots := slots) (rest := rest) F.1 hM cw ⟨cPc_blind, hrec, fun U hU hW => ⟨rfl, by rw [hU]; exact hP, va_K.moved hW.alike F.2⟩⟩ rfl hn hsz rfl (lv_room hw) hdg hf
  intro T hT XX
  obtain ⟨v, st₀, t, T', L', h0, X', hL, e1, e2, ⟨hv, hh⟩, stp⟩ := hr T hT XX
  have hL' : L' = [] := by
    cases L' with
    | nil => rfl
    | cons q _ => exact (hL q List.mem_cons_self).elim
  subst hL'
  cases hv
  rw [List.append_nil] at X'
  obtain ⟨t2, a1, b1⟩ := kk T' (e1.trans (hh.trans h0)) X'
  exact ⟨t2, stp t2 a1, b1⟩
theorem rg_callRS {r : Value} (F : Fx p c s m args Ts own cc nL X) (hM : MR l y ws rm X As P (some r)) (cw : CallB R s args own index y bytes maxL ret ws rm 0 0 n ∧ (Cond.static y).before args s = true) (hP : P H) (hn : As.length = n) (hsz : ls.size = nL) (hw : (rest.map fun v => v.category).sum ≤ 8) (hdg : decode cc pc = .ok (.invokestatic index, 3)) (hf : cells ≤ R.cells ∧ slots ≤ R.slots) (hst : st = As.reverse ++ rest)
    (kk : W p l e R s m args below meth c H locs cells slots Q (F0 m (pc + 3) ls (r :: rest))) : W p l e R s m args below meth c H locs cells slots Q (F0 m pc ls st) := by
  subst hst
  have hr := va_runS (e := e) (below := below) (meth := meth) (g := F0 m pc ls (As.reverse ++ rest)) (locs := locs) (cells := cells) (slots := slots) (rest := rest) F.1 hM cw ⟨cPc_blind, fun U hU hW => ⟨rfl, by rw [hU]; exact hP, va_K.moved hW.alike F.2⟩⟩ rfl hn hsz rfl (lv_room hw) hdg hf
  intro T hT XX
  obtain ⟨v, st₀, t, T', L', h0, X', hL, e1, e2, ⟨hv, hh⟩, stp⟩ := hr T hT XX
  have hL' : L' = [] := by
    cases L' with
    | nil => rfl
    | cons q _ => exact (hL q List.mem_cons_self).elim
  subst hL'
  cases hv
  rw [List.append_nil] at X'
  obtain ⟨t2, a1, b1⟩ := kk T' (e1.trans (hh.trans h0)) X'
  exact ⟨t2, stp t2 a1, b1⟩
theorem rg_callWV {r : Option Value} {Lc : List Kd} {U V2 : Mem} (F : Fx p c s m args Ts own cc nL X) (hH : Hp A H0 z X L b V H locs) (hA : ∀ q : Nat, b ≤ q → q < b + L.length → A q) (k : Nat) (hsub : sbL L k Lc) (hM : MW l y ws rm X (.ref a :: As) P r (b + k) (b + k + Lc.length) (RP X Lc (b + k) U)) (cw : CallW R s args own C index y bytes maxL ret ws rm 0 0 n) (hrec : ∃ cell : Cell, H[a]? = some cell ∧ cell.vm.isStatics = false ∧ s.vm.findClass C = some cell.cls) (hP : P H) (hn : As.length = n) (hsz : ls.size = nL) (hw : (rest.map fun v => v.category).sum ≤ 8) (hdg : decode cc pc = .ok (.invokevirtual index, 3)) (hf : cells ≤ R.cells ∧ slots ≤ R.slots) (hst : st = As.reverse ++ .ref a :: rest) (hV2 : pv V k Lc.length U = V2)
    (kk : ∀ (H1 : Heap) (locs1 : List Loc), Hp A H0 z X L b V2 H1 locs1 → (∀ q : Nat, (q < b + k ∨ b + k + Lc.length ≤ q) → H1[q]? = H[q]?) → W p l e R s m args below meth c H1 locs1 cells slots Q (F0 m (pc + 3) ls (r.toList ++ rest))) : W p l e R s m args below meth c H locs cells slots Q (F0 m pc ls st) := by
  subst hst
  subst hV2
  obtain ⟨hR, hS, hz⟩ := hH
  have hr := va_runV (e := e) (below := below) (meth := meth) (g := F0 m pc ls (As.reverse ++ .ref a :: rest)) (locs := locs) (cells := cells) (slots := slots) (rest := rest) F.1 hM cw ⟨cPc_blind, hrec, fun U hU hW => ⟨rfl, by rw [hU]; exact hP, va_K.moved hW.alike F.2⟩⟩ rfl hn hsz rfl (lv_room hw) hdg hf
  have hA' : ∀ q : Nat, t_fr (b + k) (b + k + Lc.length) q → A q := by
    intro q hq
    obtain ⟨h1, h2⟩ := hq
    have hj : q - (b + k) < Lc.length := by omega
    have h3 := hsub _ hj
    rw [List.getElem?_eq_getElem hj] at h3
    have h4 := (List.getElem?_eq_some_iff.mp h3).1
    exact hA q (by omega) (by omega)
  intro T hT XX
  obtain ⟨v, st₀, t, T', L', h0, X', hL, e1, e2, ⟨hv, hP', hz', hk⟩, stp⟩ := hr T hT XX
  cases hv
  rw [h0] at hz' hk
  obtain ⟨t2, a1, b1⟩ := kk T'.heap (locs ++ L') ⟨by rw [e1]; exact hR.paste k hsub hP' hk, ⟨by rw [e1, hz']; exact hS.1, fun q h1 h2 => by
      rw [e1, hk q (by
        rcases Nat.lt_or_ge q (b + k) with h | h
        · exact Or.inl h
        · exact Or.inr (Nat.le_of_not_lt fun h9 => h2 (hA' q ⟨h, h9⟩)))]
      exact hS.2.1 q h1 h2, fun q hq => by
      rcases List.mem_append.mp hq with h | h
      · exact hS.2.2 q h
      · exact hA' _ (hL q h)⟩, by rw [e1, hz', hz]⟩ (fun q hq => by rw [e1]; exact hk q hq) T' rfl X'
  exact ⟨t2, stp t2 a1, b1⟩
theorem mw_post {t : State} {r : Option Value} {n : Nat} {aa : Array Value} (hH : Hp (t_fr b (b + n)) s.heap s.heap.size X L b V H locs) (ht : t.heap = H) : cQw r b (b + n) (RP X L b V) aa s (.returned r) t := by
  obtain ⟨hR, hS, hz⟩ := hH
  refine ⟨rfl, by rw [ht]; exact hR, by rw [ht]; exact hz, fun q hq => ?_⟩
  rw [ht]
  rcases Nat.lt_or_ge q s.heap.size with h | h
  · exact hS.2.1 q h (fun h9 => by
      obtain ⟨h1, h2⟩ := h9
      omega)
  · rw [Array.getElem?_eq_none (by rw [hz]; exact h), Array.getElem?_eq_none h]
theorem rg_callWS {r : Option Value} {U : Mem} (F : Fx p c s m args Ts own cc nL X) (hH : Hp A H0 z X L b V H locs) (hA : ∀ q : Nat, b ≤ q → q < b + L.length → A q) (hM : MW l y ws rm X (.ref a :: As) P r b (b + L.length) (RP X L b U)) (cw : CallW R s args own C index y bytes maxL ret ws rm 0 0 n) (hrec : ∃ cell : Cell, H[a]? = some cell ∧ cell.vm.isStatics = false ∧ s.vm.findClass C = some cell.cls) (hP : P H) (hn : As.length = n) (hsz : ls.size = nL) (hw : (rest.map fun v => v.category).sum ≤ 8) (hdg : decode cc pc = .ok (.invokevirtual index, 3)) (hf : cells ≤ R.cells ∧ slots ≤ R.slots) (hst : st = As.reverse ++ .ref a :: rest)
    (kk : ∀ (H1 : Heap) (locs1 : List Loc), Hp A H0 z X L b U H1 locs1 → W p l e R s m args below meth c H1 locs1 cells slots Q (F0 m (pc + 3) ls (r.toList ++ rest))) : W p l e R s m args below meth c H locs cells slots Q (F0 m pc ls st) := by
  subst hst
  obtain ⟨hR, hS, hz⟩ := hH
  have hr := va_runV (e := e) (below := below) (meth := meth) (g := F0 m pc ls (As.reverse ++ .ref a :: rest)) (locs := locs) (cells := cells) (slots := slots) (rest := rest) F.1 hM cw ⟨cPc_blind, hrec, fun U hU hW => ⟨rfl, by rw [hU]; exact hP, va_K.moved hW.alike F.2⟩⟩ rfl hn hsz rfl (lv_room hw) hdg hf
  have hA' : ∀ q : Nat, t_fr b (b + L.length) q → A q := fun q hq => hA q hq.1 hq.2
  intro T hT XX
  obtain ⟨v, st₀, t, T', L', h0, X', hL, e1, e2, ⟨hv, hP', hz', hk⟩, stp⟩ := hr T hT XX
  cases hv
  rw [h0] at hz' hk
  obtain ⟨t2, a1, b1⟩ := kk T'.heap (locs ++ L') ⟨by rw [e1]; exact hP', ⟨by rw [e1, hz']; exact hS.1, fun q h1 h2 => by
      rw [e1, hk q (by
        rcases Nat.lt_or_ge q b with h | h
        · exact Or.inl h
        · exact Or.inr (Nat.le_of_not_lt fun h9 => h2 (hA' q ⟨h, h9⟩)))]
      exact hS.2.1 q h1 h2, fun q hq => by
      rcases List.mem_append.mp hq with h | h
      · exact hS.2.2 q h
      · exact hA' _ (hL q h)⟩, by rw [e1, hz', hz]⟩ T' rfl X'
  exact ⟨t2, stp t2 a1, b1⟩
theorem lv_nm {x x' : Int32} (ex : x = x') (kk : W p l e R s m args below meth c H locs cells slots Q (F0 m pc ls (.int x' :: rest))) : W p l e R s m args below meth c H locs cells slots Q (F0 m pc ls (.int x :: rest)) := by
  subst ex
  exact kk
end KB
end
section
/-! the layouts; a Cells: one row of numbers -/
def LC (n : Nat) : List Kd := [.inl (0, [some (.inl 1)]), .inr (.inl (0, n))]
def LT : List Kd := .inl (3, [some (.inl 1), some (.inl 3), some (.inl 5), some (.inl 7)]) :: (LC 2 ++ (LC 2 ++ (LC 2 ++ LC 2)))
def LG : List Kd := .inl (1, [some (.inl 1), some (.inl 3), some (.inl 5), some (.inl 7), some (.inl 9), some (.inl 11), some (.inl 13), some (.inl 15)]) :: (LC 4 ++ (LC 4 ++ (LC 4 ++ (LC 4 ++ (LC 4 ++ (LC 4 ++ (LC 4 ++ LC 4)))))))
def LWd : List Kd := .inl (4, [some (.inl 1), some (.inl 3), some (.inl 5), some (.inl 7), some (.inl 9), some (.inl 11), some (.inl 13), some (.inr 0)]) :: (LC 12 ++ (LC 72 ++ (LC 12 ++ (LC 12 ++ (LC 12 ++ (LC 24 ++ LC 2))))))
def LW : List Kd := .inl (5, [some (.inl 1), some (.inl 10), some (.inl 27), some (.inr 0), some (.inr 1), some (.inr 2)]) :: (LT ++ (LG ++ LWd))
def LPd : List Kd := .inl (2, [some (.inl 1), some (.inr 0)]) :: LC 60
def LA : List Kd := .inl (6, [some (.inl 1), some (.inl 43), some (.inl 85), some (.inl 88), some (.inl 341), some (.inl 426), some (.inl 428), some (.inr 0), some (.inr 1)]) :: (LW ++ (LW ++ (LPd ++ (.inr (.inr [some 1, some 43, some 85, some 127, some 169, some 211]) :: (LW ++ (LW ++ (LW ++ (LW ++ (LW ++ (LW ++ (.inr (.inr [some 1, some 43]) :: (LW ++ (LW ++ (LC 2 ++ LC 200))))))))))))))
def LM : List Kd := [.inl (7, [some (.inl 1), some (.inl 2), some (.inl 3), some (.inr 0), some (.inl 4), some (.inl 5), some (.inl 6), some (.inr 1)]), .inr (.inl (0, 131)), .inr (.inl (0, 131)), .inr (.inl (0, 786)), .inr (.inl (0, 262)), .inr (.inl (1, 2)), .inr (.inl (0, 60))]
def cget (n : Nat) (f : Nat → Int32) (i : Int32) : Int32 := if i < 0 ∨ n ≤ i.toNatClampNeg then 0 else f i.toNatClampNeg
def cset (V : Mem) (k n : Nat) (i v : Int32) : Mem := if i < 0 ∨ n ≤ i.toNatClampNeg then V else sv V k i.toNatClampNeg v
def cadd (V : Mem) (k n : Nat) (i v : Int32) : Mem := if i < 0 ∨ n ≤ i.toNatClampNeg then V else sv V k i.toNatClampNeg (V k i.toNatClampNeg + v)
/-- the sum of the first n -/
def csum : Nat → (Nat → Int32) → Int32
  | 0, _ => 0
  | n + 1, f => csum n f + f n
theorem nI_le_iff {n : Nat} (hn : n < 2 ^ 31) {i : Int32} (hi : ¬ i < 0) : nI n ≤ i ↔ n ≤ i.toNatClampNeg := by
  obtain ⟨j, hj, rfl⟩ := nI_of hi
  rw [nI_leI hn hj, nI_clamp hj]
theorem pv_sv {V : Mem} {k n j i : Nat} {v : Int32} (hj : j < n) : pv V k n (sv (gv V k) j i v) = sv V (k + j) i v := by
  funext q w
  by_cases c : k ≤ q ∧ q < k + n
  · have h1 : pv V k n (sv (gv V k) j i v) q = sv (gv V k) j i v (q - k) := by unfold pv; rw [if_pos c]
    rw [h1]
    unfold sv gv
    rw [show k + (q - k) = q by omega]
    by_cases c2 : q = k + j
    · subst c2
      simp
    · rw [if_neg (fun h => c2 (by omega)), if_neg (fun h => c2 h.1)]
  · have h1 : pv V k n (sv (gv V k) j i v) q = V q := by unfold pv; rw [if_neg c]
    rw [h1]
    unfold sv
    rw [if_neg (fun h => c (by omega))]
theorem pv_id {V : Mem} {k n : Nat} : pv V k n (gv V k) = V := by
  funext q
  unfold pv gv
  by_cases c : k ≤ q ∧ q < k + n
  · rw [if_pos c, show k + (q - k) = q by omega]
  · rw [if_neg c]
theorem pv_cset {V : Mem} {k n : Nat} {i v : Int32} : pv V k (LC n).length (cset (gv V k) 1 n i v) = cset V (k + 1) n i v := by
  unfold cset
  by_cases c : i < 0 ∨ n ≤ i.toNatClampNeg
  · rw [if_pos c, if_pos c]
    exact pv_id
  · rw [if_neg c, if_neg c]
    exact pv_sv (by show 1 < 2; decide)
theorem pv_cadd {V : Mem} {k n : Nat} {i v : Int32} : pv V k (LC n).length (cadd (gv V k) 1 n i v) = cadd V (k + 1) n i v := by
  unfold cadd
  by_cases c : i < 0 ∨ n ≤ i.toNatClampNeg
  · rw [if_pos c, if_pos c]
    exact pv_id
  · rw [if_neg c, if_neg c]
    exact pv_sv (by show 1 < 2; decide)
theorem sbl_of {L Lc : List Kd} {k : Nat} (h : (L.drop k).take Lc.length = Lc) : sbL L k Lc := by
  intro j hj
  have h1 : ((L.drop k).take Lc.length)[j]? = Lc[j]? := by rw [h]
  rw [List.getElem?_take, if_pos hj, List.getElem?_drop] at h1
  exact h1
end
section
set_option maxRecDepth 20000 in
theorem lkX0_get_0 : Cond.fieldLink RX0 13 "TideWords$Cells" "cells" "[I" ∈ wsX0_get := by decide +kernel
set_option maxRecDepth 20000 in
theorem iwX0_get_X0 : ∀ w ∈ wsX00, w ∈ wsX0_get := by decide +kernel
def qX0_get (n : Nat) (V : Mem) (a1 : Int32) : Option (Int32) := if a1 < 0 then some ((0 : Int32)) else if nI n ≤ a1 then some ((0 : Int32)) else if a1 < 0 ∨ n ≤ a1.toNatClampNeg then none else some (V 1 a1.toNatClampNeg)
abbrev rmX0_get : Room := { frames := 0, cells := 0, slots := 0, locals := 0 }
set_option maxHeartbeats 4000000 in
set_option maxRecDepth 100000 in
theorem mX0_get (l : Launch) (X : kX) (n : Nat) (hn0 : n < 2 ^ 31) (b : Nat) (V : Mem) (a1 : Int32) (out : Int32) (hE : qX0_get n V a1 = some out) : MR l yX0_get wsX0_get rmX0_get X [.ref b, .int a1] (RP X (LC n) b V) (some (.int out)) := by
  refine mt_head (cc := cX0_get) (maxL := 2) (ret := (some .int)) (own := RX0) (by decide) rfl rfl (Nat.le_of_ble_eq_true rfl) ?_
  intro p e s m below meth c ls F hr hlocks hnm hR hl
  have hx := F.1.1
  have hb := F.1.2.1
  have hl : lv_has ls 2 [(0, .ref b), (1, .int a1)] := hl
  unfold qX0_get at hE
  refine lv_iload_n hx hb dX0_get_0 rfl (lv_at hl 1 rfl) ?_
  refine lv_if_lt (tgt := 22) hx hb dX0_get_1 (by decide) (fun c1 => ?_) (fun c1 => ?_)
  · have hE := (if_pos c1).symm.trans hE
    refine lv_iconst (v := 0) hx hb dX0_get_22 (by decide) ?_
    have hE := Option.some.inj hE
    subst hE
    exact W.iret (v := (0 : Int32)) hx hb hr (fun t ht _ => ⟨rfl, ht⟩) (fun _ h => absurd h List.not_mem_nil) dX0_get_23
  · have hE := (if_neg c1).symm.trans hE
    refine lv_iload_n hx hb dX0_get_4 rfl (lv_at hl 1 rfl) ?_
    refine lv_aload_n hx hb dX0_get_5 rfl (lv_at hl 0 rfl) ?_
    refine rg_getr F hR 0 (ci := 0) rfl (C := RX0) (T := TX0) (N := 1) rfl iwX0_get_X0 0 (d := 1) (n := 1) rfl rfl (by decide) rfl lkX0_get_0 rfl dX0_get_6 ?_
    refine rg_alen F hR 1 rfl rfl dX0_get_9 ?_
    refine lv_icmp_ge (tgt := 22) hx hb dX0_get_10 (by decide) (fun c2 => ?_) (fun c2 => ?_)
    · have hE := (if_pos c2).symm.trans hE
      refine lv_iconst (v := 0) hx hb dX0_get_22 (by decide) ?_
      have hE := Option.some.inj hE
      subst hE
      exact W.iret (v := (0 : Int32)) hx hb hr (fun t ht _ => ⟨rfl, ht⟩) (fun _ h => absurd h List.not_mem_nil) dX0_get_23
    · have hE := (if_neg c2).symm.trans hE
      refine lv_aload_n hx hb dX0_get_13 rfl (lv_at hl 0 rfl) ?_
      refine rg_getr F hR 0 (ci := 0) rfl (C := RX0) (T := TX0) (N := 1) rfl iwX0_get_X0 0 (d := 1) (n := 1) rfl rfl (by decide) rfl lkX0_get_0 rfl dX0_get_14 ?_
      refine lv_iload_n hx hb dX0_get_17 rfl (lv_at hl 1 rfl) ?_
      obtain ⟨g3, hE⟩ := gd_el hE
      refine rg_iald F hR 1 (n := n) rfl g3 rfl dX0_get_18 ?_
      refine lv_goto (tgt := 23) hx hb dX0_get_19 (by decide) ?_
      have hE := Option.some.inj hE
      subst hE
      exact W.iret (v := V 1 a1.toNatClampNeg) hx hb hr (fun t ht _ => ⟨rfl, ht⟩) (fun _ h => absurd h List.not_mem_nil) dX0_get_23
set_option maxRecDepth 20000 in
theorem lkX0_set_0 : Cond.fieldLink RX0 13 "TideWords$Cells" "cells" "[I" ∈ wsX0_set := by decide +kernel
set_option maxRecDepth 20000 in
theorem iwX0_set_X0 : ∀ w ∈ wsX00, w ∈ wsX0_set := by decide +kernel
def qX0_set (n : Nat) (V : Mem) (a1 : Int32) (a2 : Int32) : Option (Mem) := if a1 < 0 then some (V) else if nI n ≤ a1 then some (V) else if a1 < 0 ∨ n ≤ a1.toNatClampNeg then none else lt (sv V 1 a1.toNatClampNeg a2) (fun V4 => some (V4))
abbrev rmX0_set : Room := { frames := 0, cells := 0, slots := 0, locals := 0 }
set_option maxHeartbeats 4000000 in
set_option maxRecDepth 100000 in
theorem mX0_set (l : Launch) (X : kX) (n : Nat) (hn0 : n < 2 ^ 31) (b : Nat) (V : Mem) (a1 : Int32) (a2 : Int32) (out : Mem) (hE : qX0_set n V a1 a2 = some out) : MW l yX0_set wsX0_set rmX0_set X [.ref b, .int a1, .int a2] (RP X (LC n) b V) (none) b (b + (LC n).length) (RP X (LC n) b out) := by
  refine mt_head (cc := cX0_set) (maxL := 3) (ret := none) (own := RX0) (by decide) rfl rfl (Nat.le_of_ble_eq_true rfl) ?_
  intro p e s m below meth c ls F hr hlocks hnm hR hl
  have hx := F.1.1
  have hb := F.1.2.1
  have hH : Hp (t_fr b (b + (LC n).length)) s.heap s.heap.size X (LC n) b V s.heap [] := ⟨hR, va_S.rf, rfl⟩
  have hl : lv_has ls 3 [(0, .ref b), (1, .int a1), (2, .int a2)] := hl
  unfold qX0_set at hE
  refine lv_iload_n hx hb dX0_set_0 rfl (lv_at hl 1 rfl) ?_
  refine lv_if_lt (tgt := 20) hx hb dX0_set_1 (by decide) (fun c1 => ?_) (fun c1 => ?_)
  · have hE := (if_pos c1).symm.trans hE
    have hE := Option.some.inj hE
    subst hE
    exact W.vret hx hb hr (fun t ht _ => mw_post hH ht) hH.2.1.2.2 dX0_set_20
  · have hE := (if_neg c1).symm.trans hE
    refine lv_iload_n hx hb dX0_set_4 rfl (lv_at hl 1 rfl) ?_
    refine lv_aload_n hx hb dX0_set_5 rfl (lv_at hl 0 rfl) ?_
    refine rg_getr F hH.1 0 (ci := 0) rfl (C := RX0) (T := TX0) (N := 1) rfl iwX0_set_X0 0 (d := 1) (n := 1) rfl rfl (by decide) rfl lkX0_set_0 rfl dX0_set_6 ?_
    refine rg_alen F hH.1 1 rfl rfl dX0_set_9 ?_
    refine lv_icmp_ge (tgt := 20) hx hb dX0_set_10 (by decide) (fun c2 => ?_) (fun c2 => ?_)
    · have hE := (if_pos c2).symm.trans hE
      have hE := Option.some.inj hE
      subst hE
      exact W.vret hx hb hr (fun t ht _ => mw_post hH ht) hH.2.1.2.2 dX0_set_20
    · have hE := (if_neg c2).symm.trans hE
      refine lv_aload_n hx hb dX0_set_13 rfl (lv_at hl 0 rfl) ?_
      refine rg_getr F hH.1 0 (ci := 0) rfl (C := RX0) (T := TX0) (N := 1) rfl iwX0_set_X0 0 (d := 1) (n := 1) rfl rfl (by decide) rfl lkX0_set_0 rfl dX0_set_14 ?_
      refine lv_iload_n hx hb dX0_set_17 rfl (lv_at hl 1 rfl) ?_
      refine lv_iload_n hx hb dX0_set_18 rfl (lv_at hl 2 rfl) ?_
      obtain ⟨g3, hE⟩ := gd_el hE
      obtain ⟨V4, eV4, hE⟩ := lt_el hE
      refine rg_iast F hH (fun q h1 h2 => ⟨h1, h2⟩) 1 (n := n) rfl g3 rfl dX0_set_19 (fun H locs hH => ?_)
      replace hH := hp_cast eV4 hH
      have hE := Option.some.inj hE
      subst hE
      exact W.vret hx hb hr (fun t ht _ => mw_post hH ht) hH.2.1.2.2 dX0_set_20
set_option maxRecDepth 20000 in
theorem lkX0_add_0 : Cond.fieldLink RX0 13 "TideWords$Cells" "cells" "[I" ∈ wsX0_add := by decide +kernel
set_option maxRecDepth 20000 in
theorem iwX0_add_X0 : ∀ w ∈ wsX00, w ∈ wsX0_add := by decide +kernel
def qX0_add (n : Nat) (V : Mem) (a1 : Int32) (a2 : Int32) : Option (Mem) := if a1 < 0 then some (V) else if nI n ≤ a1 then some (V) else if a1 < 0 ∨ n ≤ a1.toNatClampNeg then none else if a1 < 0 ∨ n ≤ a1.toNatClampNeg then none else lt (sv V 1 a1.toNatClampNeg ((V 1 a1.toNatClampNeg) + a2)) (fun V5 => some (V5))
abbrev rmX0_add : Room := { frames := 0, cells := 0, slots := 0, locals := 0 }
set_option maxHeartbeats 4000000 in
set_option maxRecDepth 100000 in
theorem mX0_add (l : Launch) (X : kX) (n : Nat) (hn0 : n < 2 ^ 31) (b : Nat) (V : Mem) (a1 : Int32) (a2 : Int32) (out : Mem) (hE : qX0_add n V a1 a2 = some out) : MW l yX0_add wsX0_add rmX0_add X [.ref b, .int a1, .int a2] (RP X (LC n) b V) (none) b (b + (LC n).length) (RP X (LC n) b out) := by
  refine mt_head (cc := cX0_add) (maxL := 3) (ret := none) (own := RX0) (by decide) rfl rfl (Nat.le_of_ble_eq_true rfl) ?_
  intro p e s m below meth c ls F hr hlocks hnm hR hl
  have hx := F.1.1
  have hb := F.1.2.1
  have hH : Hp (t_fr b (b + (LC n).length)) s.heap s.heap.size X (LC n) b V s.heap [] := ⟨hR, va_S.rf, rfl⟩
  have hl : lv_has ls 3 [(0, .ref b), (1, .int a1), (2, .int a2)] := hl
  unfold qX0_add at hE
  refine lv_iload_n hx hb dX0_add_0 rfl (lv_at hl 1 rfl) ?_
  refine lv_if_lt (tgt := 23) hx hb dX0_add_1 (by decide) (fun c1 => ?_) (fun c1 => ?_)
  · have hE := (if_pos c1).symm.trans hE
    have hE := Option.some.inj hE
    subst hE
    exact W.vret hx hb hr (fun t ht _ => mw_post hH ht) hH.2.1.2.2 dX0_add_23
  · have hE := (if_neg c1).symm.trans hE
    refine lv_iload_n hx hb dX0_add_4 rfl (lv_at hl 1 rfl) ?_
    refine lv_aload_n hx hb dX0_add_5 rfl (lv_at hl 0 rfl) ?_
    refine rg_getr F hH.1 0 (ci := 0) rfl (C := RX0) (T := TX0) (N := 1) rfl iwX0_add_X0 0 (d := 1) (n := 1) rfl rfl (by decide) rfl lkX0_add_0 rfl dX0_add_6 ?_
    refine rg_alen F hH.1 1 rfl rfl dX0_add_9 ?_
    refine lv_icmp_ge (tgt := 23) hx hb dX0_add_10 (by decide) (fun c2 => ?_) (fun c2 => ?_)
    · have hE := (if_pos c2).symm.trans hE
      have hE := Option.some.inj hE
      subst hE
      exact W.vret hx hb hr (fun t ht _ => mw_post hH ht) hH.2.1.2.2 dX0_add_23
    · have hE := (if_neg c2).symm.trans hE
      refine lv_aload_n hx hb dX0_add_13 rfl (lv_at hl 0 rfl) ?_
      refine rg_getr F hH.1 0 (ci := 0) rfl (C := RX0) (T := TX0) (N := 1) rfl iwX0_add_X0 0 (d := 1) (n := 1) rfl rfl (by decide) rfl lkX0_add_0 rfl dX0_add_14 ?_
      refine lv_iload_n hx hb dX0_add_17 rfl (lv_at hl 1 rfl) ?_
      refine lv_dup2_11 hx hb dX0_add_18 rfl rfl ?_
      obtain ⟨g3, hE⟩ := gd_el hE
      refine rg_iald F hH.1 1 (n := n) rfl g3 rfl dX0_add_19 ?_
      refine lv_iload_n hx hb dX0_add_20 rfl (lv_at hl 2 rfl) ?_
      refine lv_iadd hx hb dX0_add_21 ?_
      obtain ⟨g4, hE⟩ := gd_el hE
      obtain ⟨V5, eV5, hE⟩ := lt_el hE
      refine rg_iast F hH (fun q h1 h2 => ⟨h1, h2⟩) 1 (n := n) rfl g4 rfl dX0_add_22 (fun H locs hH => ?_)
      replace hH := hp_cast eV5 hH
      have hE := Option.some.inj hE
      subst hE
      exact W.vret hx hb hr (fun t ht _ => mw_post hH ht) hH.2.1.2.2 dX0_add_23
set_option maxRecDepth 20000 in
theorem lkX0_sum_0 : Cond.fieldLink RX0 13 "TideWords$Cells" "cells" "[I" ∈ wsX0_sum := by decide +kernel
set_option maxRecDepth 20000 in
theorem iwX0_sum_X0 : ∀ w ∈ wsX00, w ∈ wsX0_sum := by decide +kernel
def lbX0_sum_4 (n : Nat) (V : Mem) (s1 : Int32 × Int32) : Option ((Int32 × Int32) ⊕ (Int32 × Int32)) := if nI n ≤ s1.2 then some (.inr (s1.1, s1.2)) else if s1.2 < 0 ∨ n ≤ s1.2.toNatClampNeg then none else some (.inl (s1.1 + (V 1 s1.2.toNatClampNeg), s1.2 + 1))
def qX0_sum (n : Nat) (V : Mem) : Option (Int32) := (it (lbX0_sum_4 n V) fuel ((0 : Int32), (0 : Int32))).bind (fun s4 => some (s4.1))
abbrev rmX0_sum : Room := { frames := 0, cells := 0, slots := 0, locals := 0 }
set_option maxHeartbeats 4000000 in
set_option maxRecDepth 100000 in
theorem mX0_sum (l : Launch) (X : kX) (n : Nat) (hn0 : n < 2 ^ 31) (b : Nat) (V : Mem) (out : Int32) (hE : qX0_sum n V = some out) : MR l yX0_sum wsX0_sum rmX0_sum X [.ref b] (RP X (LC n) b V) (some (.int out)) := by
  refine mt_head (cc := cX0_sum) (maxL := 3) (ret := (some .int)) (own := RX0) (by decide) rfl rfl (Nat.le_of_ble_eq_true rfl) ?_
  intro p e s m below meth c ls F hr hlocks hnm hR hl
  have hx := F.1.1
  have hb := F.1.2.1
  have hl : lv_has ls 3 [(0, .ref b)] := hl
  unfold qX0_sum at hE
  refine lv_iconst (v := 0) hx hb dX0_sum_0 (by decide) ?_
  refine lv_istore_n (lv' := [(1, .int ((0 : Int32))), (0, .ref b)]) hx hb dX0_sum_1 rfl hl (by decide) rfl (fun ls hl => ?_)
  refine lv_iconst (v := 0) hx hb dX0_sum_2 (by decide) ?_
  refine lv_istore_n (lv' := [(2, .int ((0 : Int32))), (1, .int ((0 : Int32))), (0, .ref b)]) hx hb dX0_sum_3 rfl hl (by decide) rfl (fun ls hl => ?_)
  obtain ⟨x5, hx5, hE⟩ := bd_el hE
  refine it_walk2 (body := lbX0_sum_4 n V) (Wh := fun s1 => ∀ (ls : Array Slot), lv_has ls 3 [(2, .int s1.2), (1, .int s1.1), (0, .ref b)] → W p l e rmX0_sum s m ([.ref b] : List Value).toArray below meth c s.heap [] 0 0 (MQ below (cQr (some (.int out))) ([.ref b] : List Value).toArray s 0 0 (fun _ => False)) (F0 m 4 ls [])) (We := fun s4 => ∀ (ls : Array Slot), lv_has ls 3 [(2, .int s4.2), (1, .int s4.1), (0, .ref b)] → W p l e rmX0_sum s m ([.ref b] : List Value).toArray below meth c s.heap [] 0 0 (MQ below (cQr (some (.int out))) ([.ref b] : List Value).toArray s 0 0 (fun _ => False)) (F0 m 28 ls [])) ?_ _ _ _ hx5 ?_ ls (lv_sub hl [0, 1, 2] rfl)
  · intro s1 r9 hE hL9 hR9 ls hl
    unfold lbX0_sum_4 at hE
    refine lv_iload_n hx hb dX0_sum_4 rfl (lv_at hl 0 rfl) ?_
    refine lv_aload_n hx hb dX0_sum_5 rfl (lv_at hl 2 rfl) ?_
    refine rg_getr F hR 0 (ci := 0) rfl (C := RX0) (T := TX0) (N := 1) rfl iwX0_sum_X0 0 (d := 1) (n := 1) rfl rfl (by decide) rfl lkX0_sum_0 rfl dX0_sum_6 ?_
    refine rg_alen F hR 1 rfl rfl dX0_sum_9 ?_
    refine lv_icmp_ge (tgt := 28) hx hb dX0_sum_10 (by decide) (fun c2 => ?_) (fun c2 => ?_)
    · have hE := (if_pos c2).symm.trans hE
      cases hE
      exact hR9 _ rfl ls (lv_sub hl [0, 1, 2] rfl)
    · have hE := (if_neg c2).symm.trans hE
      refine lv_iload_n hx hb dX0_sum_13 rfl (lv_at hl 1 rfl) ?_
      refine lv_aload_n hx hb dX0_sum_14 rfl (lv_at hl 2 rfl) ?_
      refine rg_getr F hR 0 (ci := 0) rfl (C := RX0) (T := TX0) (N := 1) rfl iwX0_sum_X0 0 (d := 1) (n := 1) rfl rfl (by decide) rfl lkX0_sum_0 rfl dX0_sum_15 ?_
      refine lv_iload_n hx hb dX0_sum_18 rfl (lv_at hl 0 rfl) ?_
      obtain ⟨g3, hE⟩ := gd_el hE
      refine rg_iald F hR 1 (n := n) rfl g3 rfl dX0_sum_19 ?_
      refine lv_iadd hx hb dX0_sum_20 ?_
      refine lv_istore_n (lv' := [(1, .int (s1.1 + (V 1 s1.2.toNatClampNeg))), (2, .int s1.2), (0, .ref b)]) hx hb dX0_sum_21 rfl hl (by decide) rfl (fun ls hl => ?_)
      refine lv_iinc (v := s1.2 + 1) (lv' := [(2, .int (s1.2 + 1)), (1, .int (s1.1 + (V 1 s1.2.toNatClampNeg))), (0, .ref b)]) hx hb dX0_sum_22 hl (k := 1) rfl (congrArg (fun q => s1.2 + q) (by decide)) (by decide) rfl (fun ls hl => ?_)
      refine lv_goto (tgt := 4) hx hb dX0_sum_25 (by decide) ?_
      cases hE
      exact hL9 _ rfl ls (lv_sub hl [0, 1, 2] rfl)
  · intro ls hl
    refine lv_iload_n hx hb dX0_sum_28 rfl (lv_at hl 1 rfl) ?_
    have hE := Option.some.inj hE
    subst hE
    exact W.iret (v := x5.1) hx hb hr (fun t ht _ => ⟨rfl, ht⟩) (fun _ h => absurd h List.not_mem_nil) dX0_sum_29
end
section
section KC
variable {p : Program} {l : Launch} {e : Env} {R : Room} {s : State} {m : MethodId} {args : Array Value} {below : List Frame} {meth : Method} {c : Code} {H : Heap} {locs : List Loc} {cells slots : Nat} {Q : State → Prop}
variable {cc : ByteArray} {pc nL : Nat} {ls : Array Slot} {rest : List Value} {Ts : List Cond} {own : String} {X : kX} {L : List Kd} {b : Nat} {V : Mem} {A : Nat → Prop} {H0 : Heap} {z : Nat}
def cpv (V : Mem) (j : Nat) (f : Nat → Int32) : Mem := fun k => if k = j then f else V k
theorem rg_copyi (F : Fx p c s m args Ts own cc nL X) (hsz : ls.size = nL) (hH : Hp A H0 z X L b V H locs) (hA : ∀ q : Nat, b ≤ q → q < b + L.length → A q) {index : Nat} (hlink : Cond.methodLink own index arraycopyName ∈ Ts) (hnat : Cond.native arraycopyName ∈ Ts) (hstat : Cond.static arraycopyName ∈ Ts) (hini : Cond.initialized "java/lang/System" ∈ Ts)
    (j : Nat) {n1 : Nat} (hj : L[j]? = some (.inr (.inl (0, n1)))) {f : Nat → Int32} {n0 a0 a : Nat} (hc0 : H[a0]? = some (vp_cell X.2.1 (n0, .inl f))) (ha : a = b + j)
    {sp dp n : Int32} (h1 : ¬ sp < 0) (h2 : ¬ dp < 0) (h3 : ¬ n < 0) (h4 : sp.toNatClampNeg + n.toNatClampNeg ≤ n0) (h5 : dp.toNatClampNeg + n.toNatClampNeg ≤ n1)
    (hframes : 1 ≤ R.frames) (hlocals : (rest.map fun v => v.category).sum + (nativeFrameWords "java/lang/System" "arraycopy" 5 + 11) ≤ R.locals) (hdg : decode cc pc = .ok (.invokestatic index, 3))
    (kk : ∀ (H1 : Heap) (locs1 : List Loc), Hp A H0 z X L b (cpv V j (va_cpy f (V j) sp.toNatClampNeg dp.toNatClampNeg n.toNatClampNeg)) H1 locs1 → W p l e R s m args below meth c H1 locs1 cells slots Q (F0 m (pc + 3) ls rest)) : W p l e R s m args below meth c H locs cells slots Q (F0 m pc ls (.int n :: .int dp :: .ref a :: .int sp :: .ref a0 :: rest)) := by
  subst ha
  obtain ⟨hR, hS, hz⟩ := hH
  have hts := F.1.2.2.2.2
  have nn : ∀ z : Int32, ¬ z < 0 → z.toInt = (z.toNatClampNeg : Int) := by
    intro z hz
    have hz0 : (0 : Int) ≤ z.toInt := by
      have := Int32.not_lt.mp hz
      simpa using Int32.le_iff_toInt_le.mp this
    show z.toInt = ((z.toInt.toNat : Nat) : Int)
    omega
  intro T hT XX
  have hc1 : H[b + j]? = some (vp_cell X.2.1 (n1, .inl (V j))) := hR j _ hj
  have hAr := (F.2.2 0 _ rfl).1
  obtain ⟨-, k0, hk0, cm0, hkk0⟩ := hAr n0 (fun j => .int (f j))
  obtain ⟨-, k1, hk1, cm1, hkk1⟩ := hAr n1 (fun q => .int (V j q))
  obtain ⟨vm', X', step⟩ := XX.arraycopy F.1.1 F.1.2.2.2.1 (hts _ hlink) (hts _ hnat) (hts _ hstat) (hts _ hini) (src := a0) (dst := b + j) (cs := vp_cell X.2.1 (n0, .inl f)) (cd := vp_cell X.2.1 (n1, .inl (V j))) (srcPos := sp) (destPos := dp) (n := n) (by rw [hT]; exact hc0) (by rw [hT]; exact hc1)
    (fun _ h => by cases h) (fun _ h => by cases h) (fun h => by cases h) (fun h => by cases h) hk0 hk1 hkk0 hkk1 (by simp [refKind]) h1 h2 h3
    (by rw [nn sp h1, nn n h3]; show ¬ _ > ((arrV X.2.1 n0 (fun j => .int (f j))).slots.size : Int); rw [arrV_size]; omega)
    (by rw [nn dp h2, nn n h3]; show ¬ _ > ((arrV X.2.1 n1 (fun q => .int (V j q))).slots.size : Int); rw [arrV_size]; omega)
    (fun vm₁ _ i hi => by
      have e : (vp_cell X.2.1 (n0, .inl f)).slots.getD (sp.toNatClampNeg + i) .null = .int (f (sp.toNatClampNeg + i)) := by
        show (arrV X.2.1 n0 (fun j => .int (f j))).slots.getD _ _ = _
        rw [Array.getD_eq_getD_getElem?, arrV_read _ _ (by omega)]
        rfl
      refine ⟨?_, ?_⟩
      · rw [e]
        rfl
      · rw [e]
        exact trivial)
    (g := F0 m pc ls (.int n :: .int dp :: .ref (b + j) :: .int sp :: .ref a0 :: rest)) rfl (by rw [F.1.2.2.1]; exact hsz) (rest := rest) rfl (by rw [F.1.2.1]; exact hdg) hframes (by show 2 * 0 + _ + _ ≤ _; omega)
  have e1 : copied (vp_cell X.2.1 (n0, .inl f)) (vp_cell X.2.1 (n1, .inl (V j))) sp dp n = vp_cell X.2.1 (n1, .inl (va_cpy f (V j) sp.toNatClampNeg dp.toNatClampNeg n.toNatClampNeg)) := va_copied (fun z => .int z) X.2.1 X.2.1 f (V j) h4
  rw [e1] at X' step
  have hl : b + j < H.size := (Array.getElem?_eq_some_iff.mp hc1).1
  have hjl := (List.getElem?_eq_some_iff.mp hj).1
  have hheap : ((T.setVm vm').setCell (b + j) (vp_cell X.2.1 (n1, .inl (va_cpy f (V j) sp.toNatClampNeg dp.toNatClampNeg n.toNatClampNeg)))).heap = H.setIfInBounds (b + j) (vp_cell X.2.1 (n1, .inl (va_cpy f (V j) sp.toNatClampNeg dp.toNatClampNeg n.toNatClampNeg))) := by rw [← hT]; rfl
  have oq : ∀ q : Nat, q ≠ b + j → (H.setIfInBounds (b + j) (vp_cell X.2.1 (n1, .inl (va_cpy f (V j) sp.toNatClampNeg dp.toNatClampNeg n.toNatClampNeg))))[q]? = H[q]? := fun q hq => by simp [Array.getElem?_setIfInBounds, Ne.symm hq]
  have hAj : A (b + j) := hA _ (Nat.le_add_right _ _) (Nat.add_lt_add_left hjl _)
  obtain ⟨t, a1, b1⟩ := kk _ _ ⟨hR.set (V' := cpv V j (va_cpy f (V j) sp.toNatClampNeg dp.toNatClampNeg n.toNatClampNeg)) hj (by
      show (H.setIfInBounds (b + j) _)[b + j]? = some (vp_cell X.2.1 (n1, .inl (cpv V j _ j)))
      have : cpv V j (va_cpy f (V j) sp.toNatClampNeg dp.toNatClampNeg n.toNatClampNeg) j = va_cpy f (V j) sp.toNatClampNeg dp.toNatClampNeg n.toNatClampNeg := by simp [cpv]
      rw [this]
      simp [Array.getElem?_setIfInBounds, hl]) oq (fun i hi => by simp [cpv, hi]), ⟨by simp; exact hS.1, fun q g1 g2 => by
      rw [oq q (fun e => g2 (by rw [e]; exact hAj))]
      exact hS.2.1 q g1 g2, fun q hq => by
      rcases List.mem_append.mp hq with h | h
      · exact hS.2.2 q h
      · obtain ⟨z, -, hz⟩ := List.mem_map.mp h
        rw [← hz]
        exact hAj⟩, by simp; exact hz⟩ _ hheap X'
  exact ⟨t, step t a1, b1⟩
end KC
abbrev rmX0_copyFrom : Room := { frames := 1, cells := 0, slots := 0, locals := 60 }
set_option maxRecDepth 20000 in
theorem lkX0_copyFrom_0 : Cond.fieldLink RX0 13 "TideWords$Cells" "cells" "[I" ∈ wsX0_copyFrom := by decide +kernel
theorem iwX0_copyFrom_X0 : ∀ w ∈ wsX00, w ∈ wsX0_copyFrom := by decide +kernel
/-- a Cells takes over another's row of the same length -/
theorem mX0_copyFrom (l : Launch) (X : kX) (n : Nat) (hn0 : n < 2 ^ 31) (b b2 : Nat) (V V2 : Mem) (hdj : b + 2 ≤ b2 ∨ b2 + 2 ≤ b) : MW l yX0_copyFrom wsX0_copyFrom rmX0_copyFrom X [.ref b, .ref b2] (fun H => RP X (LC n) b V H ∧ RP X (LC n) b2 V2 H) none b (b + (LC n).length) (RP X (LC n) b V2) := by
  refine mt_head (cc := cX0_copyFrom) (maxL := 2) (ret := none) (own := RX0) (by decide) rfl rfl (Nat.le_of_ble_eq_true rfl) ?_
  intro p e s m below meth c ls F hr hlocks hnm hR hl
  have hx := F.1.1
  have hb := F.1.2.1
  obtain ⟨hR, hR2⟩ := hR
  have hH : Hp (t_fr b (b + (LC n).length)) s.heap s.heap.size X (LC n) b V s.heap [] := ⟨hR, va_S.rf, rfl⟩
  have hl : lv_has ls 2 [(0, .ref b), (1, .ref b2)] := hl
  have hnn : ¬ nI n < 0 := nI_pos hn0
  refine lv_aload_n hx hb dX0_copyFrom_0 rfl (lv_at hl 1 rfl) ?_
  refine lv_ifnull hx hb dX0_copyFrom_1 ?_
  refine lv_aload_n hx hb dX0_copyFrom_4 rfl (lv_at hl 1 rfl) ?_
  refine rg_getr F hR2 0 (ci := 0) rfl (C := RX0) (T := TX0) (N := 1) rfl iwX0_copyFrom_X0 0 (d := 1) (n := 1) rfl rfl (by decide) rfl lkX0_copyFrom_0 rfl dX0_copyFrom_5 ?_
  refine lv_iconst (v := 0) hx hb dX0_copyFrom_8 (by decide) ?_
  refine lv_aload_n hx hb dX0_copyFrom_9 rfl (lv_at hl 0 rfl) ?_
  refine rg_getr F hR 0 (ci := 0) rfl (C := RX0) (T := TX0) (N := 1) rfl iwX0_copyFrom_X0 0 (d := 1) (n := 1) rfl rfl (by decide) rfl lkX0_copyFrom_0 rfl dX0_copyFrom_10 ?_
  refine lv_iconst (v := 0) hx hb dX0_copyFrom_13 (by decide) ?_
  refine lv_aload_n hx hb dX0_copyFrom_14 rfl (lv_at hl 1 rfl) ?_
  refine rg_getr F hR2 0 (ci := 0) rfl (C := RX0) (T := TX0) (N := 1) rfl iwX0_copyFrom_X0 0 (d := 1) (n := 1) rfl rfl (by decide) rfl lkX0_copyFrom_0 rfl dX0_copyFrom_15 ?_
  refine rg_alen F hR2 1 rfl rfl dX0_copyFrom_18 ?_
  refine lv_aload_n hx hb dX0_copyFrom_19 rfl (lv_at hl 0 rfl) ?_
  refine rg_getr F hR 0 (ci := 0) rfl (C := RX0) (T := TX0) (N := 1) rfl iwX0_copyFrom_X0 0 (d := 1) (n := 1) rfl rfl (by decide) rfl lkX0_copyFrom_0 rfl dX0_copyFrom_20 ?_
  refine rg_alen F hR 1 rfl rfl dX0_copyFrom_23 ?_
  refine va_mmin hx hb (F.1.2.2.1.trans hl.1.symm) F.1.2.2.2.1 (F.1.2.2.2.2 (.methodLink RX0 19 Lib.Math.min.name) (by decide +kernel)) (F.1.2.2.2.2 (.static Lib.Math.min.name) (by decide +kernel)) (F.1.2.2.2.2 (.initialized "java/lang/Math") (by decide +kernel)) (F.1.2.2.2.2 (.code Lib.Math.min.name Lib.Math.min.code 2 (some .int)) (by decide +kernel)) (Nat.le_of_ble_eq_true rfl) (Nat.le_of_ble_eq_true rfl) (Nat.zero_le _) (Nat.zero_le _) dX0_copyFrom_24 ?_
  refine lv_nm (x' := nI n) (by split <;> rfl) ?_
  refine rg_copyi F hl.1 hH (fun q h1 h2 => ⟨h1, h2⟩) (by decide +kernel) (by decide +kernel) (by decide +kernel) (by decide +kernel) 1 (n1 := n) rfl (f := V2 1) (n0 := n) (hR2 1 _ rfl) rfl (by decide) (by decide) hnn (by rw [nI_clamp hn0]; simp) (by rw [nI_clamp hn0]; simp) (Nat.le_of_ble_eq_true rfl) (Nat.le_of_ble_eq_true rfl) dX0_copyFrom_27 (fun H locs hH => ?_)
  refine W.vret hx hb hr (fun t ht _ => ?_) hH.2.1.2.2 dX0_copyFrom_30
  refine mw_post ⟨fun j k hj => ?_, hH.2⟩ ht
  have h9 := hH.1 j k hj
  match j, hj with
  | 0, hj =>
    cases hj
    exact h9
  | 1, hj =>
    cases hj
    have e9 : va_at X.1 vwCl (b + 1, kE X (.inr (.inl (0, n))) (b + 1) (cpv V 1 (va_cpy (V2 1) (V 1) (0 : Int32).toNatClampNeg (0 : Int32).toNatClampNeg (nI n).toNatClampNeg) 1)) H := h9
    show H[b + 1]? = some (arrV X.2.1 n (fun q => .int (V2 1 q)))
    have e8 : H[b + 1]? = some (arrV X.2.1 n (fun q => .int (cpv V 1 (va_cpy (V2 1) (V 1) (0 : Int32).toNatClampNeg (0 : Int32).toNatClampNeg (nI n).toNatClampNeg) 1 q))) := e9
    rw [e8]
    unfold arrV
    congr 2
    apply Array.ext
    · simp
    · intro i h1 h2
      simp at h1
      simp [cpv, va_cpy, nI_clamp hn0, h1]
  | j + 2, hj => cases hj
end
section
theorem it_for {σ ε : Type} {body : σ → Option (σ ⊕ ε)} (I : Nat → σ) (n : Nat) {e : ε} (hs : ∀ i, i < n → body (I i) = some (.inl (I (i + 1)))) (he : body (I n) = some (.inr e)) (f : Nat) (hf : n < f) : it body f (I 0) = some e := by
  have key : ∀ k i f, i + k = n → k < f → it body f (I i) = some e := by
    intro k
    induction k with
    | zero =>
      intro i f h1 h2
      obtain ⟨f, rfl⟩ : ∃ g, f = g + 1 := ⟨f - 1, by omega⟩
      have : i = n := by omega
      subst this
      show (body (I i)).bind _ = _
      rw [he]
      rfl
    | succ k ih =>
      intro i f h1 h2
      obtain ⟨f, rfl⟩ : ∃ g, f = g + 1 := ⟨f - 1, by omega⟩
      show (body (I i)).bind _ = _
      rw [hs i (by omega)]
      exact ih (i + 1) f (by omega) (by omega)
  exact key n 0 f (by omega) hf
theorem fuel_lt {n : Nat} (h : n ≤ 2 ^ 32) : n < fuel := by
  unfold fuel
  omega
theorem r32 (r : Int32) : r.toNatClampNeg < 2 ^ 31 := by
  have h := Int32.toInt_lt r
  show r.toInt.toNat < 2 ^ 31
  omega
theorem r_lt {r : Int32} {i : Nat} (h : i < r.toNatClampNeg) : ¬ r ≤ nI i := by
  have hi : i < 2 ^ 31 := by have := r32 r; omega
  rw [Int32.le_iff_toInt_le, nI_toInt hi]
  have : i < r.toInt.toNat := h
  omega
theorem r_ge (r : Int32) : r ≤ nI r.toNatClampNeg := by
  rw [Int32.le_iff_toInt_le, nI_toInt (r32 r)]
  show r.toInt ≤ ((r.toInt.toNat : Nat) : Int)
  omega
theorem r_pos {r : Int32} (h : 0 ≤ r) : r = nI r.toNatClampNeg := by
  apply Int32.toInt_inj.mp
  rw [nI_toInt (r32 r)]
  have : (0 : Int) ≤ r.toInt := by simpa using Int32.le_iff_toInt_le.mp h
  show r.toInt = ((r.toInt.toNat : Nat) : Int)
  omega
theorem r_neg {r : Int32} (h : ¬ 0 ≤ r) : r.toNatClampNeg = 0 := by
  have : r.toInt < 0 := by
    have := Int32.not_le.mp h
    simpa using Int32.lt_iff_toInt_lt.mp this
  show r.toInt.toNat = 0
  omega
/-- the first of the k numbers from i on with p -/
def fndO (p : Nat → Bool) : Nat → Nat → Option Nat
  | 0, _ => none
  | k + 1, i => if p i then some i else fndO p k (i + 1)
def fnd (p : Nat → Bool) (n : Nat) : Int32 := (fndO p n 0).elim (-1006) nI
/-- a search: at the first place with p it leaves by g, else by e -/
theorem it_fnd {σ ε : Type} {body : σ → Option (σ ⊕ ε)} (I : Nat → σ) (p : Nat → Bool) (g : Nat → ε) (e : ε) (n : Nat) (hs : ∀ i, i < n → body (I i) = if p i then some (.inr (g i)) else some (.inl (I (i + 1)))) (he : body (I n) = some (.inr e)) (f : Nat) (hf : n < f) : it body f (I 0) = some ((fndO p n 0).elim e g) := by
  have key : ∀ k i f, i + k = n → k < f → it body f (I i) = some ((fndO p k i).elim e g) := by
    intro k
    induction k with
    | zero =>
      intro i f h1 h2
      obtain ⟨f, rfl⟩ : ∃ g, f = g + 1 := ⟨f - 1, by omega⟩
      have : i = n := by omega
      subst this
      show (body (I i)).bind _ = _
      rw [he]
      rfl
    | succ k ih =>
      intro i f h1 h2
      obtain ⟨f, rfl⟩ : ∃ g, f = g + 1 := ⟨f - 1, by omega⟩
      show (body (I i)).bind _ = _
      rw [hs i (by omega)]
      by_cases hp : p i
      · rw [if_pos hp]
        show some (g i) = some ((if p i then some i else fndO p k (i + 1)).elim e g)
        rw [if_pos hp]
        rfl
      · rw [if_neg hp]
        show it body f (I (i + 1)) = some ((if p i then some i else fndO p k (i + 1)).elim e g)
        rw [if_neg hp]
        exact ih (i + 1) f (by omega) (by omega)
  exact key n 0 f (by omega) hf
def fld {α : Type} (f : Nat → α → α) : Nat → α → α
  | 0, a => a
  | n + 1, a => f n (fld f n a)
/-! Cells, in closed form -/
theorem tX0_get {n : Nat} (hn : n < 2 ^ 31) (V : Mem) (a1 : Int32) : qX0_get n V a1 = some (cget n (V 1) a1) := by
  unfold qX0_get cget
  by_cases h : a1 < 0
  · rw [if_pos h, if_pos (Or.inl h)]
  · rw [if_neg h]
    by_cases h2 : nI n ≤ a1
    · rw [if_pos h2, if_pos (Or.inr ((nI_le_iff hn h).mp h2))]
    · have h3 : ¬ (a1 < 0 ∨ n ≤ a1.toNatClampNeg) := fun h9 => h9.elim h (fun q => h2 ((nI_le_iff hn h).mpr q))
      rw [if_neg h2, if_neg h3, if_neg h3]
theorem tX0_set {n : Nat} (hn : n < 2 ^ 31) (V : Mem) (a1 a2 : Int32) : qX0_set n V a1 a2 = some (cset V 1 n a1 a2) := by
  unfold qX0_set cset lt
  by_cases h : a1 < 0
  · rw [if_pos h, if_pos (Or.inl h)]
  · rw [if_neg h]
    by_cases h2 : nI n ≤ a1
    · rw [if_pos h2, if_pos (Or.inr ((nI_le_iff hn h).mp h2))]
    · have h3 : ¬ (a1 < 0 ∨ n ≤ a1.toNatClampNeg) := fun h9 => h9.elim h (fun q => h2 ((nI_le_iff hn h).mpr q))
      rw [if_neg h2, if_neg h3, if_neg h3]
theorem tX0_add {n : Nat} (hn : n < 2 ^ 31) (V : Mem) (a1 a2 : Int32) : qX0_add n V a1 a2 = some (cadd V 1 n a1 a2) := by
  unfold qX0_add cadd lt
  by_cases h : a1 < 0
  · rw [if_pos h, if_pos (Or.inl h)]
  · rw [if_neg h]
    by_cases h2 : nI n ≤ a1
    · rw [if_pos h2, if_pos (Or.inr ((nI_le_iff hn h).mp h2))]
    · have h3 : ¬ (a1 < 0 ∨ n ≤ a1.toNatClampNeg) := fun h9 => h9.elim h (fun q => h2 ((nI_le_iff hn h).mpr q))
      rw [if_neg h2, if_neg h3, if_neg h3, if_neg h3]
theorem tX0_sum {n : Nat} (hn : n < 2 ^ 31) (V : Mem) : qX0_sum n V = some (csum n (V 1)) := by
  have h : it (lbX0_sum_4 n V) fuel ((0 : Int32), (0 : Int32)) = some (csum n (V 1), nI n) := by
    refine it_for (fun i => (csum i (V 1), nI i)) n (fun i hi => ?_) ?_ fuel (fuel_lt (by omega))
    · have h1 : i < 2 ^ 31 := by omega
      unfold lbX0_sum_4
      dsimp only
      rw [if_neg (fun h => Nat.not_le.mpr hi ((nI_leI hn h1).mp h)), if_neg (by rw [nI_clamp h1]; exact fun h => h.elim (nI_pos h1) (fun q => by omega)), nI_clamp h1, nI_1]
      rfl
    · unfold lbX0_sum_4
      dsimp only
      rw [if_pos (nI_le (Nat.le_refl _) hn)]
  unfold qX0_sum
  rw [h]
  rfl
theorem kX0_get (l : Launch) (X : kX) (n : Nat) (hn : n < 2 ^ 31) (b : Nat) (V : Mem) (a1 out : Int32) (hE : cget n (V 1) a1 = out) : MR l yX0_get wsX0_get rmX0_get X [.ref b, .int a1] (RP X (LC n) b V) (some (.int out)) := mX0_get l X n hn b V a1 out ((tX0_get hn V a1).trans (congrArg some hE))
theorem kX0_set (l : Launch) (X : kX) (n : Nat) (hn : n < 2 ^ 31) (b : Nat) (V : Mem) (a1 a2 : Int32) (out : Mem) (hE : cset V 1 n a1 a2 = out) : MW l yX0_set wsX0_set rmX0_set X [.ref b, .int a1, .int a2] (RP X (LC n) b V) none b (b + (LC n).length) (RP X (LC n) b out) := mX0_set l X n hn b V a1 a2 out ((tX0_set hn V a1 a2).trans (congrArg some hE))
theorem kX0_add (l : Launch) (X : kX) (n : Nat) (hn : n < 2 ^ 31) (b : Nat) (V : Mem) (a1 a2 : Int32) (out : Mem) (hE : cadd V 1 n a1 a2 = out) : MW l yX0_add wsX0_add rmX0_add X [.ref b, .int a1, .int a2] (RP X (LC n) b V) none b (b + (LC n).length) (RP X (LC n) b out) := mX0_add l X n hn b V a1 a2 out ((tX0_add hn V a1 a2).trans (congrArg some hE))
theorem kX0_sum (l : Launch) (X : kX) (n : Nat) (hn : n < 2 ^ 31) (b : Nat) (V : Mem) (out : Int32) (hE : csum n (V 1) = out) : MR l yX0_sum wsX0_sum rmX0_sum X [.ref b] (RP X (LC n) b V) (some (.int out)) := mX0_sum l X n hn b V out ((tX0_sum hn V).trans (congrArg some hE))
end
section
set_option maxRecDepth 20000 in
theorem lkX3_change_0 : Cond.fieldLink RX3 14 "TideWords$Tides" "means" "LTideWords$Cells;" ∈ wsX3_change := by decide +kernel
set_option maxRecDepth 20000 in
theorem iwX3_change_X3 : ∀ w ∈ wsX30, w ∈ wsX3_change := by decide +kernel
theorem hvX0_set : yX0_set.cls = RX0 ∧ yX0_set.cls ≠ "java/lang/invoke/MethodHandle" ∧ yX0_set.cls ≠ "java/lang/invoke/VarHandle" ∧ (parseMethodDescriptor yX0_set.desc).map (fun d => d.parameters.length) = some 2 := by decide +kernel
set_option maxRecDepth 20000 in
theorem sb_LT_1_LC2 : sbL LT 1 (LC 2) := sbl_of rfl
set_option maxRecDepth 20000 in
theorem lkX3_change_1 : Cond.fieldLink RX3 20 "TideWords$Tides" "swings" "LTideWords$Cells;" ∈ wsX3_change := by decide +kernel
set_option maxRecDepth 20000 in
theorem sb_LT_3_LC2 : sbL LT 3 (LC 2) := sbl_of rfl
set_option maxRecDepth 20000 in
theorem lkX3_change_2 : Cond.fieldLink RX3 23 "TideWords$Tides" "periods" "LTideWords$Cells;" ∈ wsX3_change := by decide +kernel
set_option maxRecDepth 20000 in
theorem sb_LT_5_LC2 : sbL LT 5 (LC 2) := sbl_of rfl
def fX3_change (V : Mem) (a1 : Int32) (a2 : Int32) (a3 : Int32) (a4 : Int32) : Mem := lt (cset V 2 2 a1 a2) (fun V1 => lt (cset V1 4 2 a1 a3) (fun V2 => lt (cset V2 6 2 a1 a4) (fun V3 => V3)))
abbrev rmX3_change : Room := { frames := 1, cells := 0, slots := 0, locals := 22 }
set_option maxHeartbeats 4000000 in
set_option maxRecDepth 100000 in
theorem mX3_change (l : Launch) (X : kX) (b : Nat) (V : Mem) (a1 : Int32) (a2 : Int32) (a3 : Int32) (a4 : Int32) (out : Mem) (hE : fX3_change V a1 a2 a3 a4 = out) : MW l yX3_change wsX3_change rmX3_change X [.ref b, .int a1, .int a2, .int a3, .int a4] (RP X LT b V) (none) b (b + LT.length) (RP X LT b out) := by
  refine mt_head (cc := cX3_change) (maxL := 5) (ret := none) (own := RX3) (by decide) rfl rfl (Nat.le_of_ble_eq_true rfl) ?_
  intro p e s m below meth c ls F hr hlocks hnm hR hl
  have hx := F.1.1
  have hb := F.1.2.1
  have hH : Hp (t_fr b (b + LT.length)) s.heap s.heap.size X LT b V s.heap [] := ⟨hR, va_S.rf, rfl⟩
  have hl : lv_has ls 5 [(0, .ref b), (1, .int a1), (2, .int a2), (3, .int a3), (4, .int a4)] := hl
  unfold fX3_change at hE
  refine lv_aload_n hx hb dX3_change_0 rfl (lv_at hl 0 rfl) ?_
  refine rg_getr F hH.1 0 (ci := 3) rfl (C := RX3) (T := TX3) (N := 4) rfl iwX3_change_X3 0 (d := 1) (n := 1) rfl rfl (by decide) rfl lkX3_change_0 rfl dX3_change_1 ?_
  refine lv_iload_n hx hb dX3_change_4 rfl (lv_at hl 1 rfl) ?_
  refine lv_iload_n hx hb dX3_change_5 rfl (lv_at hl 2 rfl) ?_
  obtain ⟨V1, eV1, hE⟩ := lt_el hE
  refine rg_callWV (As := [.int a1, .int a2]) (rest := []) F hH (fun q h1 h2 => ⟨h1, h2⟩) 1 sb_LT_1_LC2 (kX0_set l X 2 (by decide) (b + 1) (gv V 1) a1 a2 _ rfl) (cwV 2 F.1.2.2.2.2 gX3_change_X0_set rfl rfl rfl hvX0_set ⟨Nat.le_of_ble_eq_true rfl, Nat.le_of_ble_eq_true rfl⟩) (rp_recv F hH.1 1 rfl (C := RX0) (T := TX0) (N := 1) rfl rfl) (hH.1.sub 1 sb_LT_1_LC2) rfl hl.1 (Nat.le_of_ble_eq_true rfl) dX3_change_6 ⟨Nat.zero_le _, Nat.zero_le _⟩ rfl ((pv_cset ..).trans eV1) (fun H locs hH hfr => ?_)
  refine lv_aload_n hx hb dX3_change_9 rfl (lv_at hl 0 rfl) ?_
  refine rg_getr F hH.1 0 (ci := 3) rfl (C := RX3) (T := TX3) (N := 4) rfl iwX3_change_X3 1 (d := 3) (n := 3) rfl rfl (by decide) rfl lkX3_change_1 rfl dX3_change_10 ?_
  refine lv_iload_n hx hb dX3_change_13 rfl (lv_at hl 1 rfl) ?_
  refine lv_iload_n hx hb dX3_change_14 rfl (lv_at hl 3 rfl) ?_
  obtain ⟨V2, eV2, hE⟩ := lt_el hE
  refine rg_callWV (As := [.int a1, .int a3]) (rest := []) F hH (fun q h1 h2 => ⟨h1, h2⟩) 3 sb_LT_3_LC2 (kX0_set l X 2 (by decide) (b + 3) (gv V1 3) a1 a3 _ rfl) (cwV 2 F.1.2.2.2.2 gX3_change_X0_set rfl rfl rfl hvX0_set ⟨Nat.le_of_ble_eq_true rfl, Nat.le_of_ble_eq_true rfl⟩) (rp_recv F hH.1 3 rfl (C := RX0) (T := TX0) (N := 1) rfl rfl) (hH.1.sub 3 sb_LT_3_LC2) rfl hl.1 (Nat.le_of_ble_eq_true rfl) dX3_change_15 ⟨Nat.zero_le _, Nat.zero_le _⟩ rfl ((pv_cset ..).trans eV2) (fun H locs hH hfr => ?_)
  refine lv_aload_n hx hb dX3_change_18 rfl (lv_at hl 0 rfl) ?_
  refine rg_getr F hH.1 0 (ci := 3) rfl (C := RX3) (T := TX3) (N := 4) rfl iwX3_change_X3 2 (d := 5) (n := 5) rfl rfl (by decide) rfl lkX3_change_2 rfl dX3_change_19 ?_
  refine lv_iload_n hx hb dX3_change_22 rfl (lv_at hl 1 rfl) ?_
  refine lv_iload hx hb dX3_change_23 (lv_at hl 4 rfl) ?_
  obtain ⟨V3, eV3, hE⟩ := lt_el hE
  refine rg_callWV (As := [.int a1, .int a4]) (rest := []) F hH (fun q h1 h2 => ⟨h1, h2⟩) 5 sb_LT_5_LC2 (kX0_set l X 2 (by decide) (b + 5) (gv V2 5) a1 a4 _ rfl) (cwV 2 F.1.2.2.2.2 gX3_change_X0_set rfl rfl rfl hvX0_set ⟨Nat.le_of_ble_eq_true rfl, Nat.le_of_ble_eq_true rfl⟩) (rp_recv F hH.1 5 rfl (C := RX0) (T := TX0) (N := 1) rfl rfl) (hH.1.sub 5 sb_LT_5_LC2) rfl hl.1 (Nat.le_of_ble_eq_true rfl) dX3_change_25 ⟨Nat.zero_le _, Nat.zero_le _⟩ rfl ((pv_cset ..).trans eV3) (fun H locs hH hfr => ?_)
  subst hE
  exact W.vret hx hb hr (fun t ht _ => mw_post hH ht) hH.2.1.2.2 dX3_change_28
set_option maxRecDepth 20000 in
theorem lkX1_change_0 : Cond.fieldLink RX1 14 "TideWords$Gates" "sides" "LTideWords$Cells;" ∈ wsX1_change := by decide +kernel
set_option maxRecDepth 20000 in
theorem iwX1_change_X1 : ∀ w ∈ wsX10, w ∈ wsX1_change := by decide +kernel
set_option maxRecDepth 20000 in
theorem sb_LG_1_LC4 : sbL LG 1 (LC 4) := sbl_of rfl
set_option maxRecDepth 20000 in
theorem lkX1_change_1 : Cond.fieldLink RX1 20 "TideWords$Gates" "slacks" "LTideWords$Cells;" ∈ wsX1_change := by decide +kernel
set_option maxRecDepth 20000 in
theorem sb_LG_3_LC4 : sbL LG 3 (LC 4) := sbl_of rfl
set_option maxRecDepth 20000 in
theorem lkX1_change_2 : Cond.fieldLink RX1 23 "TideWords$Gates" "ways" "LTideWords$Cells;" ∈ wsX1_change := by decide +kernel
set_option maxRecDepth 20000 in
theorem sb_LG_5_LC4 : sbL LG 5 (LC 4) := sbl_of rfl
def fX1_change (V : Mem) (a1 : Int32) (a2 : Int32) (a3 : Int32) (a4 : Int32) : Mem := lt (cset V 2 4 a1 a2) (fun V1 => lt (cset V1 4 4 a1 a3) (fun V2 => lt (cset V2 6 4 a1 a4) (fun V3 => V3)))
abbrev rmX1_change : Room := { frames := 1, cells := 0, slots := 0, locals := 22 }
set_option maxHeartbeats 4000000 in
set_option maxRecDepth 100000 in
theorem mX1_change (l : Launch) (X : kX) (b : Nat) (V : Mem) (a1 : Int32) (a2 : Int32) (a3 : Int32) (a4 : Int32) (out : Mem) (hE : fX1_change V a1 a2 a3 a4 = out) : MW l yX1_change wsX1_change rmX1_change X [.ref b, .int a1, .int a2, .int a3, .int a4] (RP X LG b V) (none) b (b + LG.length) (RP X LG b out) := by
  refine mt_head (cc := cX1_change) (maxL := 5) (ret := none) (own := RX1) (by decide) rfl rfl (Nat.le_of_ble_eq_true rfl) ?_
  intro p e s m below meth c ls F hr hlocks hnm hR hl
  have hx := F.1.1
  have hb := F.1.2.1
  have hH : Hp (t_fr b (b + LG.length)) s.heap s.heap.size X LG b V s.heap [] := ⟨hR, va_S.rf, rfl⟩
  have hl : lv_has ls 5 [(0, .ref b), (1, .int a1), (2, .int a2), (3, .int a3), (4, .int a4)] := hl
  unfold fX1_change at hE
  refine lv_aload_n hx hb dX1_change_0 rfl (lv_at hl 0 rfl) ?_
  refine rg_getr F hH.1 0 (ci := 1) rfl (C := RX1) (T := TX1) (N := 8) rfl iwX1_change_X1 0 (d := 1) (n := 1) rfl rfl (by decide) rfl lkX1_change_0 rfl dX1_change_1 ?_
  refine lv_iload_n hx hb dX1_change_4 rfl (lv_at hl 1 rfl) ?_
  refine lv_iload_n hx hb dX1_change_5 rfl (lv_at hl 2 rfl) ?_
  obtain ⟨V1, eV1, hE⟩ := lt_el hE
  refine rg_callWV (As := [.int a1, .int a2]) (rest := []) F hH (fun q h1 h2 => ⟨h1, h2⟩) 1 sb_LG_1_LC4 (kX0_set l X 4 (by decide) (b + 1) (gv V 1) a1 a2 _ rfl) (cwV 2 F.1.2.2.2.2 gX1_change_X0_set rfl rfl rfl hvX0_set ⟨Nat.le_of_ble_eq_true rfl, Nat.le_of_ble_eq_true rfl⟩) (rp_recv F hH.1 1 rfl (C := RX0) (T := TX0) (N := 1) rfl rfl) (hH.1.sub 1 sb_LG_1_LC4) rfl hl.1 (Nat.le_of_ble_eq_true rfl) dX1_change_6 ⟨Nat.zero_le _, Nat.zero_le _⟩ rfl ((pv_cset ..).trans eV1) (fun H locs hH hfr => ?_)
  refine lv_aload_n hx hb dX1_change_9 rfl (lv_at hl 0 rfl) ?_
  refine rg_getr F hH.1 0 (ci := 1) rfl (C := RX1) (T := TX1) (N := 8) rfl iwX1_change_X1 1 (d := 3) (n := 3) rfl rfl (by decide) rfl lkX1_change_1 rfl dX1_change_10 ?_
  refine lv_iload_n hx hb dX1_change_13 rfl (lv_at hl 1 rfl) ?_
  refine lv_iload_n hx hb dX1_change_14 rfl (lv_at hl 3 rfl) ?_
  obtain ⟨V2, eV2, hE⟩ := lt_el hE
  refine rg_callWV (As := [.int a1, .int a3]) (rest := []) F hH (fun q h1 h2 => ⟨h1, h2⟩) 3 sb_LG_3_LC4 (kX0_set l X 4 (by decide) (b + 3) (gv V1 3) a1 a3 _ rfl) (cwV 2 F.1.2.2.2.2 gX1_change_X0_set rfl rfl rfl hvX0_set ⟨Nat.le_of_ble_eq_true rfl, Nat.le_of_ble_eq_true rfl⟩) (rp_recv F hH.1 3 rfl (C := RX0) (T := TX0) (N := 1) rfl rfl) (hH.1.sub 3 sb_LG_3_LC4) rfl hl.1 (Nat.le_of_ble_eq_true rfl) dX1_change_15 ⟨Nat.zero_le _, Nat.zero_le _⟩ rfl ((pv_cset ..).trans eV2) (fun H locs hH hfr => ?_)
  refine lv_aload_n hx hb dX1_change_18 rfl (lv_at hl 0 rfl) ?_
  refine rg_getr F hH.1 0 (ci := 1) rfl (C := RX1) (T := TX1) (N := 8) rfl iwX1_change_X1 2 (d := 5) (n := 5) rfl rfl (by decide) rfl lkX1_change_2 rfl dX1_change_19 ?_
  refine lv_iload_n hx hb dX1_change_22 rfl (lv_at hl 1 rfl) ?_
  refine lv_iload hx hb dX1_change_23 (lv_at hl 4 rfl) ?_
  obtain ⟨V3, eV3, hE⟩ := lt_el hE
  refine rg_callWV (As := [.int a1, .int a4]) (rest := []) F hH (fun q h1 h2 => ⟨h1, h2⟩) 5 sb_LG_5_LC4 (kX0_set l X 4 (by decide) (b + 5) (gv V2 5) a1 a4 _ rfl) (cwV 2 F.1.2.2.2.2 gX1_change_X0_set rfl rfl rfl hvX0_set ⟨Nat.le_of_ble_eq_true rfl, Nat.le_of_ble_eq_true rfl⟩) (rp_recv F hH.1 5 rfl (C := RX0) (T := TX0) (N := 1) rfl rfl) (hH.1.sub 5 sb_LG_5_LC4) rfl hl.1 (Nat.le_of_ble_eq_true rfl) dX1_change_25 ⟨Nat.zero_le _, Nat.zero_le _⟩ rfl ((pv_cset ..).trans eV3) (fun H locs hH hfr => ?_)
  subst hE
  exact W.vret hx hb hr (fun t ht _ => mw_post hH ht) hH.2.1.2.2 dX1_change_28
set_option maxRecDepth 20000 in
theorem lkX3_levelAt_0 : Cond.fieldLink RX3 23 "TideWords$Tides" "periods" "LTideWords$Cells;" ∈ wsX3_levelAt := by decide +kernel
set_option maxRecDepth 20000 in
theorem iwX3_levelAt_X3 : ∀ w ∈ wsX30, w ∈ wsX3_levelAt := by decide +kernel
theorem hvX0_get : yX0_get.cls = RX0 ∧ yX0_get.cls ≠ "java/lang/invoke/MethodHandle" ∧ yX0_get.cls ≠ "java/lang/invoke/VarHandle" ∧ (parseMethodDescriptor yX0_get.desc).map (fun d => d.parameters.length) = some 1 := by decide +kernel
set_option maxRecDepth 20000 in
theorem sb_LW_6_LC2 : sbL LW 6 (LC 2) := sbl_of rfl
set_option maxRecDepth 20000 in
theorem lkX3_levelAt_1 : Cond.fieldLink RX3 14 "TideWords$Tides" "means" "LTideWords$Cells;" ∈ wsX3_levelAt := by decide +kernel
set_option maxRecDepth 20000 in
theorem sb_LW_2_LC2 : sbL LW 2 (LC 2) := sbl_of rfl
set_option maxRecDepth 20000 in
theorem lkX3_levelAt_2 : Cond.fieldLink RX3 20 "TideWords$Tides" "swings" "LTideWords$Cells;" ∈ wsX3_levelAt := by decide +kernel
set_option maxRecDepth 20000 in
theorem sb_LW_4_LC2 : sbL LW 4 (LC 2) := sbl_of rfl
set_option maxRecDepth 20000 in
theorem lkX3_levelAt_3 : Cond.methodLink RX3 41 Lib.Math.min.name ∈ wsX3_levelAt := by decide +kernel
set_option maxRecDepth 20000 in
theorem lkX3_levelAt_4 : Cond.static Lib.Math.min.name ∈ wsX3_levelAt := by decide +kernel
set_option maxRecDepth 20000 in
theorem lkX3_levelAt_5 : Cond.initialized "java/lang/Math" ∈ wsX3_levelAt := by decide +kernel
set_option maxRecDepth 20000 in
theorem lkX3_levelAt_6 : Cond.code Lib.Math.min.name Lib.Math.min.code 2 (some .int) ∈ wsX3_levelAt := by decide +kernel
def qX3_levelAt (V : Mem) (a1 : Int32) (a2 : Int32) : Option (Int32) := lt (cget 2 (V 7) a1) (fun r1 => lt (cget 2 (V 3) a1) (fun r2 => lt (cget 2 (V 5) a1) (fun r3 => if (2 : Int32) ≤ r1 then if r1 = 0 then none else lt (cget 2 (V 5) a1) (fun r6 => lt (if (r1 - (a2 - a2 / r1 * r1)) < (a2 - a2 / r1 * r1) then (r1 - (a2 - a2 / r1 * r1)) else (a2 - a2 / r1 * r1)) (fun r7 => if r1 = 0 then none else some ((r2 - r3) + (((((4 : Int32)) * r6) * r7) / r1)))) else some (r2 - r3))))
abbrev rmX3_levelAt : Room := { frames := 1, cells := 0, slots := 0, locals := 24 }
set_option maxHeartbeats 4000000 in
set_option maxRecDepth 100000 in
theorem mX3_levelAt (l : Launch) (X : kX) (b : Nat) (V : Mem) (a1 : Int32) (a2 : Int32) (out : Int32) (hE : qX3_levelAt V a1 a2 = some out) : MR l yX3_levelAt wsX3_levelAt rmX3_levelAt X [.ref (b + 1), .int a1, .int a2] (RP X LW b V) (some (.int out)) := by
  refine mt_head (cc := cX3_levelAt) (maxL := 6) (ret := (some .int)) (own := RX3) (by decide) rfl rfl (Nat.le_of_ble_eq_true rfl) ?_
  intro p e s m below meth c ls F hr hlocks hnm hR hl
  have hx := F.1.1
  have hb := F.1.2.1
  have hl : lv_has ls 6 [(0, .ref (b + 1)), (1, .int a1), (2, .int a2)] := hl
  unfold qX3_levelAt at hE
  refine lv_aload_n hx hb dX3_levelAt_0 rfl (lv_at hl 0 rfl) ?_
  refine rg_getr F hR 1 (ci := 3) rfl (C := RX3) (T := TX3) (N := 4) rfl iwX3_levelAt_X3 2 (d := 5) (n := 6) rfl rfl (by decide) rfl lkX3_levelAt_0 rfl dX3_levelAt_1 ?_
  refine lv_iload_n hx hb dX3_levelAt_4 rfl (lv_at hl 1 rfl) ?_
  obtain ⟨r1, er1, hE⟩ := lt_el hE
  refine rg_callRV (As := [.int a1]) (rest := []) F (kX0_get l X 2 (by decide) (b + 6) (gv V 6) a1 r1 er1) (cwV 1 F.1.2.2.2.2 gX3_levelAt_X0_get rfl rfl rfl hvX0_get ⟨Nat.le_of_ble_eq_true rfl, Nat.le_of_ble_eq_true rfl⟩) (rp_recv F hR 6 rfl (C := RX0) (T := TX0) (N := 1) rfl rfl) (hR.sub 6 sb_LW_6_LC2) rfl hl.1 (Nat.le_of_ble_eq_true rfl) dX3_levelAt_5 ⟨Nat.zero_le _, Nat.zero_le _⟩ rfl ?_
  refine lv_istore_n (lv' := [(3, .int r1), (0, .ref (b + 1)), (1, .int a1), (2, .int a2)]) hx hb dX3_levelAt_8 rfl hl (by decide) rfl (fun ls hl => ?_)
  refine lv_aload_n hx hb dX3_levelAt_9 rfl (lv_at hl 1 rfl) ?_
  refine rg_getr F hR 1 (ci := 3) rfl (C := RX3) (T := TX3) (N := 4) rfl iwX3_levelAt_X3 0 (d := 1) (n := 2) rfl rfl (by decide) rfl lkX3_levelAt_1 rfl dX3_levelAt_10 ?_
  refine lv_iload_n hx hb dX3_levelAt_13 rfl (lv_at hl 2 rfl) ?_
  obtain ⟨r2, er2, hE⟩ := lt_el hE
  refine rg_callRV (As := [.int a1]) (rest := []) F (kX0_get l X 2 (by decide) (b + 2) (gv V 2) a1 r2 er2) (cwV 1 F.1.2.2.2.2 gX3_levelAt_X0_get rfl rfl rfl hvX0_get ⟨Nat.le_of_ble_eq_true rfl, Nat.le_of_ble_eq_true rfl⟩) (rp_recv F hR 2 rfl (C := RX0) (T := TX0) (N := 1) rfl rfl) (hR.sub 2 sb_LW_2_LC2) rfl hl.1 (Nat.le_of_ble_eq_true rfl) dX3_levelAt_14 ⟨Nat.zero_le _, Nat.zero_le _⟩ rfl ?_
  refine lv_aload_n hx hb dX3_levelAt_17 rfl (lv_at hl 1 rfl) ?_
  refine rg_getr F hR 1 (ci := 3) rfl (C := RX3) (T := TX3) (N := 4) rfl iwX3_levelAt_X3 1 (d := 3) (n := 4) rfl rfl (by decide) rfl lkX3_levelAt_2 rfl dX3_levelAt_18 ?_
  refine lv_iload_n hx hb dX3_levelAt_21 rfl (lv_at hl 2 rfl) ?_
  obtain ⟨r3, er3, hE⟩ := lt_el hE
  refine rg_callRV (As := [.int a1]) (rest := [.int r2]) F (kX0_get l X 2 (by decide) (b + 4) (gv V 4) a1 r3 er3) (cwV 1 F.1.2.2.2.2 gX3_levelAt_X0_get rfl rfl rfl hvX0_get ⟨Nat.le_of_ble_eq_true rfl, Nat.le_of_ble_eq_true rfl⟩) (rp_recv F hR 4 rfl (C := RX0) (T := TX0) (N := 1) rfl rfl) (hR.sub 4 sb_LW_4_LC2) rfl hl.1 (Nat.le_of_ble_eq_true rfl) dX3_levelAt_22 ⟨Nat.zero_le _, Nat.zero_le _⟩ rfl ?_
  refine lv_isub hx hb dX3_levelAt_25 ?_
  refine lv_istore (lv' := [(4, .int (r2 - r3)), (3, .int r1), (0, .ref (b + 1)), (1, .int a1), (2, .int a2)]) hx hb dX3_levelAt_26 hl (by decide) rfl (fun ls hl => ?_)
  refine lv_iload_n hx hb dX3_levelAt_28 rfl (lv_at hl 1 rfl) ?_
  refine lv_iconst (v := 2) hx hb dX3_levelAt_29 (by decide) ?_
  refine lv_icmp_ge (tgt := 36) hx hb dX3_levelAt_30 (by decide) (fun c4 => ?_) (fun c4 => ?_)
  · have hE := (if_pos c4).symm.trans hE
    refine lv_iload_n hx hb dX3_levelAt_36 rfl (lv_at hl 4 rfl) ?_
    refine lv_iload_n hx hb dX3_levelAt_37 rfl (lv_at hl 1 rfl) ?_
    obtain ⟨g5, hE⟩ := gd_el hE
    refine lv_irem hx hb dX3_levelAt_38 g5 ?_
    refine lv_istore (lv' := [(5, .int (a2 - a2 / r1 * r1)), (4, .int (r2 - r3)), (3, .int r1), (0, .ref (b + 1)), (1, .int a1), (2, .int a2)]) hx hb dX3_levelAt_39 hl (by decide) rfl (fun ls hl => ?_)
    refine lv_iload hx hb dX3_levelAt_41 (lv_at hl 1 rfl) ?_
    refine lv_iconst (v := 4) hx hb dX3_levelAt_43 (by decide) ?_
    refine lv_aload_n hx hb dX3_levelAt_44 rfl (lv_at hl 3 rfl) ?_
    refine rg_getr F hR 1 (ci := 3) rfl (C := RX3) (T := TX3) (N := 4) rfl iwX3_levelAt_X3 1 (d := 3) (n := 4) rfl rfl (by decide) rfl lkX3_levelAt_2 rfl dX3_levelAt_45 ?_
    refine lv_iload_n hx hb dX3_levelAt_48 rfl (lv_at hl 4 rfl) ?_
    obtain ⟨r6, er6, hE⟩ := lt_el hE
    refine rg_callRV (As := [.int a1]) (rest := [.int ((4 : Int32)), .int (r2 - r3)]) F (kX0_get l X 2 (by decide) (b + 4) (gv V 4) a1 r6 er6) (cwV 1 F.1.2.2.2.2 gX3_levelAt_X0_get rfl rfl rfl hvX0_get ⟨Nat.le_of_ble_eq_true rfl, Nat.le_of_ble_eq_true rfl⟩) (rp_recv F hR 4 rfl (C := RX0) (T := TX0) (N := 1) rfl rfl) (hR.sub 4 sb_LW_4_LC2) rfl hl.1 (Nat.le_of_ble_eq_true rfl) dX3_levelAt_49 ⟨Nat.zero_le _, Nat.zero_le _⟩ rfl ?_
    refine lv_imul hx hb dX3_levelAt_52 ?_
    refine lv_iload hx hb dX3_levelAt_53 (lv_at hl 0 rfl) ?_
    refine lv_iload_n hx hb dX3_levelAt_55 rfl (lv_at hl 2 rfl) ?_
    refine lv_iload hx hb dX3_levelAt_56 (lv_at hl 0 rfl) ?_
    refine lv_isub hx hb dX3_levelAt_58 ?_
    obtain ⟨r7, er7, hE⟩ := lt_el hE
    refine va_mmin hx hb (F.1.2.2.1.trans hl.1.symm) F.1.2.2.2.1 (F.1.2.2.2.2 _ lkX3_levelAt_3) (F.1.2.2.2.2 _ lkX3_levelAt_4) (F.1.2.2.2.2 _ lkX3_levelAt_5) (F.1.2.2.2.2 _ lkX3_levelAt_6) (Nat.le_of_ble_eq_true rfl) (Nat.le_of_ble_eq_true rfl) (Nat.zero_le _) (Nat.zero_le _) dX3_levelAt_59 ?_
    refine lv_nm er7 ?_
    refine lv_imul hx hb dX3_levelAt_62 ?_
    refine lv_iload_n hx hb dX3_levelAt_63 rfl (lv_at hl 2 rfl) ?_
    obtain ⟨g8, hE⟩ := gd_el hE
    refine lv_idiv hx hb dX3_levelAt_64 g8 ?_
    refine lv_iadd hx hb dX3_levelAt_65 ?_
    have hE := Option.some.inj hE
    subst hE
    exact W.iret (v := (r2 - r3) + (((((4 : Int32)) * r6) * r7) / r1)) hx hb hr (fun t ht _ => ⟨rfl, ht⟩) (fun _ h => absurd h List.not_mem_nil) dX3_levelAt_66
  · have hE := (if_neg c4).symm.trans hE
    refine lv_iload hx hb dX3_levelAt_33 (lv_at hl 0 rfl) ?_
    have hE := Option.some.inj hE
    subst hE
    exact W.iret (v := r2 - r3) hx hb hr (fun t ht _ => ⟨rfl, ht⟩) (fun _ h => absurd h List.not_mem_nil) dX3_levelAt_35
def mn (x y : Int32) : Int32 := if y < x then y else x
def fX3_levelAt (V : Mem) (a1 a2 : Int32) : Int32 := if (2 : Int32) ≤ cget 2 (V 7) a1 then (cget 2 (V 3) a1 - cget 2 (V 5) a1) + 4 * cget 2 (V 5) a1 * mn (a2 - a2 / cget 2 (V 7) a1 * cget 2 (V 7) a1) (cget 2 (V 7) a1 - (a2 - a2 / cget 2 (V 7) a1 * cget 2 (V 7) a1)) / cget 2 (V 7) a1 else cget 2 (V 3) a1 - cget 2 (V 5) a1
theorem two_ne {x : Int32} (h : (2 : Int32) ≤ x) : ¬ x = 0 := by
  intro e
  subst e
  revert h
  decide
theorem tX3_levelAt (V : Mem) (a1 a2 : Int32) : qX3_levelAt V a1 a2 = some (fX3_levelAt V a1 a2) := by
  unfold qX3_levelAt fX3_levelAt
  simp only [lt]
  by_cases h : (2 : Int32) ≤ cget 2 (V 7) a1
  · rw [if_pos h, if_pos h, if_neg (two_ne h), if_neg (two_ne h)]
    rfl
  · rw [if_neg h, if_neg h]

theorem kX3_levelAt (l : Launch) (X : kX) (b : Nat) (V : Mem) (a1 : Int32) (a2 : Int32) (out : Int32) (hE : fX3_levelAt V a1 a2 = out) : MR l yX3_levelAt wsX3_levelAt rmX3_levelAt X [.ref (b + 1), .int a1, .int a2] (RP X LW b V) (some (.int out)) := mX3_levelAt l X b V a1 a2 out ((tX3_levelAt V a1 a2).trans (congrArg some hE))
theorem hvX3_levelAt : yX3_levelAt.cls = RX3 ∧ yX3_levelAt.cls ≠ "java/lang/invoke/MethodHandle" ∧ yX3_levelAt.cls ≠ "java/lang/invoke/VarHandle" ∧ (parseMethodDescriptor yX3_levelAt.desc).map (fun d => d.parameters.length) = some 2 := by decide +kernel
set_option maxRecDepth 20000 in
theorem lkX3_toldAt_0 : Cond.fieldLink RX3 26 "TideWords$Tides" "lies" "LTideWords$Cells;" ∈ wsX3_toldAt := by decide +kernel
set_option maxRecDepth 20000 in
theorem iwX3_toldAt_X3 : ∀ w ∈ wsX30, w ∈ wsX3_toldAt := by decide +kernel
set_option maxRecDepth 20000 in
theorem sb_LW_8_LC2 : sbL LW 8 (LC 2) := sbl_of rfl
def fX3_toldAt (V : Mem) (a1 : Int32) (a2 : Int32) : Int32 := lt (fX3_levelAt V a1 a2) (fun r1 => lt (cget 2 (V 9) a1) (fun r2 => r1 + r2))
abbrev rmX3_toldAt : Room := { frames := 2, cells := 0, slots := 0, locals := 49 }
set_option maxHeartbeats 4000000 in
set_option maxRecDepth 100000 in
theorem mX3_toldAt (l : Launch) (X : kX) (b : Nat) (V : Mem) (a1 : Int32) (a2 : Int32) (out : Int32) (hE : fX3_toldAt V a1 a2 = out) : MR l yX3_toldAt wsX3_toldAt rmX3_toldAt X [.ref (b + 1), .int a1, .int a2] (RP X LW b V) (some (.int out)) := by
  refine mt_head (cc := cX3_toldAt) (maxL := 3) (ret := (some .int)) (own := RX3) (by decide) rfl rfl (Nat.le_of_ble_eq_true rfl) ?_
  intro p e s m below meth c ls F hr hlocks hnm hR hl
  have hx := F.1.1
  have hb := F.1.2.1
  have hl : lv_has ls 3 [(0, .ref (b + 1)), (1, .int a1), (2, .int a2)] := hl
  unfold fX3_toldAt at hE
  refine lv_aload_n hx hb dX3_toldAt_0 rfl (lv_at hl 0 rfl) ?_
  refine lv_iload_n hx hb dX3_toldAt_1 rfl (lv_at hl 1 rfl) ?_
  refine lv_iload_n hx hb dX3_toldAt_2 rfl (lv_at hl 2 rfl) ?_
  obtain ⟨r1, er1, hE⟩ := lt_el hE
  refine rg_callRV (As := [.int a1, .int a2]) (rest := []) F (kX3_levelAt l X b V a1 a2 r1 er1) (cwV 2 F.1.2.2.2.2 gX3_toldAt_X3_levelAt rfl rfl rfl hvX3_levelAt ⟨Nat.le_of_ble_eq_true rfl, Nat.le_of_ble_eq_true rfl⟩) (rp_recv F hR 1 rfl (C := RX3) (T := TX3) (N := 4) rfl rfl) hR rfl hl.1 (Nat.le_of_ble_eq_true rfl) dX3_toldAt_3 ⟨Nat.zero_le _, Nat.zero_le _⟩ rfl ?_
  refine lv_aload_n hx hb dX3_toldAt_6 rfl (lv_at hl 0 rfl) ?_
  refine rg_getr F hR 1 (ci := 3) rfl (C := RX3) (T := TX3) (N := 4) rfl iwX3_toldAt_X3 3 (d := 7) (n := 8) rfl rfl (by decide) rfl lkX3_toldAt_0 rfl dX3_toldAt_7 ?_
  refine lv_iload_n hx hb dX3_toldAt_10 rfl (lv_at hl 1 rfl) ?_
  obtain ⟨r2, er2, hE⟩ := lt_el hE
  refine rg_callRV (As := [.int a1]) (rest := [.int r1]) F (kX0_get l X 2 (by decide) (b + 8) (gv V 8) a1 r2 er2) (cwV 1 F.1.2.2.2.2 gX3_toldAt_X0_get rfl rfl rfl hvX0_get ⟨Nat.le_of_ble_eq_true rfl, Nat.le_of_ble_eq_true rfl⟩) (rp_recv F hR 8 rfl (C := RX0) (T := TX0) (N := 1) rfl rfl) (hR.sub 8 sb_LW_8_LC2) rfl hl.1 (Nat.le_of_ble_eq_true rfl) dX3_toldAt_11 ⟨Nat.zero_le _, Nat.zero_le _⟩ rfl ?_
  refine lv_iadd hx hb dX3_toldAt_14 ?_
  subst hE
  exact W.iret (v := r1 + r2) hx hb hr (fun t ht _ => ⟨rfl, ht⟩) (fun _ h => absurd h List.not_mem_nil) dX3_toldAt_15
theorem hvX3_toldAt : yX3_toldAt.cls = RX3 ∧ yX3_toldAt.cls ≠ "java/lang/invoke/MethodHandle" ∧ yX3_toldAt.cls ≠ "java/lang/invoke/VarHandle" ∧ (parseMethodDescriptor yX3_toldAt.desc).map (fun d => d.parameters.length) = some 2 := by decide +kernel
def fX3_gapAt (V : Mem) (a1 : Int32) : Int32 := lt (fX3_toldAt V ((0 : Int32)) a1) (fun r1 => lt (fX3_toldAt V ((1 : Int32)) a1) (fun r2 => r1 - r2))
abbrev rmX3_gapAt : Room := { frames := 3, cells := 0, slots := 0, locals := 71 }
set_option maxHeartbeats 4000000 in
set_option maxRecDepth 100000 in
theorem mX3_gapAt (l : Launch) (X : kX) (b : Nat) (V : Mem) (a1 : Int32) (out : Int32) (hE : fX3_gapAt V a1 = out) : MR l yX3_gapAt wsX3_gapAt rmX3_gapAt X [.ref (b + 1), .int a1] (RP X LW b V) (some (.int out)) := by
  refine mt_head (cc := cX3_gapAt) (maxL := 2) (ret := (some .int)) (own := RX3) (by decide) rfl rfl (Nat.le_of_ble_eq_true rfl) ?_
  intro p e s m below meth c ls F hr hlocks hnm hR hl
  have hx := F.1.1
  have hb := F.1.2.1
  have hl : lv_has ls 2 [(0, .ref (b + 1)), (1, .int a1)] := hl
  unfold fX3_gapAt at hE
  refine lv_aload_n hx hb dX3_gapAt_0 rfl (lv_at hl 0 rfl) ?_
  refine lv_iconst (v := 0) hx hb dX3_gapAt_1 (by decide) ?_
  refine lv_iload_n hx hb dX3_gapAt_2 rfl (lv_at hl 1 rfl) ?_
  obtain ⟨r1, er1, hE⟩ := lt_el hE
  refine rg_callRV (As := [.int ((0 : Int32)), .int a1]) (rest := []) F (mX3_toldAt l X b V ((0 : Int32)) a1 r1 er1) (cwV 2 F.1.2.2.2.2 gX3_gapAt_X3_toldAt rfl rfl rfl hvX3_toldAt ⟨Nat.le_of_ble_eq_true rfl, Nat.le_of_ble_eq_true rfl⟩) (rp_recv F hR 1 rfl (C := RX3) (T := TX3) (N := 4) rfl rfl) hR rfl hl.1 (Nat.le_of_ble_eq_true rfl) dX3_gapAt_3 ⟨Nat.zero_le _, Nat.zero_le _⟩ rfl ?_
  refine lv_aload_n hx hb dX3_gapAt_6 rfl (lv_at hl 0 rfl) ?_
  refine lv_iconst (v := 1) hx hb dX3_gapAt_7 (by decide) ?_
  refine lv_iload_n hx hb dX3_gapAt_8 rfl (lv_at hl 1 rfl) ?_
  obtain ⟨r2, er2, hE⟩ := lt_el hE
  refine rg_callRV (As := [.int ((1 : Int32)), .int a1]) (rest := [.int r1]) F (mX3_toldAt l X b V ((1 : Int32)) a1 r2 er2) (cwV 2 F.1.2.2.2.2 gX3_gapAt_X3_toldAt rfl rfl rfl hvX3_toldAt ⟨Nat.le_of_ble_eq_true rfl, Nat.le_of_ble_eq_true rfl⟩) (rp_recv F hR 1 rfl (C := RX3) (T := TX3) (N := 4) rfl rfl) hR rfl hl.1 (Nat.le_of_ble_eq_true rfl) dX3_gapAt_9 ⟨Nat.zero_le _, Nat.zero_le _⟩ rfl ?_
  refine lv_isub hx hb dX3_gapAt_12 ?_
  subst hE
  exact W.iret (v := r1 - r2) hx hb hr (fun t ht _ => ⟨rfl, ht⟩) (fun _ h => absurd h List.not_mem_nil) dX3_gapAt_13
end
section
set_option maxRecDepth 20000 in
theorem lkX1_isShut_0 : Cond.fieldLink RX1 26 "TideWords$Gates" "shuts" "LTideWords$Cells;" ∈ wsX1_isShut := by decide +kernel
set_option maxRecDepth 20000 in
theorem iwX1_isShut_X1 : ∀ w ∈ wsX10, w ∈ wsX1_isShut := by decide +kernel
set_option maxRecDepth 20000 in
theorem sb_LW_17_LC4 : sbL LW 17 (LC 4) := sbl_of rfl
def fX1_isShut (V : Mem) (a1 : Int32) : Int32 := lt (cget 4 (V 18) a1) (fun r1 => if r1 = 0 then (0 : Int32) else (1 : Int32))
abbrev rmX1_isShut : Room := { frames := 1, cells := 0, slots := 0, locals := 21 }
set_option maxHeartbeats 4000000 in
set_option maxRecDepth 100000 in
theorem mX1_isShut (l : Launch) (X : kX) (b : Nat) (V : Mem) (a1 : Int32) (out : Int32) (hE : fX1_isShut V a1 = out) : MR l yX1_isShut wsX1_isShut rmX1_isShut X [.ref (b + 10), .int a1] (RP X LW b V) (some (.int out)) := by
  refine mt_head (cc := cX1_isShut) (maxL := 2) (ret := (some .boolean)) (own := RX1) (by decide) rfl rfl (Nat.le_of_ble_eq_true rfl) ?_
  intro p e s m below meth c ls F hr hlocks hnm hR hl
  have hx := F.1.1
  have hb := F.1.2.1
  have hl : lv_has ls 2 [(0, .ref (b + 10)), (1, .int a1)] := hl
  unfold fX1_isShut at hE
  refine lv_aload_n hx hb dX1_isShut_0 rfl (lv_at hl 0 rfl) ?_
  refine rg_getr F hR 10 (ci := 1) rfl (C := RX1) (T := TX1) (N := 8) rfl iwX1_isShut_X1 3 (d := 7) (n := 17) rfl rfl (by decide) rfl lkX1_isShut_0 rfl dX1_isShut_1 ?_
  refine lv_iload_n hx hb dX1_isShut_4 rfl (lv_at hl 1 rfl) ?_
  obtain ⟨r1, er1, hE⟩ := lt_el hE
  refine rg_callRV (As := [.int a1]) (rest := []) F (kX0_get l X 4 (by decide) (b + 17) (gv V 17) a1 r1 er1) (cwV 1 F.1.2.2.2.2 gX1_isShut_X0_get rfl rfl rfl hvX0_get ⟨Nat.le_of_ble_eq_true rfl, Nat.le_of_ble_eq_true rfl⟩) (rp_recv F hR 17 rfl (C := RX0) (T := TX0) (N := 1) rfl rfl) (hR.sub 17 sb_LW_17_LC4) rfl hl.1 (Nat.le_of_ble_eq_true rfl) dX1_isShut_5 ⟨Nat.zero_le _, Nat.zero_le _⟩ rfl ?_
  refine lv_if_eq (tgt := 15) hx hb dX1_isShut_8 (by decide) (fun c2 => ?_) (fun c2 => ?_)
  · have hE := (if_pos c2).symm.trans hE
    refine lv_iconst (v := 0) hx hb dX1_isShut_15 (by decide) ?_
    subst hE
    exact W.zret (v := (0 : Int32)) hx hb hr rfl (fun t ht _ => ⟨rfl, ht⟩) (fun _ h => absurd h List.not_mem_nil) dX1_isShut_16
  · have hE := (if_neg c2).symm.trans hE
    refine lv_iconst (v := 1) hx hb dX1_isShut_11 (by decide) ?_
    refine lv_goto (tgt := 16) hx hb dX1_isShut_12 (by decide) ?_
    subst hE
    exact W.zret (v := (1 : Int32)) hx hb hr rfl (fun t ht _ => ⟨rfl, ht⟩) (fun _ h => absurd h List.not_mem_nil) dX1_isShut_16
theorem hvX1_isShut : yX1_isShut.cls = RX1 ∧ yX1_isShut.cls ≠ "java/lang/invoke/MethodHandle" ∧ yX1_isShut.cls ≠ "java/lang/invoke/VarHandle" ∧ (parseMethodDescriptor yX1_isShut.desc).map (fun d => d.parameters.length) = some 1 := by decide +kernel
set_option maxRecDepth 20000 in
theorem lkX1_isOpenAcross_0 : Cond.methodLink RX1 57 Lib.Math.abs.name ∈ wsX1_isOpenAcross := by decide +kernel
set_option maxRecDepth 20000 in
theorem lkX1_isOpenAcross_1 : Cond.static Lib.Math.abs.name ∈ wsX1_isOpenAcross := by decide +kernel
set_option maxRecDepth 20000 in
theorem lkX1_isOpenAcross_2 : Cond.initialized "java/lang/Math" ∈ wsX1_isOpenAcross := by decide +kernel
set_option maxRecDepth 20000 in
theorem lkX1_isOpenAcross_3 : Cond.code Lib.Math.abs.name Lib.Math.abs.code 1 (some .int) ∈ wsX1_isOpenAcross := by decide +kernel
set_option maxRecDepth 20000 in
theorem lkX1_isOpenAcross_4 : Cond.fieldLink RX1 20 "TideWords$Gates" "slacks" "LTideWords$Cells;" ∈ wsX1_isOpenAcross := by decide +kernel
set_option maxRecDepth 20000 in
theorem iwX1_isOpenAcross_X1 : ∀ w ∈ wsX10, w ∈ wsX1_isOpenAcross := by decide +kernel
set_option maxRecDepth 20000 in
theorem sb_LW_13_LC4 : sbL LW 13 (LC 4) := sbl_of rfl
def fX1_isOpenAcross (V : Mem) (a1 : Int32) (a2 : Int32) : Int32 := lt (fX1_isShut V a1) (fun r1 => if r1 = 0 then lt (if 0 ≤ a2 then a2 else 0 - a2) (fun r3 => lt (cget 4 (V 14) a1) (fun r4 => if r4 < r3 then (0 : Int32) else (1 : Int32))) else (0 : Int32))
abbrev rmX1_isOpenAcross : Room := { frames := 2, cells := 0, slots := 0, locals := 42 }
set_option maxHeartbeats 4000000 in
set_option maxRecDepth 100000 in
theorem mX1_isOpenAcross (l : Launch) (X : kX) (b : Nat) (V : Mem) (a1 : Int32) (a2 : Int32) (out : Int32) (hE : fX1_isOpenAcross V a1 a2 = out) : MR l yX1_isOpenAcross wsX1_isOpenAcross rmX1_isOpenAcross X [.ref (b + 10), .int a1, .int a2] (RP X LW b V) (some (.int out)) := by
  refine mt_head (cc := cX1_isOpenAcross) (maxL := 3) (ret := (some .boolean)) (own := RX1) (by decide) rfl rfl (Nat.le_of_ble_eq_true rfl) ?_
  intro p e s m below meth c ls F hr hlocks hnm hR hl
  have hx := F.1.1
  have hb := F.1.2.1
  have hl : lv_has ls 3 [(0, .ref (b + 10)), (1, .int a1), (2, .int a2)] := hl
  unfold fX1_isOpenAcross at hE
  refine lv_aload_n hx hb dX1_isOpenAcross_0 rfl (lv_at hl 0 rfl) ?_
  refine lv_iload_n hx hb dX1_isOpenAcross_1 rfl (lv_at hl 1 rfl) ?_
  obtain ⟨r1, er1, hE⟩ := lt_el hE
  refine rg_callRV (As := [.int a1]) (rest := []) F (mX1_isShut l X b V a1 r1 er1) (cwV 1 F.1.2.2.2.2 gX1_isOpenAcross_X1_isShut rfl rfl rfl hvX1_isShut ⟨Nat.le_of_ble_eq_true rfl, Nat.le_of_ble_eq_true rfl⟩) (rp_recv F hR 10 rfl (C := RX1) (T := TX1) (N := 8) rfl rfl) hR rfl hl.1 (Nat.le_of_ble_eq_true rfl) dX1_isOpenAcross_2 ⟨Nat.zero_le _, Nat.zero_le _⟩ rfl ?_
  refine lv_if_ne (tgt := 27) hx hb dX1_isOpenAcross_5 (by decide) (fun c2 => ?_) (fun c2 => ?_)
  · have hE := (if_neg c2).symm.trans hE
    refine lv_iconst (v := 0) hx hb dX1_isOpenAcross_27 (by decide) ?_
    subst hE
    exact W.zret (v := (0 : Int32)) hx hb hr rfl (fun t ht _ => ⟨rfl, ht⟩) (fun _ h => absurd h List.not_mem_nil) dX1_isOpenAcross_28
  · have hE := (if_pos c2).symm.trans hE
    refine lv_iload_n hx hb dX1_isOpenAcross_8 rfl (lv_at hl 2 rfl) ?_
    obtain ⟨r3, er3, hE⟩ := lt_el hE
    refine va_mabs hx hb (F.1.2.2.1.trans hl.1.symm) F.1.2.2.2.1 (F.1.2.2.2.2 _ lkX1_isOpenAcross_0) (F.1.2.2.2.2 _ lkX1_isOpenAcross_1) (F.1.2.2.2.2 _ lkX1_isOpenAcross_2) (F.1.2.2.2.2 _ lkX1_isOpenAcross_3) (Nat.le_of_ble_eq_true rfl) (Nat.le_of_ble_eq_true rfl) (Nat.zero_le _) (Nat.zero_le _) dX1_isOpenAcross_9 ?_
    refine lv_nm er3 ?_
    refine lv_aload_n hx hb dX1_isOpenAcross_12 rfl (lv_at hl 0 rfl) ?_
    refine rg_getr F hR 10 (ci := 1) rfl (C := RX1) (T := TX1) (N := 8) rfl iwX1_isOpenAcross_X1 1 (d := 3) (n := 13) rfl rfl (by decide) rfl lkX1_isOpenAcross_4 rfl dX1_isOpenAcross_13 ?_
    refine lv_iload_n hx hb dX1_isOpenAcross_16 rfl (lv_at hl 1 rfl) ?_
    obtain ⟨r4, er4, hE⟩ := lt_el hE
    refine rg_callRV (As := [.int a1]) (rest := [.int r3]) F (kX0_get l X 4 (by decide) (b + 13) (gv V 13) a1 r4 er4) (cwV 1 F.1.2.2.2.2 gX1_isOpenAcross_X0_get rfl rfl rfl hvX0_get ⟨Nat.le_of_ble_eq_true rfl, Nat.le_of_ble_eq_true rfl⟩) (rp_recv F hR 13 rfl (C := RX0) (T := TX0) (N := 1) rfl rfl) (hR.sub 13 sb_LW_13_LC4) rfl hl.1 (Nat.le_of_ble_eq_true rfl) dX1_isOpenAcross_17 ⟨Nat.zero_le _, Nat.zero_le _⟩ rfl ?_
    refine lv_icmp_gt (tgt := 27) hx hb dX1_isOpenAcross_20 (by decide) (fun c5 => ?_) (fun c5 => ?_)
    · have hE := (if_pos c5).symm.trans hE
      refine lv_iconst (v := 0) hx hb dX1_isOpenAcross_27 (by decide) ?_
      subst hE
      exact W.zret (v := (0 : Int32)) hx hb hr rfl (fun t ht _ => ⟨rfl, ht⟩) (fun _ h => absurd h List.not_mem_nil) dX1_isOpenAcross_28
    · have hE := (if_neg c5).symm.trans hE
      refine lv_iconst (v := 1) hx hb dX1_isOpenAcross_23 (by decide) ?_
      refine lv_goto (tgt := 28) hx hb dX1_isOpenAcross_24 (by decide) ?_
      subst hE
      exact W.zret (v := (1 : Int32)) hx hb hr rfl (fun t ht _ => ⟨rfl, ht⟩) (fun _ h => absurd h List.not_mem_nil) dX1_isOpenAcross_28
theorem zX1_isOpenAcross {V : Mem} {a1 : Int32} {a2 : Int32} {out : Int32} (h : fX1_isOpenAcross V a1 a2 = out) : narrow .boolean (.int out) = .int out := by
  rw [← h]
  unfold fX1_isOpenAcross
  repeat (first | rfl | (simp only [lt]) | split)
set_option maxRecDepth 20000 in
theorem lkX1_hasWord_0 : Cond.fieldLink RX1 29 "TideWords$Gates" "held" "LTideWords$Cells;" ∈ wsX1_hasWord := by decide +kernel
set_option maxRecDepth 20000 in
theorem iwX1_hasWord_X1 : ∀ w ∈ wsX10, w ∈ wsX1_hasWord := by decide +kernel
set_option maxRecDepth 20000 in
theorem sb_LW_19_LC4 : sbL LW 19 (LC 4) := sbl_of rfl
def fX1_hasWord (V : Mem) (a1 : Int32) : Int32 := lt (cget 4 (V 20) a1) (fun r1 => if r1 = (-1006 : Int32) then (0 : Int32) else (1 : Int32))
abbrev rmX1_hasWord : Room := { frames := 1, cells := 0, slots := 0, locals := 21 }
set_option maxHeartbeats 4000000 in
set_option maxRecDepth 100000 in
theorem mX1_hasWord (l : Launch) (X : kX) (b : Nat) (V : Mem) (a1 : Int32) (out : Int32) (hE : fX1_hasWord V a1 = out) : MR l yX1_hasWord wsX1_hasWord rmX1_hasWord X [.ref (b + 10), .int a1] (RP X LW b V) (some (.int out)) := by
  refine mt_head (cc := cX1_hasWord) (maxL := 2) (ret := (some .boolean)) (own := RX1) (by decide) rfl rfl (Nat.le_of_ble_eq_true rfl) ?_
  intro p e s m below meth c ls F hr hlocks hnm hR hl
  have hx := F.1.1
  have hb := F.1.2.1
  have hl : lv_has ls 2 [(0, .ref (b + 10)), (1, .int a1)] := hl
  unfold fX1_hasWord at hE
  refine lv_aload_n hx hb dX1_hasWord_0 rfl (lv_at hl 0 rfl) ?_
  refine rg_getr F hR 10 (ci := 1) rfl (C := RX1) (T := TX1) (N := 8) rfl iwX1_hasWord_X1 4 (d := 9) (n := 19) rfl rfl (by decide) rfl lkX1_hasWord_0 rfl dX1_hasWord_1 ?_
  refine lv_iload_n hx hb dX1_hasWord_4 rfl (lv_at hl 1 rfl) ?_
  obtain ⟨r1, er1, hE⟩ := lt_el hE
  refine rg_callRV (As := [.int a1]) (rest := []) F (kX0_get l X 4 (by decide) (b + 19) (gv V 19) a1 r1 er1) (cwV 1 F.1.2.2.2.2 gX1_hasWord_X0_get rfl rfl rfl hvX0_get ⟨Nat.le_of_ble_eq_true rfl, Nat.le_of_ble_eq_true rfl⟩) (rp_recv F hR 19 rfl (C := RX0) (T := TX0) (N := 1) rfl rfl) (hR.sub 19 sb_LW_19_LC4) rfl hl.1 (Nat.le_of_ble_eq_true rfl) dX1_hasWord_5 ⟨Nat.zero_le _, Nat.zero_le _⟩ rfl ?_
  refine lv_sipush (v := (-1006)) hx hb dX1_hasWord_8 (by decide) ?_
  refine lv_icmp_eq (tgt := 18) hx hb dX1_hasWord_11 (by decide) (fun c2 => ?_) (fun c2 => ?_)
  · have hE := (if_pos c2).symm.trans hE
    refine lv_iconst (v := 0) hx hb dX1_hasWord_18 (by decide) ?_
    subst hE
    exact W.zret (v := (0 : Int32)) hx hb hr rfl (fun t ht _ => ⟨rfl, ht⟩) (fun _ h => absurd h List.not_mem_nil) dX1_hasWord_19
  · have hE := (if_neg c2).symm.trans hE
    refine lv_iconst (v := 1) hx hb dX1_hasWord_14 (by decide) ?_
    refine lv_goto (tgt := 19) hx hb dX1_hasWord_15 (by decide) ?_
    subst hE
    exact W.zret (v := (1 : Int32)) hx hb hr rfl (fun t ht _ => ⟨rfl, ht⟩) (fun _ h => absurd h List.not_mem_nil) dX1_hasWord_19
set_option maxRecDepth 20000 in
theorem lkX1_release_0 : Cond.fieldLink RX1 29 "TideWords$Gates" "held" "LTideWords$Cells;" ∈ wsX1_release := by decide +kernel
set_option maxRecDepth 20000 in
theorem iwX1_release_X1 : ∀ w ∈ wsX10, w ∈ wsX1_release := by decide +kernel
set_option maxRecDepth 20000 in
theorem lkX1_release_1 : Cond.fieldLink RX1 32 "TideWords$Gates" "lettersDone" "LTideWords$Cells;" ∈ wsX1_release := by decide +kernel
set_option maxRecDepth 20000 in
theorem sb_LW_21_LC4 : sbL LW 21 (LC 4) := sbl_of rfl
def fX1_release (V : Mem) (a1 : Int32) : Mem := lt (cset V 20 4 a1 ((-1006 : Int32))) (fun V1 => lt (cset V1 22 4 a1 ((0 : Int32))) (fun V2 => V2))
abbrev rmX1_release : Room := { frames := 1, cells := 0, slots := 0, locals := 22 }
set_option maxHeartbeats 4000000 in
set_option maxRecDepth 100000 in
theorem mX1_release (l : Launch) (X : kX) (b : Nat) (V : Mem) (a1 : Int32) (out : Mem) (hE : fX1_release V a1 = out) : MW l yX1_release wsX1_release rmX1_release X [.ref (b + 10), .int a1] (RP X LW b V) (none) b (b + LW.length) (RP X LW b out) := by
  refine mt_head (cc := cX1_release) (maxL := 2) (ret := none) (own := RX1) (by decide) rfl rfl (Nat.le_of_ble_eq_true rfl) ?_
  intro p e s m below meth c ls F hr hlocks hnm hR hl
  have hx := F.1.1
  have hb := F.1.2.1
  have hH : Hp (t_fr b (b + LW.length)) s.heap s.heap.size X LW b V s.heap [] := ⟨hR, va_S.rf, rfl⟩
  have hl : lv_has ls 2 [(0, .ref (b + 10)), (1, .int a1)] := hl
  unfold fX1_release at hE
  refine lv_aload_n hx hb dX1_release_0 rfl (lv_at hl 0 rfl) ?_
  refine rg_getr F hH.1 10 (ci := 1) rfl (C := RX1) (T := TX1) (N := 8) rfl iwX1_release_X1 4 (d := 9) (n := 19) rfl rfl (by decide) rfl lkX1_release_0 rfl dX1_release_1 ?_
  refine lv_iload_n hx hb dX1_release_4 rfl (lv_at hl 1 rfl) ?_
  refine lv_sipush (v := (-1006)) hx hb dX1_release_5 (by decide) ?_
  obtain ⟨V1, eV1, hE⟩ := lt_el hE
  refine rg_callWV (As := [.int a1, .int ((-1006 : Int32))]) (rest := []) F hH (fun q h1 h2 => ⟨h1, h2⟩) 19 sb_LW_19_LC4 (kX0_set l X 4 (by decide) (b + 19) (gv V 19) a1 ((-1006 : Int32)) _ rfl) (cwV 2 F.1.2.2.2.2 gX1_release_X0_set rfl rfl rfl hvX0_set ⟨Nat.le_of_ble_eq_true rfl, Nat.le_of_ble_eq_true rfl⟩) (rp_recv F hH.1 19 rfl (C := RX0) (T := TX0) (N := 1) rfl rfl) (hH.1.sub 19 sb_LW_19_LC4) rfl hl.1 (Nat.le_of_ble_eq_true rfl) dX1_release_8 ⟨Nat.zero_le _, Nat.zero_le _⟩ rfl ((pv_cset ..).trans eV1) (fun H locs hH hfr => ?_)
  refine lv_aload_n hx hb dX1_release_11 rfl (lv_at hl 0 rfl) ?_
  refine rg_getr F hH.1 10 (ci := 1) rfl (C := RX1) (T := TX1) (N := 8) rfl iwX1_release_X1 5 (d := 11) (n := 21) rfl rfl (by decide) rfl lkX1_release_1 rfl dX1_release_12 ?_
  refine lv_iload_n hx hb dX1_release_15 rfl (lv_at hl 1 rfl) ?_
  refine lv_iconst (v := 0) hx hb dX1_release_16 (by decide) ?_
  obtain ⟨V2, eV2, hE⟩ := lt_el hE
  refine rg_callWV (As := [.int a1, .int ((0 : Int32))]) (rest := []) F hH (fun q h1 h2 => ⟨h1, h2⟩) 21 sb_LW_21_LC4 (kX0_set l X 4 (by decide) (b + 21) (gv V1 21) a1 ((0 : Int32)) _ rfl) (cwV 2 F.1.2.2.2.2 gX1_release_X0_set rfl rfl rfl hvX0_set ⟨Nat.le_of_ble_eq_true rfl, Nat.le_of_ble_eq_true rfl⟩) (rp_recv F hH.1 21 rfl (C := RX0) (T := TX0) (N := 1) rfl rfl) (hH.1.sub 21 sb_LW_21_LC4) rfl hl.1 (Nat.le_of_ble_eq_true rfl) dX1_release_17 ⟨Nat.zero_le _, Nat.zero_le _⟩ rfl ((pv_cset ..).trans eV2) (fun H locs hH hfr => ?_)
  subst hE
  exact W.vret hx hb hr (fun t ht _ => mw_post hH ht) hH.2.1.2.2 dX1_release_20
theorem hvX1_hasWord : yX1_hasWord.cls = RX1 ∧ yX1_hasWord.cls ≠ "java/lang/invoke/MethodHandle" ∧ yX1_hasWord.cls ≠ "java/lang/invoke/VarHandle" ∧ (parseMethodDescriptor yX1_hasWord.desc).map (fun d => d.parameters.length) = some 1 := by decide +kernel
def lbX1_wordsInside_4 (V : Mem) (s1 : Int32 × Int32) : Option ((Int32 × Int32) ⊕ (Int32 × Int32)) := if (4 : Int32) ≤ s1.2 then some (.inr (s1.1, s1.2)) else lt (fX1_hasWord V s1.2) (fun r3 => if r3 = 0 then some (.inl (s1.1 + ((0 : Int32)), s1.2 + 1)) else some (.inl (s1.1 + ((1 : Int32)), s1.2 + 1)))
def qX1_wordsInside (V : Mem) : Option (Int32) := (it (lbX1_wordsInside_4 V) fuel ((0 : Int32), (0 : Int32))).bind (fun s5 => some (s5.1))
abbrev rmX1_wordsInside : Room := { frames := 2, cells := 0, slots := 0, locals := 42 }
set_option maxHeartbeats 4000000 in
set_option maxRecDepth 100000 in
theorem mX1_wordsInside (l : Launch) (X : kX) (b : Nat) (V : Mem) (out : Int32) (hE : qX1_wordsInside V = some out) : MR l yX1_wordsInside wsX1_wordsInside rmX1_wordsInside X [.ref (b + 10)] (RP X LW b V) (some (.int out)) := by
  refine mt_head (cc := cX1_wordsInside) (maxL := 3) (ret := (some .int)) (own := RX1) (by decide) rfl rfl (Nat.le_of_ble_eq_true rfl) ?_
  intro p e s m below meth c ls F hr hlocks hnm hR hl
  have hx := F.1.1
  have hb := F.1.2.1
  have hl : lv_has ls 3 [(0, .ref (b + 10))] := hl
  unfold qX1_wordsInside at hE
  refine lv_iconst (v := 0) hx hb dX1_wordsInside_0 (by decide) ?_
  refine lv_istore_n (lv' := [(1, .int ((0 : Int32))), (0, .ref (b + 10))]) hx hb dX1_wordsInside_1 rfl hl (by decide) rfl (fun ls hl => ?_)
  refine lv_iconst (v := 0) hx hb dX1_wordsInside_2 (by decide) ?_
  refine lv_istore_n (lv' := [(2, .int ((0 : Int32))), (1, .int ((0 : Int32))), (0, .ref (b + 10))]) hx hb dX1_wordsInside_3 rfl hl (by decide) rfl (fun ls hl => ?_)
  obtain ⟨x6, hx6, hE⟩ := bd_el hE
  refine it_walk2 (body := lbX1_wordsInside_4 V) (Wh := fun s1 => ∀ (ls : Array Slot), lv_has ls 3 [(2, .int s1.2), (1, .int s1.1), (0, .ref (b + 10))] → W p l e rmX1_wordsInside s m ([.ref (b + 10)] : List Value).toArray below meth c s.heap [] 0 0 (MQ below (cQr (some (.int out))) ([.ref (b + 10)] : List Value).toArray s 0 0 (fun _ => False)) (F0 m 4 ls [])) (We := fun s5 => ∀ (ls : Array Slot), lv_has ls 3 [(2, .int s5.2), (1, .int s5.1), (0, .ref (b + 10))] → W p l e rmX1_wordsInside s m ([.ref (b + 10)] : List Value).toArray below meth c s.heap [] 0 0 (MQ below (cQr (some (.int out))) ([.ref (b + 10)] : List Value).toArray s 0 0 (fun _ => False)) (F0 m 31 ls [])) ?_ _ _ _ hx6 ?_ ls (lv_sub hl [0, 1, 2] rfl)
  · intro s1 r9 hE hL9 hR9 ls hl
    unfold lbX1_wordsInside_4 at hE
    refine lv_iload_n hx hb dX1_wordsInside_4 rfl (lv_at hl 0 rfl) ?_
    refine lv_iconst (v := 4) hx hb dX1_wordsInside_5 (by decide) ?_
    refine lv_icmp_ge (tgt := 31) hx hb dX1_wordsInside_6 (by decide) (fun c2 => ?_) (fun c2 => ?_)
    · have hE := (if_pos c2).symm.trans hE
      cases hE
      exact hR9 _ rfl ls (lv_sub hl [0, 1, 2] rfl)
    · have hE := (if_neg c2).symm.trans hE
      refine lv_iload_n hx hb dX1_wordsInside_9 rfl (lv_at hl 1 rfl) ?_
      refine lv_aload_n hx hb dX1_wordsInside_10 rfl (lv_at hl 2 rfl) ?_
      refine lv_iload_n hx hb dX1_wordsInside_11 rfl (lv_at hl 0 rfl) ?_
      obtain ⟨r3, er3, hE⟩ := lt_el hE
      refine rg_callRV (As := [.int s1.2]) (rest := [.int s1.1]) F (mX1_hasWord l X b V s1.2 r3 er3) (cwV 1 F.1.2.2.2.2 gX1_wordsInside_X1_hasWord rfl rfl rfl hvX1_hasWord ⟨Nat.le_of_ble_eq_true rfl, Nat.le_of_ble_eq_true rfl⟩) (rp_recv F hR 10 rfl (C := RX1) (T := TX1) (N := 8) rfl rfl) hR rfl hl.1 (Nat.le_of_ble_eq_true rfl) dX1_wordsInside_12 ⟨Nat.zero_le _, Nat.zero_le _⟩ rfl ?_
      refine lv_if_eq (tgt := 22) hx hb dX1_wordsInside_15 (by decide) (fun c4 => ?_) (fun c4 => ?_)
      · have hE := (if_pos c4).symm.trans hE
        refine lv_iconst (v := 0) hx hb dX1_wordsInside_22 (by decide) ?_
        refine lv_iadd hx hb dX1_wordsInside_23 ?_
        refine lv_istore_n (lv' := [(1, .int (s1.1 + ((0 : Int32)))), (2, .int s1.2), (0, .ref (b + 10))]) hx hb dX1_wordsInside_24 rfl hl (by decide) rfl (fun ls hl => ?_)
        refine lv_iinc (v := s1.2 + 1) (lv' := [(2, .int (s1.2 + 1)), (1, .int (s1.1 + ((0 : Int32)))), (0, .ref (b + 10))]) hx hb dX1_wordsInside_25 hl (k := 1) rfl (congrArg (fun q => s1.2 + q) (by decide)) (by decide) rfl (fun ls hl => ?_)
        refine lv_goto (tgt := 4) hx hb dX1_wordsInside_28 (by decide) ?_
        cases hE
        exact hL9 _ rfl ls (lv_sub hl [0, 1, 2] rfl)
      · have hE := (if_neg c4).symm.trans hE
        refine lv_iconst (v := 1) hx hb dX1_wordsInside_18 (by decide) ?_
        refine lv_goto (tgt := 23) hx hb dX1_wordsInside_19 (by decide) ?_
        refine lv_iadd hx hb dX1_wordsInside_23 ?_
        refine lv_istore_n (lv' := [(1, .int (s1.1 + ((1 : Int32)))), (2, .int s1.2), (0, .ref (b + 10))]) hx hb dX1_wordsInside_24 rfl hl (by decide) rfl (fun ls hl => ?_)
        refine lv_iinc (v := s1.2 + 1) (lv' := [(2, .int (s1.2 + 1)), (1, .int (s1.1 + ((1 : Int32)))), (0, .ref (b + 10))]) hx hb dX1_wordsInside_25 hl (k := 1) rfl (congrArg (fun q => s1.2 + q) (by decide)) (by decide) rfl (fun ls hl => ?_)
        refine lv_goto (tgt := 4) hx hb dX1_wordsInside_28 (by decide) ?_
        cases hE
        exact hL9 _ rfl ls (lv_sub hl [0, 1, 2] rfl)
  · intro ls hl
    refine lv_iload_n hx hb dX1_wordsInside_31 rfl (lv_at hl 1 rfl) ?_
    have hE := Option.some.inj hE
    subst hE
    exact W.iret (v := x6.1) hx hb hr (fun t ht _ => ⟨rfl, ht⟩) (fun _ h => absurd h List.not_mem_nil) dX1_wordsInside_32
set_option maxRecDepth 20000 in
theorem lkX1_gateWith_0 : Cond.fieldLink RX1 29 "TideWords$Gates" "held" "LTideWords$Cells;" ∈ wsX1_gateWith := by decide +kernel
set_option maxRecDepth 20000 in
theorem iwX1_gateWith_X1 : ∀ w ∈ wsX10, w ∈ wsX1_gateWith := by decide +kernel
def lbX1_gateWith_2 (V : Mem) (a1 : Int32) (s1 : Int32) : Option ((Int32) ⊕ ((Int32) ⊕ (Int32))) := if (4 : Int32) ≤ s1 then some (.inr (.inr s1)) else lt (cget 4 (V 20) s1) (fun r3 => if r3 = a1 then some (.inr (.inl (s1))) else some (.inl (s1 + 1)))
def qX1_gateWith (V : Mem) (a1 : Int32) : Option (Int32) := (it (lbX1_gateWith_2 V a1) fuel (0 : Int32)).bind (fun x6 => Sum.elim (fun r0 => some r0) (fun s5 => some ((-1006 : Int32))) x6)
abbrev rmX1_gateWith : Room := { frames := 1, cells := 0, slots := 0, locals := 21 }
set_option maxHeartbeats 4000000 in
set_option maxRecDepth 100000 in
theorem mX1_gateWith (l : Launch) (X : kX) (b : Nat) (V : Mem) (a1 : Int32) (out : Int32) (hE : qX1_gateWith V a1 = some out) : MR l yX1_gateWith wsX1_gateWith rmX1_gateWith X [.ref (b + 10), .int a1] (RP X LW b V) (some (.int out)) := by
  refine mt_head (cc := cX1_gateWith) (maxL := 3) (ret := (some .int)) (own := RX1) (by decide) rfl rfl (Nat.le_of_ble_eq_true rfl) ?_
  intro p e s m below meth c ls F hr hlocks hnm hR hl
  have hx := F.1.1
  have hb := F.1.2.1
  have hl : lv_has ls 3 [(0, .ref (b + 10)), (1, .int a1)] := hl
  unfold qX1_gateWith at hE
  refine lv_iconst (v := 0) hx hb dX1_gateWith_0 (by decide) ?_
  refine lv_istore_n (lv' := [(2, .int ((0 : Int32))), (0, .ref (b + 10)), (1, .int a1)]) hx hb dX1_gateWith_1 rfl hl (by decide) rfl (fun ls hl => ?_)
  obtain ⟨x6, hx6, hE⟩ := bd_el hE
  refine it_walk2 (body := lbX1_gateWith_2 V a1) (Wh := fun s1 => ∀ (ls : Array Slot), lv_has ls 3 [(2, .int s1), (0, .ref (b + 10)), (1, .int a1)] → W p l e rmX1_gateWith s m ([.ref (b + 10), .int a1] : List Value).toArray below meth c s.heap [] 0 0 (MQ below (cQr (some (.int out))) ([.ref (b + 10), .int a1] : List Value).toArray s 0 0 (fun _ => False)) (F0 m 2 ls [])) (We := fun x6 => (∀ r0, x6 = .inl r0 → r0 = out) ∧ (∀ s5, x6 = .inr s5 → ∀ (ls : Array Slot), lv_has ls 3 [(2, .int s5), (0, .ref (b + 10)), (1, .int a1)] → W p l e rmX1_gateWith s m ([.ref (b + 10), .int a1] : List Value).toArray below meth c s.heap [] 0 0 (MQ below (cQr (some (.int out))) ([.ref (b + 10), .int a1] : List Value).toArray s 0 0 (fun _ => False)) (F0 m 27 ls []))) ?_ _ _ _ hx6 ?_ ls (lv_sub hl [0, 1, 2] rfl)
  · intro s1 r9 hE hL9 hR9 ls hl
    unfold lbX1_gateWith_2 at hE
    refine lv_iload_n hx hb dX1_gateWith_2 rfl (lv_at hl 0 rfl) ?_
    refine lv_iconst (v := 4) hx hb dX1_gateWith_3 (by decide) ?_
    refine lv_icmp_ge (tgt := 27) hx hb dX1_gateWith_4 (by decide) (fun c2 => ?_) (fun c2 => ?_)
    · have hE := (if_pos c2).symm.trans hE
      cases hE
      exact (hR9 _ rfl).2 _ rfl ls (lv_sub hl [0, 1, 2] rfl)
    · have hE := (if_neg c2).symm.trans hE
      refine lv_aload_n hx hb dX1_gateWith_7 rfl (lv_at hl 1 rfl) ?_
      refine rg_getr F hR 10 (ci := 1) rfl (C := RX1) (T := TX1) (N := 8) rfl iwX1_gateWith_X1 4 (d := 9) (n := 19) rfl rfl (by decide) rfl lkX1_gateWith_0 rfl dX1_gateWith_8 ?_
      refine lv_iload_n hx hb dX1_gateWith_11 rfl (lv_at hl 0 rfl) ?_
      obtain ⟨r3, er3, hE⟩ := lt_el hE
      refine rg_callRV (As := [.int s1]) (rest := []) F (kX0_get l X 4 (by decide) (b + 19) (gv V 19) s1 r3 er3) (cwV 1 F.1.2.2.2.2 gX1_gateWith_X0_get rfl rfl rfl hvX0_get ⟨Nat.le_of_ble_eq_true rfl, Nat.le_of_ble_eq_true rfl⟩) (rp_recv F hR 19 rfl (C := RX0) (T := TX0) (N := 1) rfl rfl) (hR.sub 19 sb_LW_19_LC4) rfl hl.1 (Nat.le_of_ble_eq_true rfl) dX1_gateWith_12 ⟨Nat.zero_le _, Nat.zero_le _⟩ rfl ?_
      refine lv_iload_n hx hb dX1_gateWith_15 rfl (lv_at hl 2 rfl) ?_
      refine lv_icmp_ne (tgt := 21) hx hb dX1_gateWith_16 (by decide) (fun c4 => ?_) (fun c4 => ?_)
      · have hE := (if_neg c4).symm.trans hE
        refine lv_iinc (v := s1 + 1) (lv' := [(2, .int (s1 + 1)), (0, .ref (b + 10)), (1, .int a1)]) hx hb dX1_gateWith_21 hl (k := 0) rfl (congrArg (fun q => s1 + q) (by decide)) (by decide) rfl (fun ls hl => ?_)
        refine lv_goto (tgt := 2) hx hb dX1_gateWith_24 (by decide) ?_
        cases hE
        exact hL9 _ rfl ls (lv_sub hl [0, 1, 2] rfl)
      · have hE := (if_pos c4).symm.trans hE
        refine lv_iload_n hx hb dX1_gateWith_19 rfl (lv_at hl 0 rfl) ?_
        cases hE
        have hE := (hR9 _ rfl).1 _ rfl
        subst hE
        exact W.iret (v := s1) hx hb hr (fun t ht _ => ⟨rfl, ht⟩) (fun _ h => absurd h List.not_mem_nil) dX1_gateWith_20
  · refine ⟨fun r0 h9 => ?_, fun s5 h9 => ?_⟩
    · subst h9
      exact Option.some.inj hE
    · subst h9
      have hE := sel_r hE
      intro ls hl
      refine lv_sipush (v := (-1006)) hx hb dX1_gateWith_27 (by decide) ?_
      have hE := Option.some.inj hE
      subst hE
      exact W.iret (v := (-1006 : Int32)) hx hb hr (fun t ht _ => ⟨rfl, ht⟩) (fun _ h => absurd h List.not_mem_nil) dX1_gateWith_30
theorem hasWord_01 (V : Mem) (a1 : Int32) : fX1_hasWord V a1 = 0 ∨ fX1_hasWord V a1 = 1 := by
  unfold fX1_hasWord lt
  by_cases h : cget 4 (V 20) a1 = (-1006 : Int32)
  · exact Or.inl (if_pos h)
  · exact Or.inr (if_neg h)
theorem one_ne0 : ¬ (1 : Int32) = 0 := by decide
def fX1_wordsInside (V : Mem) : Int32 := csum 4 (fun i => fX1_hasWord V (nI i))
theorem ge4 {i : Nat} (h : i < 4) : ¬ (4 : Int32) ≤ nI i := nI_ge (b := 4) h (by decide)
theorem tX1_wordsInside (V : Mem) : qX1_wordsInside V = some (fX1_wordsInside V) := by
  have h : it (lbX1_wordsInside_4 V) fuel ((0 : Int32), (0 : Int32)) = some (fX1_wordsInside V, nI 4) := by
    refine it_for (fun i => (csum i (fun i => fX1_hasWord V (nI i)), nI i)) 4 (fun i hi => ?_) ?_ fuel (fuel_lt (by omega))
    · have h1 : i < 2 ^ 31 := by omega
      unfold lbX1_wordsInside_4 lt
      dsimp only
      rw [if_neg (ge4 hi), nI_1]
      rcases hasWord_01 V (nI i) with h | h
      · rw [h, if_pos rfl]
        show _ = some (Sum.inl (csum i _ + fX1_hasWord V (nI i), nI (i + 1)))
        rw [h]
      · rw [h, if_neg one_ne0]
        show _ = some (Sum.inl (csum i _ + fX1_hasWord V (nI i), nI (i + 1)))
        rw [h]
    · unfold lbX1_wordsInside_4
      dsimp only
      rw [if_pos (show (4 : Int32) ≤ nI 4 from nI_le (Nat.le_refl _) (by omega))]
      rfl
  unfold qX1_wordsInside
  rw [h]
  rfl
def fX1_gateWith (V : Mem) (a1 : Int32) : Int32 := fnd (fun i => decide (cget 4 (V 20) (nI i) = a1)) 4
theorem tX1_gateWith (V : Mem) (a1 : Int32) : qX1_gateWith V a1 = some (fX1_gateWith V a1) := by
  have h : it (lbX1_gateWith_2 V a1) fuel (0 : Int32) = some ((fndO (fun i => decide (cget 4 (V 20) (nI i) = a1)) 4 0).elim (Sum.inr (nI 4)) (fun i => Sum.inl (nI i))) := by
    refine it_fnd (fun i => nI i) _ (fun i => Sum.inl (nI i)) _ 4 (fun i hi => ?_) ?_ fuel (fuel_lt (by omega))
    · unfold lbX1_gateWith_2 lt
      rw [if_neg (ge4 hi), nI_1]
      by_cases h : cget 4 (V 20) (nI i) = a1
      · simp only [h, decide_true, if_true]
      · simp only [h, decide_false, if_false, Bool.false_eq_true]
    · unfold lbX1_gateWith_2
      rw [if_pos (show (4 : Int32) ≤ nI 4 from nI_le (Nat.le_refl _) (by omega))]
  unfold qX1_gateWith fX1_gateWith fnd
  rw [h]
  cases fndO (fun i => decide (cget 4 (V 20) (nI i) = a1)) 4 0 <;> rfl

theorem kX1_wordsInside (l : Launch) (X : kX) (b : Nat) (V : Mem) (out : Int32) (hE : fX1_wordsInside V = out) : MR l yX1_wordsInside wsX1_wordsInside rmX1_wordsInside X [.ref (b + 10)] (RP X LW b V) (some (.int out)) := mX1_wordsInside l X b V out ((tX1_wordsInside V).trans (congrArg some hE))
theorem kX1_gateWith (l : Launch) (X : kX) (b : Nat) (V : Mem) (a1 : Int32) (out : Int32) (hE : fX1_gateWith V a1 = out) : MR l yX1_gateWith wsX1_gateWith rmX1_gateWith X [.ref (b + 10), .int a1] (RP X LW b V) (some (.int out)) := mX1_gateWith l X b V a1 out ((tX1_gateWith V a1).trans (congrArg some hE))
end
section
set_option maxRecDepth 20000 in
theorem lkX4_letterOf_0 : Cond.fieldLink RX4 14 "TideWords$Words" "lengths" "LTideWords$Cells;" ∈ wsX4_letterOf := by decide +kernel
set_option maxRecDepth 20000 in
theorem iwX4_letterOf_X4 : ∀ w ∈ wsX40, w ∈ wsX4_letterOf := by decide +kernel
set_option maxRecDepth 20000 in
theorem sb_LW_28_LC12 : sbL LW 28 (LC 12) := sbl_of rfl
set_option maxRecDepth 20000 in
theorem lkX4_letterOf_1 : Cond.fieldLink RX4 20 "TideWords$Words" "letters" "LTideWords$Cells;" ∈ wsX4_letterOf := by decide +kernel
set_option maxRecDepth 20000 in
theorem sb_LW_30_LC72 : sbL LW 30 (LC 72) := sbl_of rfl
def fX4_letterOf (V : Mem) (a1 : Int32) (a2 : Int32) : Int32 := if a2 < 0 then (-1006 : Int32) else lt (cget 12 (V 29) a1) (fun r2 => if r2 ≤ a2 then (-1006 : Int32) else lt (cget 72 (V 31) ((a1 * ((6 : Int32))) + a2)) (fun r4 => r4))
abbrev rmX4_letterOf : Room := { frames := 1, cells := 0, slots := 0, locals := 21 }
set_option maxHeartbeats 4000000 in
set_option maxRecDepth 100000 in
theorem mX4_letterOf (l : Launch) (X : kX) (b : Nat) (V : Mem) (a1 : Int32) (a2 : Int32) (out : Int32) (hE : fX4_letterOf V a1 a2 = out) : MR l yX4_letterOf wsX4_letterOf rmX4_letterOf X [.ref (b + 27), .int a1, .int a2] (RP X LW b V) (some (.int out)) := by
  refine mt_head (cc := cX4_letterOf) (maxL := 4) (ret := (some .int)) (own := RX4) (by decide) rfl rfl (Nat.le_of_ble_eq_true rfl) ?_
  intro p e s m below meth c ls F hr hlocks hnm hR hl
  have hx := F.1.1
  have hb := F.1.2.1
  have hl : lv_has ls 4 [(0, .ref (b + 27)), (1, .int a1), (2, .int a2)] := hl
  unfold fX4_letterOf at hE
  refine lv_iload_n hx hb dX4_letterOf_0 rfl (lv_at hl 2 rfl) ?_
  refine lv_if_lt (tgt := 20) hx hb dX4_letterOf_1 (by decide) (fun c1 => ?_) (fun c1 => ?_)
  · have hE := (if_pos c1).symm.trans hE
    refine lv_iconst (v := 0) hx hb dX4_letterOf_20 (by decide) ?_
    refine lv_istore_n (lv' := [(3, .int ((0 : Int32))), (0, .ref (b + 27)), (1, .int a1), (2, .int a2)]) hx hb dX4_letterOf_21 rfl hl (by decide) rfl (fun ls hl => ?_)
    refine lv_iload_n hx hb dX4_letterOf_22 rfl (lv_at hl 0 rfl) ?_
    refine lv_if_eq (tgt := 42) hx hb dX4_letterOf_23 (by decide) (fun _ => ?_) (fun c => absurd c (by decide))
    refine lv_sipush (v := (-1006)) hx hb dX4_letterOf_42 (by decide) ?_
    subst hE
    exact W.iret (v := (-1006 : Int32)) hx hb hr (fun t ht _ => ⟨rfl, ht⟩) (fun _ h => absurd h List.not_mem_nil) dX4_letterOf_45
  · have hE := (if_neg c1).symm.trans hE
    refine lv_iload_n hx hb dX4_letterOf_4 rfl (lv_at hl 2 rfl) ?_
    refine lv_aload_n hx hb dX4_letterOf_5 rfl (lv_at hl 0 rfl) ?_
    refine rg_getr F hR 27 (ci := 4) rfl (C := RX4) (T := TX4) (N := 8) rfl iwX4_letterOf_X4 0 (d := 1) (n := 28) rfl rfl (by decide) rfl lkX4_letterOf_0 rfl dX4_letterOf_6 ?_
    refine lv_iload_n hx hb dX4_letterOf_9 rfl (lv_at hl 1 rfl) ?_
    obtain ⟨r2, er2, hE⟩ := lt_el hE
    refine rg_callRV (As := [.int a1]) (rest := [.int a2]) F (kX0_get l X 12 (by decide) (b + 28) (gv V 28) a1 r2 er2) (cwV 1 F.1.2.2.2.2 gX4_letterOf_X0_get rfl rfl rfl hvX0_get ⟨Nat.le_of_ble_eq_true rfl, Nat.le_of_ble_eq_true rfl⟩) (rp_recv F hR 28 rfl (C := RX0) (T := TX0) (N := 1) rfl rfl) (hR.sub 28 sb_LW_28_LC12) rfl hl.1 (Nat.le_of_ble_eq_true rfl) dX4_letterOf_10 ⟨Nat.zero_le _, Nat.zero_le _⟩ rfl ?_
    refine lv_icmp_ge (tgt := 20) hx hb dX4_letterOf_13 (by decide) (fun c3 => ?_) (fun c3 => ?_)
    · have hE := (if_pos c3).symm.trans hE
      refine lv_iconst (v := 0) hx hb dX4_letterOf_20 (by decide) ?_
      refine lv_istore_n (lv' := [(3, .int ((0 : Int32))), (0, .ref (b + 27)), (1, .int a1), (2, .int a2)]) hx hb dX4_letterOf_21 rfl hl (by decide) rfl (fun ls hl => ?_)
      refine lv_iload_n hx hb dX4_letterOf_22 rfl (lv_at hl 0 rfl) ?_
      refine lv_if_eq (tgt := 42) hx hb dX4_letterOf_23 (by decide) (fun _ => ?_) (fun c => absurd c (by decide))
      refine lv_sipush (v := (-1006)) hx hb dX4_letterOf_42 (by decide) ?_
      subst hE
      exact W.iret (v := (-1006 : Int32)) hx hb hr (fun t ht _ => ⟨rfl, ht⟩) (fun _ h => absurd h List.not_mem_nil) dX4_letterOf_45
    · have hE := (if_neg c3).symm.trans hE
      refine lv_iconst (v := 1) hx hb dX4_letterOf_16 (by decide) ?_
      refine lv_goto (tgt := 21) hx hb dX4_letterOf_17 (by decide) ?_
      refine lv_istore_n (lv' := [(3, .int ((1 : Int32))), (0, .ref (b + 27)), (1, .int a1), (2, .int a2)]) hx hb dX4_letterOf_21 rfl hl (by decide) rfl (fun ls hl => ?_)
      refine lv_iload_n hx hb dX4_letterOf_22 rfl (lv_at hl 0 rfl) ?_
      refine lv_if_eq (tgt := 42) hx hb dX4_letterOf_23 (by decide) (fun c => absurd c (by decide)) (fun _ => ?_)
      refine lv_aload_n hx hb dX4_letterOf_26 rfl (lv_at hl 1 rfl) ?_
      refine rg_getr F hR 27 (ci := 4) rfl (C := RX4) (T := TX4) (N := 8) rfl iwX4_letterOf_X4 1 (d := 3) (n := 30) rfl rfl (by decide) rfl lkX4_letterOf_1 rfl dX4_letterOf_27 ?_
      refine lv_iload_n hx hb dX4_letterOf_30 rfl (lv_at hl 2 rfl) ?_
      refine lv_bipush (v := 6) hx hb dX4_letterOf_31 (by decide) ?_
      refine lv_imul hx hb dX4_letterOf_33 ?_
      refine lv_iload_n hx hb dX4_letterOf_34 rfl (lv_at hl 3 rfl) ?_
      refine lv_iadd hx hb dX4_letterOf_35 ?_
      obtain ⟨r4, er4, hE⟩ := lt_el hE
      refine rg_callRV (As := [.int ((a1 * ((6 : Int32))) + a2)]) (rest := []) F (kX0_get l X 72 (by decide) (b + 30) (gv V 30) ((a1 * ((6 : Int32))) + a2) r4 er4) (cwV 1 F.1.2.2.2.2 gX4_letterOf_X0_get rfl rfl rfl hvX0_get ⟨Nat.le_of_ble_eq_true rfl, Nat.le_of_ble_eq_true rfl⟩) (rp_recv F hR 30 rfl (C := RX0) (T := TX0) (N := 1) rfl rfl) (hR.sub 30 sb_LW_30_LC72) rfl hl.1 (Nat.le_of_ble_eq_true rfl) dX4_letterOf_36 ⟨Nat.zero_le _, Nat.zero_le _⟩ rfl ?_
      refine lv_goto (tgt := 45) hx hb dX4_letterOf_39 (by decide) ?_
      subst hE
      exact W.iret (v := r4) hx hb hr (fun t ht _ => ⟨rfl, ht⟩) (fun _ h => absurd h List.not_mem_nil) dX4_letterOf_45
set_option maxRecDepth 20000 in
theorem lkX4_hasPassed_0 : Cond.fieldLink RX4 23 "TideWords$Words" "passedSteps" "LTideWords$Cells;" ∈ wsX4_hasPassed := by decide +kernel
set_option maxRecDepth 20000 in
theorem iwX4_hasPassed_X4 : ∀ w ∈ wsX40, w ∈ wsX4_hasPassed := by decide +kernel
set_option maxRecDepth 20000 in
theorem sb_LW_32_LC12 : sbL LW 32 (LC 12) := sbl_of rfl
def fX4_hasPassed (V : Mem) (a1 : Int32) : Int32 := lt (cget 12 (V 33) a1) (fun r1 => if r1 = (-1006 : Int32) then (0 : Int32) else (1 : Int32))
abbrev rmX4_hasPassed : Room := { frames := 1, cells := 0, slots := 0, locals := 21 }
set_option maxHeartbeats 4000000 in
set_option maxRecDepth 100000 in
theorem mX4_hasPassed (l : Launch) (X : kX) (b : Nat) (V : Mem) (a1 : Int32) (out : Int32) (hE : fX4_hasPassed V a1 = out) : MR l yX4_hasPassed wsX4_hasPassed rmX4_hasPassed X [.ref (b + 27), .int a1] (RP X LW b V) (some (.int out)) := by
  refine mt_head (cc := cX4_hasPassed) (maxL := 2) (ret := (some .boolean)) (own := RX4) (by decide) rfl rfl (Nat.le_of_ble_eq_true rfl) ?_
  intro p e s m below meth c ls F hr hlocks hnm hR hl
  have hx := F.1.1
  have hb := F.1.2.1
  have hl : lv_has ls 2 [(0, .ref (b + 27)), (1, .int a1)] := hl
  unfold fX4_hasPassed at hE
  refine lv_aload_n hx hb dX4_hasPassed_0 rfl (lv_at hl 0 rfl) ?_
  refine rg_getr F hR 27 (ci := 4) rfl (C := RX4) (T := TX4) (N := 8) rfl iwX4_hasPassed_X4 2 (d := 5) (n := 32) rfl rfl (by decide) rfl lkX4_hasPassed_0 rfl dX4_hasPassed_1 ?_
  refine lv_iload_n hx hb dX4_hasPassed_4 rfl (lv_at hl 1 rfl) ?_
  obtain ⟨r1, er1, hE⟩ := lt_el hE
  refine rg_callRV (As := [.int a1]) (rest := []) F (kX0_get l X 12 (by decide) (b + 32) (gv V 32) a1 r1 er1) (cwV 1 F.1.2.2.2.2 gX4_hasPassed_X0_get rfl rfl rfl hvX0_get ⟨Nat.le_of_ble_eq_true rfl, Nat.le_of_ble_eq_true rfl⟩) (rp_recv F hR 32 rfl (C := RX0) (T := TX0) (N := 1) rfl rfl) (hR.sub 32 sb_LW_32_LC12) rfl hl.1 (Nat.le_of_ble_eq_true rfl) dX4_hasPassed_5 ⟨Nat.zero_le _, Nat.zero_le _⟩ rfl ?_
  refine lv_sipush (v := (-1006)) hx hb dX4_hasPassed_8 (by decide) ?_
  refine lv_icmp_eq (tgt := 18) hx hb dX4_hasPassed_11 (by decide) (fun c2 => ?_) (fun c2 => ?_)
  · have hE := (if_pos c2).symm.trans hE
    refine lv_iconst (v := 0) hx hb dX4_hasPassed_18 (by decide) ?_
    subst hE
    exact W.zret (v := (0 : Int32)) hx hb hr rfl (fun t ht _ => ⟨rfl, ht⟩) (fun _ h => absurd h List.not_mem_nil) dX4_hasPassed_19
  · have hE := (if_neg c2).symm.trans hE
    refine lv_iconst (v := 1) hx hb dX4_hasPassed_14 (by decide) ?_
    refine lv_goto (tgt := 19) hx hb dX4_hasPassed_15 (by decide) ?_
    subst hE
    exact W.zret (v := (1 : Int32)) hx hb hr rfl (fun t ht _ => ⟨rfl, ht⟩) (fun _ h => absurd h List.not_mem_nil) dX4_hasPassed_19
set_option maxRecDepth 20000 in
theorem lkX4_wordAt_0 : Cond.fieldLink RX4 32 "TideWords$Words" "rows" "LTideWords$Cells;" ∈ wsX4_wordAt := by decide +kernel
set_option maxRecDepth 20000 in
theorem iwX4_wordAt_X4 : ∀ w ∈ wsX40, w ∈ wsX4_wordAt := by decide +kernel
set_option maxRecDepth 20000 in
theorem sb_LW_38_LC24 : sbL LW 38 (LC 24) := sbl_of rfl
def fX4_wordAt (V : Mem) (a1 : Int32) (a2 : Int32) : Int32 := lt (cget 24 (V 39) ((a1 * ((12 : Int32))) + a2)) (fun r1 => r1)
abbrev rmX4_wordAt : Room := { frames := 1, cells := 0, slots := 0, locals := 21 }
set_option maxHeartbeats 4000000 in
set_option maxRecDepth 100000 in
theorem mX4_wordAt (l : Launch) (X : kX) (b : Nat) (V : Mem) (a1 : Int32) (a2 : Int32) (out : Int32) (hE : fX4_wordAt V a1 a2 = out) : MR l yX4_wordAt wsX4_wordAt rmX4_wordAt X [.ref (b + 27), .int a1, .int a2] (RP X LW b V) (some (.int out)) := by
  refine mt_head (cc := cX4_wordAt) (maxL := 3) (ret := (some .int)) (own := RX4) (by decide) rfl rfl (Nat.le_of_ble_eq_true rfl) ?_
  intro p e s m below meth c ls F hr hlocks hnm hR hl
  have hx := F.1.1
  have hb := F.1.2.1
  have hl : lv_has ls 3 [(0, .ref (b + 27)), (1, .int a1), (2, .int a2)] := hl
  unfold fX4_wordAt at hE
  refine lv_aload_n hx hb dX4_wordAt_0 rfl (lv_at hl 0 rfl) ?_
  refine rg_getr F hR 27 (ci := 4) rfl (C := RX4) (T := TX4) (N := 8) rfl iwX4_wordAt_X4 5 (d := 11) (n := 38) rfl rfl (by decide) rfl lkX4_wordAt_0 rfl dX4_wordAt_1 ?_
  refine lv_iload_n hx hb dX4_wordAt_4 rfl (lv_at hl 1 rfl) ?_
  refine lv_bipush (v := 12) hx hb dX4_wordAt_5 (by decide) ?_
  refine lv_imul hx hb dX4_wordAt_7 ?_
  refine lv_iload_n hx hb dX4_wordAt_8 rfl (lv_at hl 2 rfl) ?_
  refine lv_iadd hx hb dX4_wordAt_9 ?_
  obtain ⟨r1, er1, hE⟩ := lt_el hE
  refine rg_callRV (As := [.int ((a1 * ((12 : Int32))) + a2)]) (rest := []) F (kX0_get l X 24 (by decide) (b + 38) (gv V 38) ((a1 * ((12 : Int32))) + a2) r1 er1) (cwV 1 F.1.2.2.2.2 gX4_wordAt_X0_get rfl rfl rfl hvX0_get ⟨Nat.le_of_ble_eq_true rfl, Nat.le_of_ble_eq_true rfl⟩) (rp_recv F hR 38 rfl (C := RX0) (T := TX0) (N := 1) rfl rfl) (hR.sub 38 sb_LW_38_LC24) rfl hl.1 (Nat.le_of_ble_eq_true rfl) dX4_wordAt_10 ⟨Nat.zero_le _, Nat.zero_le _⟩ rfl ?_
  subst hE
  exact W.iret (v := r1) hx hb hr (fun t ht _ => ⟨rfl, ht⟩) (fun _ h => absurd h List.not_mem_nil) dX4_wordAt_13
set_option maxRecDepth 20000 in
theorem lkX4_placeIn_0 : Cond.fieldLink RX4 35 "TideWords$Words" "rowLengths" "LTideWords$Cells;" ∈ wsX4_placeIn := by decide +kernel
set_option maxRecDepth 20000 in
theorem iwX4_placeIn_X4 : ∀ w ∈ wsX40, w ∈ wsX4_placeIn := by decide +kernel
set_option maxRecDepth 20000 in
theorem sb_LW_40_LC2 : sbL LW 40 (LC 2) := sbl_of rfl
theorem hvX4_wordAt : yX4_wordAt.cls = RX4 ∧ yX4_wordAt.cls ≠ "java/lang/invoke/MethodHandle" ∧ yX4_wordAt.cls ≠ "java/lang/invoke/VarHandle" ∧ (parseMethodDescriptor yX4_wordAt.desc).map (fun d => d.parameters.length) = some 2 := by decide +kernel
def lbX4_placeIn_12 (V : Mem) (a1 : Int32) (a2 : Int32) (r1 : Int32) (s2 : Int32) : Option ((Int32) ⊕ ((Int32) ⊕ (Int32))) := if r1 ≤ s2 then some (.inr (.inr s2)) else lt (fX4_wordAt V a1 s2) (fun r4 => if r4 = a2 then some (.inr (.inl (s2))) else some (.inl (s2 + 1)))
def qX4_placeIn (V : Mem) (a1 : Int32) (a2 : Int32) : Option (Int32) := lt (cget 2 (V 41) a1) (fun r1 => (it (lbX4_placeIn_12 V a1 a2 r1) fuel (0 : Int32)).bind (fun x7 => Sum.elim (fun r0 => some r0) (fun s6 => some ((-1006 : Int32))) x7))
abbrev rmX4_placeIn : Room := { frames := 2, cells := 0, slots := 0, locals := 43 }
set_option maxHeartbeats 4000000 in
set_option maxRecDepth 100000 in
theorem mX4_placeIn (l : Launch) (X : kX) (b : Nat) (V : Mem) (a1 : Int32) (a2 : Int32) (out : Int32) (hE : qX4_placeIn V a1 a2 = some out) : MR l yX4_placeIn wsX4_placeIn rmX4_placeIn X [.ref (b + 27), .int a1, .int a2] (RP X LW b V) (some (.int out)) := by
  refine mt_head (cc := cX4_placeIn) (maxL := 5) (ret := (some .int)) (own := RX4) (by decide) rfl rfl (Nat.le_of_ble_eq_true rfl) ?_
  intro p e s m below meth c ls F hr hlocks hnm hR hl
  have hx := F.1.1
  have hb := F.1.2.1
  have hl : lv_has ls 5 [(0, .ref (b + 27)), (1, .int a1), (2, .int a2)] := hl
  unfold qX4_placeIn at hE
  refine lv_aload_n hx hb dX4_placeIn_0 rfl (lv_at hl 0 rfl) ?_
  refine rg_getr F hR 27 (ci := 4) rfl (C := RX4) (T := TX4) (N := 8) rfl iwX4_placeIn_X4 6 (d := 13) (n := 40) rfl rfl (by decide) rfl lkX4_placeIn_0 rfl dX4_placeIn_1 ?_
  refine lv_iload_n hx hb dX4_placeIn_4 rfl (lv_at hl 1 rfl) ?_
  obtain ⟨r1, er1, hE⟩ := lt_el hE
  refine rg_callRV (As := [.int a1]) (rest := []) F (kX0_get l X 2 (by decide) (b + 40) (gv V 40) a1 r1 er1) (cwV 1 F.1.2.2.2.2 gX4_placeIn_X0_get rfl rfl rfl hvX0_get ⟨Nat.le_of_ble_eq_true rfl, Nat.le_of_ble_eq_true rfl⟩) (rp_recv F hR 40 rfl (C := RX0) (T := TX0) (N := 1) rfl rfl) (hR.sub 40 sb_LW_40_LC2) rfl hl.1 (Nat.le_of_ble_eq_true rfl) dX4_placeIn_5 ⟨Nat.zero_le _, Nat.zero_le _⟩ rfl ?_
  refine lv_istore_n (lv' := [(3, .int r1), (0, .ref (b + 27)), (1, .int a1), (2, .int a2)]) hx hb dX4_placeIn_8 rfl hl (by decide) rfl (fun ls hl => ?_)
  refine lv_iconst (v := 0) hx hb dX4_placeIn_9 (by decide) ?_
  refine lv_istore (lv' := [(4, .int ((0 : Int32))), (3, .int r1), (0, .ref (b + 27)), (1, .int a1), (2, .int a2)]) hx hb dX4_placeIn_10 hl (by decide) rfl (fun ls hl => ?_)
  obtain ⟨x7, hx7, hE⟩ := bd_el hE
  refine it_walk2 (body := lbX4_placeIn_12 V a1 a2 r1) (Wh := fun s2 => ∀ (ls : Array Slot), lv_has ls 5 [(4, .int s2), (3, .int r1), (0, .ref (b + 27)), (1, .int a1), (2, .int a2)] → W p l e rmX4_placeIn s m ([.ref (b + 27), .int a1, .int a2] : List Value).toArray below meth c s.heap [] 0 0 (MQ below (cQr (some (.int out))) ([.ref (b + 27), .int a1, .int a2] : List Value).toArray s 0 0 (fun _ => False)) (F0 m 12 ls [])) (We := fun x7 => (∀ r0, x7 = .inl r0 → r0 = out) ∧ (∀ s6, x7 = .inr s6 → ∀ (ls : Array Slot), lv_has ls 5 [(4, .int s6), (3, .int r1), (0, .ref (b + 27)), (1, .int a1), (2, .int a2)] → W p l e rmX4_placeIn s m ([.ref (b + 27), .int a1, .int a2] : List Value).toArray below meth c s.heap [] 0 0 (MQ below (cQr (some (.int out))) ([.ref (b + 27), .int a1, .int a2] : List Value).toArray s 0 0 (fun _ => False)) (F0 m 38 ls []))) ?_ _ _ _ hx7 ?_ ls (lv_sub hl [0, 1, 2, 3, 4] rfl)
  · intro s2 r9 hE hL9 hR9 ls hl
    unfold lbX4_placeIn_12 at hE
    refine lv_iload hx hb dX4_placeIn_12 (lv_at hl 0 rfl) ?_
    refine lv_iload_n hx hb dX4_placeIn_14 rfl (lv_at hl 1 rfl) ?_
    refine lv_icmp_ge (tgt := 38) hx hb dX4_placeIn_15 (by decide) (fun c3 => ?_) (fun c3 => ?_)
    · have hE := (if_pos c3).symm.trans hE
      cases hE
      exact (hR9 _ rfl).2 _ rfl ls (lv_sub hl [0, 1, 2, 3, 4] rfl)
    · have hE := (if_neg c3).symm.trans hE
      refine lv_aload_n hx hb dX4_placeIn_18 rfl (lv_at hl 2 rfl) ?_
      refine lv_iload_n hx hb dX4_placeIn_19 rfl (lv_at hl 3 rfl) ?_
      refine lv_iload hx hb dX4_placeIn_20 (lv_at hl 0 rfl) ?_
      obtain ⟨r4, er4, hE⟩ := lt_el hE
      refine rg_callRV (As := [.int a1, .int s2]) (rest := []) F (mX4_wordAt l X b V a1 s2 r4 er4) (cwV 2 F.1.2.2.2.2 gX4_placeIn_X4_wordAt rfl rfl rfl hvX4_wordAt ⟨Nat.le_of_ble_eq_true rfl, Nat.le_of_ble_eq_true rfl⟩) (rp_recv F hR 27 rfl (C := RX4) (T := TX4) (N := 8) rfl rfl) hR rfl hl.1 (Nat.le_of_ble_eq_true rfl) dX4_placeIn_22 ⟨Nat.zero_le _, Nat.zero_le _⟩ rfl ?_
      refine lv_iload_n hx hb dX4_placeIn_25 rfl (lv_at hl 4 rfl) ?_
      refine lv_icmp_ne (tgt := 32) hx hb dX4_placeIn_26 (by decide) (fun c5 => ?_) (fun c5 => ?_)
      · have hE := (if_neg c5).symm.trans hE
        refine lv_iinc (v := s2 + 1) (lv' := [(4, .int (s2 + 1)), (3, .int r1), (0, .ref (b + 27)), (1, .int a1), (2, .int a2)]) hx hb dX4_placeIn_32 hl (k := 0) rfl (congrArg (fun q => s2 + q) (by decide)) (by decide) rfl (fun ls hl => ?_)
        refine lv_goto (tgt := 12) hx hb dX4_placeIn_35 (by decide) ?_
        cases hE
        exact hL9 _ rfl ls (lv_sub hl [0, 1, 2, 3, 4] rfl)
      · have hE := (if_pos c5).symm.trans hE
        refine lv_iload hx hb dX4_placeIn_29 (lv_at hl 0 rfl) ?_
        cases hE
        have hE := (hR9 _ rfl).1 _ rfl
        subst hE
        exact W.iret (v := s2) hx hb hr (fun t ht _ => ⟨rfl, ht⟩) (fun _ h => absurd h List.not_mem_nil) dX4_placeIn_31
  · refine ⟨fun r0 h9 => ?_, fun s6 h9 => ?_⟩
    · subst h9
      exact Option.some.inj hE
    · subst h9
      have hE := sel_r hE
      intro ls hl
      refine lv_sipush (v := (-1006)) hx hb dX4_placeIn_38 (by decide) ?_
      have hE := Option.some.inj hE
      subst hE
      exact W.iret (v := (-1006 : Int32)) hx hb hr (fun t ht _ => ⟨rfl, ht⟩) (fun _ h => absurd h List.not_mem_nil) dX4_placeIn_41
set_option maxRecDepth 20000 in
theorem lkX4_lettersInRow_0 : Cond.fieldLink RX4 35 "TideWords$Words" "rowLengths" "LTideWords$Cells;" ∈ wsX4_lettersInRow := by decide +kernel
set_option maxRecDepth 20000 in
theorem iwX4_lettersInRow_X4 : ∀ w ∈ wsX40, w ∈ wsX4_lettersInRow := by decide +kernel
set_option maxRecDepth 20000 in
theorem lkX4_lettersInRow_1 : Cond.fieldLink RX4 14 "TideWords$Words" "lengths" "LTideWords$Cells;" ∈ wsX4_lettersInRow := by decide +kernel
def lbX4_lettersInRow_14 (V : Mem) (a1 : Int32) (r1 : Int32) (s2 : Int32 × Int32) : Option ((Int32 × Int32) ⊕ (Int32 × Int32)) := if r1 ≤ s2.2 then some (.inr (s2.1, s2.2)) else lt (fX4_wordAt V a1 s2.2) (fun r4 => lt (cget 12 (V 29) r4) (fun r5 => some (.inl (s2.1 + r5, s2.2 + 1))))
def qX4_lettersInRow (V : Mem) (a1 : Int32) : Option (Int32) := lt (cget 2 (V 41) a1) (fun r1 => (it (lbX4_lettersInRow_14 V a1 r1) fuel ((0 : Int32), (0 : Int32))).bind (fun s6 => some (s6.1)))
abbrev rmX4_lettersInRow : Room := { frames := 2, cells := 0, slots := 0, locals := 43 }
set_option maxHeartbeats 4000000 in
set_option maxRecDepth 100000 in
theorem mX4_lettersInRow (l : Launch) (X : kX) (b : Nat) (V : Mem) (a1 : Int32) (out : Int32) (hE : qX4_lettersInRow V a1 = some out) : MR l yX4_lettersInRow wsX4_lettersInRow rmX4_lettersInRow X [.ref (b + 27), .int a1] (RP X LW b V) (some (.int out)) := by
  refine mt_head (cc := cX4_lettersInRow) (maxL := 5) (ret := (some .int)) (own := RX4) (by decide) rfl rfl (Nat.le_of_ble_eq_true rfl) ?_
  intro p e s m below meth c ls F hr hlocks hnm hR hl
  have hx := F.1.1
  have hb := F.1.2.1
  have hl : lv_has ls 5 [(0, .ref (b + 27)), (1, .int a1)] := hl
  unfold qX4_lettersInRow at hE
  refine lv_aload_n hx hb dX4_lettersInRow_0 rfl (lv_at hl 0 rfl) ?_
  refine rg_getr F hR 27 (ci := 4) rfl (C := RX4) (T := TX4) (N := 8) rfl iwX4_lettersInRow_X4 6 (d := 13) (n := 40) rfl rfl (by decide) rfl lkX4_lettersInRow_0 rfl dX4_lettersInRow_1 ?_
  refine lv_iload_n hx hb dX4_lettersInRow_4 rfl (lv_at hl 1 rfl) ?_
  obtain ⟨r1, er1, hE⟩ := lt_el hE
  refine rg_callRV (As := [.int a1]) (rest := []) F (kX0_get l X 2 (by decide) (b + 40) (gv V 40) a1 r1 er1) (cwV 1 F.1.2.2.2.2 gX4_lettersInRow_X0_get rfl rfl rfl hvX0_get ⟨Nat.le_of_ble_eq_true rfl, Nat.le_of_ble_eq_true rfl⟩) (rp_recv F hR 40 rfl (C := RX0) (T := TX0) (N := 1) rfl rfl) (hR.sub 40 sb_LW_40_LC2) rfl hl.1 (Nat.le_of_ble_eq_true rfl) dX4_lettersInRow_5 ⟨Nat.zero_le _, Nat.zero_le _⟩ rfl ?_
  refine lv_istore_n (lv' := [(2, .int r1), (0, .ref (b + 27)), (1, .int a1)]) hx hb dX4_lettersInRow_8 rfl hl (by decide) rfl (fun ls hl => ?_)
  refine lv_iconst (v := 0) hx hb dX4_lettersInRow_9 (by decide) ?_
  refine lv_istore_n (lv' := [(3, .int ((0 : Int32))), (2, .int r1), (0, .ref (b + 27)), (1, .int a1)]) hx hb dX4_lettersInRow_10 rfl hl (by decide) rfl (fun ls hl => ?_)
  refine lv_iconst (v := 0) hx hb dX4_lettersInRow_11 (by decide) ?_
  refine lv_istore (lv' := [(4, .int ((0 : Int32))), (3, .int ((0 : Int32))), (2, .int r1), (0, .ref (b + 27)), (1, .int a1)]) hx hb dX4_lettersInRow_12 hl (by decide) rfl (fun ls hl => ?_)
  obtain ⟨x7, hx7, hE⟩ := bd_el hE
  refine it_walk2 (body := lbX4_lettersInRow_14 V a1 r1) (Wh := fun s2 => ∀ (ls : Array Slot), lv_has ls 5 [(4, .int s2.2), (3, .int s2.1), (2, .int r1), (0, .ref (b + 27)), (1, .int a1)] → W p l e rmX4_lettersInRow s m ([.ref (b + 27), .int a1] : List Value).toArray below meth c s.heap [] 0 0 (MQ below (cQr (some (.int out))) ([.ref (b + 27), .int a1] : List Value).toArray s 0 0 (fun _ => False)) (F0 m 14 ls [])) (We := fun s6 => ∀ (ls : Array Slot), lv_has ls 5 [(4, .int s6.2), (3, .int s6.1), (2, .int r1), (0, .ref (b + 27)), (1, .int a1)] → W p l e rmX4_lettersInRow s m ([.ref (b + 27), .int a1] : List Value).toArray below meth c s.heap [] 0 0 (MQ below (cQr (some (.int out))) ([.ref (b + 27), .int a1] : List Value).toArray s 0 0 (fun _ => False)) (F0 m 43 ls [])) ?_ _ _ _ hx7 ?_ ls (lv_sub hl [0, 1, 2, 3, 4] rfl)
  · intro s2 r9 hE hL9 hR9 ls hl
    unfold lbX4_lettersInRow_14 at hE
    refine lv_iload hx hb dX4_lettersInRow_14 (lv_at hl 0 rfl) ?_
    refine lv_iload_n hx hb dX4_lettersInRow_16 rfl (lv_at hl 2 rfl) ?_
    refine lv_icmp_ge (tgt := 43) hx hb dX4_lettersInRow_17 (by decide) (fun c3 => ?_) (fun c3 => ?_)
    · have hE := (if_pos c3).symm.trans hE
      cases hE
      exact hR9 _ rfl ls (lv_sub hl [0, 1, 2, 3, 4] rfl)
    · have hE := (if_neg c3).symm.trans hE
      refine lv_iload_n hx hb dX4_lettersInRow_20 rfl (lv_at hl 1 rfl) ?_
      refine lv_aload_n hx hb dX4_lettersInRow_21 rfl (lv_at hl 3 rfl) ?_
      refine rg_getr F hR 27 (ci := 4) rfl (C := RX4) (T := TX4) (N := 8) rfl iwX4_lettersInRow_X4 0 (d := 1) (n := 28) rfl rfl (by decide) rfl lkX4_lettersInRow_1 rfl dX4_lettersInRow_22 ?_
      refine lv_aload_n hx hb dX4_lettersInRow_25 rfl (lv_at hl 3 rfl) ?_
      refine lv_iload_n hx hb dX4_lettersInRow_26 rfl (lv_at hl 4 rfl) ?_
      refine lv_iload hx hb dX4_lettersInRow_27 (lv_at hl 0 rfl) ?_
      obtain ⟨r4, er4, hE⟩ := lt_el hE
      refine rg_callRV (As := [.int a1, .int s2.2]) (rest := [.ref (b + 28), .int s2.1]) F (mX4_wordAt l X b V a1 s2.2 r4 er4) (cwV 2 F.1.2.2.2.2 gX4_lettersInRow_X4_wordAt rfl rfl rfl hvX4_wordAt ⟨Nat.le_of_ble_eq_true rfl, Nat.le_of_ble_eq_true rfl⟩) (rp_recv F hR 27 rfl (C := RX4) (T := TX4) (N := 8) rfl rfl) hR rfl hl.1 (Nat.le_of_ble_eq_true rfl) dX4_lettersInRow_29 ⟨Nat.zero_le _, Nat.zero_le _⟩ rfl ?_
      obtain ⟨r5, er5, hE⟩ := lt_el hE
      refine rg_callRV (As := [.int r4]) (rest := [.int s2.1]) F (kX0_get l X 12 (by decide) (b + 28) (gv V 28) r4 r5 er5) (cwV 1 F.1.2.2.2.2 gX4_lettersInRow_X0_get rfl rfl rfl hvX0_get ⟨Nat.le_of_ble_eq_true rfl, Nat.le_of_ble_eq_true rfl⟩) (rp_recv F hR 28 rfl (C := RX0) (T := TX0) (N := 1) rfl rfl) (hR.sub 28 sb_LW_28_LC12) rfl hl.1 (Nat.le_of_ble_eq_true rfl) dX4_lettersInRow_32 ⟨Nat.zero_le _, Nat.zero_le _⟩ rfl ?_
      refine lv_iadd hx hb dX4_lettersInRow_35 ?_
      refine lv_istore_n (lv' := [(3, .int (s2.1 + r5)), (4, .int s2.2), (2, .int r1), (0, .ref (b + 27)), (1, .int a1)]) hx hb dX4_lettersInRow_36 rfl hl (by decide) rfl (fun ls hl => ?_)
      refine lv_iinc (v := s2.2 + 1) (lv' := [(4, .int (s2.2 + 1)), (3, .int (s2.1 + r5)), (2, .int r1), (0, .ref (b + 27)), (1, .int a1)]) hx hb dX4_lettersInRow_37 hl (k := 1) rfl (congrArg (fun q => s2.2 + q) (by decide)) (by decide) rfl (fun ls hl => ?_)
      refine lv_goto (tgt := 14) hx hb dX4_lettersInRow_40 (by decide) ?_
      cases hE
      exact hL9 _ rfl ls (lv_sub hl [0, 1, 2, 3, 4] rfl)
  · intro ls hl
    refine lv_iload_n hx hb dX4_lettersInRow_43 rfl (lv_at hl 1 rfl) ?_
    have hE := Option.some.inj hE
    subst hE
    exact W.iret (v := x7.1) hx hb hr (fun t ht _ => ⟨rfl, ht⟩) (fun _ h => absurd h List.not_mem_nil) dX4_lettersInRow_44
set_option maxRecDepth 20000 in
theorem lkX4_waitingInRow_0 : Cond.fieldLink RX4 35 "TideWords$Words" "rowLengths" "LTideWords$Cells;" ∈ wsX4_waitingInRow := by decide +kernel
set_option maxRecDepth 20000 in
theorem iwX4_waitingInRow_X4 : ∀ w ∈ wsX40, w ∈ wsX4_waitingInRow := by decide +kernel
theorem hvX4_hasPassed : yX4_hasPassed.cls = RX4 ∧ yX4_hasPassed.cls ≠ "java/lang/invoke/MethodHandle" ∧ yX4_hasPassed.cls ≠ "java/lang/invoke/VarHandle" ∧ (parseMethodDescriptor yX4_hasPassed.desc).map (fun d => d.parameters.length) = some 1 := by decide +kernel
def lbX4_waitingInRow_14 (V : Mem) (a1 : Int32) (r1 : Int32) (s2 : Int32 × Int32) : Option ((Int32 × Int32) ⊕ (Int32 × Int32)) := if r1 ≤ s2.2 then some (.inr (s2.1, s2.2)) else lt (fX4_wordAt V a1 s2.2) (fun r4 => lt (fX4_hasPassed V r4) (fun r5 => if r5 = 0 then some (.inl (s2.1 + ((1 : Int32)), s2.2 + 1)) else some (.inl (s2.1 + ((0 : Int32)), s2.2 + 1))))
def qX4_waitingInRow (V : Mem) (a1 : Int32) : Option (Int32) := lt (cget 2 (V 41) a1) (fun r1 => (it (lbX4_waitingInRow_14 V a1 r1) fuel ((0 : Int32), (0 : Int32))).bind (fun s7 => some (s7.1)))
abbrev rmX4_waitingInRow : Room := { frames := 2, cells := 0, slots := 0, locals := 43 }
set_option maxHeartbeats 4000000 in
set_option maxRecDepth 100000 in
theorem mX4_waitingInRow (l : Launch) (X : kX) (b : Nat) (V : Mem) (a1 : Int32) (out : Int32) (hE : qX4_waitingInRow V a1 = some out) : MR l yX4_waitingInRow wsX4_waitingInRow rmX4_waitingInRow X [.ref (b + 27), .int a1] (RP X LW b V) (some (.int out)) := by
  refine mt_head (cc := cX4_waitingInRow) (maxL := 5) (ret := (some .int)) (own := RX4) (by decide) rfl rfl (Nat.le_of_ble_eq_true rfl) ?_
  intro p e s m below meth c ls F hr hlocks hnm hR hl
  have hx := F.1.1
  have hb := F.1.2.1
  have hl : lv_has ls 5 [(0, .ref (b + 27)), (1, .int a1)] := hl
  unfold qX4_waitingInRow at hE
  refine lv_aload_n hx hb dX4_waitingInRow_0 rfl (lv_at hl 0 rfl) ?_
  refine rg_getr F hR 27 (ci := 4) rfl (C := RX4) (T := TX4) (N := 8) rfl iwX4_waitingInRow_X4 6 (d := 13) (n := 40) rfl rfl (by decide) rfl lkX4_waitingInRow_0 rfl dX4_waitingInRow_1 ?_
  refine lv_iload_n hx hb dX4_waitingInRow_4 rfl (lv_at hl 1 rfl) ?_
  obtain ⟨r1, er1, hE⟩ := lt_el hE
  refine rg_callRV (As := [.int a1]) (rest := []) F (kX0_get l X 2 (by decide) (b + 40) (gv V 40) a1 r1 er1) (cwV 1 F.1.2.2.2.2 gX4_waitingInRow_X0_get rfl rfl rfl hvX0_get ⟨Nat.le_of_ble_eq_true rfl, Nat.le_of_ble_eq_true rfl⟩) (rp_recv F hR 40 rfl (C := RX0) (T := TX0) (N := 1) rfl rfl) (hR.sub 40 sb_LW_40_LC2) rfl hl.1 (Nat.le_of_ble_eq_true rfl) dX4_waitingInRow_5 ⟨Nat.zero_le _, Nat.zero_le _⟩ rfl ?_
  refine lv_istore_n (lv' := [(2, .int r1), (0, .ref (b + 27)), (1, .int a1)]) hx hb dX4_waitingInRow_8 rfl hl (by decide) rfl (fun ls hl => ?_)
  refine lv_iconst (v := 0) hx hb dX4_waitingInRow_9 (by decide) ?_
  refine lv_istore_n (lv' := [(3, .int ((0 : Int32))), (2, .int r1), (0, .ref (b + 27)), (1, .int a1)]) hx hb dX4_waitingInRow_10 rfl hl (by decide) rfl (fun ls hl => ?_)
  refine lv_iconst (v := 0) hx hb dX4_waitingInRow_11 (by decide) ?_
  refine lv_istore (lv' := [(4, .int ((0 : Int32))), (3, .int ((0 : Int32))), (2, .int r1), (0, .ref (b + 27)), (1, .int a1)]) hx hb dX4_waitingInRow_12 hl (by decide) rfl (fun ls hl => ?_)
  obtain ⟨x8, hx8, hE⟩ := bd_el hE
  refine it_walk2 (body := lbX4_waitingInRow_14 V a1 r1) (Wh := fun s2 => ∀ (ls : Array Slot), lv_has ls 5 [(4, .int s2.2), (3, .int s2.1), (2, .int r1), (0, .ref (b + 27)), (1, .int a1)] → W p l e rmX4_waitingInRow s m ([.ref (b + 27), .int a1] : List Value).toArray below meth c s.heap [] 0 0 (MQ below (cQr (some (.int out))) ([.ref (b + 27), .int a1] : List Value).toArray s 0 0 (fun _ => False)) (F0 m 14 ls [])) (We := fun s7 => ∀ (ls : Array Slot), lv_has ls 5 [(4, .int s7.2), (3, .int s7.1), (2, .int r1), (0, .ref (b + 27)), (1, .int a1)] → W p l e rmX4_waitingInRow s m ([.ref (b + 27), .int a1] : List Value).toArray below meth c s.heap [] 0 0 (MQ below (cQr (some (.int out))) ([.ref (b + 27), .int a1] : List Value).toArray s 0 0 (fun _ => False)) (F0 m 48 ls [])) ?_ _ _ _ hx8 ?_ ls (lv_sub hl [0, 1, 2, 3, 4] rfl)
  · intro s2 r9 hE hL9 hR9 ls hl
    unfold lbX4_waitingInRow_14 at hE
    refine lv_iload hx hb dX4_waitingInRow_14 (lv_at hl 0 rfl) ?_
    refine lv_iload_n hx hb dX4_waitingInRow_16 rfl (lv_at hl 2 rfl) ?_
    refine lv_icmp_ge (tgt := 48) hx hb dX4_waitingInRow_17 (by decide) (fun c3 => ?_) (fun c3 => ?_)
    · have hE := (if_pos c3).symm.trans hE
      cases hE
      exact hR9 _ rfl ls (lv_sub hl [0, 1, 2, 3, 4] rfl)
    · have hE := (if_neg c3).symm.trans hE
      refine lv_iload_n hx hb dX4_waitingInRow_20 rfl (lv_at hl 1 rfl) ?_
      refine lv_aload_n hx hb dX4_waitingInRow_21 rfl (lv_at hl 3 rfl) ?_
      refine lv_aload_n hx hb dX4_waitingInRow_22 rfl (lv_at hl 3 rfl) ?_
      refine lv_iload_n hx hb dX4_waitingInRow_23 rfl (lv_at hl 4 rfl) ?_
      refine lv_iload hx hb dX4_waitingInRow_24 (lv_at hl 0 rfl) ?_
      obtain ⟨r4, er4, hE⟩ := lt_el hE
      refine rg_callRV (As := [.int a1, .int s2.2]) (rest := [.ref (b + 27), .int s2.1]) F (mX4_wordAt l X b V a1 s2.2 r4 er4) (cwV 2 F.1.2.2.2.2 gX4_waitingInRow_X4_wordAt rfl rfl rfl hvX4_wordAt ⟨Nat.le_of_ble_eq_true rfl, Nat.le_of_ble_eq_true rfl⟩) (rp_recv F hR 27 rfl (C := RX4) (T := TX4) (N := 8) rfl rfl) hR rfl hl.1 (Nat.le_of_ble_eq_true rfl) dX4_waitingInRow_26 ⟨Nat.zero_le _, Nat.zero_le _⟩ rfl ?_
      obtain ⟨r5, er5, hE⟩ := lt_el hE
      refine rg_callRV (As := [.int r4]) (rest := [.int s2.1]) F (mX4_hasPassed l X b V r4 r5 er5) (cwV 1 F.1.2.2.2.2 gX4_waitingInRow_X4_hasPassed rfl rfl rfl hvX4_hasPassed ⟨Nat.le_of_ble_eq_true rfl, Nat.le_of_ble_eq_true rfl⟩) (rp_recv F hR 27 rfl (C := RX4) (T := TX4) (N := 8) rfl rfl) hR rfl hl.1 (Nat.le_of_ble_eq_true rfl) dX4_waitingInRow_29 ⟨Nat.zero_le _, Nat.zero_le _⟩ rfl ?_
      refine lv_if_eq (tgt := 39) hx hb dX4_waitingInRow_32 (by decide) (fun c6 => ?_) (fun c6 => ?_)
      · have hE := (if_pos c6).symm.trans hE
        refine lv_iconst (v := 1) hx hb dX4_waitingInRow_39 (by decide) ?_
        refine lv_iadd hx hb dX4_waitingInRow_40 ?_
        refine lv_istore_n (lv' := [(3, .int (s2.1 + ((1 : Int32)))), (4, .int s2.2), (2, .int r1), (0, .ref (b + 27)), (1, .int a1)]) hx hb dX4_waitingInRow_41 rfl hl (by decide) rfl (fun ls hl => ?_)
        refine lv_iinc (v := s2.2 + 1) (lv' := [(4, .int (s2.2 + 1)), (3, .int (s2.1 + ((1 : Int32)))), (2, .int r1), (0, .ref (b + 27)), (1, .int a1)]) hx hb dX4_waitingInRow_42 hl (k := 1) rfl (congrArg (fun q => s2.2 + q) (by decide)) (by decide) rfl (fun ls hl => ?_)
        refine lv_goto (tgt := 14) hx hb dX4_waitingInRow_45 (by decide) ?_
        cases hE
        exact hL9 _ rfl ls (lv_sub hl [0, 1, 2, 3, 4] rfl)
      · have hE := (if_neg c6).symm.trans hE
        refine lv_iconst (v := 0) hx hb dX4_waitingInRow_35 (by decide) ?_
        refine lv_goto (tgt := 40) hx hb dX4_waitingInRow_36 (by decide) ?_
        refine lv_iadd hx hb dX4_waitingInRow_40 ?_
        refine lv_istore_n (lv' := [(3, .int (s2.1 + ((0 : Int32)))), (4, .int s2.2), (2, .int r1), (0, .ref (b + 27)), (1, .int a1)]) hx hb dX4_waitingInRow_41 rfl hl (by decide) rfl (fun ls hl => ?_)
        refine lv_iinc (v := s2.2 + 1) (lv' := [(4, .int (s2.2 + 1)), (3, .int (s2.1 + ((0 : Int32)))), (2, .int r1), (0, .ref (b + 27)), (1, .int a1)]) hx hb dX4_waitingInRow_42 hl (k := 1) rfl (congrArg (fun q => s2.2 + q) (by decide)) (by decide) rfl (fun ls hl => ?_)
        refine lv_goto (tgt := 14) hx hb dX4_waitingInRow_45 (by decide) ?_
        cases hE
        exact hL9 _ rfl ls (lv_sub hl [0, 1, 2, 3, 4] rfl)
  · intro ls hl
    refine lv_iload_n hx hb dX4_waitingInRow_48 rfl (lv_at hl 1 rfl) ?_
    have hE := Option.some.inj hE
    subst hE
    exact W.iret (v := x8.1) hx hb hr (fun t ht _ => ⟨rfl, ht⟩) (fun _ h => absurd h List.not_mem_nil) dX4_waitingInRow_49
def fX4_placeIn (V : Mem) (a1 a2 : Int32) : Int32 := fnd (fun i => decide (fX4_wordAt V a1 (nI i) = a2)) (cget 2 (V 41) a1).toNatClampNeg
theorem tX4_placeIn (V : Mem) (a1 a2 : Int32) : qX4_placeIn V a1 a2 = some (fX4_placeIn V a1 a2) := by
  unfold qX4_placeIn fX4_placeIn fnd lt
  dsimp only
  generalize cget 2 (V 41) a1 = r
  have h : it (lbX4_placeIn_12 V a1 a2 r) fuel (0 : Int32) = some ((fndO (fun i => decide (fX4_wordAt V a1 (nI i) = a2)) r.toNatClampNeg 0).elim (Sum.inr (nI r.toNatClampNeg)) (fun i => Sum.inl (nI i))) := by
    refine it_fnd (fun i => nI i) _ (fun i => Sum.inl (nI i)) _ r.toNatClampNeg (fun i hi => ?_) ?_ fuel (fuel_lt (by have := r32 r; omega))
    · unfold lbX4_placeIn_12 lt
      rw [if_neg (r_lt hi), nI_1]
      by_cases h : fX4_wordAt V a1 (nI i) = a2
      · simp only [h, decide_true, if_true]
      · simp only [h, decide_false, if_false, Bool.false_eq_true]
    · unfold lbX4_placeIn_12
      rw [if_pos (r_ge r)]
  rw [h]
  cases fndO (fun i => decide (fX4_wordAt V a1 (nI i) = a2)) r.toNatClampNeg 0 <;> rfl
def fX4_lettersInRow (V : Mem) (a1 : Int32) : Int32 := csum (cget 2 (V 41) a1).toNatClampNeg (fun i => cget 12 (V 29) (fX4_wordAt V a1 (nI i)))
theorem tX4_lettersInRow (V : Mem) (a1 : Int32) : qX4_lettersInRow V a1 = some (fX4_lettersInRow V a1) := by
  unfold qX4_lettersInRow fX4_lettersInRow lt
  dsimp only
  generalize cget 2 (V 41) a1 = r
  have h : it (lbX4_lettersInRow_14 V a1 r) fuel ((0 : Int32), (0 : Int32)) = some (csum r.toNatClampNeg (fun i => cget 12 (V 29) (fX4_wordAt V a1 (nI i))), nI r.toNatClampNeg) := by
    refine it_for (fun i => (csum i (fun i => cget 12 (V 29) (fX4_wordAt V a1 (nI i))), nI i)) r.toNatClampNeg (fun i hi => ?_) ?_ fuel (fuel_lt (by have := r32 r; omega))
    · unfold lbX4_lettersInRow_14 lt
      dsimp only
      rw [if_neg (r_lt hi), nI_1]
      rfl
    · unfold lbX4_lettersInRow_14
      dsimp only
      rw [if_pos (r_ge r)]
  rw [h]
  rfl
def fX4_waitingInRow (V : Mem) (a1 : Int32) : Int32 := csum (cget 2 (V 41) a1).toNatClampNeg (fun i => if fX4_hasPassed V (fX4_wordAt V a1 (nI i)) = 0 then 1 else 0)
theorem tX4_waitingInRow (V : Mem) (a1 : Int32) : qX4_waitingInRow V a1 = some (fX4_waitingInRow V a1) := by
  unfold qX4_waitingInRow fX4_waitingInRow lt
  dsimp only
  generalize cget 2 (V 41) a1 = r
  have h : it (lbX4_waitingInRow_14 V a1 r) fuel ((0 : Int32), (0 : Int32)) = some (csum r.toNatClampNeg (fun i => if fX4_hasPassed V (fX4_wordAt V a1 (nI i)) = 0 then 1 else 0), nI r.toNatClampNeg) := by
    refine it_for (fun i => (csum i (fun i => if fX4_hasPassed V (fX4_wordAt V a1 (nI i)) = 0 then 1 else 0), nI i)) r.toNatClampNeg (fun i hi => ?_) ?_ fuel (fuel_lt (by have := r32 r; omega))
    · unfold lbX4_waitingInRow_14 lt
      dsimp only
      rw [if_neg (r_lt hi), nI_1]
      by_cases h : fX4_hasPassed V (fX4_wordAt V a1 (nI i)) = 0
      · rw [if_pos h]
        show _ = some (Sum.inl (csum i _ + (if fX4_hasPassed V (fX4_wordAt V a1 (nI i)) = 0 then 1 else 0), nI (i + 1)))
        rw [if_pos h]
      · rw [if_neg h]
        show _ = some (Sum.inl (csum i _ + (if fX4_hasPassed V (fX4_wordAt V a1 (nI i)) = 0 then 1 else 0), nI (i + 1)))
        rw [if_neg h]
    · unfold lbX4_waitingInRow_14
      dsimp only
      rw [if_pos (r_ge r)]
  rw [h]
  rfl

theorem kX4_placeIn (l : Launch) (X : kX) (b : Nat) (V : Mem) (a1 : Int32) (a2 : Int32) (out : Int32) (hE : fX4_placeIn V a1 a2 = out) : MR l yX4_placeIn wsX4_placeIn rmX4_placeIn X [.ref (b + 27), .int a1, .int a2] (RP X LW b V) (some (.int out)) := mX4_placeIn l X b V a1 a2 out ((tX4_placeIn V a1 a2).trans (congrArg some hE))
theorem kX4_lettersInRow (l : Launch) (X : kX) (b : Nat) (V : Mem) (a1 : Int32) (out : Int32) (hE : fX4_lettersInRow V a1 = out) : MR l yX4_lettersInRow wsX4_lettersInRow rmX4_lettersInRow X [.ref (b + 27), .int a1] (RP X LW b V) (some (.int out)) := mX4_lettersInRow l X b V a1 out ((tX4_lettersInRow V a1).trans (congrArg some hE))
theorem kX4_waitingInRow (l : Launch) (X : kX) (b : Nat) (V : Mem) (a1 : Int32) (out : Int32) (hE : fX4_waitingInRow V a1 = out) : MR l yX4_waitingInRow wsX4_waitingInRow rmX4_waitingInRow X [.ref (b + 27), .int a1] (RP X LW b V) (some (.int out)) := mX4_waitingInRow l X b V a1 out ((tX4_waitingInRow V a1).trans (congrArg some hE))
theorem hvX4_placeIn : yX4_placeIn.cls = RX4 ∧ yX4_placeIn.cls ≠ "java/lang/invoke/MethodHandle" ∧ yX4_placeIn.cls ≠ "java/lang/invoke/VarHandle" ∧ (parseMethodDescriptor yX4_placeIn.desc).map (fun d => d.parameters.length) = some 2 := by decide +kernel
def fX4_placeOf (V : Mem) (a1 : Int32) : Int32 := lt (fX4_placeIn V ((0 : Int32)) a1) (fun r1 => if r1 = (-1006 : Int32) then lt (fX4_placeIn V ((1 : Int32)) a1) (fun r3 => r3) else r1)
abbrev rmX4_placeOf : Room := { frames := 3, cells := 0, slots := 0, locals := 67 }
set_option maxHeartbeats 4000000 in
set_option maxRecDepth 100000 in
theorem mX4_placeOf (l : Launch) (X : kX) (b : Nat) (V : Mem) (a1 : Int32) (out : Int32) (hE : fX4_placeOf V a1 = out) : MR l yX4_placeOf wsX4_placeOf rmX4_placeOf X [.ref (b + 27), .int a1] (RP X LW b V) (some (.int out)) := by
  refine mt_head (cc := cX4_placeOf) (maxL := 3) (ret := (some .int)) (own := RX4) (by decide) rfl rfl (Nat.le_of_ble_eq_true rfl) ?_
  intro p e s m below meth c ls F hr hlocks hnm hR hl
  have hx := F.1.1
  have hb := F.1.2.1
  have hl : lv_has ls 3 [(0, .ref (b + 27)), (1, .int a1)] := hl
  unfold fX4_placeOf at hE
  refine lv_aload_n hx hb dX4_placeOf_0 rfl (lv_at hl 0 rfl) ?_
  refine lv_iconst (v := 0) hx hb dX4_placeOf_1 (by decide) ?_
  refine lv_iload_n hx hb dX4_placeOf_2 rfl (lv_at hl 1 rfl) ?_
  obtain ⟨r1, er1, hE⟩ := lt_el hE
  refine rg_callRV (As := [.int ((0 : Int32)), .int a1]) (rest := []) F (kX4_placeIn l X b V ((0 : Int32)) a1 r1 er1) (cwV 2 F.1.2.2.2.2 gX4_placeOf_X4_placeIn rfl rfl rfl hvX4_placeIn ⟨Nat.le_of_ble_eq_true rfl, Nat.le_of_ble_eq_true rfl⟩) (rp_recv F hR 27 rfl (C := RX4) (T := TX4) (N := 8) rfl rfl) hR rfl hl.1 (Nat.le_of_ble_eq_true rfl) dX4_placeOf_3 ⟨Nat.zero_le _, Nat.zero_le _⟩ rfl ?_
  refine lv_istore_n (lv' := [(2, .int r1), (0, .ref (b + 27)), (1, .int a1)]) hx hb dX4_placeOf_6 rfl hl (by decide) rfl (fun ls hl => ?_)
  refine lv_iload_n hx hb dX4_placeOf_7 rfl (lv_at hl 0 rfl) ?_
  refine lv_sipush (v := (-1006)) hx hb dX4_placeOf_8 (by decide) ?_
  refine lv_icmp_eq (tgt := 18) hx hb dX4_placeOf_11 (by decide) (fun c2 => ?_) (fun c2 => ?_)
  · have hE := (if_pos c2).symm.trans hE
    refine lv_aload_n hx hb dX4_placeOf_18 rfl (lv_at hl 1 rfl) ?_
    refine lv_iconst (v := 1) hx hb dX4_placeOf_19 (by decide) ?_
    refine lv_iload_n hx hb dX4_placeOf_20 rfl (lv_at hl 2 rfl) ?_
    obtain ⟨r3, er3, hE⟩ := lt_el hE
    refine rg_callRV (As := [.int ((1 : Int32)), .int a1]) (rest := []) F (kX4_placeIn l X b V ((1 : Int32)) a1 r3 er3) (cwV 2 F.1.2.2.2.2 gX4_placeOf_X4_placeIn rfl rfl rfl hvX4_placeIn ⟨Nat.le_of_ble_eq_true rfl, Nat.le_of_ble_eq_true rfl⟩) (rp_recv F hR 27 rfl (C := RX4) (T := TX4) (N := 8) rfl rfl) hR rfl hl.1 (Nat.le_of_ble_eq_true rfl) dX4_placeOf_21 ⟨Nat.zero_le _, Nat.zero_le _⟩ rfl ?_
    subst hE
    exact W.iret (v := r3) hx hb hr (fun t ht _ => ⟨rfl, ht⟩) (fun _ h => absurd h List.not_mem_nil) dX4_placeOf_24
  · have hE := (if_neg c2).symm.trans hE
    refine lv_iload_n hx hb dX4_placeOf_14 rfl (lv_at hl 0 rfl) ?_
    refine lv_goto (tgt := 24) hx hb dX4_placeOf_15 (by decide) ?_
    subst hE
    exact W.iret (v := r1) hx hb hr (fun t ht _ => ⟨rfl, ht⟩) (fun _ h => absurd h List.not_mem_nil) dX4_placeOf_24
end
section
set_option maxRecDepth 20000 in
theorem lkX4_addLast_0 : Cond.fieldLink RX4 35 "TideWords$Words" "rowLengths" "LTideWords$Cells;" ∈ wsX4_addLast := by decide +kernel
set_option maxRecDepth 20000 in
theorem iwX4_addLast_X4 : ∀ w ∈ wsX40, w ∈ wsX4_addLast := by decide +kernel
set_option maxRecDepth 20000 in
theorem lkX4_addLast_1 : Cond.fieldLink RX4 32 "TideWords$Words" "rows" "LTideWords$Cells;" ∈ wsX4_addLast := by decide +kernel
def fX4_addLast (V : Mem) (a1 : Int32) (a2 : Int32) : Mem := lt (cget 2 (V 41) a1) (fun r1 => if (12 : Int32) ≤ r1 then V else lt (cset V 39 24 ((a1 * ((12 : Int32))) + r1) a2) (fun V3 => lt (cset V3 41 2 a1 (r1 + ((1 : Int32)))) (fun V4 => V4)))
abbrev rmX4_addLast : Room := { frames := 1, cells := 0, slots := 0, locals := 22 }
set_option maxHeartbeats 4000000 in
set_option maxRecDepth 100000 in
theorem mX4_addLast (l : Launch) (X : kX) (b : Nat) (V : Mem) (a1 : Int32) (a2 : Int32) (out : Mem) (hE : fX4_addLast V a1 a2 = out) : MW l yX4_addLast wsX4_addLast rmX4_addLast X [.ref (b + 27), .int a1, .int a2] (RP X LW b V) (none) b (b + LW.length) (RP X LW b out) := by
  refine mt_head (cc := cX4_addLast) (maxL := 4) (ret := none) (own := RX4) (by decide) rfl rfl (Nat.le_of_ble_eq_true rfl) ?_
  intro p e s m below meth c ls F hr hlocks hnm hR hl
  have hx := F.1.1
  have hb := F.1.2.1
  have hH : Hp (t_fr b (b + LW.length)) s.heap s.heap.size X LW b V s.heap [] := ⟨hR, va_S.rf, rfl⟩
  have hl : lv_has ls 4 [(0, .ref (b + 27)), (1, .int a1), (2, .int a2)] := hl
  unfold fX4_addLast at hE
  refine lv_aload_n hx hb dX4_addLast_0 rfl (lv_at hl 0 rfl) ?_
  refine rg_getr F hH.1 27 (ci := 4) rfl (C := RX4) (T := TX4) (N := 8) rfl iwX4_addLast_X4 6 (d := 13) (n := 40) rfl rfl (by decide) rfl lkX4_addLast_0 rfl dX4_addLast_1 ?_
  refine lv_iload_n hx hb dX4_addLast_4 rfl (lv_at hl 1 rfl) ?_
  obtain ⟨r1, er1, hE⟩ := lt_el hE
  refine rg_callRV (As := [.int a1]) (rest := []) F (kX0_get l X 2 (by decide) (b + 40) (gv V 40) a1 r1 er1) (cwV 1 F.1.2.2.2.2 gX4_addLast_X0_get rfl rfl rfl hvX0_get ⟨Nat.le_of_ble_eq_true rfl, Nat.le_of_ble_eq_true rfl⟩) (rp_recv F hH.1 40 rfl (C := RX0) (T := TX0) (N := 1) rfl rfl) (hH.1.sub 40 sb_LW_40_LC2) rfl hl.1 (Nat.le_of_ble_eq_true rfl) dX4_addLast_5 ⟨Nat.zero_le _, Nat.zero_le _⟩ rfl ?_
  refine lv_istore_n (lv' := [(3, .int r1), (0, .ref (b + 27)), (1, .int a1), (2, .int a2)]) hx hb dX4_addLast_8 rfl hl (by decide) rfl (fun ls hl => ?_)
  refine lv_iload_n hx hb dX4_addLast_9 rfl (lv_at hl 0 rfl) ?_
  refine lv_bipush (v := 12) hx hb dX4_addLast_10 (by decide) ?_
  refine lv_icmp_ge (tgt := 40) hx hb dX4_addLast_12 (by decide) (fun c2 => ?_) (fun c2 => ?_)
  · have hE := (if_pos c2).symm.trans hE
    subst hE
    exact W.vret hx hb hr (fun t ht _ => mw_post hH ht) hH.2.1.2.2 dX4_addLast_40
  · have hE := (if_neg c2).symm.trans hE
    refine lv_aload_n hx hb dX4_addLast_15 rfl (lv_at hl 1 rfl) ?_
    refine rg_getr F hH.1 27 (ci := 4) rfl (C := RX4) (T := TX4) (N := 8) rfl iwX4_addLast_X4 5 (d := 11) (n := 38) rfl rfl (by decide) rfl lkX4_addLast_1 rfl dX4_addLast_16 ?_
    refine lv_iload_n hx hb dX4_addLast_19 rfl (lv_at hl 2 rfl) ?_
    refine lv_bipush (v := 12) hx hb dX4_addLast_20 (by decide) ?_
    refine lv_imul hx hb dX4_addLast_22 ?_
    refine lv_iload_n hx hb dX4_addLast_23 rfl (lv_at hl 0 rfl) ?_
    refine lv_iadd hx hb dX4_addLast_24 ?_
    refine lv_iload_n hx hb dX4_addLast_25 rfl (lv_at hl 3 rfl) ?_
    obtain ⟨V3, eV3, hE⟩ := lt_el hE
    refine rg_callWV (As := [.int ((a1 * ((12 : Int32))) + r1), .int a2]) (rest := []) F hH (fun q h1 h2 => ⟨h1, h2⟩) 38 sb_LW_38_LC24 (kX0_set l X 24 (by decide) (b + 38) (gv V 38) ((a1 * ((12 : Int32))) + r1) a2 _ rfl) (cwV 2 F.1.2.2.2.2 gX4_addLast_X0_set rfl rfl rfl hvX0_set ⟨Nat.le_of_ble_eq_true rfl, Nat.le_of_ble_eq_true rfl⟩) (rp_recv F hH.1 38 rfl (C := RX0) (T := TX0) (N := 1) rfl rfl) (hH.1.sub 38 sb_LW_38_LC24) rfl hl.1 (Nat.le_of_ble_eq_true rfl) dX4_addLast_26 ⟨Nat.zero_le _, Nat.zero_le _⟩ rfl ((pv_cset ..).trans eV3) (fun H locs hH hfr => ?_)
    refine lv_aload_n hx hb dX4_addLast_29 rfl (lv_at hl 1 rfl) ?_
    refine rg_getr F hH.1 27 (ci := 4) rfl (C := RX4) (T := TX4) (N := 8) rfl iwX4_addLast_X4 6 (d := 13) (n := 40) rfl rfl (by decide) rfl lkX4_addLast_0 rfl dX4_addLast_30 ?_
    refine lv_iload_n hx hb dX4_addLast_33 rfl (lv_at hl 2 rfl) ?_
    refine lv_iload_n hx hb dX4_addLast_34 rfl (lv_at hl 0 rfl) ?_
    refine lv_iconst (v := 1) hx hb dX4_addLast_35 (by decide) ?_
    refine lv_iadd hx hb dX4_addLast_36 ?_
    obtain ⟨V4, eV4, hE⟩ := lt_el hE
    refine rg_callWV (As := [.int a1, .int (r1 + ((1 : Int32)))]) (rest := []) F hH (fun q h1 h2 => ⟨h1, h2⟩) 40 sb_LW_40_LC2 (kX0_set l X 2 (by decide) (b + 40) (gv V3 40) a1 (r1 + ((1 : Int32))) _ rfl) (cwV 2 F.1.2.2.2.2 gX4_addLast_X0_set rfl rfl rfl hvX0_set ⟨Nat.le_of_ble_eq_true rfl, Nat.le_of_ble_eq_true rfl⟩) (rp_recv F hH.1 40 rfl (C := RX0) (T := TX0) (N := 1) rfl rfl) (hH.1.sub 40 sb_LW_40_LC2) rfl hl.1 (Nat.le_of_ble_eq_true rfl) dX4_addLast_37 ⟨Nat.zero_le _, Nat.zero_le _⟩ rfl ((pv_cset ..).trans eV4) (fun H locs hH hfr => ?_)
    subst hE
    exact W.vret hx hb hr (fun t ht _ => mw_post hH ht) hH.2.1.2.2 dX4_addLast_40
set_option maxRecDepth 20000 in
theorem lkX4_startWord_0 : Cond.fieldLink RX4 38 "TideWords$Words" "total" "I" ∈ wsX4_startWord := by decide +kernel
set_option maxRecDepth 20000 in
theorem iwX4_startWord_X4 : ∀ w ∈ wsX40, w ∈ wsX4_startWord := by decide +kernel
set_option maxRecDepth 20000 in
theorem lkX4_startWord_1 : Cond.fieldLink RX4 14 "TideWords$Words" "lengths" "LTideWords$Cells;" ∈ wsX4_startWord := by decide +kernel
set_option maxRecDepth 20000 in
theorem lkX4_startWord_2 : Cond.fieldLink RX4 23 "TideWords$Words" "passedSteps" "LTideWords$Cells;" ∈ wsX4_startWord := by decide +kernel
set_option maxRecDepth 20000 in
theorem lkX4_startWord_3 : Cond.fieldLink RX4 26 "TideWords$Words" "passedGates" "LTideWords$Cells;" ∈ wsX4_startWord := by decide +kernel
set_option maxRecDepth 20000 in
theorem sb_LW_34_LC12 : sbL LW 34 (LC 12) := sbl_of rfl
theorem hvX4_addLast : yX4_addLast.cls = RX4 ∧ yX4_addLast.cls ≠ "java/lang/invoke/MethodHandle" ∧ yX4_addLast.cls ≠ "java/lang/invoke/VarHandle" ∧ (parseMethodDescriptor yX4_addLast.desc).map (fun d => d.parameters.length) = some 2 := by decide +kernel
def fX4_startWord (V : Mem) (a1 : Int32) : Mem := if V 27 0 < (12 : Int32) then lt (cset V 29 12 (V 27 0) ((0 : Int32))) (fun V2 => lt (cset V2 33 12 (V 27 0) ((-1006 : Int32))) (fun V3 => lt (cset V3 35 12 (V 27 0) ((-1006 : Int32))) (fun V4 => lt (fX4_addLast V4 a1 (V 27 0)) (fun U5 => lt (sv U5 27 0 ((U5 27 0) + ((1 : Int32)))) (fun V6 => V6))))) else V
abbrev rmX4_startWord : Room := { frames := 2, cells := 0, slots := 0, locals := 45 }
set_option maxHeartbeats 4000000 in
set_option maxRecDepth 100000 in
theorem mX4_startWord (l : Launch) (X : kX) (b : Nat) (V : Mem) (a1 : Int32) (out : Mem) (hE : fX4_startWord V a1 = out) : MW l yX4_startWord wsX4_startWord rmX4_startWord X [.ref (b + 27), .int a1] (RP X LW b V) (none) b (b + LW.length) (RP X LW b out) := by
  refine mt_head (cc := cX4_startWord) (maxL := 3) (ret := none) (own := RX4) (by decide) rfl rfl (Nat.le_of_ble_eq_true rfl) ?_
  intro p e s m below meth c ls F hr hlocks hnm hR hl
  have hx := F.1.1
  have hb := F.1.2.1
  have hH : Hp (t_fr b (b + LW.length)) s.heap s.heap.size X LW b V s.heap [] := ⟨hR, va_S.rf, rfl⟩
  have hl : lv_has ls 3 [(0, .ref (b + 27)), (1, .int a1)] := hl
  unfold fX4_startWord at hE
  refine lv_aload_n hx hb dX4_startWord_0 rfl (lv_at hl 0 rfl) ?_
  refine rg_geti F hH.1 27 (ci := 4) rfl (C := RX4) (T := TX4) (N := 8) rfl iwX4_startWord_X4 7 (i := 0) rfl (by decide) rfl lkX4_startWord_0 rfl dX4_startWord_1 ?_
  refine lv_istore_n (lv' := [(2, .int (V 27 0)), (0, .ref (b + 27)), (1, .int a1)]) hx hb dX4_startWord_4 rfl hl (by decide) rfl (fun ls hl => ?_)
  refine lv_iload_n hx hb dX4_startWord_5 rfl (lv_at hl 0 rfl) ?_
  refine lv_bipush (v := 12) hx hb dX4_startWord_6 (by decide) ?_
  refine lv_icmp_lt (tgt := 12) hx hb dX4_startWord_8 (by decide) (fun c1 => ?_) (fun c1 => ?_)
  · have hE := (if_pos c1).symm.trans hE
    refine lv_aload_n hx hb dX4_startWord_12 rfl (lv_at hl 1 rfl) ?_
    refine rg_getr F hH.1 27 (ci := 4) rfl (C := RX4) (T := TX4) (N := 8) rfl iwX4_startWord_X4 0 (d := 1) (n := 28) rfl rfl (by decide) rfl lkX4_startWord_1 rfl dX4_startWord_13 ?_
    refine lv_iload_n hx hb dX4_startWord_16 rfl (lv_at hl 0 rfl) ?_
    refine lv_iconst (v := 0) hx hb dX4_startWord_17 (by decide) ?_
    obtain ⟨V2, eV2, hE⟩ := lt_el hE
    refine rg_callWV (As := [.int (V 27 0), .int ((0 : Int32))]) (rest := []) F hH (fun q h1 h2 => ⟨h1, h2⟩) 28 sb_LW_28_LC12 (kX0_set l X 12 (by decide) (b + 28) (gv V 28) (V 27 0) ((0 : Int32)) _ rfl) (cwV 2 F.1.2.2.2.2 gX4_startWord_X0_set rfl rfl rfl hvX0_set ⟨Nat.le_of_ble_eq_true rfl, Nat.le_of_ble_eq_true rfl⟩) (rp_recv F hH.1 28 rfl (C := RX0) (T := TX0) (N := 1) rfl rfl) (hH.1.sub 28 sb_LW_28_LC12) rfl hl.1 (Nat.le_of_ble_eq_true rfl) dX4_startWord_18 ⟨Nat.zero_le _, Nat.zero_le _⟩ rfl ((pv_cset ..).trans eV2) (fun H locs hH hfr => ?_)
    refine lv_aload_n hx hb dX4_startWord_21 rfl (lv_at hl 1 rfl) ?_
    refine rg_getr F hH.1 27 (ci := 4) rfl (C := RX4) (T := TX4) (N := 8) rfl iwX4_startWord_X4 2 (d := 5) (n := 32) rfl rfl (by decide) rfl lkX4_startWord_2 rfl dX4_startWord_22 ?_
    refine lv_iload_n hx hb dX4_startWord_25 rfl (lv_at hl 0 rfl) ?_
    refine lv_sipush (v := (-1006)) hx hb dX4_startWord_26 (by decide) ?_
    obtain ⟨V3, eV3, hE⟩ := lt_el hE
    refine rg_callWV (As := [.int (V 27 0), .int ((-1006 : Int32))]) (rest := []) F hH (fun q h1 h2 => ⟨h1, h2⟩) 32 sb_LW_32_LC12 (kX0_set l X 12 (by decide) (b + 32) (gv V2 32) (V 27 0) ((-1006 : Int32)) _ rfl) (cwV 2 F.1.2.2.2.2 gX4_startWord_X0_set rfl rfl rfl hvX0_set ⟨Nat.le_of_ble_eq_true rfl, Nat.le_of_ble_eq_true rfl⟩) (rp_recv F hH.1 32 rfl (C := RX0) (T := TX0) (N := 1) rfl rfl) (hH.1.sub 32 sb_LW_32_LC12) rfl hl.1 (Nat.le_of_ble_eq_true rfl) dX4_startWord_29 ⟨Nat.zero_le _, Nat.zero_le _⟩ rfl ((pv_cset ..).trans eV3) (fun H locs hH hfr => ?_)
    refine lv_aload_n hx hb dX4_startWord_32 rfl (lv_at hl 1 rfl) ?_
    refine rg_getr F hH.1 27 (ci := 4) rfl (C := RX4) (T := TX4) (N := 8) rfl iwX4_startWord_X4 3 (d := 7) (n := 34) rfl rfl (by decide) rfl lkX4_startWord_3 rfl dX4_startWord_33 ?_
    refine lv_iload_n hx hb dX4_startWord_36 rfl (lv_at hl 0 rfl) ?_
    refine lv_sipush (v := (-1006)) hx hb dX4_startWord_37 (by decide) ?_
    obtain ⟨V4, eV4, hE⟩ := lt_el hE
    refine rg_callWV (As := [.int (V 27 0), .int ((-1006 : Int32))]) (rest := []) F hH (fun q h1 h2 => ⟨h1, h2⟩) 34 sb_LW_34_LC12 (kX0_set l X 12 (by decide) (b + 34) (gv V3 34) (V 27 0) ((-1006 : Int32)) _ rfl) (cwV 2 F.1.2.2.2.2 gX4_startWord_X0_set rfl rfl rfl hvX0_set ⟨Nat.le_of_ble_eq_true rfl, Nat.le_of_ble_eq_true rfl⟩) (rp_recv F hH.1 34 rfl (C := RX0) (T := TX0) (N := 1) rfl rfl) (hH.1.sub 34 sb_LW_34_LC12) rfl hl.1 (Nat.le_of_ble_eq_true rfl) dX4_startWord_40 ⟨Nat.zero_le _, Nat.zero_le _⟩ rfl ((pv_cset ..).trans eV4) (fun H locs hH hfr => ?_)
    refine lv_aload_n hx hb dX4_startWord_43 rfl (lv_at hl 1 rfl) ?_
    refine lv_iload_n hx hb dX4_startWord_44 rfl (lv_at hl 2 rfl) ?_
    refine lv_iload_n hx hb dX4_startWord_45 rfl (lv_at hl 0 rfl) ?_
    obtain ⟨U5, eU5, hE⟩ := lt_el hE
    refine rg_callWS (As := [.int a1, .int (V 27 0)]) (rest := []) F hH (fun q h1 h2 => ⟨h1, h2⟩) (mX4_addLast l X b V4 a1 (V 27 0) U5 eU5) (cwV 2 F.1.2.2.2.2 gX4_startWord_X4_addLast rfl rfl rfl hvX4_addLast ⟨Nat.le_of_ble_eq_true rfl, Nat.le_of_ble_eq_true rfl⟩) (rp_recv F hH.1 27 rfl (C := RX4) (T := TX4) (N := 8) rfl rfl) hH.1 rfl hl.1 (Nat.le_of_ble_eq_true rfl) dX4_startWord_46 ⟨Nat.zero_le _, Nat.zero_le _⟩ rfl (fun H locs hH => ?_)
    refine lv_aload_n hx hb dX4_startWord_49 rfl (lv_at hl 1 rfl) ?_
    refine lv_dup hx hb dX4_startWord_50 rfl ?_
    refine rg_geti F hH.1 27 (ci := 4) rfl (C := RX4) (T := TX4) (N := 8) rfl iwX4_startWord_X4 7 (i := 0) rfl (by decide) rfl lkX4_startWord_0 rfl dX4_startWord_51 ?_
    refine lv_iconst (v := 1) hx hb dX4_startWord_54 (by decide) ?_
    refine lv_iadd hx hb dX4_startWord_55 ?_
    obtain ⟨V6, eV6, hE⟩ := lt_el hE
    refine rg_put F hH (fun q h1 h2 => ⟨h1, h2⟩) 27 (ci := 4) rfl (C := RX4) (T := TX4) (N := 8) rfl iwX4_startWord_X4 tyX4 tyX4_ok nmX4 7 (i := 0) rfl (by decide) (by decide) rfl rfl (by decide +kernel) lkX4_startWord_0 rfl dX4_startWord_56 (fun H locs hH hfr => ?_)
    replace hH := hp_cast eV6 hH
    subst hE
    exact W.vret hx hb hr (fun t ht _ => mw_post hH ht) hH.2.1.2.2 dX4_startWord_59
  · have hE := (if_neg c1).symm.trans hE
    subst hE
    exact W.vret hx hb hr (fun t ht _ => mw_post hH ht) hH.2.1.2.2 dX4_startWord_11
set_option maxRecDepth 20000 in
theorem lkX4_addLetter_0 : Cond.fieldLink RX4 38 "TideWords$Words" "total" "I" ∈ wsX4_addLetter := by decide +kernel
set_option maxRecDepth 20000 in
theorem iwX4_addLetter_X4 : ∀ w ∈ wsX40, w ∈ wsX4_addLetter := by decide +kernel
set_option maxRecDepth 20000 in
theorem lkX4_addLetter_1 : Cond.fieldLink RX4 14 "TideWords$Words" "lengths" "LTideWords$Cells;" ∈ wsX4_addLetter := by decide +kernel
set_option maxRecDepth 20000 in
theorem lkX4_addLetter_2 : Cond.fieldLink RX4 20 "TideWords$Words" "letters" "LTideWords$Cells;" ∈ wsX4_addLetter := by decide +kernel
theorem hvX0_add : yX0_add.cls = RX0 ∧ yX0_add.cls ≠ "java/lang/invoke/MethodHandle" ∧ yX0_add.cls ≠ "java/lang/invoke/VarHandle" ∧ (parseMethodDescriptor yX0_add.desc).map (fun d => d.parameters.length) = some 2 := by decide +kernel
def fX4_addLetter (V : Mem) (a1 : Int32) : Mem := lt (cget 12 (V 29) ((V 27 0) - ((1 : Int32)))) (fun r1 => if (6 : Int32) ≤ r1 then V else lt (cset V 31 72 ((((V 27 0) - ((1 : Int32))) * ((6 : Int32))) + r1) a1) (fun V3 => lt (cadd V3 29 12 ((V 27 0) - ((1 : Int32))) ((1 : Int32))) (fun V4 => V4)))
abbrev rmX4_addLetter : Room := { frames := 1, cells := 0, slots := 0, locals := 22 }
set_option maxHeartbeats 4000000 in
set_option maxRecDepth 100000 in
theorem mX4_addLetter (l : Launch) (X : kX) (b : Nat) (V : Mem) (a1 : Int32) (out : Mem) (hE : fX4_addLetter V a1 = out) : MW l yX4_addLetter wsX4_addLetter rmX4_addLetter X [.ref (b + 27), .int a1] (RP X LW b V) (none) b (b + LW.length) (RP X LW b out) := by
  refine mt_head (cc := cX4_addLetter) (maxL := 4) (ret := none) (own := RX4) (by decide) rfl rfl (Nat.le_of_ble_eq_true rfl) ?_
  intro p e s m below meth c ls F hr hlocks hnm hR hl
  have hx := F.1.1
  have hb := F.1.2.1
  have hH : Hp (t_fr b (b + LW.length)) s.heap s.heap.size X LW b V s.heap [] := ⟨hR, va_S.rf, rfl⟩
  have hl : lv_has ls 4 [(0, .ref (b + 27)), (1, .int a1)] := hl
  unfold fX4_addLetter at hE
  refine lv_aload_n hx hb dX4_addLetter_0 rfl (lv_at hl 0 rfl) ?_
  refine rg_geti F hH.1 27 (ci := 4) rfl (C := RX4) (T := TX4) (N := 8) rfl iwX4_addLetter_X4 7 (i := 0) rfl (by decide) rfl lkX4_addLetter_0 rfl dX4_addLetter_1 ?_
  refine lv_iconst (v := 1) hx hb dX4_addLetter_4 (by decide) ?_
  refine lv_isub hx hb dX4_addLetter_5 ?_
  refine lv_istore_n (lv' := [(2, .int ((V 27 0) - ((1 : Int32)))), (0, .ref (b + 27)), (1, .int a1)]) hx hb dX4_addLetter_6 rfl hl (by decide) rfl (fun ls hl => ?_)
  refine lv_aload_n hx hb dX4_addLetter_7 rfl (lv_at hl 1 rfl) ?_
  refine rg_getr F hH.1 27 (ci := 4) rfl (C := RX4) (T := TX4) (N := 8) rfl iwX4_addLetter_X4 0 (d := 1) (n := 28) rfl rfl (by decide) rfl lkX4_addLetter_1 rfl dX4_addLetter_8 ?_
  refine lv_iload_n hx hb dX4_addLetter_11 rfl (lv_at hl 0 rfl) ?_
  obtain ⟨r1, er1, hE⟩ := lt_el hE
  refine rg_callRV (As := [.int ((V 27 0) - ((1 : Int32)))]) (rest := []) F (kX0_get l X 12 (by decide) (b + 28) (gv V 28) ((V 27 0) - ((1 : Int32))) r1 er1) (cwV 1 F.1.2.2.2.2 gX4_addLetter_X0_get rfl rfl rfl hvX0_get ⟨Nat.le_of_ble_eq_true rfl, Nat.le_of_ble_eq_true rfl⟩) (rp_recv F hH.1 28 rfl (C := RX0) (T := TX0) (N := 1) rfl rfl) (hH.1.sub 28 sb_LW_28_LC12) rfl hl.1 (Nat.le_of_ble_eq_true rfl) dX4_addLetter_12 ⟨Nat.zero_le _, Nat.zero_le _⟩ rfl ?_
  refine lv_istore_n (lv' := [(3, .int r1), (2, .int ((V 27 0) - ((1 : Int32)))), (0, .ref (b + 27)), (1, .int a1)]) hx hb dX4_addLetter_15 rfl hl (by decide) rfl (fun ls hl => ?_)
  refine lv_iload_n hx hb dX4_addLetter_16 rfl (lv_at hl 0 rfl) ?_
  refine lv_bipush (v := 6) hx hb dX4_addLetter_17 (by decide) ?_
  refine lv_icmp_ge (tgt := 45) hx hb dX4_addLetter_19 (by decide) (fun c2 => ?_) (fun c2 => ?_)
  · have hE := (if_pos c2).symm.trans hE
    subst hE
    exact W.vret hx hb hr (fun t ht _ => mw_post hH ht) hH.2.1.2.2 dX4_addLetter_45
  · have hE := (if_neg c2).symm.trans hE
    refine lv_aload_n hx hb dX4_addLetter_22 rfl (lv_at hl 2 rfl) ?_
    refine rg_getr F hH.1 27 (ci := 4) rfl (C := RX4) (T := TX4) (N := 8) rfl iwX4_addLetter_X4 1 (d := 3) (n := 30) rfl rfl (by decide) rfl lkX4_addLetter_2 rfl dX4_addLetter_23 ?_
    refine lv_iload_n hx hb dX4_addLetter_26 rfl (lv_at hl 1 rfl) ?_
    refine lv_bipush (v := 6) hx hb dX4_addLetter_27 (by decide) ?_
    refine lv_imul hx hb dX4_addLetter_29 ?_
    refine lv_iload_n hx hb dX4_addLetter_30 rfl (lv_at hl 0 rfl) ?_
    refine lv_iadd hx hb dX4_addLetter_31 ?_
    refine lv_iload_n hx hb dX4_addLetter_32 rfl (lv_at hl 3 rfl) ?_
    obtain ⟨V3, eV3, hE⟩ := lt_el hE
    refine rg_callWV (As := [.int ((((V 27 0) - ((1 : Int32))) * ((6 : Int32))) + r1), .int a1]) (rest := []) F hH (fun q h1 h2 => ⟨h1, h2⟩) 30 sb_LW_30_LC72 (kX0_set l X 72 (by decide) (b + 30) (gv V 30) ((((V 27 0) - ((1 : Int32))) * ((6 : Int32))) + r1) a1 _ rfl) (cwV 2 F.1.2.2.2.2 gX4_addLetter_X0_set rfl rfl rfl hvX0_set ⟨Nat.le_of_ble_eq_true rfl, Nat.le_of_ble_eq_true rfl⟩) (rp_recv F hH.1 30 rfl (C := RX0) (T := TX0) (N := 1) rfl rfl) (hH.1.sub 30 sb_LW_30_LC72) rfl hl.1 (Nat.le_of_ble_eq_true rfl) dX4_addLetter_33 ⟨Nat.zero_le _, Nat.zero_le _⟩ rfl ((pv_cset ..).trans eV3) (fun H locs hH hfr => ?_)
    refine lv_aload_n hx hb dX4_addLetter_36 rfl (lv_at hl 2 rfl) ?_
    refine rg_getr F hH.1 27 (ci := 4) rfl (C := RX4) (T := TX4) (N := 8) rfl iwX4_addLetter_X4 0 (d := 1) (n := 28) rfl rfl (by decide) rfl lkX4_addLetter_1 rfl dX4_addLetter_37 ?_
    refine lv_iload_n hx hb dX4_addLetter_40 rfl (lv_at hl 1 rfl) ?_
    refine lv_iconst (v := 1) hx hb dX4_addLetter_41 (by decide) ?_
    obtain ⟨V4, eV4, hE⟩ := lt_el hE
    refine rg_callWV (As := [.int ((V 27 0) - ((1 : Int32))), .int ((1 : Int32))]) (rest := []) F hH (fun q h1 h2 => ⟨h1, h2⟩) 28 sb_LW_28_LC12 (kX0_add l X 12 (by decide) (b + 28) (gv V3 28) ((V 27 0) - ((1 : Int32))) ((1 : Int32)) _ rfl) (cwV 2 F.1.2.2.2.2 gX4_addLetter_X0_add rfl rfl rfl hvX0_add ⟨Nat.le_of_ble_eq_true rfl, Nat.le_of_ble_eq_true rfl⟩) (rp_recv F hH.1 28 rfl (C := RX0) (T := TX0) (N := 1) rfl rfl) (hH.1.sub 28 sb_LW_28_LC12) rfl hl.1 (Nat.le_of_ble_eq_true rfl) dX4_addLetter_42 ⟨Nat.zero_le _, Nat.zero_le _⟩ rfl ((pv_cadd ..).trans eV4) (fun H locs hH hfr => ?_)
    subst hE
    exact W.vret hx hb hr (fun t ht _ => mw_post hH ht) hH.2.1.2.2 dX4_addLetter_45
set_option maxRecDepth 20000 in
theorem lkX4_markPassed_0 : Cond.fieldLink RX4 23 "TideWords$Words" "passedSteps" "LTideWords$Cells;" ∈ wsX4_markPassed := by decide +kernel
set_option maxRecDepth 20000 in
theorem iwX4_markPassed_X4 : ∀ w ∈ wsX40, w ∈ wsX4_markPassed := by decide +kernel
set_option maxRecDepth 20000 in
theorem lkX4_markPassed_1 : Cond.fieldLink RX4 26 "TideWords$Words" "passedGates" "LTideWords$Cells;" ∈ wsX4_markPassed := by decide +kernel
def fX4_markPassed (V : Mem) (a1 : Int32) (a2 : Int32) (a3 : Int32) : Mem := lt (cset V 33 12 a1 a2) (fun V1 => lt (cset V1 35 12 a1 a3) (fun V2 => V2))
abbrev rmX4_markPassed : Room := { frames := 1, cells := 0, slots := 0, locals := 22 }
set_option maxHeartbeats 4000000 in
set_option maxRecDepth 100000 in
theorem mX4_markPassed (l : Launch) (X : kX) (b : Nat) (V : Mem) (a1 : Int32) (a2 : Int32) (a3 : Int32) (out : Mem) (hE : fX4_markPassed V a1 a2 a3 = out) : MW l yX4_markPassed wsX4_markPassed rmX4_markPassed X [.ref (b + 27), .int a1, .int a2, .int a3] (RP X LW b V) (none) b (b + LW.length) (RP X LW b out) := by
  refine mt_head (cc := cX4_markPassed) (maxL := 4) (ret := none) (own := RX4) (by decide) rfl rfl (Nat.le_of_ble_eq_true rfl) ?_
  intro p e s m below meth c ls F hr hlocks hnm hR hl
  have hx := F.1.1
  have hb := F.1.2.1
  have hH : Hp (t_fr b (b + LW.length)) s.heap s.heap.size X LW b V s.heap [] := ⟨hR, va_S.rf, rfl⟩
  have hl : lv_has ls 4 [(0, .ref (b + 27)), (1, .int a1), (2, .int a2), (3, .int a3)] := hl
  unfold fX4_markPassed at hE
  refine lv_aload_n hx hb dX4_markPassed_0 rfl (lv_at hl 0 rfl) ?_
  refine rg_getr F hH.1 27 (ci := 4) rfl (C := RX4) (T := TX4) (N := 8) rfl iwX4_markPassed_X4 2 (d := 5) (n := 32) rfl rfl (by decide) rfl lkX4_markPassed_0 rfl dX4_markPassed_1 ?_
  refine lv_iload_n hx hb dX4_markPassed_4 rfl (lv_at hl 1 rfl) ?_
  refine lv_iload_n hx hb dX4_markPassed_5 rfl (lv_at hl 2 rfl) ?_
  obtain ⟨V1, eV1, hE⟩ := lt_el hE
  refine rg_callWV (As := [.int a1, .int a2]) (rest := []) F hH (fun q h1 h2 => ⟨h1, h2⟩) 32 sb_LW_32_LC12 (kX0_set l X 12 (by decide) (b + 32) (gv V 32) a1 a2 _ rfl) (cwV 2 F.1.2.2.2.2 gX4_markPassed_X0_set rfl rfl rfl hvX0_set ⟨Nat.le_of_ble_eq_true rfl, Nat.le_of_ble_eq_true rfl⟩) (rp_recv F hH.1 32 rfl (C := RX0) (T := TX0) (N := 1) rfl rfl) (hH.1.sub 32 sb_LW_32_LC12) rfl hl.1 (Nat.le_of_ble_eq_true rfl) dX4_markPassed_6 ⟨Nat.zero_le _, Nat.zero_le _⟩ rfl ((pv_cset ..).trans eV1) (fun H locs hH hfr => ?_)
  refine lv_aload_n hx hb dX4_markPassed_9 rfl (lv_at hl 0 rfl) ?_
  refine rg_getr F hH.1 27 (ci := 4) rfl (C := RX4) (T := TX4) (N := 8) rfl iwX4_markPassed_X4 3 (d := 7) (n := 34) rfl rfl (by decide) rfl lkX4_markPassed_1 rfl dX4_markPassed_10 ?_
  refine lv_iload_n hx hb dX4_markPassed_13 rfl (lv_at hl 1 rfl) ?_
  refine lv_iload_n hx hb dX4_markPassed_14 rfl (lv_at hl 3 rfl) ?_
  obtain ⟨V2, eV2, hE⟩ := lt_el hE
  refine rg_callWV (As := [.int a1, .int a3]) (rest := []) F hH (fun q h1 h2 => ⟨h1, h2⟩) 34 sb_LW_34_LC12 (kX0_set l X 12 (by decide) (b + 34) (gv V1 34) a1 a3 _ rfl) (cwV 2 F.1.2.2.2.2 gX4_markPassed_X0_set rfl rfl rfl hvX0_set ⟨Nat.le_of_ble_eq_true rfl, Nat.le_of_ble_eq_true rfl⟩) (rp_recv F hH.1 34 rfl (C := RX0) (T := TX0) (N := 1) rfl rfl) (hH.1.sub 34 sb_LW_34_LC12) rfl hl.1 (Nat.le_of_ble_eq_true rfl) dX4_markPassed_15 ⟨Nat.zero_le _, Nat.zero_le _⟩ rfl ((pv_cset ..).trans eV2) (fun H locs hH hfr => ?_)
  subst hE
  exact W.vret hx hb hr (fun t ht _ => mw_post hH ht) hH.2.1.2.2 dX4_markPassed_18
set_option maxRecDepth 20000 in
theorem lkX4_addFirst_0 : Cond.fieldLink RX4 35 "TideWords$Words" "rowLengths" "LTideWords$Cells;" ∈ wsX4_addFirst := by decide +kernel
set_option maxRecDepth 20000 in
theorem iwX4_addFirst_X4 : ∀ w ∈ wsX40, w ∈ wsX4_addFirst := by decide +kernel
set_option maxRecDepth 20000 in
theorem lkX4_addFirst_1 : Cond.fieldLink RX4 32 "TideWords$Words" "rows" "LTideWords$Cells;" ∈ wsX4_addFirst := by decide +kernel
def lbX4_addFirst_26 (a1 : Int32) (s3 : Int32 × Mem) : Option ((Int32 × Mem) ⊕ (Int32 × Mem)) := if s3.1 ≤ 0 then some (.inr (s3.1, s3.2)) else lt (cget 24 (s3.2 39) (((a1 * ((12 : Int32))) + s3.1) - ((1 : Int32)))) (fun r5 => lt (cset s3.2 39 24 ((a1 * ((12 : Int32))) + s3.1) r5) (fun V6 => some (.inl (s3.1 + (-1), V6))))
def qX4_addFirst (V : Mem) (a1 : Int32) (a2 : Int32) : Option (Mem) := lt (cget 2 (V 41) a1) (fun r1 => if (12 : Int32) ≤ r1 then some (V) else (it (lbX4_addFirst_26 a1) fuel (r1, V)).bind (fun s7 => lt (cset s7.2 39 24 (a1 * ((12 : Int32))) a2) (fun V9 => lt (cset V9 41 2 a1 (r1 + ((1 : Int32)))) (fun V10 => some (V10)))))
abbrev rmX4_addFirst : Room := { frames := 1, cells := 0, slots := 0, locals := 22 }
set_option maxHeartbeats 4000000 in
set_option maxRecDepth 100000 in
theorem mX4_addFirst (l : Launch) (X : kX) (b : Nat) (V : Mem) (a1 : Int32) (a2 : Int32) (out : Mem) (hE : qX4_addFirst V a1 a2 = some out) : MW l yX4_addFirst wsX4_addFirst rmX4_addFirst X [.ref (b + 27), .int a1, .int a2] (RP X LW b V) (none) b (b + LW.length) (RP X LW b out) := by
  refine mt_head (cc := cX4_addFirst) (maxL := 6) (ret := none) (own := RX4) (by decide) rfl rfl (Nat.le_of_ble_eq_true rfl) ?_
  intro p e s m below meth c ls F hr hlocks hnm hR hl
  have hx := F.1.1
  have hb := F.1.2.1
  have hH : Hp (t_fr b (b + LW.length)) s.heap s.heap.size X LW b V s.heap [] := ⟨hR, va_S.rf, rfl⟩
  have hl : lv_has ls 6 [(0, .ref (b + 27)), (1, .int a1), (2, .int a2)] := hl
  unfold qX4_addFirst at hE
  refine lv_iload_n hx hb dX4_addFirst_0 rfl (lv_at hl 1 rfl) ?_
  refine lv_bipush (v := 12) hx hb dX4_addFirst_1 (by decide) ?_
  refine lv_imul hx hb dX4_addFirst_3 ?_
  refine lv_istore_n (lv' := [(3, .int (a1 * ((12 : Int32)))), (0, .ref (b + 27)), (1, .int a1), (2, .int a2)]) hx hb dX4_addFirst_4 rfl hl (by decide) rfl (fun ls hl => ?_)
  refine lv_aload_n hx hb dX4_addFirst_5 rfl (lv_at hl 1 rfl) ?_
  refine rg_getr F hH.1 27 (ci := 4) rfl (C := RX4) (T := TX4) (N := 8) rfl iwX4_addFirst_X4 6 (d := 13) (n := 40) rfl rfl (by decide) rfl lkX4_addFirst_0 rfl dX4_addFirst_6 ?_
  refine lv_iload_n hx hb dX4_addFirst_9 rfl (lv_at hl 2 rfl) ?_
  obtain ⟨r1, er1, hE⟩ := lt_el hE
  refine rg_callRV (As := [.int a1]) (rest := []) F (kX0_get l X 2 (by decide) (b + 40) (gv V 40) a1 r1 er1) (cwV 1 F.1.2.2.2.2 gX4_addFirst_X0_get rfl rfl rfl hvX0_get ⟨Nat.le_of_ble_eq_true rfl, Nat.le_of_ble_eq_true rfl⟩) (rp_recv F hH.1 40 rfl (C := RX0) (T := TX0) (N := 1) rfl rfl) (hH.1.sub 40 sb_LW_40_LC2) rfl hl.1 (Nat.le_of_ble_eq_true rfl) dX4_addFirst_10 ⟨Nat.zero_le _, Nat.zero_le _⟩ rfl ?_
  refine lv_istore (lv' := [(4, .int r1), (3, .int (a1 * ((12 : Int32)))), (0, .ref (b + 27)), (1, .int a1), (2, .int a2)]) hx hb dX4_addFirst_13 hl (by decide) rfl (fun ls hl => ?_)
  refine lv_iload hx hb dX4_addFirst_15 (lv_at hl 0 rfl) ?_
  refine lv_bipush (v := 12) hx hb dX4_addFirst_17 (by decide) ?_
  refine lv_icmp_ge (tgt := 82) hx hb dX4_addFirst_19 (by decide) (fun c2 => ?_) (fun c2 => ?_)
  · have hE := (if_pos c2).symm.trans hE
    have hE := Option.some.inj hE
    subst hE
    exact W.vret hx hb hr (fun t ht _ => mw_post hH ht) hH.2.1.2.2 dX4_addFirst_82
  · have hE := (if_neg c2).symm.trans hE
    refine lv_iload hx hb dX4_addFirst_22 (lv_at hl 0 rfl) ?_
    refine lv_istore (lv' := [(5, .int r1), (4, .int r1), (3, .int (a1 * ((12 : Int32)))), (0, .ref (b + 27)), (1, .int a1), (2, .int a2)]) hx hb dX4_addFirst_24 hl (by decide) rfl (fun ls hl => ?_)
    obtain ⟨x8, hx8, hE⟩ := bd_el hE
    refine it_walk2 (body := lbX4_addFirst_26 a1) (Wh := fun s3 => ∀ (H : Heap) (locs : List Loc) (ls : Array Slot), Hp (t_fr b (b + LW.length)) s.heap s.heap.size X LW b s3.2 H locs → lv_has ls 6 [(5, .int s3.1), (4, .int r1), (3, .int (a1 * ((12 : Int32)))), (0, .ref (b + 27)), (1, .int a1), (2, .int a2)] → W p l e rmX4_addFirst s m ([.ref (b + 27), .int a1, .int a2] : List Value).toArray below meth c H locs 0 0 (MQ below (cQw (none) b (b + LW.length) (RP X LW b out)) ([.ref (b + 27), .int a1, .int a2] : List Value).toArray s 0 0 (t_fr b (b + LW.length))) (F0 m 26 ls [])) (We := fun s7 => ∀ (H : Heap) (locs : List Loc) (ls : Array Slot), Hp (t_fr b (b + LW.length)) s.heap s.heap.size X LW b s7.2 H locs → lv_has ls 6 [(5, .int s7.1), (4, .int r1), (3, .int (a1 * ((12 : Int32)))), (0, .ref (b + 27)), (1, .int a1), (2, .int a2)] → W p l e rmX4_addFirst s m ([.ref (b + 27), .int a1, .int a2] : List Value).toArray below meth c H locs 0 0 (MQ below (cQw (none) b (b + LW.length) (RP X LW b out)) ([.ref (b + 27), .int a1, .int a2] : List Value).toArray s 0 0 (t_fr b (b + LW.length))) (F0 m 61 ls [])) ?_ _ _ _ hx8 ?_ s.heap [] ls hH (lv_sub hl [0, 1, 2, 3, 4, 5] rfl)
    · intro s3 r9 hE hL9 hR9 H locs ls hH hl
      unfold lbX4_addFirst_26 at hE
      refine lv_iload hx hb dX4_addFirst_26 (lv_at hl 0 rfl) ?_
      refine lv_if_le (tgt := 61) hx hb dX4_addFirst_28 (by decide) (fun c4 => ?_) (fun c4 => ?_)
      · have hE := (if_pos c4).symm.trans hE
        cases hE
        exact hR9 _ rfl H locs ls hH (lv_sub hl [0, 1, 2, 3, 4, 5] rfl)
      · have hE := (if_neg c4).symm.trans hE
        refine lv_aload_n hx hb dX4_addFirst_31 rfl (lv_at hl 3 rfl) ?_
        refine rg_getr F hH.1 27 (ci := 4) rfl (C := RX4) (T := TX4) (N := 8) rfl iwX4_addFirst_X4 5 (d := 11) (n := 38) rfl rfl (by decide) rfl lkX4_addFirst_1 rfl dX4_addFirst_32 ?_
        refine lv_iload_n hx hb dX4_addFirst_35 rfl (lv_at hl 2 rfl) ?_
        refine lv_iload hx hb dX4_addFirst_36 (lv_at hl 0 rfl) ?_
        refine lv_iadd hx hb dX4_addFirst_38 ?_
        refine lv_aload_n hx hb dX4_addFirst_39 rfl (lv_at hl 3 rfl) ?_
        refine rg_getr F hH.1 27 (ci := 4) rfl (C := RX4) (T := TX4) (N := 8) rfl iwX4_addFirst_X4 5 (d := 11) (n := 38) rfl rfl (by decide) rfl lkX4_addFirst_1 rfl dX4_addFirst_40 ?_
        refine lv_iload_n hx hb dX4_addFirst_43 rfl (lv_at hl 2 rfl) ?_
        refine lv_iload hx hb dX4_addFirst_44 (lv_at hl 0 rfl) ?_
        refine lv_iadd hx hb dX4_addFirst_46 ?_
        refine lv_iconst (v := 1) hx hb dX4_addFirst_47 (by decide) ?_
        refine lv_isub hx hb dX4_addFirst_48 ?_
        obtain ⟨r5, er5, hE⟩ := lt_el hE
        refine rg_callRV (As := [.int (((a1 * ((12 : Int32))) + s3.1) - ((1 : Int32)))]) (rest := [.int ((a1 * ((12 : Int32))) + s3.1), .ref (b + 38)]) F (kX0_get l X 24 (by decide) (b + 38) (gv s3.2 38) (((a1 * ((12 : Int32))) + s3.1) - ((1 : Int32))) r5 er5) (cwV 1 F.1.2.2.2.2 gX4_addFirst_X0_get rfl rfl rfl hvX0_get ⟨Nat.le_of_ble_eq_true rfl, Nat.le_of_ble_eq_true rfl⟩) (rp_recv F hH.1 38 rfl (C := RX0) (T := TX0) (N := 1) rfl rfl) (hH.1.sub 38 sb_LW_38_LC24) rfl hl.1 (Nat.le_of_ble_eq_true rfl) dX4_addFirst_49 ⟨Nat.zero_le _, Nat.zero_le _⟩ rfl ?_
        obtain ⟨V6, eV6, hE⟩ := lt_el hE
        refine rg_callWV (As := [.int ((a1 * ((12 : Int32))) + s3.1), .int r5]) (rest := []) F hH (fun q h1 h2 => ⟨h1, h2⟩) 38 sb_LW_38_LC24 (kX0_set l X 24 (by decide) (b + 38) (gv s3.2 38) ((a1 * ((12 : Int32))) + s3.1) r5 _ rfl) (cwV 2 F.1.2.2.2.2 gX4_addFirst_X0_set rfl rfl rfl hvX0_set ⟨Nat.le_of_ble_eq_true rfl, Nat.le_of_ble_eq_true rfl⟩) (rp_recv F hH.1 38 rfl (C := RX0) (T := TX0) (N := 1) rfl rfl) (hH.1.sub 38 sb_LW_38_LC24) rfl hl.1 (Nat.le_of_ble_eq_true rfl) dX4_addFirst_52 ⟨Nat.zero_le _, Nat.zero_le _⟩ rfl ((pv_cset ..).trans eV6) (fun H locs hH hfr => ?_)
        refine lv_iinc (v := s3.1 + (-1)) (lv' := [(5, .int (s3.1 + (-1))), (4, .int r1), (3, .int (a1 * ((12 : Int32)))), (0, .ref (b + 27)), (1, .int a1), (2, .int a2)]) hx hb dX4_addFirst_55 hl (k := 0) rfl (congrArg (fun q => s3.1 + q) (by decide)) (by decide) rfl (fun ls hl => ?_)
        refine lv_goto (tgt := 26) hx hb dX4_addFirst_58 (by decide) ?_
        cases hE
        exact hL9 _ rfl H locs ls hH (lv_sub hl [0, 1, 2, 3, 4, 5] rfl)
    · intro H locs ls hH hl
      refine lv_aload_n hx hb dX4_addFirst_61 rfl (lv_at hl 3 rfl) ?_
      refine rg_getr F hH.1 27 (ci := 4) rfl (C := RX4) (T := TX4) (N := 8) rfl iwX4_addFirst_X4 5 (d := 11) (n := 38) rfl rfl (by decide) rfl lkX4_addFirst_1 rfl dX4_addFirst_62 ?_
      refine lv_iload_n hx hb dX4_addFirst_65 rfl (lv_at hl 2 rfl) ?_
      refine lv_iload_n hx hb dX4_addFirst_66 rfl (lv_at hl 5 rfl) ?_
      obtain ⟨V9, eV9, hE⟩ := lt_el hE
      refine rg_callWV (As := [.int (a1 * ((12 : Int32))), .int a2]) (rest := []) F hH (fun q h1 h2 => ⟨h1, h2⟩) 38 sb_LW_38_LC24 (kX0_set l X 24 (by decide) (b + 38) (gv x8.2 38) (a1 * ((12 : Int32))) a2 _ rfl) (cwV 2 F.1.2.2.2.2 gX4_addFirst_X0_set rfl rfl rfl hvX0_set ⟨Nat.le_of_ble_eq_true rfl, Nat.le_of_ble_eq_true rfl⟩) (rp_recv F hH.1 38 rfl (C := RX0) (T := TX0) (N := 1) rfl rfl) (hH.1.sub 38 sb_LW_38_LC24) rfl hl.1 (Nat.le_of_ble_eq_true rfl) dX4_addFirst_67 ⟨Nat.zero_le _, Nat.zero_le _⟩ rfl ((pv_cset ..).trans eV9) (fun H locs hH hfr => ?_)
      refine lv_aload_n hx hb dX4_addFirst_70 rfl (lv_at hl 3 rfl) ?_
      refine rg_getr F hH.1 27 (ci := 4) rfl (C := RX4) (T := TX4) (N := 8) rfl iwX4_addFirst_X4 6 (d := 13) (n := 40) rfl rfl (by decide) rfl lkX4_addFirst_0 rfl dX4_addFirst_71 ?_
      refine lv_iload_n hx hb dX4_addFirst_74 rfl (lv_at hl 4 rfl) ?_
      refine lv_iload hx hb dX4_addFirst_75 (lv_at hl 1 rfl) ?_
      refine lv_iconst (v := 1) hx hb dX4_addFirst_77 (by decide) ?_
      refine lv_iadd hx hb dX4_addFirst_78 ?_
      obtain ⟨V10, eV10, hE⟩ := lt_el hE
      refine rg_callWV (As := [.int a1, .int (r1 + ((1 : Int32)))]) (rest := []) F hH (fun q h1 h2 => ⟨h1, h2⟩) 40 sb_LW_40_LC2 (kX0_set l X 2 (by decide) (b + 40) (gv V9 40) a1 (r1 + ((1 : Int32))) _ rfl) (cwV 2 F.1.2.2.2.2 gX4_addFirst_X0_set rfl rfl rfl hvX0_set ⟨Nat.le_of_ble_eq_true rfl, Nat.le_of_ble_eq_true rfl⟩) (rp_recv F hH.1 40 rfl (C := RX0) (T := TX0) (N := 1) rfl rfl) (hH.1.sub 40 sb_LW_40_LC2) rfl hl.1 (Nat.le_of_ble_eq_true rfl) dX4_addFirst_79 ⟨Nat.zero_le _, Nat.zero_le _⟩ rfl ((pv_cset ..).trans eV10) (fun H locs hH hfr => ?_)
      have hE := Option.some.inj hE
      subst hE
      exact W.vret hx hb hr (fun t ht _ => mw_post hH ht) hH.2.1.2.2 dX4_addFirst_82
set_option maxRecDepth 20000 in
theorem lkX4_removeFrom_0 : Cond.fieldLink RX4 35 "TideWords$Words" "rowLengths" "LTideWords$Cells;" ∈ wsX4_removeFrom := by decide +kernel
set_option maxRecDepth 20000 in
theorem iwX4_removeFrom_X4 : ∀ w ∈ wsX40, w ∈ wsX4_removeFrom := by decide +kernel
set_option maxRecDepth 20000 in
theorem lkX4_removeFrom_1 : Cond.fieldLink RX4 32 "TideWords$Words" "rows" "LTideWords$Cells;" ∈ wsX4_removeFrom := by decide +kernel
def lbX4_removeFrom_20 (a1 : Int32) (r1 : Int32) (s2 : Int32 × Mem) : Option ((Int32 × Mem) ⊕ (Int32 × Mem)) := if r1 ≤ s2.1 then some (.inr (s2.1, s2.2)) else lt (cget 24 (s2.2 39) ((a1 * ((12 : Int32))) + s2.1)) (fun r4 => lt (cset s2.2 39 24 (((a1 * ((12 : Int32))) + s2.1) - ((1 : Int32))) r4) (fun V5 => some (.inl (s2.1 + 1, V5))))
def qX4_removeFrom (V : Mem) (a1 : Int32) (a2 : Int32) : Option (Mem) := lt (cget 2 (V 41) a1) (fun r1 => (it (lbX4_removeFrom_20 a1 r1) fuel (a2 + ((1 : Int32)), V)).bind (fun s6 => lt (cset s6.2 41 2 a1 (r1 - ((1 : Int32)))) (fun V8 => some (V8))))
abbrev rmX4_removeFrom : Room := { frames := 1, cells := 0, slots := 0, locals := 22 }
set_option maxHeartbeats 4000000 in
set_option maxRecDepth 100000 in
theorem mX4_removeFrom (l : Launch) (X : kX) (b : Nat) (V : Mem) (a1 : Int32) (a2 : Int32) (out : Mem) (hE : qX4_removeFrom V a1 a2 = some out) : MW l yX4_removeFrom wsX4_removeFrom rmX4_removeFrom X [.ref (b + 27), .int a1, .int a2] (RP X LW b V) (none) b (b + LW.length) (RP X LW b out) := by
  refine mt_head (cc := cX4_removeFrom) (maxL := 6) (ret := none) (own := RX4) (by decide) rfl rfl (Nat.le_of_ble_eq_true rfl) ?_
  intro p e s m below meth c ls F hr hlocks hnm hR hl
  have hx := F.1.1
  have hb := F.1.2.1
  have hH : Hp (t_fr b (b + LW.length)) s.heap s.heap.size X LW b V s.heap [] := ⟨hR, va_S.rf, rfl⟩
  have hl : lv_has ls 6 [(0, .ref (b + 27)), (1, .int a1), (2, .int a2)] := hl
  unfold qX4_removeFrom at hE
  refine lv_iload_n hx hb dX4_removeFrom_0 rfl (lv_at hl 1 rfl) ?_
  refine lv_bipush (v := 12) hx hb dX4_removeFrom_1 (by decide) ?_
  refine lv_imul hx hb dX4_removeFrom_3 ?_
  refine lv_istore_n (lv' := [(3, .int (a1 * ((12 : Int32)))), (0, .ref (b + 27)), (1, .int a1), (2, .int a2)]) hx hb dX4_removeFrom_4 rfl hl (by decide) rfl (fun ls hl => ?_)
  refine lv_aload_n hx hb dX4_removeFrom_5 rfl (lv_at hl 1 rfl) ?_
  refine rg_getr F hH.1 27 (ci := 4) rfl (C := RX4) (T := TX4) (N := 8) rfl iwX4_removeFrom_X4 6 (d := 13) (n := 40) rfl rfl (by decide) rfl lkX4_removeFrom_0 rfl dX4_removeFrom_6 ?_
  refine lv_iload_n hx hb dX4_removeFrom_9 rfl (lv_at hl 2 rfl) ?_
  obtain ⟨r1, er1, hE⟩ := lt_el hE
  refine rg_callRV (As := [.int a1]) (rest := []) F (kX0_get l X 2 (by decide) (b + 40) (gv V 40) a1 r1 er1) (cwV 1 F.1.2.2.2.2 gX4_removeFrom_X0_get rfl rfl rfl hvX0_get ⟨Nat.le_of_ble_eq_true rfl, Nat.le_of_ble_eq_true rfl⟩) (rp_recv F hH.1 40 rfl (C := RX0) (T := TX0) (N := 1) rfl rfl) (hH.1.sub 40 sb_LW_40_LC2) rfl hl.1 (Nat.le_of_ble_eq_true rfl) dX4_removeFrom_10 ⟨Nat.zero_le _, Nat.zero_le _⟩ rfl ?_
  refine lv_istore (lv' := [(4, .int r1), (3, .int (a1 * ((12 : Int32)))), (0, .ref (b + 27)), (1, .int a1), (2, .int a2)]) hx hb dX4_removeFrom_13 hl (by decide) rfl (fun ls hl => ?_)
  refine lv_iload_n hx hb dX4_removeFrom_15 rfl (lv_at hl 4 rfl) ?_
  refine lv_iconst (v := 1) hx hb dX4_removeFrom_16 (by decide) ?_
  refine lv_iadd hx hb dX4_removeFrom_17 ?_
  refine lv_istore (lv' := [(5, .int (a2 + ((1 : Int32)))), (4, .int r1), (3, .int (a1 * ((12 : Int32)))), (0, .ref (b + 27)), (1, .int a1), (2, .int a2)]) hx hb dX4_removeFrom_18 hl (by decide) rfl (fun ls hl => ?_)
  obtain ⟨x7, hx7, hE⟩ := bd_el hE
  refine it_walk2 (body := lbX4_removeFrom_20 a1 r1) (Wh := fun s2 => ∀ (H : Heap) (locs : List Loc) (ls : Array Slot), Hp (t_fr b (b + LW.length)) s.heap s.heap.size X LW b s2.2 H locs → lv_has ls 6 [(5, .int s2.1), (4, .int r1), (3, .int (a1 * ((12 : Int32)))), (0, .ref (b + 27)), (1, .int a1), (2, .int a2)] → W p l e rmX4_removeFrom s m ([.ref (b + 27), .int a1, .int a2] : List Value).toArray below meth c H locs 0 0 (MQ below (cQw (none) b (b + LW.length) (RP X LW b out)) ([.ref (b + 27), .int a1, .int a2] : List Value).toArray s 0 0 (t_fr b (b + LW.length))) (F0 m 20 ls [])) (We := fun s6 => ∀ (H : Heap) (locs : List Loc) (ls : Array Slot), Hp (t_fr b (b + LW.length)) s.heap s.heap.size X LW b s6.2 H locs → lv_has ls 6 [(5, .int s6.1), (4, .int r1), (3, .int (a1 * ((12 : Int32)))), (0, .ref (b + 27)), (1, .int a1), (2, .int a2)] → W p l e rmX4_removeFrom s m ([.ref (b + 27), .int a1, .int a2] : List Value).toArray below meth c H locs 0 0 (MQ below (cQw (none) b (b + LW.length) (RP X LW b out)) ([.ref (b + 27), .int a1, .int a2] : List Value).toArray s 0 0 (t_fr b (b + LW.length))) (F0 m 57 ls [])) ?_ _ _ _ hx7 ?_ s.heap [] ls hH (lv_sub hl [0, 1, 2, 3, 4, 5] rfl)
  · intro s2 r9 hE hL9 hR9 H locs ls hH hl
    unfold lbX4_removeFrom_20 at hE
    refine lv_iload hx hb dX4_removeFrom_20 (lv_at hl 0 rfl) ?_
    refine lv_iload hx hb dX4_removeFrom_22 (lv_at hl 1 rfl) ?_
    refine lv_icmp_ge (tgt := 57) hx hb dX4_removeFrom_24 (by decide) (fun c3 => ?_) (fun c3 => ?_)
    · have hE := (if_pos c3).symm.trans hE
      cases hE
      exact hR9 _ rfl H locs ls hH (lv_sub hl [0, 1, 2, 3, 4, 5] rfl)
    · have hE := (if_neg c3).symm.trans hE
      refine lv_aload_n hx hb dX4_removeFrom_27 rfl (lv_at hl 3 rfl) ?_
      refine rg_getr F hH.1 27 (ci := 4) rfl (C := RX4) (T := TX4) (N := 8) rfl iwX4_removeFrom_X4 5 (d := 11) (n := 38) rfl rfl (by decide) rfl lkX4_removeFrom_1 rfl dX4_removeFrom_28 ?_
      refine lv_iload_n hx hb dX4_removeFrom_31 rfl (lv_at hl 2 rfl) ?_
      refine lv_iload hx hb dX4_removeFrom_32 (lv_at hl 0 rfl) ?_
      refine lv_iadd hx hb dX4_removeFrom_34 ?_
      refine lv_iconst (v := 1) hx hb dX4_removeFrom_35 (by decide) ?_
      refine lv_isub hx hb dX4_removeFrom_36 ?_
      refine lv_aload_n hx hb dX4_removeFrom_37 rfl (lv_at hl 3 rfl) ?_
      refine rg_getr F hH.1 27 (ci := 4) rfl (C := RX4) (T := TX4) (N := 8) rfl iwX4_removeFrom_X4 5 (d := 11) (n := 38) rfl rfl (by decide) rfl lkX4_removeFrom_1 rfl dX4_removeFrom_38 ?_
      refine lv_iload_n hx hb dX4_removeFrom_41 rfl (lv_at hl 2 rfl) ?_
      refine lv_iload hx hb dX4_removeFrom_42 (lv_at hl 0 rfl) ?_
      refine lv_iadd hx hb dX4_removeFrom_44 ?_
      obtain ⟨r4, er4, hE⟩ := lt_el hE
      refine rg_callRV (As := [.int ((a1 * ((12 : Int32))) + s2.1)]) (rest := [.int (((a1 * ((12 : Int32))) + s2.1) - ((1 : Int32))), .ref (b + 38)]) F (kX0_get l X 24 (by decide) (b + 38) (gv s2.2 38) ((a1 * ((12 : Int32))) + s2.1) r4 er4) (cwV 1 F.1.2.2.2.2 gX4_removeFrom_X0_get rfl rfl rfl hvX0_get ⟨Nat.le_of_ble_eq_true rfl, Nat.le_of_ble_eq_true rfl⟩) (rp_recv F hH.1 38 rfl (C := RX0) (T := TX0) (N := 1) rfl rfl) (hH.1.sub 38 sb_LW_38_LC24) rfl hl.1 (Nat.le_of_ble_eq_true rfl) dX4_removeFrom_45 ⟨Nat.zero_le _, Nat.zero_le _⟩ rfl ?_
      obtain ⟨V5, eV5, hE⟩ := lt_el hE
      refine rg_callWV (As := [.int (((a1 * ((12 : Int32))) + s2.1) - ((1 : Int32))), .int r4]) (rest := []) F hH (fun q h1 h2 => ⟨h1, h2⟩) 38 sb_LW_38_LC24 (kX0_set l X 24 (by decide) (b + 38) (gv s2.2 38) (((a1 * ((12 : Int32))) + s2.1) - ((1 : Int32))) r4 _ rfl) (cwV 2 F.1.2.2.2.2 gX4_removeFrom_X0_set rfl rfl rfl hvX0_set ⟨Nat.le_of_ble_eq_true rfl, Nat.le_of_ble_eq_true rfl⟩) (rp_recv F hH.1 38 rfl (C := RX0) (T := TX0) (N := 1) rfl rfl) (hH.1.sub 38 sb_LW_38_LC24) rfl hl.1 (Nat.le_of_ble_eq_true rfl) dX4_removeFrom_48 ⟨Nat.zero_le _, Nat.zero_le _⟩ rfl ((pv_cset ..).trans eV5) (fun H locs hH hfr => ?_)
      refine lv_iinc (v := s2.1 + 1) (lv' := [(5, .int (s2.1 + 1)), (4, .int r1), (3, .int (a1 * ((12 : Int32)))), (0, .ref (b + 27)), (1, .int a1), (2, .int a2)]) hx hb dX4_removeFrom_51 hl (k := 0) rfl (congrArg (fun q => s2.1 + q) (by decide)) (by decide) rfl (fun ls hl => ?_)
      refine lv_goto (tgt := 20) hx hb dX4_removeFrom_54 (by decide) ?_
      cases hE
      exact hL9 _ rfl H locs ls hH (lv_sub hl [0, 1, 2, 3, 4, 5] rfl)
  · intro H locs ls hH hl
    refine lv_aload_n hx hb dX4_removeFrom_57 rfl (lv_at hl 3 rfl) ?_
    refine rg_getr F hH.1 27 (ci := 4) rfl (C := RX4) (T := TX4) (N := 8) rfl iwX4_removeFrom_X4 6 (d := 13) (n := 40) rfl rfl (by decide) rfl lkX4_removeFrom_0 rfl dX4_removeFrom_58 ?_
    refine lv_iload_n hx hb dX4_removeFrom_61 rfl (lv_at hl 4 rfl) ?_
    refine lv_iload hx hb dX4_removeFrom_62 (lv_at hl 1 rfl) ?_
    refine lv_iconst (v := 1) hx hb dX4_removeFrom_64 (by decide) ?_
    refine lv_isub hx hb dX4_removeFrom_65 ?_
    obtain ⟨V8, eV8, hE⟩ := lt_el hE
    refine rg_callWV (As := [.int a1, .int (r1 - ((1 : Int32)))]) (rest := []) F hH (fun q h1 h2 => ⟨h1, h2⟩) 40 sb_LW_40_LC2 (kX0_set l X 2 (by decide) (b + 40) (gv x7.2 40) a1 (r1 - ((1 : Int32))) _ rfl) (cwV 2 F.1.2.2.2.2 gX4_removeFrom_X0_set rfl rfl rfl hvX0_set ⟨Nat.le_of_ble_eq_true rfl, Nat.le_of_ble_eq_true rfl⟩) (rp_recv F hH.1 40 rfl (C := RX0) (T := TX0) (N := 1) rfl rfl) (hH.1.sub 40 sb_LW_40_LC2) rfl hl.1 (Nat.le_of_ble_eq_true rfl) dX4_removeFrom_66 ⟨Nat.zero_le _, Nat.zero_le _⟩ rfl ((pv_cset ..).trans eV8) (fun H locs hH hfr => ?_)
    have hE := Option.some.inj hE
    subst hE
    exact W.vret hx hb hr (fun t ht _ => mw_post hH ht) hH.2.1.2.2 dX4_removeFrom_69
set_option maxRecDepth 20000 in
theorem lkX4_takeWaiting_0 : Cond.fieldLink RX4 35 "TideWords$Words" "rowLengths" "LTideWords$Cells;" ∈ wsX4_takeWaiting := by decide +kernel
set_option maxRecDepth 20000 in
theorem iwX4_takeWaiting_X4 : ∀ w ∈ wsX40, w ∈ wsX4_takeWaiting := by decide +kernel
theorem hvX4_removeFrom : yX4_removeFrom.cls = RX4 ∧ yX4_removeFrom.cls ≠ "java/lang/invoke/MethodHandle" ∧ yX4_removeFrom.cls ≠ "java/lang/invoke/VarHandle" ∧ (parseMethodDescriptor yX4_removeFrom.desc).map (fun d => d.parameters.length) = some 2 := by decide +kernel
def lbX4_takeWaiting_11 (V : Mem) (a1 : Int32) (r1 : Int32) (s2 : Int32) : Option ((Int32) ⊕ ((Int32 × Mem) ⊕ (Int32))) := if r1 ≤ s2 then some (.inr (.inr s2)) else lt (fX4_wordAt V a1 s2) (fun r4 => lt (fX4_hasPassed V r4) (fun r5 => if r5 = 0 then (qX4_removeFrom V a1 s2).bind (fun U7 => some (.inr (.inl ((r4, U7))))) else some (.inl (s2 + 1))))
def qX4_takeWaiting (V : Mem) (a1 : Int32) : Option (Int32 × Mem) := lt (cget 2 (V 41) a1) (fun r1 => (it (lbX4_takeWaiting_11 V a1 r1) fuel (0 : Int32)).bind (fun x9 => Sum.elim (fun r0 => some r0) (fun s8 => some (((-1006 : Int32), V))) x9))
abbrev rmX4_takeWaiting : Room := { frames := 2, cells := 0, slots := 0, locals := 47 }
set_option maxHeartbeats 4000000 in
set_option maxRecDepth 100000 in
theorem mX4_takeWaiting (l : Launch) (X : kX) (b : Nat) (V : Mem) (a1 : Int32) (out : Int32 × Mem) (hE : qX4_takeWaiting V a1 = some out) : MW l yX4_takeWaiting wsX4_takeWaiting rmX4_takeWaiting X [.ref (b + 27), .int a1] (RP X LW b V) (some (.int out.1)) b (b + LW.length) (RP X LW b out.2) := by
  refine mt_head (cc := cX4_takeWaiting) (maxL := 5) (ret := (some .int)) (own := RX4) (by decide) rfl rfl (Nat.le_of_ble_eq_true rfl) ?_
  intro p e s m below meth c ls F hr hlocks hnm hR hl
  have hx := F.1.1
  have hb := F.1.2.1
  have hH : Hp (t_fr b (b + LW.length)) s.heap s.heap.size X LW b V s.heap [] := ⟨hR, va_S.rf, rfl⟩
  have hl : lv_has ls 5 [(0, .ref (b + 27)), (1, .int a1)] := hl
  unfold qX4_takeWaiting at hE
  refine lv_aload_n hx hb dX4_takeWaiting_0 rfl (lv_at hl 0 rfl) ?_
  refine rg_getr F hH.1 27 (ci := 4) rfl (C := RX4) (T := TX4) (N := 8) rfl iwX4_takeWaiting_X4 6 (d := 13) (n := 40) rfl rfl (by decide) rfl lkX4_takeWaiting_0 rfl dX4_takeWaiting_1 ?_
  refine lv_iload_n hx hb dX4_takeWaiting_4 rfl (lv_at hl 1 rfl) ?_
  obtain ⟨r1, er1, hE⟩ := lt_el hE
  refine rg_callRV (As := [.int a1]) (rest := []) F (kX0_get l X 2 (by decide) (b + 40) (gv V 40) a1 r1 er1) (cwV 1 F.1.2.2.2.2 gX4_takeWaiting_X0_get rfl rfl rfl hvX0_get ⟨Nat.le_of_ble_eq_true rfl, Nat.le_of_ble_eq_true rfl⟩) (rp_recv F hH.1 40 rfl (C := RX0) (T := TX0) (N := 1) rfl rfl) (hH.1.sub 40 sb_LW_40_LC2) rfl hl.1 (Nat.le_of_ble_eq_true rfl) dX4_takeWaiting_5 ⟨Nat.zero_le _, Nat.zero_le _⟩ rfl ?_
  refine lv_istore_n (lv' := [(2, .int r1), (0, .ref (b + 27)), (1, .int a1)]) hx hb dX4_takeWaiting_8 rfl hl (by decide) rfl (fun ls hl => ?_)
  refine lv_iconst (v := 0) hx hb dX4_takeWaiting_9 (by decide) ?_
  refine lv_istore_n (lv' := [(3, .int ((0 : Int32))), (2, .int r1), (0, .ref (b + 27)), (1, .int a1)]) hx hb dX4_takeWaiting_10 rfl hl (by decide) rfl (fun ls hl => ?_)
  obtain ⟨x9, hx9, hE⟩ := bd_el hE
  refine it_walk2 (body := lbX4_takeWaiting_11 V a1 r1) (Wh := fun s2 => ∀ (ls : Array Slot), lv_has ls 5 [(3, .int s2), (2, .int r1), (0, .ref (b + 27)), (1, .int a1)] → W p l e rmX4_takeWaiting s m ([.ref (b + 27), .int a1] : List Value).toArray below meth c s.heap [] 0 0 (MQ below (cQw (some (.int out.1)) b (b + LW.length) (RP X LW b out.2)) ([.ref (b + 27), .int a1] : List Value).toArray s 0 0 (t_fr b (b + LW.length))) (F0 m 11 ls [])) (We := fun x9 => (∀ r0, x9 = .inl r0 → r0 = out) ∧ (∀ s8, x9 = .inr s8 → ∀ (ls : Array Slot), lv_has ls 5 [(3, .int s8), (2, .int r1), (0, .ref (b + 27)), (1, .int a1)] → W p l e rmX4_takeWaiting s m ([.ref (b + 27), .int a1] : List Value).toArray below meth c s.heap [] 0 0 (MQ below (cQw (some (.int out.1)) b (b + LW.length) (RP X LW b out.2)) ([.ref (b + 27), .int a1] : List Value).toArray s 0 0 (t_fr b (b + LW.length))) (F0 m 48 ls []))) ?_ _ _ _ hx9 ?_ ls (lv_sub hl [0, 1, 2, 3] rfl)
  · intro s2 r9 hE hL9 hR9 ls hl
    unfold lbX4_takeWaiting_11 at hE
    refine lv_iload_n hx hb dX4_takeWaiting_11 rfl (lv_at hl 0 rfl) ?_
    refine lv_iload_n hx hb dX4_takeWaiting_12 rfl (lv_at hl 1 rfl) ?_
    refine lv_icmp_ge (tgt := 48) hx hb dX4_takeWaiting_13 (by decide) (fun c3 => ?_) (fun c3 => ?_)
    · have hE := (if_pos c3).symm.trans hE
      cases hE
      exact (hR9 _ rfl).2 _ rfl ls (lv_sub hl [0, 1, 2, 3] rfl)
    · have hE := (if_neg c3).symm.trans hE
      refine lv_aload_n hx hb dX4_takeWaiting_16 rfl (lv_at hl 2 rfl) ?_
      refine lv_iload_n hx hb dX4_takeWaiting_17 rfl (lv_at hl 3 rfl) ?_
      refine lv_iload_n hx hb dX4_takeWaiting_18 rfl (lv_at hl 0 rfl) ?_
      obtain ⟨r4, er4, hE⟩ := lt_el hE
      refine rg_callRV (As := [.int a1, .int s2]) (rest := []) F (mX4_wordAt l X b V a1 s2 r4 er4) (cwV 2 F.1.2.2.2.2 gX4_takeWaiting_X4_wordAt rfl rfl rfl hvX4_wordAt ⟨Nat.le_of_ble_eq_true rfl, Nat.le_of_ble_eq_true rfl⟩) (rp_recv F hH.1 27 rfl (C := RX4) (T := TX4) (N := 8) rfl rfl) hH.1 rfl hl.1 (Nat.le_of_ble_eq_true rfl) dX4_takeWaiting_19 ⟨Nat.zero_le _, Nat.zero_le _⟩ rfl ?_
      refine lv_istore (lv' := [(4, .int r4), (3, .int s2), (2, .int r1), (0, .ref (b + 27)), (1, .int a1)]) hx hb dX4_takeWaiting_22 hl (by decide) rfl (fun ls hl => ?_)
      refine lv_aload_n hx hb dX4_takeWaiting_24 rfl (lv_at hl 3 rfl) ?_
      refine lv_iload hx hb dX4_takeWaiting_25 (lv_at hl 0 rfl) ?_
      obtain ⟨r5, er5, hE⟩ := lt_el hE
      refine rg_callRV (As := [.int r4]) (rest := []) F (mX4_hasPassed l X b V r4 r5 er5) (cwV 1 F.1.2.2.2.2 gX4_takeWaiting_X4_hasPassed rfl rfl rfl hvX4_hasPassed ⟨Nat.le_of_ble_eq_true rfl, Nat.le_of_ble_eq_true rfl⟩) (rp_recv F hH.1 27 rfl (C := RX4) (T := TX4) (N := 8) rfl rfl) hH.1 rfl hl.1 (Nat.le_of_ble_eq_true rfl) dX4_takeWaiting_27 ⟨Nat.zero_le _, Nat.zero_le _⟩ rfl ?_
      refine lv_if_ne (tgt := 42) hx hb dX4_takeWaiting_30 (by decide) (fun c6 => ?_) (fun c6 => ?_)
      · have hE := (if_neg c6).symm.trans hE
        refine lv_iinc (v := s2 + 1) (lv' := [(3, .int (s2 + 1)), (4, .int r4), (2, .int r1), (0, .ref (b + 27)), (1, .int a1)]) hx hb dX4_takeWaiting_42 hl (k := 1) rfl (congrArg (fun q => s2 + q) (by decide)) (by decide) rfl (fun ls hl => ?_)
        refine lv_goto (tgt := 11) hx hb dX4_takeWaiting_45 (by decide) ?_
        cases hE
        exact hL9 _ rfl ls (lv_sub hl [0, 2, 3, 4] rfl)
      · have hE := (if_pos c6).symm.trans hE
        refine lv_aload_n hx hb dX4_takeWaiting_33 rfl (lv_at hl 3 rfl) ?_
        refine lv_iload_n hx hb dX4_takeWaiting_34 rfl (lv_at hl 4 rfl) ?_
        refine lv_iload_n hx hb dX4_takeWaiting_35 rfl (lv_at hl 1 rfl) ?_
        obtain ⟨U7, eU7, hE⟩ := bd_el hE
        refine rg_callWS (As := [.int a1, .int s2]) (rest := []) F hH (fun q h1 h2 => ⟨h1, h2⟩) (mX4_removeFrom l X b V a1 s2 U7 eU7) (cwV 2 F.1.2.2.2.2 gX4_takeWaiting_X4_removeFrom rfl rfl rfl hvX4_removeFrom ⟨Nat.le_of_ble_eq_true rfl, Nat.le_of_ble_eq_true rfl⟩) (rp_recv F hH.1 27 rfl (C := RX4) (T := TX4) (N := 8) rfl rfl) hH.1 rfl hl.1 (Nat.le_of_ble_eq_true rfl) dX4_takeWaiting_36 ⟨Nat.zero_le _, Nat.zero_le _⟩ rfl (fun H locs hH => ?_)
        refine lv_iload hx hb dX4_takeWaiting_39 (lv_at hl 0 rfl) ?_
        cases hE
        have hE := (hR9 _ rfl).1 _ rfl
        subst hE
        exact W.iret (v := r4) hx hb hr (fun t ht _ => mw_post hH ht) hH.2.1.2.2 dX4_takeWaiting_41
  · refine ⟨fun r0 h9 => ?_, fun s8 h9 => ?_⟩
    · subst h9
      exact Option.some.inj hE
    · subst h9
      have hE := sel_r hE
      intro ls hl
      refine lv_sipush (v := (-1006)) hx hb dX4_takeWaiting_48 (by decide) ?_
      have hE := Option.some.inj hE
      subst hE
      exact W.iret (v := (-1006 : Int32)) hx hb hr (fun t ht _ => mw_post hH ht) hH.2.1.2.2 dX4_takeWaiting_51
/-- the row's places 1 to n take over what stands one place ahead -/
def shUp (a1 : Int32) : Nat → Mem → Mem
  | 0, V => V
  | n + 1, V => shUp a1 n (cset V 39 24 (a1 * 12 + nI (n + 1)) (cget 24 (V 39) (a1 * 12 + nI (n + 1) - 1)))
/-- the row's places from p - 1 on take over what stands one place behind, k times -/
def shDn (a1 : Int32) : Nat → Nat → Mem → Mem
  | 0, _, V => V
  | k + 1, p, V => shDn a1 k (p + 1) (cset V 39 24 (a1 * 12 + nI p - 1) (cget 24 (V 39) (a1 * 12 + nI p)))
theorem nI_m1 (n : Nat) : nI (n + 1) + (-1) = nI n := pk_m1 n
theorem le0_nI {n : Nat} (h0 : 0 < n) (h : n < 2 ^ 31) : ¬ nI n ≤ 0 := nI_nle h0 h
theorem it_shUp (a1 : Int32) : ∀ (n : Nat) (V : Mem) (f : Nat), n < 2 ^ 31 → n < f → it (lbX4_addFirst_26 a1) f (nI n, V) = some (nI 0, shUp a1 n V)
  | 0, V, f, _, hf => by
    obtain ⟨f, rfl⟩ : ∃ g, f = g + 1 := ⟨f - 1, by omega⟩
    show (lbX4_addFirst_26 a1 (nI 0, V)).bind _ = _
    unfold lbX4_addFirst_26
    dsimp only
    rw [if_pos (show nI 0 ≤ 0 from nI_le (a := 0) (b := 0) (Nat.le_refl _) (by decide))]
    rfl
  | n + 1, V, f, hn, hf => by
    obtain ⟨f, rfl⟩ : ∃ g, f = g + 1 := ⟨f - 1, by omega⟩
    show (lbX4_addFirst_26 a1 (nI (n + 1), V)).bind _ = _
    have e : lbX4_addFirst_26 a1 (nI (n + 1), V) = some (.inl (nI n, cset V 39 24 (a1 * 12 + nI (n + 1)) (cget 24 (V 39) (a1 * 12 + nI (n + 1) - 1)))) := by
      unfold lbX4_addFirst_26 lt
      dsimp only
      rw [if_neg (le0_nI (by omega) hn), nI_m1]
    rw [e]
    exact it_shUp a1 n _ f (by omega) (by omega)
def fX4_addFirst (V : Mem) (a1 a2 : Int32) : Mem := if (12 : Int32) ≤ cget 2 (V 41) a1 then V else cset (cset (shUp a1 (cget 2 (V 41) a1).toNatClampNeg V) 39 24 (a1 * 12) a2) 41 2 a1 (cget 2 (V 41) a1 + 1)
theorem tX4_addFirst (V : Mem) (a1 a2 : Int32) : qX4_addFirst V a1 a2 = some (fX4_addFirst V a1 a2) := by
  unfold qX4_addFirst fX4_addFirst lt
  dsimp only
  generalize cget 2 (V 41) a1 = r
  by_cases h : (12 : Int32) ≤ r
  · rw [if_pos h, if_pos h]
  · rw [if_neg h, if_neg h]
    by_cases h0 : 0 ≤ r
    · have e := it_shUp a1 r.toNatClampNeg V fuel (r32 r) (fuel_lt (by have := r32 r; omega))
      rw [← r_pos h0] at e
      rw [e]
      rfl
    · have e : it (lbX4_addFirst_26 a1) fuel (r, V) = some (r, V) := by
        show it (lbX4_addFirst_26 a1) (8589934591 + 1) (r, V) = _
        show (lbX4_addFirst_26 a1 (r, V)).bind _ = _
        unfold lbX4_addFirst_26
        dsimp only
        rw [if_pos (Int32.le_of_lt (Int32.not_le.mp h0))]
        rfl
      rw [e, r_neg h0]
      rfl
theorem it_shDn (a1 r : Int32) : ∀ (k p : Nat) (V : Mem) (f : Nat), p + k = r.toNatClampNeg → k < f → it (lbX4_removeFrom_20 a1 r) f (nI p, V) = some (nI (p + k), shDn a1 k p V)
  | 0, p, V, f, hp, hf => by
    obtain ⟨f, rfl⟩ : ∃ g, f = g + 1 := ⟨f - 1, by omega⟩
    show (lbX4_removeFrom_20 a1 r (nI p, V)).bind _ = _
    unfold lbX4_removeFrom_20
    dsimp only
    have hp : p = r.toNatClampNeg := by omega
    subst hp
    rw [if_pos (r_ge r)]
    rfl
  | k + 1, p, V, f, hp, hf => by
    obtain ⟨f, rfl⟩ : ∃ g, f = g + 1 := ⟨f - 1, by omega⟩
    show (lbX4_removeFrom_20 a1 r (nI p, V)).bind _ = _
    have e : lbX4_removeFrom_20 a1 r (nI p, V) = some (.inl (nI (p + 1), cset V 39 24 (a1 * 12 + nI p - 1) (cget 24 (V 39) (a1 * 12 + nI p)))) := by
      unfold lbX4_removeFrom_20 lt
      dsimp only
      rw [if_neg (r_lt (by omega)), nI_1]
    rw [e]
    show it (lbX4_removeFrom_20 a1 r) f _ = _
    rw [it_shDn a1 r k (p + 1) _ f (by omega) (by omega), show p + 1 + k = p + (k + 1) by omega]
    rfl
def fX4_removeFrom (V : Mem) (a1 : Int32) (j : Nat) : Mem := cset (shDn a1 ((cget 2 (V 41) a1).toNatClampNeg - (j + 1)) (j + 1) V) 41 2 a1 (cget 2 (V 41) a1 - 1)
theorem tX4_removeFrom (V : Mem) (a1 : Int32) (j : Nat) (hj : j < (cget 2 (V 41) a1).toNatClampNeg) : qX4_removeFrom V a1 (nI j) = some (fX4_removeFrom V a1 j) := by
  unfold qX4_removeFrom fX4_removeFrom lt
  dsimp only
  generalize cget 2 (V 41) a1 = r at hj ⊢
  have e := it_shDn a1 r (r.toNatClampNeg - (j + 1)) (j + 1) V fuel (by omega) (fuel_lt (by have := r32 r; omega))
  rw [← nI_1] at e
  rw [e]
  rfl
def fX4_takeWaiting (V : Mem) (a1 : Int32) : Int32 × Mem := (fndO (fun i => decide (fX4_hasPassed V (fX4_wordAt V a1 (nI i)) = 0)) (cget 2 (V 41) a1).toNatClampNeg 0).elim (-1006, V) (fun i => (fX4_wordAt V a1 (nI i), fX4_removeFrom V a1 i))
theorem tX4_takeWaiting (V : Mem) (a1 : Int32) : qX4_takeWaiting V a1 = some (fX4_takeWaiting V a1) := by
  unfold qX4_takeWaiting fX4_takeWaiting
  have hrm := tX4_removeFrom V a1
  unfold lt
  dsimp only
  generalize cget 2 (V 41) a1 = r at hrm ⊢
  have h : it (lbX4_takeWaiting_11 V a1 r) fuel (0 : Int32) = some ((fndO (fun i => decide (fX4_hasPassed V (fX4_wordAt V a1 (nI i)) = 0)) r.toNatClampNeg 0).elim (Sum.inr (nI r.toNatClampNeg)) (fun i => Sum.inl (fX4_wordAt V a1 (nI i), fX4_removeFrom V a1 i))) := by
    refine it_fnd (fun i => nI i) _ (fun i => Sum.inl (fX4_wordAt V a1 (nI i), fX4_removeFrom V a1 i)) _ r.toNatClampNeg (fun i hi => ?_) ?_ fuel (fuel_lt (by have := r32 r; omega))
    · unfold lbX4_takeWaiting_11 lt
      rw [if_neg (r_lt hi), nI_1]
      by_cases h : fX4_hasPassed V (fX4_wordAt V a1 (nI i)) = 0
      · simp only [h, decide_true, if_true]
        rw [hrm i hi]
        rfl
      · simp only [h, decide_false, if_false, Bool.false_eq_true]
    · unfold lbX4_takeWaiting_11
      rw [if_pos (r_ge r)]
  rw [h]
  cases fndO (fun i => decide (fX4_hasPassed V (fX4_wordAt V a1 (nI i)) = 0)) r.toNatClampNeg 0 <;> rfl

theorem kX4_addFirst (l : Launch) (X : kX) (b : Nat) (V : Mem) (a1 : Int32) (a2 : Int32) (out : Mem) (hE : fX4_addFirst V a1 a2 = out) : MW l yX4_addFirst wsX4_addFirst rmX4_addFirst X [.ref (b + 27), .int a1, .int a2] (RP X LW b V) (none) b (b + LW.length) (RP X LW b out) := mX4_addFirst l X b V a1 a2 out ((tX4_addFirst V a1 a2).trans (congrArg some hE))
theorem kX4_takeWaiting (l : Launch) (X : kX) (b : Nat) (V : Mem) (a1 : Int32) (out : Int32 × Mem) (hE : fX4_takeWaiting V a1 = out) : MW l yX4_takeWaiting wsX4_takeWaiting rmX4_takeWaiting X [.ref (b + 27), .int a1] (RP X LW b V) (some (.int out.1)) b (b + LW.length) (RP X LW b out.2) := mX4_takeWaiting l X b V a1 out ((tX4_takeWaiting V a1).trans (congrArg some hE))
end
section
set_option maxRecDepth 20000 in
theorem lkX5_isOpenAt_0 : Cond.fieldLink RX5 21 "TideWords$World" "gates" "LTideWords$Gates;" ∈ wsX5_isOpenAt := by decide +kernel
set_option maxRecDepth 20000 in
theorem iwX5_isOpenAt_X5 : ∀ w ∈ wsX50, w ∈ wsX5_isOpenAt := by decide +kernel
set_option maxRecDepth 20000 in
theorem lkX5_isOpenAt_1 : Cond.fieldLink RX5 12 "TideWords$World" "tides" "LTideWords$Tides;" ∈ wsX5_isOpenAt := by decide +kernel
theorem hvX3_gapAt : yX3_gapAt.cls = RX3 ∧ yX3_gapAt.cls ≠ "java/lang/invoke/MethodHandle" ∧ yX3_gapAt.cls ≠ "java/lang/invoke/VarHandle" ∧ (parseMethodDescriptor yX3_gapAt.desc).map (fun d => d.parameters.length) = some 1 := by decide +kernel
theorem hvX1_isOpenAcross : yX1_isOpenAcross.cls = RX1 ∧ yX1_isOpenAcross.cls ≠ "java/lang/invoke/MethodHandle" ∧ yX1_isOpenAcross.cls ≠ "java/lang/invoke/VarHandle" ∧ (parseMethodDescriptor yX1_isOpenAcross.desc).map (fun d => d.parameters.length) = some 2 := by decide +kernel
def fX5_isOpenAt (V : Mem) (a1 : Int32) (a2 : Int32) : Int32 := lt (fX3_gapAt V a2) (fun r1 => lt (fX1_isOpenAcross V a1 r1) (fun r2 => r2))
abbrev rmX5_isOpenAt : Room := { frames := 4, cells := 0, slots := 0, locals := 92 }
set_option maxHeartbeats 4000000 in
set_option maxRecDepth 100000 in
theorem mX5_isOpenAt (l : Launch) (X : kX) (b : Nat) (V : Mem) (a1 : Int32) (a2 : Int32) (out : Int32) (hE : fX5_isOpenAt V a1 a2 = out) : MR l yX5_isOpenAt wsX5_isOpenAt rmX5_isOpenAt X [.ref b, .int a1, .int a2] (RP X LW b V) (some (.int out)) := by
  refine mt_head (cc := cX5_isOpenAt) (maxL := 3) (ret := (some .boolean)) (own := RX5) (by decide) rfl rfl (Nat.le_of_ble_eq_true rfl) ?_
  intro p e s m below meth c ls F hr hlocks hnm hR hl
  have hx := F.1.1
  have hb := F.1.2.1
  have hl : lv_has ls 3 [(0, .ref b), (1, .int a1), (2, .int a2)] := hl
  unfold fX5_isOpenAt at hE
  refine lv_aload_n hx hb dX5_isOpenAt_0 rfl (lv_at hl 0 rfl) ?_
  refine rg_getr F hR 0 (ci := 5) rfl (C := RX5) (T := TX5) (N := 6) rfl iwX5_isOpenAt_X5 1 (d := 10) (n := 10) rfl rfl (by decide) rfl lkX5_isOpenAt_0 rfl dX5_isOpenAt_1 ?_
  refine lv_iload_n hx hb dX5_isOpenAt_4 rfl (lv_at hl 1 rfl) ?_
  refine lv_aload_n hx hb dX5_isOpenAt_5 rfl (lv_at hl 0 rfl) ?_
  refine rg_getr F hR 0 (ci := 5) rfl (C := RX5) (T := TX5) (N := 6) rfl iwX5_isOpenAt_X5 0 (d := 1) (n := 1) rfl rfl (by decide) rfl lkX5_isOpenAt_1 rfl dX5_isOpenAt_6 ?_
  refine lv_iload_n hx hb dX5_isOpenAt_9 rfl (lv_at hl 2 rfl) ?_
  obtain ⟨r1, er1, hE⟩ := lt_el hE
  refine rg_callRV (As := [.int a2]) (rest := [.int a1, .ref (b + 10)]) F (mX3_gapAt l X b V a2 r1 er1) (cwV 1 F.1.2.2.2.2 gX5_isOpenAt_X3_gapAt rfl rfl rfl hvX3_gapAt ⟨Nat.le_of_ble_eq_true rfl, Nat.le_of_ble_eq_true rfl⟩) (rp_recv F hR 1 rfl (C := RX3) (T := TX3) (N := 4) rfl rfl) hR rfl hl.1 (Nat.le_of_ble_eq_true rfl) dX5_isOpenAt_10 ⟨Nat.zero_le _, Nat.zero_le _⟩ rfl ?_
  obtain ⟨r2, er2, hE⟩ := lt_el hE
  refine rg_callRV (As := [.int a1, .int r1]) (rest := []) F (mX1_isOpenAcross l X b V a1 r1 r2 er2) (cwV 2 F.1.2.2.2.2 gX5_isOpenAt_X1_isOpenAcross rfl rfl rfl hvX1_isOpenAcross ⟨Nat.le_of_ble_eq_true rfl, Nat.le_of_ble_eq_true rfl⟩) (rp_recv F hR 10 rfl (C := RX1) (T := TX1) (N := 8) rfl rfl) hR rfl hl.1 (Nat.le_of_ble_eq_true rfl) dX5_isOpenAt_13 ⟨Nat.zero_le _, Nat.zero_le _⟩ rfl ?_
  subst hE
  exact W.zret (v := r2) hx hb hr (zX1_isOpenAcross er2) (fun t ht _ => ⟨rfl, ht⟩) (fun _ h => absurd h List.not_mem_nil) dX5_isOpenAt_16
theorem zX5_isOpenAt {V : Mem} {a1 : Int32} {a2 : Int32} {out : Int32} (h : fX5_isOpenAt V a1 a2 = out) : narrow .boolean (.int out) = .int out := by
  rw [← h]
  unfold fX5_isOpenAt
  repeat (first | rfl | exact zX1_isOpenAcross rfl | (simp only [lt]) | split)
set_option maxRecDepth 20000 in
theorem lkX5_openMask_0 : Cond.fieldLink RX5 40 "TideWords$World" "steps" "I" ∈ wsX5_openMask := by decide +kernel
set_option maxRecDepth 20000 in
theorem iwX5_openMask_X5 : ∀ w ∈ wsX50, w ∈ wsX5_openMask := by decide +kernel
theorem hvX5_isOpenAt : yX5_isOpenAt.cls = RX5 ∧ yX5_isOpenAt.cls ≠ "java/lang/invoke/MethodHandle" ∧ yX5_isOpenAt.cls ≠ "java/lang/invoke/VarHandle" ∧ (parseMethodDescriptor yX5_isOpenAt.desc).map (fun d => d.parameters.length) = some 2 := by decide +kernel
def lbX5_openMask_4 (V : Mem) (s1 : Int32 × Int32) : Option ((Int32 × Int32) ⊕ (Int32 × Int32)) := if (4 : Int32) ≤ s1.2 then some (.inr (s1.1, s1.2)) else lt (fX5_isOpenAt V s1.2 (V 0 0)) (fun r3 => if r3 = 0 then some (.inl (s1.1 ||| ((0 : Int32)), s1.2 + 1)) else some (.inl (s1.1 ||| (((1 : Int32)) <<< (s1.2 &&& 31)), s1.2 + 1)))
def qX5_openMask (V : Mem) : Option (Int32) := (it (lbX5_openMask_4 V) fuel ((0 : Int32), (0 : Int32))).bind (fun s5 => some (s5.1))
abbrev rmX5_openMask : Room := { frames := 5, cells := 0, slots := 0, locals := 114 }
set_option maxHeartbeats 4000000 in
set_option maxRecDepth 100000 in
theorem mX5_openMask (l : Launch) (X : kX) (b : Nat) (V : Mem) (out : Int32) (hE : qX5_openMask V = some out) : MR l yX5_openMask wsX5_openMask rmX5_openMask X [.ref b] (RP X LW b V) (some (.int out)) := by
  refine mt_head (cc := cX5_openMask) (maxL := 3) (ret := (some .int)) (own := RX5) (by decide) rfl rfl (Nat.le_of_ble_eq_true rfl) ?_
  intro p e s m below meth c ls F hr hlocks hnm hR hl
  have hx := F.1.1
  have hb := F.1.2.1
  have hl : lv_has ls 3 [(0, .ref b)] := hl
  unfold qX5_openMask at hE
  refine lv_iconst (v := 0) hx hb dX5_openMask_0 (by decide) ?_
  refine lv_istore_n (lv' := [(1, .int ((0 : Int32))), (0, .ref b)]) hx hb dX5_openMask_1 rfl hl (by decide) rfl (fun ls hl => ?_)
  refine lv_iconst (v := 0) hx hb dX5_openMask_2 (by decide) ?_
  refine lv_istore_n (lv' := [(2, .int ((0 : Int32))), (1, .int ((0 : Int32))), (0, .ref b)]) hx hb dX5_openMask_3 rfl hl (by decide) rfl (fun ls hl => ?_)
  obtain ⟨x6, hx6, hE⟩ := bd_el hE
  refine it_walk2 (body := lbX5_openMask_4 V) (Wh := fun s1 => ∀ (ls : Array Slot), lv_has ls 3 [(2, .int s1.2), (1, .int s1.1), (0, .ref b)] → W p l e rmX5_openMask s m ([.ref b] : List Value).toArray below meth c s.heap [] 0 0 (MQ below (cQr (some (.int out))) ([.ref b] : List Value).toArray s 0 0 (fun _ => False)) (F0 m 4 ls [])) (We := fun s5 => ∀ (ls : Array Slot), lv_has ls 3 [(2, .int s5.2), (1, .int s5.1), (0, .ref b)] → W p l e rmX5_openMask s m ([.ref b] : List Value).toArray below meth c s.heap [] 0 0 (MQ below (cQr (some (.int out))) ([.ref b] : List Value).toArray s 0 0 (fun _ => False)) (F0 m 37 ls [])) ?_ _ _ _ hx6 ?_ ls (lv_sub hl [0, 1, 2] rfl)
  · intro s1 r9 hE hL9 hR9 ls hl
    unfold lbX5_openMask_4 at hE
    refine lv_iload_n hx hb dX5_openMask_4 rfl (lv_at hl 0 rfl) ?_
    refine lv_iconst (v := 4) hx hb dX5_openMask_5 (by decide) ?_
    refine lv_icmp_ge (tgt := 37) hx hb dX5_openMask_6 (by decide) (fun c2 => ?_) (fun c2 => ?_)
    · have hE := (if_pos c2).symm.trans hE
      cases hE
      exact hR9 _ rfl ls (lv_sub hl [0, 1, 2] rfl)
    · have hE := (if_neg c2).symm.trans hE
      refine lv_iload_n hx hb dX5_openMask_9 rfl (lv_at hl 1 rfl) ?_
      refine lv_aload_n hx hb dX5_openMask_10 rfl (lv_at hl 2 rfl) ?_
      refine lv_iload_n hx hb dX5_openMask_11 rfl (lv_at hl 0 rfl) ?_
      refine lv_aload_n hx hb dX5_openMask_12 rfl (lv_at hl 2 rfl) ?_
      refine rg_geti F hR 0 (ci := 5) rfl (C := RX5) (T := TX5) (N := 6) rfl iwX5_openMask_X5 3 (i := 0) rfl (by decide) rfl lkX5_openMask_0 rfl dX5_openMask_13 ?_
      obtain ⟨r3, er3, hE⟩ := lt_el hE
      refine rg_callRV (As := [.int s1.2, .int (V 0 0)]) (rest := [.int s1.1]) F (mX5_isOpenAt l X b V s1.2 (V 0 0) r3 er3) (cwV 2 F.1.2.2.2.2 gX5_openMask_X5_isOpenAt rfl rfl rfl hvX5_isOpenAt ⟨Nat.le_of_ble_eq_true rfl, Nat.le_of_ble_eq_true rfl⟩) (rp_recv F hR 0 rfl (C := RX5) (T := TX5) (N := 6) rfl rfl) hR rfl hl.1 (Nat.le_of_ble_eq_true rfl) dX5_openMask_16 ⟨Nat.zero_le _, Nat.zero_le _⟩ rfl ?_
      refine lv_if_eq (tgt := 28) hx hb dX5_openMask_19 (by decide) (fun c4 => ?_) (fun c4 => ?_)
      · have hE := (if_pos c4).symm.trans hE
        refine lv_iconst (v := 0) hx hb dX5_openMask_28 (by decide) ?_
        refine lv_ior hx hb dX5_openMask_29 ?_
        refine lv_istore_n (lv' := [(1, .int (s1.1 ||| ((0 : Int32)))), (2, .int s1.2), (0, .ref b)]) hx hb dX5_openMask_30 rfl hl (by decide) rfl (fun ls hl => ?_)
        refine lv_iinc (v := s1.2 + 1) (lv' := [(2, .int (s1.2 + 1)), (1, .int (s1.1 ||| ((0 : Int32)))), (0, .ref b)]) hx hb dX5_openMask_31 hl (k := 1) rfl (congrArg (fun q => s1.2 + q) (by decide)) (by decide) rfl (fun ls hl => ?_)
        refine lv_goto (tgt := 4) hx hb dX5_openMask_34 (by decide) ?_
        cases hE
        exact hL9 _ rfl ls (lv_sub hl [0, 1, 2] rfl)
      · have hE := (if_neg c4).symm.trans hE
        refine lv_iconst (v := 1) hx hb dX5_openMask_22 (by decide) ?_
        refine lv_iload_n hx hb dX5_openMask_23 rfl (lv_at hl 0 rfl) ?_
        refine lv_ishl hx hb dX5_openMask_24 ?_
        refine lv_goto (tgt := 29) hx hb dX5_openMask_25 (by decide) ?_
        refine lv_ior hx hb dX5_openMask_29 ?_
        refine lv_istore_n (lv' := [(1, .int (s1.1 ||| (((1 : Int32)) <<< (s1.2 &&& 31)))), (2, .int s1.2), (0, .ref b)]) hx hb dX5_openMask_30 rfl hl (by decide) rfl (fun ls hl => ?_)
        refine lv_iinc (v := s1.2 + 1) (lv' := [(2, .int (s1.2 + 1)), (1, .int (s1.1 ||| (((1 : Int32)) <<< (s1.2 &&& 31)))), (0, .ref b)]) hx hb dX5_openMask_31 hl (k := 1) rfl (congrArg (fun q => s1.2 + q) (by decide)) (by decide) rfl (fun ls hl => ?_)
        refine lv_goto (tgt := 4) hx hb dX5_openMask_34 (by decide) ?_
        cases hE
        exact hL9 _ rfl ls (lv_sub hl [0, 1, 2] rfl)
  · intro ls hl
    refine lv_iload_n hx hb dX5_openMask_37 rfl (lv_at hl 1 rfl) ?_
    have hE := Option.some.inj hE
    subst hE
    exact W.iret (v := x6.1) hx hb hr (fun t ht _ => ⟨rfl, ht⟩) (fun _ h => absurd h List.not_mem_nil) dX5_openMask_38
set_option maxRecDepth 20000 in
theorem lkX5_stepsUntilOpen_0 : Cond.fieldLink RX5 40 "TideWords$World" "steps" "I" ∈ wsX5_stepsUntilOpen := by decide +kernel
set_option maxRecDepth 20000 in
theorem iwX5_stepsUntilOpen_X5 : ∀ w ∈ wsX50, w ∈ wsX5_stepsUntilOpen := by decide +kernel
def lbX5_stepsUntilOpen_2 (V : Mem) (a1 : Int32) (s1 : Int32) : Option ((Int32) ⊕ ((Int32) ⊕ (Int32))) := if (4000 : Int32) ≤ s1 then some (.inr (.inr s1)) else lt (fX5_isOpenAt V a1 ((V 0 0) + s1)) (fun r3 => if r3 = 0 then some (.inl (s1 + 1)) else some (.inr (.inl (s1))))
def qX5_stepsUntilOpen (V : Mem) (a1 : Int32) : Option (Int32) := (it (lbX5_stepsUntilOpen_2 V a1) fuel (0 : Int32)).bind (fun x6 => Sum.elim (fun r0 => some r0) (fun s5 => some ((-1006 : Int32))) x6)
abbrev rmX5_stepsUntilOpen : Room := { frames := 5, cells := 0, slots := 0, locals := 114 }
set_option maxHeartbeats 4000000 in
set_option maxRecDepth 100000 in
theorem mX5_stepsUntilOpen (l : Launch) (X : kX) (b : Nat) (V : Mem) (a1 : Int32) (out : Int32) (hE : qX5_stepsUntilOpen V a1 = some out) : MR l yX5_stepsUntilOpen wsX5_stepsUntilOpen rmX5_stepsUntilOpen X [.ref b, .int a1] (RP X LW b V) (some (.int out)) := by
  refine mt_head (cc := cX5_stepsUntilOpen) (maxL := 3) (ret := (some .int)) (own := RX5) (by decide) rfl rfl (Nat.le_of_ble_eq_true rfl) ?_
  intro p e s m below meth c ls F hr hlocks hnm hR hl
  have hx := F.1.1
  have hb := F.1.2.1
  have hl : lv_has ls 3 [(0, .ref b), (1, .int a1)] := hl
  unfold qX5_stepsUntilOpen at hE
  refine lv_iconst (v := 0) hx hb dX5_stepsUntilOpen_0 (by decide) ?_
  refine lv_istore_n (lv' := [(2, .int ((0 : Int32))), (0, .ref b), (1, .int a1)]) hx hb dX5_stepsUntilOpen_1 rfl hl (by decide) rfl (fun ls hl => ?_)
  obtain ⟨x6, hx6, hE⟩ := bd_el hE
  refine it_walk2 (body := lbX5_stepsUntilOpen_2 V a1) (Wh := fun s1 => ∀ (ls : Array Slot), lv_has ls 3 [(2, .int s1), (0, .ref b), (1, .int a1)] → W p l e rmX5_stepsUntilOpen s m ([.ref b, .int a1] : List Value).toArray below meth c s.heap [] 0 0 (MQ below (cQr (some (.int out))) ([.ref b, .int a1] : List Value).toArray s 0 0 (fun _ => False)) (F0 m 2 ls [])) (We := fun x6 => (∀ r0, x6 = .inl r0 → r0 = out) ∧ (∀ s5, x6 = .inr s5 → ∀ (ls : Array Slot), lv_has ls 3 [(2, .int s5), (0, .ref b), (1, .int a1)] → W p l e rmX5_stepsUntilOpen s m ([.ref b, .int a1] : List Value).toArray below meth c s.heap [] 0 0 (MQ below (cQr (some (.int out))) ([.ref b, .int a1] : List Value).toArray s 0 0 (fun _ => False)) (F0 m 31 ls []))) ?_ _ _ _ hx6 ?_ ls (lv_sub hl [0, 1, 2] rfl)
  · intro s1 r9 hE hL9 hR9 ls hl
    unfold lbX5_stepsUntilOpen_2 at hE
    refine lv_iload_n hx hb dX5_stepsUntilOpen_2 rfl (lv_at hl 0 rfl) ?_
    refine lv_sipush (v := 4000) hx hb dX5_stepsUntilOpen_3 (by decide) ?_
    refine lv_icmp_ge (tgt := 31) hx hb dX5_stepsUntilOpen_6 (by decide) (fun c2 => ?_) (fun c2 => ?_)
    · have hE := (if_pos c2).symm.trans hE
      cases hE
      exact (hR9 _ rfl).2 _ rfl ls (lv_sub hl [0, 1, 2] rfl)
    · have hE := (if_neg c2).symm.trans hE
      refine lv_aload_n hx hb dX5_stepsUntilOpen_9 rfl (lv_at hl 1 rfl) ?_
      refine lv_iload_n hx hb dX5_stepsUntilOpen_10 rfl (lv_at hl 2 rfl) ?_
      refine lv_aload_n hx hb dX5_stepsUntilOpen_11 rfl (lv_at hl 1 rfl) ?_
      refine rg_geti F hR 0 (ci := 5) rfl (C := RX5) (T := TX5) (N := 6) rfl iwX5_stepsUntilOpen_X5 3 (i := 0) rfl (by decide) rfl lkX5_stepsUntilOpen_0 rfl dX5_stepsUntilOpen_12 ?_
      refine lv_iload_n hx hb dX5_stepsUntilOpen_15 rfl (lv_at hl 0 rfl) ?_
      refine lv_iadd hx hb dX5_stepsUntilOpen_16 ?_
      obtain ⟨r3, er3, hE⟩ := lt_el hE
      refine rg_callRV (As := [.int a1, .int ((V 0 0) + s1)]) (rest := []) F (mX5_isOpenAt l X b V a1 ((V 0 0) + s1) r3 er3) (cwV 2 F.1.2.2.2.2 gX5_stepsUntilOpen_X5_isOpenAt rfl rfl rfl hvX5_isOpenAt ⟨Nat.le_of_ble_eq_true rfl, Nat.le_of_ble_eq_true rfl⟩) (rp_recv F hR 0 rfl (C := RX5) (T := TX5) (N := 6) rfl rfl) hR rfl hl.1 (Nat.le_of_ble_eq_true rfl) dX5_stepsUntilOpen_17 ⟨Nat.zero_le _, Nat.zero_le _⟩ rfl ?_
      refine lv_if_eq (tgt := 25) hx hb dX5_stepsUntilOpen_20 (by decide) (fun c4 => ?_) (fun c4 => ?_)
      · have hE := (if_pos c4).symm.trans hE
        refine lv_iinc (v := s1 + 1) (lv' := [(2, .int (s1 + 1)), (0, .ref b), (1, .int a1)]) hx hb dX5_stepsUntilOpen_25 hl (k := 0) rfl (congrArg (fun q => s1 + q) (by decide)) (by decide) rfl (fun ls hl => ?_)
        refine lv_goto (tgt := 2) hx hb dX5_stepsUntilOpen_28 (by decide) ?_
        cases hE
        exact hL9 _ rfl ls (lv_sub hl [0, 1, 2] rfl)
      · have hE := (if_neg c4).symm.trans hE
        refine lv_iload_n hx hb dX5_stepsUntilOpen_23 rfl (lv_at hl 0 rfl) ?_
        cases hE
        have hE := (hR9 _ rfl).1 _ rfl
        subst hE
        exact W.iret (v := s1) hx hb hr (fun t ht _ => ⟨rfl, ht⟩) (fun _ h => absurd h List.not_mem_nil) dX5_stepsUntilOpen_24
  · refine ⟨fun r0 h9 => ?_, fun s5 h9 => ?_⟩
    · subst h9
      exact Option.some.inj hE
    · subst h9
      have hE := sel_r hE
      intro ls hl
      refine lv_sipush (v := (-1006)) hx hb dX5_stepsUntilOpen_31 (by decide) ?_
      have hE := Option.some.inj hE
      subst hE
      exact W.iret (v := (-1006 : Int32)) hx hb hr (fun t ht _ => ⟨rfl, ht⟩) (fun _ h => absurd h List.not_mem_nil) dX5_stepsUntilOpen_34
def lbX5_openStepsFrom_2 (V : Mem) (a1 : Int32) (a2 : Int32) (s1 : Int32) : Option ((Int32) ⊕ (Int32)) := if (4000 : Int32) ≤ s1 then some (.inr s1) else lt (fX5_isOpenAt V a1 (a2 + s1)) (fun r3 => if r3 = 0 then some (.inr s1) else some (.inl (s1 + 1)))
def qX5_openStepsFrom (V : Mem) (a1 : Int32) (a2 : Int32) : Option (Int32) := (it (lbX5_openStepsFrom_2 V a1 a2) fuel (0 : Int32)).bind (fun s5 => some (s5))
abbrev rmX5_openStepsFrom : Room := { frames := 5, cells := 0, slots := 0, locals := 114 }
set_option maxHeartbeats 4000000 in
set_option maxRecDepth 100000 in
theorem mX5_openStepsFrom (l : Launch) (X : kX) (b : Nat) (V : Mem) (a1 : Int32) (a2 : Int32) (out : Int32) (hE : qX5_openStepsFrom V a1 a2 = some out) : MR l yX5_openStepsFrom wsX5_openStepsFrom rmX5_openStepsFrom X [.ref b, .int a1, .int a2] (RP X LW b V) (some (.int out)) := by
  refine mt_head (cc := cX5_openStepsFrom) (maxL := 4) (ret := (some .int)) (own := RX5) (by decide) rfl rfl (Nat.le_of_ble_eq_true rfl) ?_
  intro p e s m below meth c ls F hr hlocks hnm hR hl
  have hx := F.1.1
  have hb := F.1.2.1
  have hl : lv_has ls 4 [(0, .ref b), (1, .int a1), (2, .int a2)] := hl
  unfold qX5_openStepsFrom at hE
  refine lv_iconst (v := 0) hx hb dX5_openStepsFrom_0 (by decide) ?_
  refine lv_istore_n (lv' := [(3, .int ((0 : Int32))), (0, .ref b), (1, .int a1), (2, .int a2)]) hx hb dX5_openStepsFrom_1 rfl hl (by decide) rfl (fun ls hl => ?_)
  obtain ⟨x6, hx6, hE⟩ := bd_el hE
  refine it_walk2 (body := lbX5_openStepsFrom_2 V a1 a2) (Wh := fun s1 => ∀ (ls : Array Slot), lv_has ls 4 [(3, .int s1), (0, .ref b), (1, .int a1), (2, .int a2)] → W p l e rmX5_openStepsFrom s m ([.ref b, .int a1, .int a2] : List Value).toArray below meth c s.heap [] 0 0 (MQ below (cQr (some (.int out))) ([.ref b, .int a1, .int a2] : List Value).toArray s 0 0 (fun _ => False)) (F0 m 2 ls [])) (We := fun s5 => ∀ (ls : Array Slot), lv_has ls 4 [(3, .int s5), (0, .ref b), (1, .int a1), (2, .int a2)] → W p l e rmX5_openStepsFrom s m ([.ref b, .int a1, .int a2] : List Value).toArray below meth c s.heap [] 0 0 (MQ below (cQr (some (.int out))) ([.ref b, .int a1, .int a2] : List Value).toArray s 0 0 (fun _ => False)) (F0 m 26 ls [])) ?_ _ _ _ hx6 ?_ ls (lv_sub hl [0, 1, 2, 3] rfl)
  · intro s1 r9 hE hL9 hR9 ls hl
    unfold lbX5_openStepsFrom_2 at hE
    refine lv_iload_n hx hb dX5_openStepsFrom_2 rfl (lv_at hl 0 rfl) ?_
    refine lv_sipush (v := 4000) hx hb dX5_openStepsFrom_3 (by decide) ?_
    refine lv_icmp_ge (tgt := 26) hx hb dX5_openStepsFrom_6 (by decide) (fun c2 => ?_) (fun c2 => ?_)
    · have hE := (if_pos c2).symm.trans hE
      cases hE
      exact hR9 _ rfl ls (lv_sub hl [0, 1, 2, 3] rfl)
    · have hE := (if_neg c2).symm.trans hE
      refine lv_aload_n hx hb dX5_openStepsFrom_9 rfl (lv_at hl 1 rfl) ?_
      refine lv_iload_n hx hb dX5_openStepsFrom_10 rfl (lv_at hl 2 rfl) ?_
      refine lv_iload_n hx hb dX5_openStepsFrom_11 rfl (lv_at hl 3 rfl) ?_
      refine lv_iload_n hx hb dX5_openStepsFrom_12 rfl (lv_at hl 0 rfl) ?_
      refine lv_iadd hx hb dX5_openStepsFrom_13 ?_
      obtain ⟨r3, er3, hE⟩ := lt_el hE
      refine rg_callRV (As := [.int a1, .int (a2 + s1)]) (rest := []) F (mX5_isOpenAt l X b V a1 (a2 + s1) r3 er3) (cwV 2 F.1.2.2.2.2 gX5_openStepsFrom_X5_isOpenAt rfl rfl rfl hvX5_isOpenAt ⟨Nat.le_of_ble_eq_true rfl, Nat.le_of_ble_eq_true rfl⟩) (rp_recv F hR 0 rfl (C := RX5) (T := TX5) (N := 6) rfl rfl) hR rfl hl.1 (Nat.le_of_ble_eq_true rfl) dX5_openStepsFrom_14 ⟨Nat.zero_le _, Nat.zero_le _⟩ rfl ?_
      refine lv_if_eq (tgt := 26) hx hb dX5_openStepsFrom_17 (by decide) (fun c4 => ?_) (fun c4 => ?_)
      · have hE := (if_pos c4).symm.trans hE
        cases hE
        exact hR9 _ rfl ls (lv_sub hl [0, 1, 2, 3] rfl)
      · have hE := (if_neg c4).symm.trans hE
        refine lv_iinc (v := s1 + 1) (lv' := [(3, .int (s1 + 1)), (0, .ref b), (1, .int a1), (2, .int a2)]) hx hb dX5_openStepsFrom_20 hl (k := 0) rfl (congrArg (fun q => s1 + q) (by decide)) (by decide) rfl (fun ls hl => ?_)
        refine lv_goto (tgt := 2) hx hb dX5_openStepsFrom_23 (by decide) ?_
        cases hE
        exact hL9 _ rfl ls (lv_sub hl [0, 1, 2, 3] rfl)
  · intro ls hl
    refine lv_iload_n hx hb dX5_openStepsFrom_26 rfl (lv_at hl 0 rfl) ?_
    have hE := Option.some.inj hE
    subst hE
    exact W.iret (v := x6) hx hb hr (fun t ht _ => ⟨rfl, ht⟩) (fun _ h => absurd h List.not_mem_nil) dX5_openStepsFrom_27
def orm : Nat → (Nat → Int32) → Int32
  | 0, _ => 0
  | n + 1, f => orm n f ||| f n
def omf (V : Mem) (i : Nat) : Int32 := if fX5_isOpenAt V (nI i) (V 0 0) = 0 then 0 else 1 <<< (nI i &&& 31)
def fX5_openMask (V : Mem) : Int32 := orm 4 (omf V)
theorem tX5_openMask (V : Mem) : qX5_openMask V = some (fX5_openMask V) := by
  have h : it (lbX5_openMask_4 V) fuel ((0 : Int32), (0 : Int32)) = some (fX5_openMask V, nI 4) := by
    refine it_for (fun i => (orm i (omf V), nI i)) 4 (fun i hi => ?_) ?_ fuel (fuel_lt (by omega))
    · unfold lbX5_openMask_4 lt
      dsimp only
      rw [if_neg (ge4 hi), nI_1]
      by_cases h : fX5_isOpenAt V (nI i) (V 0 0) = 0
      · rw [if_pos h]
        show _ = some (Sum.inl (orm i (omf V) ||| omf V i, nI (i + 1)))
        rw [show omf V i = 0 from if_pos h]
      · rw [if_neg h]
        show _ = some (Sum.inl (orm i (omf V) ||| omf V i, nI (i + 1)))
        rw [show omf V i = 1 <<< (nI i &&& 31) from if_neg h]
    · unfold lbX5_openMask_4
      dsimp only
      rw [if_pos (show (4 : Int32) ≤ nI 4 from nI_le (Nat.le_refl _) (by omega))]
      rfl
  unfold qX5_openMask
  rw [h]
  rfl
theorem ge4k {i : Nat} (h : i < 4000) : ¬ (4000 : Int32) ≤ nI i := nI_ge (b := 4000) h (by decide)
theorem le4k : (4000 : Int32) ≤ nI 4000 := nI_le (a := 4000) (b := 4000) (Nat.le_refl _) (by decide)
def fX5_stepsUntilOpen (V : Mem) (a1 : Int32) : Int32 := fnd (fun i => decide (¬ fX5_isOpenAt V a1 (V 0 0 + nI i) = 0)) 4000
theorem tX5_stepsUntilOpen (V : Mem) (a1 : Int32) : qX5_stepsUntilOpen V a1 = some (fX5_stepsUntilOpen V a1) := by
  have h : it (lbX5_stepsUntilOpen_2 V a1) fuel (0 : Int32) = some ((fndO (fun i => decide (¬ fX5_isOpenAt V a1 (V 0 0 + nI i) = 0)) 4000 0).elim (Sum.inr (nI 4000)) (fun i => Sum.inl (nI i))) := by
    refine it_fnd (fun i => nI i) _ (fun i => Sum.inl (nI i)) _ 4000 (fun i hi => ?_) ?_ fuel (fuel_lt (by omega))
    · unfold lbX5_stepsUntilOpen_2 lt
      rw [if_neg (ge4k hi), nI_1]
      by_cases h : fX5_isOpenAt V a1 (V 0 0 + nI i) = 0
      · simp only [h, not_true, decide_false, if_true, if_false, Bool.false_eq_true]
      · simp only [h, not_false_eq_true, decide_true, if_true, if_false]
    · unfold lbX5_stepsUntilOpen_2
      rw [if_pos le4k]
  unfold qX5_stepsUntilOpen fX5_stepsUntilOpen fnd
  rw [h]
  cases fndO (fun i => decide (¬ fX5_isOpenAt V a1 (V 0 0 + nI i) = 0)) 4000 0 <;> rfl
def fX5_openStepsFrom (V : Mem) (a1 a2 : Int32) : Int32 := (fndO (fun i => decide (fX5_isOpenAt V a1 (a2 + nI i) = 0)) 4000 0).elim (nI 4000) nI
theorem tX5_openStepsFrom (V : Mem) (a1 a2 : Int32) : qX5_openStepsFrom V a1 a2 = some (fX5_openStepsFrom V a1 a2) := by
  have h : it (lbX5_openStepsFrom_2 V a1 a2) fuel (0 : Int32) = some ((fndO (fun i => decide (fX5_isOpenAt V a1 (a2 + nI i) = 0)) 4000 0).elim (nI 4000) nI) := by
    refine it_fnd (fun i => nI i) _ nI _ 4000 (fun i hi => ?_) ?_ fuel (fuel_lt (by omega))
    · unfold lbX5_openStepsFrom_2 lt
      rw [if_neg (ge4k hi), nI_1]
      by_cases h : fX5_isOpenAt V a1 (a2 + nI i) = 0
      · simp only [h, decide_true, if_true]
      · simp only [h, decide_false, if_false, Bool.false_eq_true]
    · unfold lbX5_openStepsFrom_2
      rw [if_pos le4k]
  unfold qX5_openStepsFrom fX5_openStepsFrom
  rw [h]
  rfl

theorem kX5_openMask (l : Launch) (X : kX) (b : Nat) (V : Mem) (out : Int32) (hE : fX5_openMask V = out) : MR l yX5_openMask wsX5_openMask rmX5_openMask X [.ref b] (RP X LW b V) (some (.int out)) := mX5_openMask l X b V out ((tX5_openMask V).trans (congrArg some hE))
theorem kX5_stepsUntilOpen (l : Launch) (X : kX) (b : Nat) (V : Mem) (a1 : Int32) (out : Int32) (hE : fX5_stepsUntilOpen V a1 = out) : MR l yX5_stepsUntilOpen wsX5_stepsUntilOpen rmX5_stepsUntilOpen X [.ref b, .int a1] (RP X LW b V) (some (.int out)) := mX5_stepsUntilOpen l X b V a1 out ((tX5_stepsUntilOpen V a1).trans (congrArg some hE))
theorem kX5_openStepsFrom (l : Launch) (X : kX) (b : Nat) (V : Mem) (a1 : Int32) (a2 : Int32) (out : Int32) (hE : fX5_openStepsFrom V a1 a2 = out) : MR l yX5_openStepsFrom wsX5_openStepsFrom rmX5_openStepsFrom X [.ref b, .int a1, .int a2] (RP X LW b V) (some (.int out)) := mX5_openStepsFrom l X b V a1 a2 out ((tX5_openStepsFrom V a1 a2).trans (congrArg some hE))
set_option maxRecDepth 20000 in
theorem lkX5_whereIs_0 : Cond.fieldLink RX5 21 "TideWords$World" "gates" "LTideWords$Gates;" ∈ wsX5_whereIs := by decide +kernel
set_option maxRecDepth 20000 in
theorem iwX5_whereIs_X5 : ∀ w ∈ wsX50, w ∈ wsX5_whereIs := by decide +kernel
theorem hvX1_gateWith : yX1_gateWith.cls = RX1 ∧ yX1_gateWith.cls ≠ "java/lang/invoke/MethodHandle" ∧ yX1_gateWith.cls ≠ "java/lang/invoke/VarHandle" ∧ (parseMethodDescriptor yX1_gateWith.desc).map (fun d => d.parameters.length) = some 1 := by decide +kernel
set_option maxRecDepth 20000 in
theorem lkX5_whereIs_1 : Cond.fieldLink RX5 28 "TideWords$World" "words" "LTideWords$Words;" ∈ wsX5_whereIs := by decide +kernel
def fX5_whereIs (V : Mem) (a1 : Int32) : Int32 := lt (fX1_gateWith V a1) (fun r1 => if r1 = (-1006 : Int32) then lt (fX4_placeIn V ((0 : Int32)) a1) (fun r3 => if r3 = (-1006 : Int32) then (1 : Int32) else (0 : Int32)) else ((2 : Int32)) + r1)
abbrev rmX5_whereIs : Room := { frames := 3, cells := 0, slots := 0, locals := 67 }
set_option maxHeartbeats 4000000 in
set_option maxRecDepth 100000 in
theorem mX5_whereIs (l : Launch) (X : kX) (b : Nat) (V : Mem) (a1 : Int32) (out : Int32) (hE : fX5_whereIs V a1 = out) : MR l yX5_whereIs wsX5_whereIs rmX5_whereIs X [.ref b, .int a1] (RP X LW b V) (some (.int out)) := by
  refine mt_head (cc := cX5_whereIs) (maxL := 3) (ret := (some .int)) (own := RX5) (by decide) rfl rfl (Nat.le_of_ble_eq_true rfl) ?_
  intro p e s m below meth c ls F hr hlocks hnm hR hl
  have hx := F.1.1
  have hb := F.1.2.1
  have hl : lv_has ls 3 [(0, .ref b), (1, .int a1)] := hl
  unfold fX5_whereIs at hE
  refine lv_aload_n hx hb dX5_whereIs_0 rfl (lv_at hl 0 rfl) ?_
  refine rg_getr F hR 0 (ci := 5) rfl (C := RX5) (T := TX5) (N := 6) rfl iwX5_whereIs_X5 1 (d := 10) (n := 10) rfl rfl (by decide) rfl lkX5_whereIs_0 rfl dX5_whereIs_1 ?_
  refine lv_iload_n hx hb dX5_whereIs_4 rfl (lv_at hl 1 rfl) ?_
  obtain ⟨r1, er1, hE⟩ := lt_el hE
  refine rg_callRV (As := [.int a1]) (rest := []) F (kX1_gateWith l X b V a1 r1 er1) (cwV 1 F.1.2.2.2.2 gX5_whereIs_X1_gateWith rfl rfl rfl hvX1_gateWith ⟨Nat.le_of_ble_eq_true rfl, Nat.le_of_ble_eq_true rfl⟩) (rp_recv F hR 10 rfl (C := RX1) (T := TX1) (N := 8) rfl rfl) hR rfl hl.1 (Nat.le_of_ble_eq_true rfl) dX5_whereIs_5 ⟨Nat.zero_le _, Nat.zero_le _⟩ rfl ?_
  refine lv_istore_n (lv' := [(2, .int r1), (0, .ref b), (1, .int a1)]) hx hb dX5_whereIs_8 rfl hl (by decide) rfl (fun ls hl => ?_)
  refine lv_iload_n hx hb dX5_whereIs_9 rfl (lv_at hl 0 rfl) ?_
  refine lv_sipush (v := (-1006)) hx hb dX5_whereIs_10 (by decide) ?_
  refine lv_icmp_eq (tgt := 20) hx hb dX5_whereIs_13 (by decide) (fun c2 => ?_) (fun c2 => ?_)
  · have hE := (if_pos c2).symm.trans hE
    refine lv_aload_n hx hb dX5_whereIs_20 rfl (lv_at hl 1 rfl) ?_
    refine rg_getr F hR 0 (ci := 5) rfl (C := RX5) (T := TX5) (N := 6) rfl iwX5_whereIs_X5 2 (d := 27) (n := 27) rfl rfl (by decide) rfl lkX5_whereIs_1 rfl dX5_whereIs_21 ?_
    refine lv_iconst (v := 0) hx hb dX5_whereIs_24 (by decide) ?_
    refine lv_iload_n hx hb dX5_whereIs_25 rfl (lv_at hl 2 rfl) ?_
    obtain ⟨r3, er3, hE⟩ := lt_el hE
    refine rg_callRV (As := [.int ((0 : Int32)), .int a1]) (rest := []) F (kX4_placeIn l X b V ((0 : Int32)) a1 r3 er3) (cwV 2 F.1.2.2.2.2 gX5_whereIs_X4_placeIn rfl rfl rfl hvX4_placeIn ⟨Nat.le_of_ble_eq_true rfl, Nat.le_of_ble_eq_true rfl⟩) (rp_recv F hR 27 rfl (C := RX4) (T := TX4) (N := 8) rfl rfl) hR rfl hl.1 (Nat.le_of_ble_eq_true rfl) dX5_whereIs_26 ⟨Nat.zero_le _, Nat.zero_le _⟩ rfl ?_
    refine lv_sipush (v := (-1006)) hx hb dX5_whereIs_29 (by decide) ?_
    refine lv_icmp_eq (tgt := 39) hx hb dX5_whereIs_32 (by decide) (fun c4 => ?_) (fun c4 => ?_)
    · have hE := (if_pos c4).symm.trans hE
      refine lv_iconst (v := 1) hx hb dX5_whereIs_39 (by decide) ?_
      subst hE
      exact W.iret (v := (1 : Int32)) hx hb hr (fun t ht _ => ⟨rfl, ht⟩) (fun _ h => absurd h List.not_mem_nil) dX5_whereIs_40
    · have hE := (if_neg c4).symm.trans hE
      refine lv_iconst (v := 0) hx hb dX5_whereIs_35 (by decide) ?_
      refine lv_goto (tgt := 40) hx hb dX5_whereIs_36 (by decide) ?_
      subst hE
      exact W.iret (v := (0 : Int32)) hx hb hr (fun t ht _ => ⟨rfl, ht⟩) (fun _ h => absurd h List.not_mem_nil) dX5_whereIs_40
  · have hE := (if_neg c2).symm.trans hE
    refine lv_iconst (v := 2) hx hb dX5_whereIs_16 (by decide) ?_
    refine lv_iload_n hx hb dX5_whereIs_17 rfl (lv_at hl 0 rfl) ?_
    refine lv_iadd hx hb dX5_whereIs_18 ?_
    subst hE
    exact W.iret (v := ((2 : Int32)) + r1) hx hb hr (fun t ht _ => ⟨rfl, ht⟩) (fun _ h => absurd h List.not_mem_nil) dX5_whereIs_19
set_option maxRecDepth 20000 in
theorem lkX5_tally_0 : Cond.fieldLink RX5 21 "TideWords$World" "gates" "LTideWords$Gates;" ∈ wsX5_tally := by decide +kernel
set_option maxRecDepth 20000 in
theorem iwX5_tally_X5 : ∀ w ∈ wsX50, w ∈ wsX5_tally := by decide +kernel
set_option maxRecDepth 20000 in
theorem lkX5_tally_1 : Cond.fieldLink RX5 108 "TideWords$Gates" "passedWords" "LTideWords$Cells;" ∈ wsX5_tally := by decide +kernel
set_option maxRecDepth 20000 in
theorem iwX5_tally_X1 : ∀ w ∈ wsX10, w ∈ wsX5_tally := by decide +kernel
theorem hvX0_sum : yX0_sum.cls = RX0 ∧ yX0_sum.cls ≠ "java/lang/invoke/MethodHandle" ∧ yX0_sum.cls ≠ "java/lang/invoke/VarHandle" ∧ (parseMethodDescriptor yX0_sum.desc).map (fun d => d.parameters.length) = some 0 := by decide +kernel
set_option maxRecDepth 20000 in
theorem sb_LW_23_LC4 : sbL LW 23 (LC 4) := sbl_of rfl
set_option maxRecDepth 20000 in
theorem lkX5_tally_2 : Cond.fieldLink RX5 121 "TideWords$Gates" "vainLetters" "LTideWords$Cells;" ∈ wsX5_tally := by decide +kernel
set_option maxRecDepth 20000 in
theorem sb_LW_25_LC4 : sbL LW 25 (LC 4) := sbl_of rfl
set_option maxRecDepth 20000 in
theorem lkX5_tally_3 : Cond.fieldLink RX5 28 "TideWords$World" "words" "LTideWords$Words;" ∈ wsX5_tally := by decide +kernel
set_option maxRecDepth 20000 in
theorem lkX5_tally_4 : Cond.fieldLink RX5 124 "TideWords$Words" "timesBack" "LTideWords$Cells;" ∈ wsX5_tally := by decide +kernel
set_option maxRecDepth 20000 in
theorem iwX5_tally_X4 : ∀ w ∈ wsX40, w ∈ wsX5_tally := by decide +kernel
set_option maxRecDepth 20000 in
theorem sb_LW_36_LC12 : sbL LW 36 (LC 12) := sbl_of rfl
set_option maxRecDepth 20000 in
theorem lkX5_tally_5 : Cond.fieldLink RX5 67 "TideWords$World" "idleSteps" "I" ∈ wsX5_tally := by decide +kernel
def fX5_tally (V : Mem) (a1 : Int32) : Int32 := if a1 = 0 then lt (csum 4 (V 24)) (fun r2 => r2) else if a1 = 1 then lt (csum 4 (V 26)) (fun r4 => r4) else if a1 = 2 then lt (csum 12 (V 37)) (fun r6 => r6) else V 0 2
abbrev rmX5_tally : Room := { frames := 1, cells := 0, slots := 0, locals := 22 }
set_option maxHeartbeats 4000000 in
set_option maxRecDepth 100000 in
theorem mX5_tally (l : Launch) (X : kX) (b : Nat) (V : Mem) (a1 : Int32) (out : Int32) (hE : fX5_tally V a1 = out) : MR l yX5_tally wsX5_tally rmX5_tally X [.ref b, .int a1] (RP X LW b V) (some (.int out)) := by
  refine mt_head (cc := cX5_tally) (maxL := 2) (ret := (some .int)) (own := RX5) (by decide) rfl rfl (Nat.le_of_ble_eq_true rfl) ?_
  intro p e s m below meth c ls F hr hlocks hnm hR hl
  have hx := F.1.1
  have hb := F.1.2.1
  have hl : lv_has ls 2 [(0, .ref b), (1, .int a1)] := hl
  unfold fX5_tally at hE
  refine lv_iload_n hx hb dX5_tally_0 rfl (lv_at hl 1 rfl) ?_
  by_cases c1 : a1 = 0
  · have hE := (if_pos c1).symm.trans hE
    refine lv_tableIn (off := 27) (tgt := 28) hx hb dX5_tally_1 (by rw [c1]; decide) (by rw [c1]; decide) (by rw [c1]; rfl) (by decide) ?_
    refine lv_aload_n hx hb dX5_tally_28 rfl (lv_at hl 0 rfl) ?_
    refine rg_getr F hR 0 (ci := 5) rfl (C := RX5) (T := TX5) (N := 6) rfl iwX5_tally_X5 1 (d := 10) (n := 10) rfl rfl (by decide) rfl lkX5_tally_0 rfl dX5_tally_29 ?_
    refine rg_getr F hR 10 (ci := 1) rfl (C := RX1) (T := TX1) (N := 8) rfl iwX5_tally_X1 6 (d := 13) (n := 23) rfl rfl (by decide) rfl lkX5_tally_1 rfl dX5_tally_32 ?_
    obtain ⟨r2, er2, hE⟩ := lt_el hE
    refine rg_callRV (As := []) (rest := []) F (kX0_sum l X 4 (by decide) (b + 23) (gv V 23)  r2 er2) (cwV 0 F.1.2.2.2.2 gX5_tally_X0_sum rfl rfl rfl hvX0_sum ⟨Nat.le_of_ble_eq_true rfl, Nat.le_of_ble_eq_true rfl⟩) (rp_recv F hR 23 rfl (C := RX0) (T := TX0) (N := 1) rfl rfl) (hR.sub 23 sb_LW_23_LC4) rfl hl.1 (Nat.le_of_ble_eq_true rfl) dX5_tally_35 ⟨Nat.zero_le _, Nat.zero_le _⟩ rfl ?_
    subst hE
    exact W.iret (v := r2) hx hb hr (fun t ht _ => ⟨rfl, ht⟩) (fun _ h => absurd h List.not_mem_nil) dX5_tally_38
  · have hE := (if_neg c1).symm.trans hE
    by_cases c3 : a1 = 1
    · have hE := (if_pos c3).symm.trans hE
      refine lv_tableIn (off := 38) (tgt := 39) hx hb dX5_tally_1 (by rw [c3]; decide) (by rw [c3]; decide) (by rw [c3]; rfl) (by decide) ?_
      refine lv_aload_n hx hb dX5_tally_39 rfl (lv_at hl 0 rfl) ?_
      refine rg_getr F hR 0 (ci := 5) rfl (C := RX5) (T := TX5) (N := 6) rfl iwX5_tally_X5 1 (d := 10) (n := 10) rfl rfl (by decide) rfl lkX5_tally_0 rfl dX5_tally_40 ?_
      refine rg_getr F hR 10 (ci := 1) rfl (C := RX1) (T := TX1) (N := 8) rfl iwX5_tally_X1 7 (d := 15) (n := 25) rfl rfl (by decide) rfl lkX5_tally_2 rfl dX5_tally_43 ?_
      obtain ⟨r4, er4, hE⟩ := lt_el hE
      refine rg_callRV (As := []) (rest := []) F (kX0_sum l X 4 (by decide) (b + 25) (gv V 25)  r4 er4) (cwV 0 F.1.2.2.2.2 gX5_tally_X0_sum rfl rfl rfl hvX0_sum ⟨Nat.le_of_ble_eq_true rfl, Nat.le_of_ble_eq_true rfl⟩) (rp_recv F hR 25 rfl (C := RX0) (T := TX0) (N := 1) rfl rfl) (hR.sub 25 sb_LW_25_LC4) rfl hl.1 (Nat.le_of_ble_eq_true rfl) dX5_tally_46 ⟨Nat.zero_le _, Nat.zero_le _⟩ rfl ?_
      subst hE
      exact W.iret (v := r4) hx hb hr (fun t ht _ => ⟨rfl, ht⟩) (fun _ h => absurd h List.not_mem_nil) dX5_tally_49
    · have hE := (if_neg c3).symm.trans hE
      by_cases c5 : a1 = 2
      · have hE := (if_pos c5).symm.trans hE
        refine lv_tableIn (off := 49) (tgt := 50) hx hb dX5_tally_1 (by rw [c5]; decide) (by rw [c5]; decide) (by rw [c5]; rfl) (by decide) ?_
        refine lv_aload_n hx hb dX5_tally_50 rfl (lv_at hl 0 rfl) ?_
        refine rg_getr F hR 0 (ci := 5) rfl (C := RX5) (T := TX5) (N := 6) rfl iwX5_tally_X5 2 (d := 27) (n := 27) rfl rfl (by decide) rfl lkX5_tally_3 rfl dX5_tally_51 ?_
        refine rg_getr F hR 27 (ci := 4) rfl (C := RX4) (T := TX4) (N := 8) rfl iwX5_tally_X4 4 (d := 9) (n := 36) rfl rfl (by decide) rfl lkX5_tally_4 rfl dX5_tally_54 ?_
        obtain ⟨r6, er6, hE⟩ := lt_el hE
        refine rg_callRV (As := []) (rest := []) F (kX0_sum l X 12 (by decide) (b + 36) (gv V 36)  r6 er6) (cwV 0 F.1.2.2.2.2 gX5_tally_X0_sum rfl rfl rfl hvX0_sum ⟨Nat.le_of_ble_eq_true rfl, Nat.le_of_ble_eq_true rfl⟩) (rp_recv F hR 36 rfl (C := RX0) (T := TX0) (N := 1) rfl rfl) (hR.sub 36 sb_LW_36_LC12) rfl hl.1 (Nat.le_of_ble_eq_true rfl) dX5_tally_57 ⟨Nat.zero_le _, Nat.zero_le _⟩ rfl ?_
        subst hE
        exact W.iret (v := r6) hx hb hr (fun t ht _ => ⟨rfl, ht⟩) (fun _ h => absurd h List.not_mem_nil) dX5_tally_60
      · have hE := (if_neg c5).symm.trans hE
        refine lv_tableOut (tgt := 61) hx hb dX5_tally_1 (ts_out3 c1 c3 c5) (by decide) ?_
        refine lv_aload_n hx hb dX5_tally_61 rfl (lv_at hl 0 rfl) ?_
        refine rg_geti F hR 0 (ci := 5) rfl (C := RX5) (T := TX5) (N := 6) rfl iwX5_tally_X5 5 (i := 2) rfl (by decide) rfl lkX5_tally_5 rfl dX5_tally_62 ?_
        subst hE
        exact W.iret (v := V 0 2) hx hb hr (fun t ht _ => ⟨rfl, ht⟩) (fun _ h => absurd h List.not_mem_nil) dX5_tally_65
end
section
set_option maxRecDepth 20000 in
theorem lkX5_takeWord_0 : Cond.fieldLink RX5 21 "TideWords$World" "gates" "LTideWords$Gates;" ∈ wsX5_takeWord := by decide +kernel
set_option maxRecDepth 20000 in
theorem iwX5_takeWord_X5 : ∀ w ∈ wsX50, w ∈ wsX5_takeWord := by decide +kernel
set_option maxRecDepth 20000 in
theorem lkX5_takeWord_1 : Cond.fieldLink RX5 74 "TideWords$Gates" "held" "LTideWords$Cells;" ∈ wsX5_takeWord := by decide +kernel
set_option maxRecDepth 20000 in
theorem iwX5_takeWord_X1 : ∀ w ∈ wsX10, w ∈ wsX5_takeWord := by decide +kernel
set_option maxRecDepth 20000 in
theorem lkX5_takeWord_2 : Cond.fieldLink RX5 28 "TideWords$World" "words" "LTideWords$Words;" ∈ wsX5_takeWord := by decide +kernel
set_option maxRecDepth 20000 in
theorem lkX5_takeWord_3 : Cond.fieldLink RX5 78 "TideWords$Gates" "sides" "LTideWords$Cells;" ∈ wsX5_takeWord := by decide +kernel
set_option maxRecDepth 20000 in
theorem sb_LW_11_LC4 : sbL LW 11 (LC 4) := sbl_of rfl
theorem hvX4_takeWaiting : yX4_takeWaiting.cls = RX4 ∧ yX4_takeWaiting.cls ≠ "java/lang/invoke/MethodHandle" ∧ yX4_takeWaiting.cls ≠ "java/lang/invoke/VarHandle" ∧ (parseMethodDescriptor yX4_takeWaiting.desc).map (fun d => d.parameters.length) = some 1 := by decide +kernel
def fX5_takeWord (V : Mem) (a1 : Int32) : Mem := lt (fX1_hasWord V a1) (fun r1 => if r1 = 0 then lt (cget 4 (V 12) a1) (fun r3 => lt (fX4_takeWaiting V r3) (fun U4 => lt (cset U4.2 20 4 a1 U4.1) (fun V5 => V5))) else V)
abbrev rmX5_takeWord : Room := { frames := 3, cells := 0, slots := 0, locals := 71 }
set_option maxHeartbeats 4000000 in
set_option maxRecDepth 100000 in
theorem mX5_takeWord (l : Launch) (X : kX) (b : Nat) (V : Mem) (a1 : Int32) (out : Mem) (hE : fX5_takeWord V a1 = out) : MW l yX5_takeWord wsX5_takeWord rmX5_takeWord X [.ref b, .int a1] (RP X LW b V) (none) b (b + LW.length) (RP X LW b out) := by
  refine mt_head (cc := cX5_takeWord) (maxL := 2) (ret := none) (own := RX5) (by decide) rfl rfl (Nat.le_of_ble_eq_true rfl) ?_
  intro p e s m below meth c ls F hr hlocks hnm hR hl
  have hx := F.1.1
  have hb := F.1.2.1
  have hH : Hp (t_fr b (b + LW.length)) s.heap s.heap.size X LW b V s.heap [] := ⟨hR, va_S.rf, rfl⟩
  have hl : lv_has ls 2 [(0, .ref b), (1, .int a1)] := hl
  unfold fX5_takeWord at hE
  refine lv_aload_n hx hb dX5_takeWord_0 rfl (lv_at hl 0 rfl) ?_
  refine rg_getr F hH.1 0 (ci := 5) rfl (C := RX5) (T := TX5) (N := 6) rfl iwX5_takeWord_X5 1 (d := 10) (n := 10) rfl rfl (by decide) rfl lkX5_takeWord_0 rfl dX5_takeWord_1 ?_
  refine lv_iload_n hx hb dX5_takeWord_4 rfl (lv_at hl 1 rfl) ?_
  obtain ⟨r1, er1, hE⟩ := lt_el hE
  refine rg_callRV (As := [.int a1]) (rest := []) F (mX1_hasWord l X b V a1 r1 er1) (cwV 1 F.1.2.2.2.2 gX5_takeWord_X1_hasWord rfl rfl rfl hvX1_hasWord ⟨Nat.le_of_ble_eq_true rfl, Nat.le_of_ble_eq_true rfl⟩) (rp_recv F hH.1 10 rfl (C := RX1) (T := TX1) (N := 8) rfl rfl) hH.1 rfl hl.1 (Nat.le_of_ble_eq_true rfl) dX5_takeWord_5 ⟨Nat.zero_le _, Nat.zero_le _⟩ rfl ?_
  refine lv_if_ne (tgt := 40) hx hb dX5_takeWord_8 (by decide) (fun c2 => ?_) (fun c2 => ?_)
  · have hE := (if_neg c2).symm.trans hE
    subst hE
    exact W.vret hx hb hr (fun t ht _ => mw_post hH ht) hH.2.1.2.2 dX5_takeWord_40
  · have hE := (if_pos c2).symm.trans hE
    refine lv_aload_n hx hb dX5_takeWord_11 rfl (lv_at hl 0 rfl) ?_
    refine rg_getr F hH.1 0 (ci := 5) rfl (C := RX5) (T := TX5) (N := 6) rfl iwX5_takeWord_X5 1 (d := 10) (n := 10) rfl rfl (by decide) rfl lkX5_takeWord_0 rfl dX5_takeWord_12 ?_
    refine rg_getr F hH.1 10 (ci := 1) rfl (C := RX1) (T := TX1) (N := 8) rfl iwX5_takeWord_X1 4 (d := 9) (n := 19) rfl rfl (by decide) rfl lkX5_takeWord_1 rfl dX5_takeWord_15 ?_
    refine lv_iload_n hx hb dX5_takeWord_18 rfl (lv_at hl 1 rfl) ?_
    refine lv_aload_n hx hb dX5_takeWord_19 rfl (lv_at hl 0 rfl) ?_
    refine rg_getr F hH.1 0 (ci := 5) rfl (C := RX5) (T := TX5) (N := 6) rfl iwX5_takeWord_X5 2 (d := 27) (n := 27) rfl rfl (by decide) rfl lkX5_takeWord_2 rfl dX5_takeWord_20 ?_
    refine lv_aload_n hx hb dX5_takeWord_23 rfl (lv_at hl 0 rfl) ?_
    refine rg_getr F hH.1 0 (ci := 5) rfl (C := RX5) (T := TX5) (N := 6) rfl iwX5_takeWord_X5 1 (d := 10) (n := 10) rfl rfl (by decide) rfl lkX5_takeWord_0 rfl dX5_takeWord_24 ?_
    refine rg_getr F hH.1 10 (ci := 1) rfl (C := RX1) (T := TX1) (N := 8) rfl iwX5_takeWord_X1 0 (d := 1) (n := 11) rfl rfl (by decide) rfl lkX5_takeWord_3 rfl dX5_takeWord_27 ?_
    refine lv_iload_n hx hb dX5_takeWord_30 rfl (lv_at hl 1 rfl) ?_
    obtain ⟨r3, er3, hE⟩ := lt_el hE
    refine rg_callRV (As := [.int a1]) (rest := [.ref (b + 27), .int a1, .ref (b + 19)]) F (kX0_get l X 4 (by decide) (b + 11) (gv V 11) a1 r3 er3) (cwV 1 F.1.2.2.2.2 gX5_takeWord_X0_get rfl rfl rfl hvX0_get ⟨Nat.le_of_ble_eq_true rfl, Nat.le_of_ble_eq_true rfl⟩) (rp_recv F hH.1 11 rfl (C := RX0) (T := TX0) (N := 1) rfl rfl) (hH.1.sub 11 sb_LW_11_LC4) rfl hl.1 (Nat.le_of_ble_eq_true rfl) dX5_takeWord_31 ⟨Nat.zero_le _, Nat.zero_le _⟩ rfl ?_
    obtain ⟨U4, eU4, hE⟩ := lt_el hE
    refine rg_callWS (As := [.int r3]) (rest := [.int a1, .ref (b + 19)]) F hH (fun q h1 h2 => ⟨h1, h2⟩) (kX4_takeWaiting l X b V r3 U4 eU4) (cwV 1 F.1.2.2.2.2 gX5_takeWord_X4_takeWaiting rfl rfl rfl hvX4_takeWaiting ⟨Nat.le_of_ble_eq_true rfl, Nat.le_of_ble_eq_true rfl⟩) (rp_recv F hH.1 27 rfl (C := RX4) (T := TX4) (N := 8) rfl rfl) hH.1 rfl hl.1 (Nat.le_of_ble_eq_true rfl) dX5_takeWord_34 ⟨Nat.zero_le _, Nat.zero_le _⟩ rfl (fun H locs hH => ?_)
    obtain ⟨V5, eV5, hE⟩ := lt_el hE
    refine rg_callWV (As := [.int a1, .int U4.1]) (rest := []) F hH (fun q h1 h2 => ⟨h1, h2⟩) 19 sb_LW_19_LC4 (kX0_set l X 4 (by decide) (b + 19) (gv U4.2 19) a1 U4.1 _ rfl) (cwV 2 F.1.2.2.2.2 gX5_takeWord_X0_set rfl rfl rfl hvX0_set ⟨Nat.le_of_ble_eq_true rfl, Nat.le_of_ble_eq_true rfl⟩) (rp_recv F hH.1 19 rfl (C := RX0) (T := TX0) (N := 1) rfl rfl) (hH.1.sub 19 sb_LW_19_LC4) rfl hl.1 (Nat.le_of_ble_eq_true rfl) dX5_takeWord_37 ⟨Nat.zero_le _, Nat.zero_le _⟩ rfl ((pv_cset ..).trans eV5) (fun H locs hH hfr => ?_)
    subst hE
    exact W.vret hx hb hr (fun t ht _ => mw_post hH ht) hH.2.1.2.2 dX5_takeWord_40
set_option maxRecDepth 20000 in
theorem lkX5_passLetter_0 : Cond.fieldLink RX5 21 "TideWords$World" "gates" "LTideWords$Gates;" ∈ wsX5_passLetter := by decide +kernel
set_option maxRecDepth 20000 in
theorem iwX5_passLetter_X5 : ∀ w ∈ wsX50, w ∈ wsX5_passLetter := by decide +kernel
set_option maxRecDepth 20000 in
theorem lkX5_passLetter_1 : Cond.fieldLink RX5 74 "TideWords$Gates" "held" "LTideWords$Cells;" ∈ wsX5_passLetter := by decide +kernel
set_option maxRecDepth 20000 in
theorem iwX5_passLetter_X1 : ∀ w ∈ wsX10, w ∈ wsX5_passLetter := by decide +kernel
set_option maxRecDepth 20000 in
theorem lkX5_passLetter_2 : Cond.fieldLink RX5 93 "TideWords$World" "letters" "I" ∈ wsX5_passLetter := by decide +kernel
set_option maxRecDepth 20000 in
theorem lkX5_passLetter_3 : Cond.fieldLink RX5 96 "TideWords$Gates" "lettersDone" "LTideWords$Cells;" ∈ wsX5_passLetter := by decide +kernel
set_option maxRecDepth 20000 in
theorem lkX5_passLetter_4 : Cond.fieldLink RX5 28 "TideWords$World" "words" "LTideWords$Words;" ∈ wsX5_passLetter := by decide +kernel
set_option maxRecDepth 20000 in
theorem lkX5_passLetter_5 : Cond.fieldLink RX5 102 "TideWords$Words" "lengths" "LTideWords$Cells;" ∈ wsX5_passLetter := by decide +kernel
set_option maxRecDepth 20000 in
theorem iwX5_passLetter_X4 : ∀ w ∈ wsX40, w ∈ wsX5_passLetter := by decide +kernel
theorem hvX1_release : yX1_release.cls = RX1 ∧ yX1_release.cls ≠ "java/lang/invoke/MethodHandle" ∧ yX1_release.cls ≠ "java/lang/invoke/VarHandle" ∧ (parseMethodDescriptor yX1_release.desc).map (fun d => d.parameters.length) = some 1 := by decide +kernel
set_option maxRecDepth 20000 in
theorem lkX5_passLetter_6 : Cond.fieldLink RX5 108 "TideWords$Gates" "passedWords" "LTideWords$Cells;" ∈ wsX5_passLetter := by decide +kernel
set_option maxRecDepth 20000 in
theorem lkX5_passLetter_7 : Cond.fieldLink RX5 40 "TideWords$World" "steps" "I" ∈ wsX5_passLetter := by decide +kernel
theorem hvX4_markPassed : yX4_markPassed.cls = RX4 ∧ yX4_markPassed.cls ≠ "java/lang/invoke/MethodHandle" ∧ yX4_markPassed.cls ≠ "java/lang/invoke/VarHandle" ∧ (parseMethodDescriptor yX4_markPassed.desc).map (fun d => d.parameters.length) = some 3 := by decide +kernel
set_option maxRecDepth 20000 in
theorem lkX5_passLetter_8 : Cond.fieldLink RX5 78 "TideWords$Gates" "sides" "LTideWords$Cells;" ∈ wsX5_passLetter := by decide +kernel
def fX5_passLetter (V : Mem) (a1 : Int32) : Mem := lt (cget 4 (V 20) a1) (fun r1 => if r1 = (-1006 : Int32) then V else lt (sv V 0 1 ((V 0 1) + ((1 : Int32)))) (fun V3 => lt (cadd V3 22 4 a1 ((1 : Int32))) (fun V4 => lt (cget 4 (V4 22) a1) (fun r5 => lt (cget 12 (V4 29) r1) (fun r6 => if r6 ≤ r5 then lt (fX1_release V4 a1) (fun U8 => lt (cadd U8 24 4 a1 ((1 : Int32))) (fun V9 => lt (fX4_markPassed V9 r1 (V9 0 0) a1) (fun U10 => lt (cget 4 (U10 12) a1) (fun r11 => lt (fX4_addLast U10 (((1 : Int32)) - r11) r1) (fun U12 => U12))))) else V4)))))
abbrev rmX5_passLetter : Room := { frames := 2, cells := 0, slots := 0, locals := 45 }
set_option maxHeartbeats 4000000 in
set_option maxRecDepth 100000 in
theorem mX5_passLetter (l : Launch) (X : kX) (b : Nat) (V : Mem) (a1 : Int32) (out : Mem) (hE : fX5_passLetter V a1 = out) : MW l yX5_passLetter wsX5_passLetter rmX5_passLetter X [.ref b, .int a1] (RP X LW b V) (none) b (b + LW.length) (RP X LW b out) := by
  refine mt_head (cc := cX5_passLetter) (maxL := 3) (ret := none) (own := RX5) (by decide) rfl rfl (Nat.le_of_ble_eq_true rfl) ?_
  intro p e s m below meth c ls F hr hlocks hnm hR hl
  have hx := F.1.1
  have hb := F.1.2.1
  have hH : Hp (t_fr b (b + LW.length)) s.heap s.heap.size X LW b V s.heap [] := ⟨hR, va_S.rf, rfl⟩
  have hl : lv_has ls 3 [(0, .ref b), (1, .int a1)] := hl
  unfold fX5_passLetter at hE
  refine lv_aload_n hx hb dX5_passLetter_0 rfl (lv_at hl 0 rfl) ?_
  refine rg_getr F hH.1 0 (ci := 5) rfl (C := RX5) (T := TX5) (N := 6) rfl iwX5_passLetter_X5 1 (d := 10) (n := 10) rfl rfl (by decide) rfl lkX5_passLetter_0 rfl dX5_passLetter_1 ?_
  refine rg_getr F hH.1 10 (ci := 1) rfl (C := RX1) (T := TX1) (N := 8) rfl iwX5_passLetter_X1 4 (d := 9) (n := 19) rfl rfl (by decide) rfl lkX5_passLetter_1 rfl dX5_passLetter_4 ?_
  refine lv_iload_n hx hb dX5_passLetter_7 rfl (lv_at hl 1 rfl) ?_
  obtain ⟨r1, er1, hE⟩ := lt_el hE
  refine rg_callRV (As := [.int a1]) (rest := []) F (kX0_get l X 4 (by decide) (b + 19) (gv V 19) a1 r1 er1) (cwV 1 F.1.2.2.2.2 gX5_passLetter_X0_get rfl rfl rfl hvX0_get ⟨Nat.le_of_ble_eq_true rfl, Nat.le_of_ble_eq_true rfl⟩) (rp_recv F hH.1 19 rfl (C := RX0) (T := TX0) (N := 1) rfl rfl) (hH.1.sub 19 sb_LW_19_LC4) rfl hl.1 (Nat.le_of_ble_eq_true rfl) dX5_passLetter_8 ⟨Nat.zero_le _, Nat.zero_le _⟩ rfl ?_
  refine lv_istore_n (lv' := [(2, .int r1), (0, .ref b), (1, .int a1)]) hx hb dX5_passLetter_11 rfl hl (by decide) rfl (fun ls hl => ?_)
  refine lv_iload_n hx hb dX5_passLetter_12 rfl (lv_at hl 0 rfl) ?_
  refine lv_sipush (v := (-1006)) hx hb dX5_passLetter_13 (by decide) ?_
  refine lv_icmp_ne (tgt := 20) hx hb dX5_passLetter_16 (by decide) (fun c2 => ?_) (fun c2 => ?_)
  · have hE := (if_neg c2).symm.trans hE
    refine lv_aload_n hx hb dX5_passLetter_20 rfl (lv_at hl 1 rfl) ?_
    refine lv_dup hx hb dX5_passLetter_21 rfl ?_
    refine rg_geti F hH.1 0 (ci := 5) rfl (C := RX5) (T := TX5) (N := 6) rfl iwX5_passLetter_X5 4 (i := 1) rfl (by decide) rfl lkX5_passLetter_2 rfl dX5_passLetter_22 ?_
    refine lv_iconst (v := 1) hx hb dX5_passLetter_25 (by decide) ?_
    refine lv_iadd hx hb dX5_passLetter_26 ?_
    obtain ⟨V3, eV3, hE⟩ := lt_el hE
    refine rg_put F hH (fun q h1 h2 => ⟨h1, h2⟩) 0 (ci := 5) rfl (C := RX5) (T := TX5) (N := 6) rfl iwX5_passLetter_X5 tyX5 tyX5_ok nmX5 4 (i := 1) rfl (by decide) (by decide) rfl rfl (by decide +kernel) lkX5_passLetter_2 rfl dX5_passLetter_27 (fun H locs hH hfr => ?_)
    replace hH := hp_cast eV3 hH
    refine lv_aload_n hx hb dX5_passLetter_30 rfl (lv_at hl 1 rfl) ?_
    refine rg_getr F hH.1 0 (ci := 5) rfl (C := RX5) (T := TX5) (N := 6) rfl iwX5_passLetter_X5 1 (d := 10) (n := 10) rfl rfl (by decide) rfl lkX5_passLetter_0 rfl dX5_passLetter_31 ?_
    refine rg_getr F hH.1 10 (ci := 1) rfl (C := RX1) (T := TX1) (N := 8) rfl iwX5_passLetter_X1 5 (d := 11) (n := 21) rfl rfl (by decide) rfl lkX5_passLetter_3 rfl dX5_passLetter_34 ?_
    refine lv_iload_n hx hb dX5_passLetter_37 rfl (lv_at hl 2 rfl) ?_
    refine lv_iconst (v := 1) hx hb dX5_passLetter_38 (by decide) ?_
    obtain ⟨V4, eV4, hE⟩ := lt_el hE
    refine rg_callWV (As := [.int a1, .int ((1 : Int32))]) (rest := []) F hH (fun q h1 h2 => ⟨h1, h2⟩) 21 sb_LW_21_LC4 (kX0_add l X 4 (by decide) (b + 21) (gv V3 21) a1 ((1 : Int32)) _ rfl) (cwV 2 F.1.2.2.2.2 gX5_passLetter_X0_add rfl rfl rfl hvX0_add ⟨Nat.le_of_ble_eq_true rfl, Nat.le_of_ble_eq_true rfl⟩) (rp_recv F hH.1 21 rfl (C := RX0) (T := TX0) (N := 1) rfl rfl) (hH.1.sub 21 sb_LW_21_LC4) rfl hl.1 (Nat.le_of_ble_eq_true rfl) dX5_passLetter_39 ⟨Nat.zero_le _, Nat.zero_le _⟩ rfl ((pv_cadd ..).trans eV4) (fun H locs hH hfr => ?_)
    refine lv_aload_n hx hb dX5_passLetter_42 rfl (lv_at hl 1 rfl) ?_
    refine rg_getr F hH.1 0 (ci := 5) rfl (C := RX5) (T := TX5) (N := 6) rfl iwX5_passLetter_X5 1 (d := 10) (n := 10) rfl rfl (by decide) rfl lkX5_passLetter_0 rfl dX5_passLetter_43 ?_
    refine rg_getr F hH.1 10 (ci := 1) rfl (C := RX1) (T := TX1) (N := 8) rfl iwX5_passLetter_X1 5 (d := 11) (n := 21) rfl rfl (by decide) rfl lkX5_passLetter_3 rfl dX5_passLetter_46 ?_
    refine lv_iload_n hx hb dX5_passLetter_49 rfl (lv_at hl 2 rfl) ?_
    obtain ⟨r5, er5, hE⟩ := lt_el hE
    refine rg_callRV (As := [.int a1]) (rest := []) F (kX0_get l X 4 (by decide) (b + 21) (gv V4 21) a1 r5 er5) (cwV 1 F.1.2.2.2.2 gX5_passLetter_X0_get rfl rfl rfl hvX0_get ⟨Nat.le_of_ble_eq_true rfl, Nat.le_of_ble_eq_true rfl⟩) (rp_recv F hH.1 21 rfl (C := RX0) (T := TX0) (N := 1) rfl rfl) (hH.1.sub 21 sb_LW_21_LC4) rfl hl.1 (Nat.le_of_ble_eq_true rfl) dX5_passLetter_50 ⟨Nat.zero_le _, Nat.zero_le _⟩ rfl ?_
    refine lv_aload_n hx hb dX5_passLetter_53 rfl (lv_at hl 1 rfl) ?_
    refine rg_getr F hH.1 0 (ci := 5) rfl (C := RX5) (T := TX5) (N := 6) rfl iwX5_passLetter_X5 2 (d := 27) (n := 27) rfl rfl (by decide) rfl lkX5_passLetter_4 rfl dX5_passLetter_54 ?_
    refine rg_getr F hH.1 27 (ci := 4) rfl (C := RX4) (T := TX4) (N := 8) rfl iwX5_passLetter_X4 0 (d := 1) (n := 28) rfl rfl (by decide) rfl lkX5_passLetter_5 rfl dX5_passLetter_57 ?_
    refine lv_iload_n hx hb dX5_passLetter_60 rfl (lv_at hl 0 rfl) ?_
    obtain ⟨r6, er6, hE⟩ := lt_el hE
    refine rg_callRV (As := [.int r1]) (rest := [.int r5]) F (kX0_get l X 12 (by decide) (b + 28) (gv V4 28) r1 r6 er6) (cwV 1 F.1.2.2.2.2 gX5_passLetter_X0_get rfl rfl rfl hvX0_get ⟨Nat.le_of_ble_eq_true rfl, Nat.le_of_ble_eq_true rfl⟩) (rp_recv F hH.1 28 rfl (C := RX0) (T := TX0) (N := 1) rfl rfl) (hH.1.sub 28 sb_LW_28_LC12) rfl hl.1 (Nat.le_of_ble_eq_true rfl) dX5_passLetter_61 ⟨Nat.zero_le _, Nat.zero_le _⟩ rfl ?_
    refine lv_icmp_ge (tgt := 68) hx hb dX5_passLetter_64 (by decide) (fun c7 => ?_) (fun c7 => ?_)
    · have hE := (if_pos c7).symm.trans hE
      refine lv_aload_n hx hb dX5_passLetter_68 rfl (lv_at hl 1 rfl) ?_
      refine rg_getr F hH.1 0 (ci := 5) rfl (C := RX5) (T := TX5) (N := 6) rfl iwX5_passLetter_X5 1 (d := 10) (n := 10) rfl rfl (by decide) rfl lkX5_passLetter_0 rfl dX5_passLetter_69 ?_
      refine lv_iload_n hx hb dX5_passLetter_72 rfl (lv_at hl 2 rfl) ?_
      obtain ⟨U8, eU8, hE⟩ := lt_el hE
      refine rg_callWS (As := [.int a1]) (rest := []) F hH (fun q h1 h2 => ⟨h1, h2⟩) (mX1_release l X b V4 a1 U8 eU8) (cwV 1 F.1.2.2.2.2 gX5_passLetter_X1_release rfl rfl rfl hvX1_release ⟨Nat.le_of_ble_eq_true rfl, Nat.le_of_ble_eq_true rfl⟩) (rp_recv F hH.1 10 rfl (C := RX1) (T := TX1) (N := 8) rfl rfl) hH.1 rfl hl.1 (Nat.le_of_ble_eq_true rfl) dX5_passLetter_73 ⟨Nat.zero_le _, Nat.zero_le _⟩ rfl (fun H locs hH => ?_)
      refine lv_aload_n hx hb dX5_passLetter_76 rfl (lv_at hl 1 rfl) ?_
      refine rg_getr F hH.1 0 (ci := 5) rfl (C := RX5) (T := TX5) (N := 6) rfl iwX5_passLetter_X5 1 (d := 10) (n := 10) rfl rfl (by decide) rfl lkX5_passLetter_0 rfl dX5_passLetter_77 ?_
      refine rg_getr F hH.1 10 (ci := 1) rfl (C := RX1) (T := TX1) (N := 8) rfl iwX5_passLetter_X1 6 (d := 13) (n := 23) rfl rfl (by decide) rfl lkX5_passLetter_6 rfl dX5_passLetter_80 ?_
      refine lv_iload_n hx hb dX5_passLetter_83 rfl (lv_at hl 2 rfl) ?_
      refine lv_iconst (v := 1) hx hb dX5_passLetter_84 (by decide) ?_
      obtain ⟨V9, eV9, hE⟩ := lt_el hE
      refine rg_callWV (As := [.int a1, .int ((1 : Int32))]) (rest := []) F hH (fun q h1 h2 => ⟨h1, h2⟩) 23 sb_LW_23_LC4 (kX0_add l X 4 (by decide) (b + 23) (gv U8 23) a1 ((1 : Int32)) _ rfl) (cwV 2 F.1.2.2.2.2 gX5_passLetter_X0_add rfl rfl rfl hvX0_add ⟨Nat.le_of_ble_eq_true rfl, Nat.le_of_ble_eq_true rfl⟩) (rp_recv F hH.1 23 rfl (C := RX0) (T := TX0) (N := 1) rfl rfl) (hH.1.sub 23 sb_LW_23_LC4) rfl hl.1 (Nat.le_of_ble_eq_true rfl) dX5_passLetter_85 ⟨Nat.zero_le _, Nat.zero_le _⟩ rfl ((pv_cadd ..).trans eV9) (fun H locs hH hfr => ?_)
      refine lv_aload_n hx hb dX5_passLetter_88 rfl (lv_at hl 1 rfl) ?_
      refine rg_getr F hH.1 0 (ci := 5) rfl (C := RX5) (T := TX5) (N := 6) rfl iwX5_passLetter_X5 2 (d := 27) (n := 27) rfl rfl (by decide) rfl lkX5_passLetter_4 rfl dX5_passLetter_89 ?_
      refine lv_iload_n hx hb dX5_passLetter_92 rfl (lv_at hl 0 rfl) ?_
      refine lv_aload_n hx hb dX5_passLetter_93 rfl (lv_at hl 1 rfl) ?_
      refine rg_geti F hH.1 0 (ci := 5) rfl (C := RX5) (T := TX5) (N := 6) rfl iwX5_passLetter_X5 3 (i := 0) rfl (by decide) rfl lkX5_passLetter_7 rfl dX5_passLetter_94 ?_
      refine lv_iload_n hx hb dX5_passLetter_97 rfl (lv_at hl 2 rfl) ?_
      obtain ⟨U10, eU10, hE⟩ := lt_el hE
      refine rg_callWS (As := [.int r1, .int (V9 0 0), .int a1]) (rest := []) F hH (fun q h1 h2 => ⟨h1, h2⟩) (mX4_markPassed l X b V9 r1 (V9 0 0) a1 U10 eU10) (cwV 3 F.1.2.2.2.2 gX5_passLetter_X4_markPassed rfl rfl rfl hvX4_markPassed ⟨Nat.le_of_ble_eq_true rfl, Nat.le_of_ble_eq_true rfl⟩) (rp_recv F hH.1 27 rfl (C := RX4) (T := TX4) (N := 8) rfl rfl) hH.1 rfl hl.1 (Nat.le_of_ble_eq_true rfl) dX5_passLetter_98 ⟨Nat.zero_le _, Nat.zero_le _⟩ rfl (fun H locs hH => ?_)
      refine lv_aload_n hx hb dX5_passLetter_101 rfl (lv_at hl 1 rfl) ?_
      refine rg_getr F hH.1 0 (ci := 5) rfl (C := RX5) (T := TX5) (N := 6) rfl iwX5_passLetter_X5 2 (d := 27) (n := 27) rfl rfl (by decide) rfl lkX5_passLetter_4 rfl dX5_passLetter_102 ?_
      refine lv_iconst (v := 1) hx hb dX5_passLetter_105 (by decide) ?_
      refine lv_aload_n hx hb dX5_passLetter_106 rfl (lv_at hl 1 rfl) ?_
      refine rg_getr F hH.1 0 (ci := 5) rfl (C := RX5) (T := TX5) (N := 6) rfl iwX5_passLetter_X5 1 (d := 10) (n := 10) rfl rfl (by decide) rfl lkX5_passLetter_0 rfl dX5_passLetter_107 ?_
      refine rg_getr F hH.1 10 (ci := 1) rfl (C := RX1) (T := TX1) (N := 8) rfl iwX5_passLetter_X1 0 (d := 1) (n := 11) rfl rfl (by decide) rfl lkX5_passLetter_8 rfl dX5_passLetter_110 ?_
      refine lv_iload_n hx hb dX5_passLetter_113 rfl (lv_at hl 2 rfl) ?_
      obtain ⟨r11, er11, hE⟩ := lt_el hE
      refine rg_callRV (As := [.int a1]) (rest := [.int ((1 : Int32)), .ref (b + 27)]) F (kX0_get l X 4 (by decide) (b + 11) (gv U10 11) a1 r11 er11) (cwV 1 F.1.2.2.2.2 gX5_passLetter_X0_get rfl rfl rfl hvX0_get ⟨Nat.le_of_ble_eq_true rfl, Nat.le_of_ble_eq_true rfl⟩) (rp_recv F hH.1 11 rfl (C := RX0) (T := TX0) (N := 1) rfl rfl) (hH.1.sub 11 sb_LW_11_LC4) rfl hl.1 (Nat.le_of_ble_eq_true rfl) dX5_passLetter_114 ⟨Nat.zero_le _, Nat.zero_le _⟩ rfl ?_
      refine lv_isub hx hb dX5_passLetter_117 ?_
      refine lv_iload_n hx hb dX5_passLetter_118 rfl (lv_at hl 0 rfl) ?_
      obtain ⟨U12, eU12, hE⟩ := lt_el hE
      refine rg_callWS (As := [.int (((1 : Int32)) - r11), .int r1]) (rest := []) F hH (fun q h1 h2 => ⟨h1, h2⟩) (mX4_addLast l X b U10 (((1 : Int32)) - r11) r1 U12 eU12) (cwV 2 F.1.2.2.2.2 gX5_passLetter_X4_addLast rfl rfl rfl hvX4_addLast ⟨Nat.le_of_ble_eq_true rfl, Nat.le_of_ble_eq_true rfl⟩) (rp_recv F hH.1 27 rfl (C := RX4) (T := TX4) (N := 8) rfl rfl) hH.1 rfl hl.1 (Nat.le_of_ble_eq_true rfl) dX5_passLetter_119 ⟨Nat.zero_le _, Nat.zero_le _⟩ rfl (fun H locs hH => ?_)
      subst hE
      exact W.vret hx hb hr (fun t ht _ => mw_post hH ht) hH.2.1.2.2 dX5_passLetter_122
    · have hE := (if_neg c7).symm.trans hE
      subst hE
      exact W.vret hx hb hr (fun t ht _ => mw_post hH ht) hH.2.1.2.2 dX5_passLetter_67
  · have hE := (if_pos c2).symm.trans hE
    subst hE
    exact W.vret hx hb hr (fun t ht _ => mw_post hH ht) hH.2.1.2.2 dX5_passLetter_19
set_option maxRecDepth 20000 in
theorem lkX5_sendBack_0 : Cond.fieldLink RX5 21 "TideWords$World" "gates" "LTideWords$Gates;" ∈ wsX5_sendBack := by decide +kernel
set_option maxRecDepth 20000 in
theorem iwX5_sendBack_X5 : ∀ w ∈ wsX50, w ∈ wsX5_sendBack := by decide +kernel
set_option maxRecDepth 20000 in
theorem lkX5_sendBack_1 : Cond.fieldLink RX5 74 "TideWords$Gates" "held" "LTideWords$Cells;" ∈ wsX5_sendBack := by decide +kernel
set_option maxRecDepth 20000 in
theorem iwX5_sendBack_X1 : ∀ w ∈ wsX10, w ∈ wsX5_sendBack := by decide +kernel
set_option maxRecDepth 20000 in
theorem lkX5_sendBack_2 : Cond.fieldLink RX5 118 "TideWords$Gates" "ways" "LTideWords$Cells;" ∈ wsX5_sendBack := by decide +kernel
set_option maxRecDepth 20000 in
theorem sb_LW_15_LC4 : sbL LW 15 (LC 4) := sbl_of rfl
set_option maxRecDepth 20000 in
theorem lkX5_sendBack_3 : Cond.fieldLink RX5 121 "TideWords$Gates" "vainLetters" "LTideWords$Cells;" ∈ wsX5_sendBack := by decide +kernel
set_option maxRecDepth 20000 in
theorem lkX5_sendBack_4 : Cond.fieldLink RX5 96 "TideWords$Gates" "lettersDone" "LTideWords$Cells;" ∈ wsX5_sendBack := by decide +kernel
set_option maxRecDepth 20000 in
theorem lkX5_sendBack_5 : Cond.fieldLink RX5 28 "TideWords$World" "words" "LTideWords$Words;" ∈ wsX5_sendBack := by decide +kernel
set_option maxRecDepth 20000 in
theorem lkX5_sendBack_6 : Cond.fieldLink RX5 124 "TideWords$Words" "timesBack" "LTideWords$Cells;" ∈ wsX5_sendBack := by decide +kernel
set_option maxRecDepth 20000 in
theorem iwX5_sendBack_X4 : ∀ w ∈ wsX40, w ∈ wsX5_sendBack := by decide +kernel
set_option maxRecDepth 20000 in
theorem lkX5_sendBack_7 : Cond.fieldLink RX5 78 "TideWords$Gates" "sides" "LTideWords$Cells;" ∈ wsX5_sendBack := by decide +kernel
theorem hvX4_addFirst : yX4_addFirst.cls = RX4 ∧ yX4_addFirst.cls ≠ "java/lang/invoke/MethodHandle" ∧ yX4_addFirst.cls ≠ "java/lang/invoke/VarHandle" ∧ (parseMethodDescriptor yX4_addFirst.desc).map (fun d => d.parameters.length) = some 2 := by decide +kernel
def fX5_sendBack (V : Mem) (a1 : Int32) : Mem := lt (cget 4 (V 20) a1) (fun r1 => if r1 = (-1006 : Int32) then V else lt (cget 4 (V 16) a1) (fun r3 => if r3 = (1 : Int32) then V else lt (cget 4 (V 22) a1) (fun r5 => lt (cadd V 26 4 a1 r5) (fun V6 => lt (fX1_release V6 a1) (fun U7 => lt (cadd U7 37 12 r1 ((1 : Int32))) (fun V8 => lt (cget 4 (V8 12) a1) (fun r9 => lt (fX4_addFirst V8 r9 r1) (fun U10 => U10))))))))
abbrev rmX5_sendBack : Room := { frames := 2, cells := 0, slots := 0, locals := 47 }
set_option maxHeartbeats 4000000 in
set_option maxRecDepth 100000 in
theorem mX5_sendBack (l : Launch) (X : kX) (b : Nat) (V : Mem) (a1 : Int32) (out : Mem) (hE : fX5_sendBack V a1 = out) : MW l yX5_sendBack wsX5_sendBack rmX5_sendBack X [.ref b, .int a1] (RP X LW b V) (none) b (b + LW.length) (RP X LW b out) := by
  refine mt_head (cc := cX5_sendBack) (maxL := 3) (ret := none) (own := RX5) (by decide) rfl rfl (Nat.le_of_ble_eq_true rfl) ?_
  intro p e s m below meth c ls F hr hlocks hnm hR hl
  have hx := F.1.1
  have hb := F.1.2.1
  have hH : Hp (t_fr b (b + LW.length)) s.heap s.heap.size X LW b V s.heap [] := ⟨hR, va_S.rf, rfl⟩
  have hl : lv_has ls 3 [(0, .ref b), (1, .int a1)] := hl
  unfold fX5_sendBack at hE
  refine lv_aload_n hx hb dX5_sendBack_0 rfl (lv_at hl 0 rfl) ?_
  refine rg_getr F hH.1 0 (ci := 5) rfl (C := RX5) (T := TX5) (N := 6) rfl iwX5_sendBack_X5 1 (d := 10) (n := 10) rfl rfl (by decide) rfl lkX5_sendBack_0 rfl dX5_sendBack_1 ?_
  refine rg_getr F hH.1 10 (ci := 1) rfl (C := RX1) (T := TX1) (N := 8) rfl iwX5_sendBack_X1 4 (d := 9) (n := 19) rfl rfl (by decide) rfl lkX5_sendBack_1 rfl dX5_sendBack_4 ?_
  refine lv_iload_n hx hb dX5_sendBack_7 rfl (lv_at hl 1 rfl) ?_
  obtain ⟨r1, er1, hE⟩ := lt_el hE
  refine rg_callRV (As := [.int a1]) (rest := []) F (kX0_get l X 4 (by decide) (b + 19) (gv V 19) a1 r1 er1) (cwV 1 F.1.2.2.2.2 gX5_sendBack_X0_get rfl rfl rfl hvX0_get ⟨Nat.le_of_ble_eq_true rfl, Nat.le_of_ble_eq_true rfl⟩) (rp_recv F hH.1 19 rfl (C := RX0) (T := TX0) (N := 1) rfl rfl) (hH.1.sub 19 sb_LW_19_LC4) rfl hl.1 (Nat.le_of_ble_eq_true rfl) dX5_sendBack_8 ⟨Nat.zero_le _, Nat.zero_le _⟩ rfl ?_
  refine lv_istore_n (lv' := [(2, .int r1), (0, .ref b), (1, .int a1)]) hx hb dX5_sendBack_11 rfl hl (by decide) rfl (fun ls hl => ?_)
  refine lv_iload_n hx hb dX5_sendBack_12 rfl (lv_at hl 0 rfl) ?_
  refine lv_sipush (v := (-1006)) hx hb dX5_sendBack_13 (by decide) ?_
  refine lv_icmp_eq (tgt := 34) hx hb dX5_sendBack_16 (by decide) (fun c2 => ?_) (fun c2 => ?_)
  · have hE := (if_pos c2).symm.trans hE
    subst hE
    exact W.vret hx hb hr (fun t ht _ => mw_post hH ht) hH.2.1.2.2 dX5_sendBack_34
  · have hE := (if_neg c2).symm.trans hE
    refine lv_aload_n hx hb dX5_sendBack_19 rfl (lv_at hl 1 rfl) ?_
    refine rg_getr F hH.1 0 (ci := 5) rfl (C := RX5) (T := TX5) (N := 6) rfl iwX5_sendBack_X5 1 (d := 10) (n := 10) rfl rfl (by decide) rfl lkX5_sendBack_0 rfl dX5_sendBack_20 ?_
    refine rg_getr F hH.1 10 (ci := 1) rfl (C := RX1) (T := TX1) (N := 8) rfl iwX5_sendBack_X1 2 (d := 5) (n := 15) rfl rfl (by decide) rfl lkX5_sendBack_2 rfl dX5_sendBack_23 ?_
    refine lv_iload_n hx hb dX5_sendBack_26 rfl (lv_at hl 2 rfl) ?_
    obtain ⟨r3, er3, hE⟩ := lt_el hE
    refine rg_callRV (As := [.int a1]) (rest := []) F (kX0_get l X 4 (by decide) (b + 15) (gv V 15) a1 r3 er3) (cwV 1 F.1.2.2.2.2 gX5_sendBack_X0_get rfl rfl rfl hvX0_get ⟨Nat.le_of_ble_eq_true rfl, Nat.le_of_ble_eq_true rfl⟩) (rp_recv F hH.1 15 rfl (C := RX0) (T := TX0) (N := 1) rfl rfl) (hH.1.sub 15 sb_LW_15_LC4) rfl hl.1 (Nat.le_of_ble_eq_true rfl) dX5_sendBack_27 ⟨Nat.zero_le _, Nat.zero_le _⟩ rfl ?_
    refine lv_iconst (v := 1) hx hb dX5_sendBack_30 (by decide) ?_
    refine lv_icmp_ne (tgt := 35) hx hb dX5_sendBack_31 (by decide) (fun c4 => ?_) (fun c4 => ?_)
    · have hE := (if_neg c4).symm.trans hE
      refine lv_aload_n hx hb dX5_sendBack_35 rfl (lv_at hl 1 rfl) ?_
      refine rg_getr F hH.1 0 (ci := 5) rfl (C := RX5) (T := TX5) (N := 6) rfl iwX5_sendBack_X5 1 (d := 10) (n := 10) rfl rfl (by decide) rfl lkX5_sendBack_0 rfl dX5_sendBack_36 ?_
      refine rg_getr F hH.1 10 (ci := 1) rfl (C := RX1) (T := TX1) (N := 8) rfl iwX5_sendBack_X1 7 (d := 15) (n := 25) rfl rfl (by decide) rfl lkX5_sendBack_3 rfl dX5_sendBack_39 ?_
      refine lv_iload_n hx hb dX5_sendBack_42 rfl (lv_at hl 2 rfl) ?_
      refine lv_aload_n hx hb dX5_sendBack_43 rfl (lv_at hl 1 rfl) ?_
      refine rg_getr F hH.1 0 (ci := 5) rfl (C := RX5) (T := TX5) (N := 6) rfl iwX5_sendBack_X5 1 (d := 10) (n := 10) rfl rfl (by decide) rfl lkX5_sendBack_0 rfl dX5_sendBack_44 ?_
      refine rg_getr F hH.1 10 (ci := 1) rfl (C := RX1) (T := TX1) (N := 8) rfl iwX5_sendBack_X1 5 (d := 11) (n := 21) rfl rfl (by decide) rfl lkX5_sendBack_4 rfl dX5_sendBack_47 ?_
      refine lv_iload_n hx hb dX5_sendBack_50 rfl (lv_at hl 2 rfl) ?_
      obtain ⟨r5, er5, hE⟩ := lt_el hE
      refine rg_callRV (As := [.int a1]) (rest := [.int a1, .ref (b + 25)]) F (kX0_get l X 4 (by decide) (b + 21) (gv V 21) a1 r5 er5) (cwV 1 F.1.2.2.2.2 gX5_sendBack_X0_get rfl rfl rfl hvX0_get ⟨Nat.le_of_ble_eq_true rfl, Nat.le_of_ble_eq_true rfl⟩) (rp_recv F hH.1 21 rfl (C := RX0) (T := TX0) (N := 1) rfl rfl) (hH.1.sub 21 sb_LW_21_LC4) rfl hl.1 (Nat.le_of_ble_eq_true rfl) dX5_sendBack_51 ⟨Nat.zero_le _, Nat.zero_le _⟩ rfl ?_
      obtain ⟨V6, eV6, hE⟩ := lt_el hE
      refine rg_callWV (As := [.int a1, .int r5]) (rest := []) F hH (fun q h1 h2 => ⟨h1, h2⟩) 25 sb_LW_25_LC4 (kX0_add l X 4 (by decide) (b + 25) (gv V 25) a1 r5 _ rfl) (cwV 2 F.1.2.2.2.2 gX5_sendBack_X0_add rfl rfl rfl hvX0_add ⟨Nat.le_of_ble_eq_true rfl, Nat.le_of_ble_eq_true rfl⟩) (rp_recv F hH.1 25 rfl (C := RX0) (T := TX0) (N := 1) rfl rfl) (hH.1.sub 25 sb_LW_25_LC4) rfl hl.1 (Nat.le_of_ble_eq_true rfl) dX5_sendBack_54 ⟨Nat.zero_le _, Nat.zero_le _⟩ rfl ((pv_cadd ..).trans eV6) (fun H locs hH hfr => ?_)
      refine lv_aload_n hx hb dX5_sendBack_57 rfl (lv_at hl 1 rfl) ?_
      refine rg_getr F hH.1 0 (ci := 5) rfl (C := RX5) (T := TX5) (N := 6) rfl iwX5_sendBack_X5 1 (d := 10) (n := 10) rfl rfl (by decide) rfl lkX5_sendBack_0 rfl dX5_sendBack_58 ?_
      refine lv_iload_n hx hb dX5_sendBack_61 rfl (lv_at hl 2 rfl) ?_
      obtain ⟨U7, eU7, hE⟩ := lt_el hE
      refine rg_callWS (As := [.int a1]) (rest := []) F hH (fun q h1 h2 => ⟨h1, h2⟩) (mX1_release l X b V6 a1 U7 eU7) (cwV 1 F.1.2.2.2.2 gX5_sendBack_X1_release rfl rfl rfl hvX1_release ⟨Nat.le_of_ble_eq_true rfl, Nat.le_of_ble_eq_true rfl⟩) (rp_recv F hH.1 10 rfl (C := RX1) (T := TX1) (N := 8) rfl rfl) hH.1 rfl hl.1 (Nat.le_of_ble_eq_true rfl) dX5_sendBack_62 ⟨Nat.zero_le _, Nat.zero_le _⟩ rfl (fun H locs hH => ?_)
      refine lv_aload_n hx hb dX5_sendBack_65 rfl (lv_at hl 1 rfl) ?_
      refine rg_getr F hH.1 0 (ci := 5) rfl (C := RX5) (T := TX5) (N := 6) rfl iwX5_sendBack_X5 2 (d := 27) (n := 27) rfl rfl (by decide) rfl lkX5_sendBack_5 rfl dX5_sendBack_66 ?_
      refine rg_getr F hH.1 27 (ci := 4) rfl (C := RX4) (T := TX4) (N := 8) rfl iwX5_sendBack_X4 4 (d := 9) (n := 36) rfl rfl (by decide) rfl lkX5_sendBack_6 rfl dX5_sendBack_69 ?_
      refine lv_iload_n hx hb dX5_sendBack_72 rfl (lv_at hl 0 rfl) ?_
      refine lv_iconst (v := 1) hx hb dX5_sendBack_73 (by decide) ?_
      obtain ⟨V8, eV8, hE⟩ := lt_el hE
      refine rg_callWV (As := [.int r1, .int ((1 : Int32))]) (rest := []) F hH (fun q h1 h2 => ⟨h1, h2⟩) 36 sb_LW_36_LC12 (kX0_add l X 12 (by decide) (b + 36) (gv U7 36) r1 ((1 : Int32)) _ rfl) (cwV 2 F.1.2.2.2.2 gX5_sendBack_X0_add rfl rfl rfl hvX0_add ⟨Nat.le_of_ble_eq_true rfl, Nat.le_of_ble_eq_true rfl⟩) (rp_recv F hH.1 36 rfl (C := RX0) (T := TX0) (N := 1) rfl rfl) (hH.1.sub 36 sb_LW_36_LC12) rfl hl.1 (Nat.le_of_ble_eq_true rfl) dX5_sendBack_74 ⟨Nat.zero_le _, Nat.zero_le _⟩ rfl ((pv_cadd ..).trans eV8) (fun H locs hH hfr => ?_)
      refine lv_aload_n hx hb dX5_sendBack_77 rfl (lv_at hl 1 rfl) ?_
      refine rg_getr F hH.1 0 (ci := 5) rfl (C := RX5) (T := TX5) (N := 6) rfl iwX5_sendBack_X5 2 (d := 27) (n := 27) rfl rfl (by decide) rfl lkX5_sendBack_5 rfl dX5_sendBack_78 ?_
      refine lv_aload_n hx hb dX5_sendBack_81 rfl (lv_at hl 1 rfl) ?_
      refine rg_getr F hH.1 0 (ci := 5) rfl (C := RX5) (T := TX5) (N := 6) rfl iwX5_sendBack_X5 1 (d := 10) (n := 10) rfl rfl (by decide) rfl lkX5_sendBack_0 rfl dX5_sendBack_82 ?_
      refine rg_getr F hH.1 10 (ci := 1) rfl (C := RX1) (T := TX1) (N := 8) rfl iwX5_sendBack_X1 0 (d := 1) (n := 11) rfl rfl (by decide) rfl lkX5_sendBack_7 rfl dX5_sendBack_85 ?_
      refine lv_iload_n hx hb dX5_sendBack_88 rfl (lv_at hl 2 rfl) ?_
      obtain ⟨r9, er9, hE⟩ := lt_el hE
      refine rg_callRV (As := [.int a1]) (rest := [.ref (b + 27)]) F (kX0_get l X 4 (by decide) (b + 11) (gv V8 11) a1 r9 er9) (cwV 1 F.1.2.2.2.2 gX5_sendBack_X0_get rfl rfl rfl hvX0_get ⟨Nat.le_of_ble_eq_true rfl, Nat.le_of_ble_eq_true rfl⟩) (rp_recv F hH.1 11 rfl (C := RX0) (T := TX0) (N := 1) rfl rfl) (hH.1.sub 11 sb_LW_11_LC4) rfl hl.1 (Nat.le_of_ble_eq_true rfl) dX5_sendBack_89 ⟨Nat.zero_le _, Nat.zero_le _⟩ rfl ?_
      refine lv_iload_n hx hb dX5_sendBack_92 rfl (lv_at hl 0 rfl) ?_
      obtain ⟨U10, eU10, hE⟩ := lt_el hE
      refine rg_callWS (As := [.int r9, .int r1]) (rest := []) F hH (fun q h1 h2 => ⟨h1, h2⟩) (kX4_addFirst l X b V8 r9 r1 U10 eU10) (cwV 2 F.1.2.2.2.2 gX5_sendBack_X4_addFirst rfl rfl rfl hvX4_addFirst ⟨Nat.le_of_ble_eq_true rfl, Nat.le_of_ble_eq_true rfl⟩) (rp_recv F hH.1 27 rfl (C := RX4) (T := TX4) (N := 8) rfl rfl) hH.1 rfl hl.1 (Nat.le_of_ble_eq_true rfl) dX5_sendBack_93 ⟨Nat.zero_le _, Nat.zero_le _⟩ rfl (fun H locs hH => ?_)
      subst hE
      exact W.vret hx hb hr (fun t ht _ => mw_post hH ht) hH.2.1.2.2 dX5_sendBack_96
    · have hE := (if_pos c4).symm.trans hE
      subst hE
      exact W.vret hx hb hr (fun t ht _ => mw_post hH ht) hH.2.1.2.2 dX5_sendBack_34
set_option maxRecDepth 20000 in
theorem lkX5_stepAcross_0 : Cond.fieldLink RX5 21 "TideWords$World" "gates" "LTideWords$Gates;" ∈ wsX5_stepAcross := by decide +kernel
set_option maxRecDepth 20000 in
theorem iwX5_stepAcross_X5 : ∀ w ∈ wsX50, w ∈ wsX5_stepAcross := by decide +kernel
theorem hvX5_sendBack : yX5_sendBack.cls = RX5 ∧ yX5_sendBack.cls ≠ "java/lang/invoke/MethodHandle" ∧ yX5_sendBack.cls ≠ "java/lang/invoke/VarHandle" ∧ (parseMethodDescriptor yX5_sendBack.desc).map (fun d => d.parameters.length) = some 1 := by decide +kernel
theorem hvX5_takeWord : yX5_takeWord.cls = RX5 ∧ yX5_takeWord.cls ≠ "java/lang/invoke/MethodHandle" ∧ yX5_takeWord.cls ≠ "java/lang/invoke/VarHandle" ∧ (parseMethodDescriptor yX5_takeWord.desc).map (fun d => d.parameters.length) = some 1 := by decide +kernel
theorem hvX5_passLetter : yX5_passLetter.cls = RX5 ∧ yX5_passLetter.cls ≠ "java/lang/invoke/MethodHandle" ∧ yX5_passLetter.cls ≠ "java/lang/invoke/VarHandle" ∧ (parseMethodDescriptor yX5_passLetter.desc).map (fun d => d.parameters.length) = some 1 := by decide +kernel
set_option maxRecDepth 20000 in
theorem lkX5_stepAcross_1 : Cond.fieldLink RX5 67 "TideWords$World" "idleSteps" "I" ∈ wsX5_stepAcross := by decide +kernel
set_option maxRecDepth 20000 in
theorem lkX5_stepAcross_2 : Cond.fieldLink RX5 40 "TideWords$World" "steps" "I" ∈ wsX5_stepAcross := by decide +kernel
def lbX5_stepAcross_4 (a1 : Int32) (s1 : Int32 × Int32 × Mem) : Option ((Int32 × Int32 × Mem) ⊕ (Int32 × Int32 × Mem)) := if (4 : Int32) ≤ s1.2.1 then some (.inr (s1.1, s1.2.1, s1.2.2)) else lt (fX1_isOpenAcross s1.2.2 s1.2.1 a1) (fun r3 => if r3 = 0 then lt (fX5_sendBack s1.2.2 s1.2.1) (fun U5 => some (.inl (s1.1, s1.2.1 + 1, U5))) else lt (fX5_takeWord s1.2.2 s1.2.1) (fun U6 => lt (fX5_passLetter U6 s1.2.1) (fun U7 => some (.inl ((0 : Int32), s1.2.1 + 1, U7)))))
def qX5_stepAcross (V : Mem) (a1 : Int32) : Option (Mem) := (it (lbX5_stepAcross_4 a1) fuel ((1 : Int32), (0 : Int32), V)).bind (fun s8 => if s8.1 = 0 then lt (sv s8.2.2 0 2 ((s8.2.2 0 2) + ((0 : Int32)))) (fun V11 => lt (sv V11 0 0 ((V11 0 0) + ((1 : Int32)))) (fun V12 => some (V12))) else lt (sv s8.2.2 0 2 ((s8.2.2 0 2) + ((1 : Int32)))) (fun V13 => lt (sv V13 0 0 ((V13 0 0) + ((1 : Int32)))) (fun V14 => some (V14))))
abbrev rmX5_stepAcross : Room := { frames := 4, cells := 0, slots := 0, locals := 92 }
set_option maxHeartbeats 4000000 in
set_option maxRecDepth 100000 in
theorem mX5_stepAcross (l : Launch) (X : kX) (b : Nat) (V : Mem) (a1 : Int32) (out : Mem) (hE : qX5_stepAcross V a1 = some out) : MW l yX5_stepAcross wsX5_stepAcross rmX5_stepAcross X [.ref b, .int a1] (RP X LW b V) (none) b (b + LW.length) (RP X LW b out) := by
  refine mt_head (cc := cX5_stepAcross) (maxL := 4) (ret := none) (own := RX5) (by decide) rfl rfl (Nat.le_of_ble_eq_true rfl) ?_
  intro p e s m below meth c ls F hr hlocks hnm hR hl
  have hx := F.1.1
  have hb := F.1.2.1
  have hH : Hp (t_fr b (b + LW.length)) s.heap s.heap.size X LW b V s.heap [] := ⟨hR, va_S.rf, rfl⟩
  have hl : lv_has ls 4 [(0, .ref b), (1, .int a1)] := hl
  unfold qX5_stepAcross at hE
  refine lv_iconst (v := 1) hx hb dX5_stepAcross_0 (by decide) ?_
  refine lv_istore_n (lv' := [(2, .int ((1 : Int32))), (0, .ref b), (1, .int a1)]) hx hb dX5_stepAcross_1 rfl hl (by decide) rfl (fun ls hl => ?_)
  refine lv_iconst (v := 0) hx hb dX5_stepAcross_2 (by decide) ?_
  refine lv_istore_n (lv' := [(3, .int ((0 : Int32))), (2, .int ((1 : Int32))), (0, .ref b), (1, .int a1)]) hx hb dX5_stepAcross_3 rfl hl (by decide) rfl (fun ls hl => ?_)
  obtain ⟨x9, hx9, hE⟩ := bd_el hE
  refine it_walk2 (body := lbX5_stepAcross_4 a1) (Wh := fun s1 => ∀ (H : Heap) (locs : List Loc) (ls : Array Slot), Hp (t_fr b (b + LW.length)) s.heap s.heap.size X LW b s1.2.2 H locs → lv_has ls 4 [(3, .int s1.2.1), (2, .int s1.1), (0, .ref b), (1, .int a1)] → W p l e rmX5_stepAcross s m ([.ref b, .int a1] : List Value).toArray below meth c H locs 0 0 (MQ below (cQw (none) b (b + LW.length) (RP X LW b out)) ([.ref b, .int a1] : List Value).toArray s 0 0 (t_fr b (b + LW.length))) (F0 m 4 ls [])) (We := fun s8 => ∀ (H : Heap) (locs : List Loc) (ls : Array Slot), Hp (t_fr b (b + LW.length)) s.heap s.heap.size X LW b s8.2.2 H locs → lv_has ls 4 [(3, .int s8.2.1), (2, .int s8.1), (0, .ref b), (1, .int a1)] → W p l e rmX5_stepAcross s m ([.ref b, .int a1] : List Value).toArray below meth c H locs 0 0 (MQ below (cQw (none) b (b + LW.length) (RP X LW b out)) ([.ref b, .int a1] : List Value).toArray s 0 0 (t_fr b (b + LW.length))) (F0 m 47 ls [])) ?_ _ _ _ hx9 ?_ s.heap [] ls hH (lv_sub hl [0, 1, 2, 3] rfl)
  · intro s1 r9 hE hL9 hR9 H locs ls hH hl
    unfold lbX5_stepAcross_4 at hE
    refine lv_iload_n hx hb dX5_stepAcross_4 rfl (lv_at hl 0 rfl) ?_
    refine lv_iconst (v := 4) hx hb dX5_stepAcross_5 (by decide) ?_
    refine lv_icmp_ge (tgt := 47) hx hb dX5_stepAcross_6 (by decide) (fun c2 => ?_) (fun c2 => ?_)
    · have hE := (if_pos c2).symm.trans hE
      cases hE
      exact hR9 _ rfl H locs ls hH (lv_sub hl [0, 1, 2, 3] rfl)
    · have hE := (if_neg c2).symm.trans hE
      refine lv_aload_n hx hb dX5_stepAcross_9 rfl (lv_at hl 2 rfl) ?_
      refine rg_getr F hH.1 0 (ci := 5) rfl (C := RX5) (T := TX5) (N := 6) rfl iwX5_stepAcross_X5 1 (d := 10) (n := 10) rfl rfl (by decide) rfl lkX5_stepAcross_0 rfl dX5_stepAcross_10 ?_
      refine lv_iload_n hx hb dX5_stepAcross_13 rfl (lv_at hl 0 rfl) ?_
      refine lv_iload_n hx hb dX5_stepAcross_14 rfl (lv_at hl 3 rfl) ?_
      obtain ⟨r3, er3, hE⟩ := lt_el hE
      refine rg_callRV (As := [.int s1.2.1, .int a1]) (rest := []) F (mX1_isOpenAcross l X b s1.2.2 s1.2.1 a1 r3 er3) (cwV 2 F.1.2.2.2.2 gX5_stepAcross_X1_isOpenAcross rfl rfl rfl hvX1_isOpenAcross ⟨Nat.le_of_ble_eq_true rfl, Nat.le_of_ble_eq_true rfl⟩) (rp_recv F hH.1 10 rfl (C := RX1) (T := TX1) (N := 8) rfl rfl) hH.1 rfl hl.1 (Nat.le_of_ble_eq_true rfl) dX5_stepAcross_15 ⟨Nat.zero_le _, Nat.zero_le _⟩ rfl ?_
      refine lv_if_eq (tgt := 36) hx hb dX5_stepAcross_18 (by decide) (fun c4 => ?_) (fun c4 => ?_)
      · have hE := (if_pos c4).symm.trans hE
        refine lv_aload_n hx hb dX5_stepAcross_36 rfl (lv_at hl 2 rfl) ?_
        refine lv_iload_n hx hb dX5_stepAcross_37 rfl (lv_at hl 0 rfl) ?_
        obtain ⟨U5, eU5, hE⟩ := lt_el hE
        refine rg_callWS (As := [.int s1.2.1]) (rest := []) F hH (fun q h1 h2 => ⟨h1, h2⟩) (mX5_sendBack l X b s1.2.2 s1.2.1 U5 eU5) (cwV 1 F.1.2.2.2.2 gX5_stepAcross_X5_sendBack rfl rfl rfl hvX5_sendBack ⟨Nat.le_of_ble_eq_true rfl, Nat.le_of_ble_eq_true rfl⟩) (rp_recv F hH.1 0 rfl (C := RX5) (T := TX5) (N := 6) rfl rfl) hH.1 rfl hl.1 (Nat.le_of_ble_eq_true rfl) dX5_stepAcross_38 ⟨Nat.zero_le _, Nat.zero_le _⟩ rfl (fun H locs hH => ?_)
        refine lv_iinc (v := s1.2.1 + 1) (lv' := [(3, .int (s1.2.1 + 1)), (2, .int s1.1), (0, .ref b), (1, .int a1)]) hx hb dX5_stepAcross_41 hl (k := 0) rfl (congrArg (fun q => s1.2.1 + q) (by decide)) (by decide) rfl (fun ls hl => ?_)
        refine lv_goto (tgt := 4) hx hb dX5_stepAcross_44 (by decide) ?_
        cases hE
        exact hL9 _ rfl H locs ls hH (lv_sub hl [0, 1, 2, 3] rfl)
      · have hE := (if_neg c4).symm.trans hE
        refine lv_iconst (v := 0) hx hb dX5_stepAcross_21 (by decide) ?_
        refine lv_istore_n (lv' := [(2, .int ((0 : Int32))), (3, .int s1.2.1), (0, .ref b), (1, .int a1)]) hx hb dX5_stepAcross_22 rfl hl (by decide) rfl (fun ls hl => ?_)
        refine lv_aload_n hx hb dX5_stepAcross_23 rfl (lv_at hl 2 rfl) ?_
        refine lv_iload_n hx hb dX5_stepAcross_24 rfl (lv_at hl 1 rfl) ?_
        obtain ⟨U6, eU6, hE⟩ := lt_el hE
        refine rg_callWS (As := [.int s1.2.1]) (rest := []) F hH (fun q h1 h2 => ⟨h1, h2⟩) (mX5_takeWord l X b s1.2.2 s1.2.1 U6 eU6) (cwV 1 F.1.2.2.2.2 gX5_stepAcross_X5_takeWord rfl rfl rfl hvX5_takeWord ⟨Nat.le_of_ble_eq_true rfl, Nat.le_of_ble_eq_true rfl⟩) (rp_recv F hH.1 0 rfl (C := RX5) (T := TX5) (N := 6) rfl rfl) hH.1 rfl hl.1 (Nat.le_of_ble_eq_true rfl) dX5_stepAcross_25 ⟨Nat.zero_le _, Nat.zero_le _⟩ rfl (fun H locs hH => ?_)
        refine lv_aload_n hx hb dX5_stepAcross_28 rfl (lv_at hl 2 rfl) ?_
        refine lv_iload_n hx hb dX5_stepAcross_29 rfl (lv_at hl 1 rfl) ?_
        obtain ⟨U7, eU7, hE⟩ := lt_el hE
        refine rg_callWS (As := [.int s1.2.1]) (rest := []) F hH (fun q h1 h2 => ⟨h1, h2⟩) (mX5_passLetter l X b U6 s1.2.1 U7 eU7) (cwV 1 F.1.2.2.2.2 gX5_stepAcross_X5_passLetter rfl rfl rfl hvX5_passLetter ⟨Nat.le_of_ble_eq_true rfl, Nat.le_of_ble_eq_true rfl⟩) (rp_recv F hH.1 0 rfl (C := RX5) (T := TX5) (N := 6) rfl rfl) hH.1 rfl hl.1 (Nat.le_of_ble_eq_true rfl) dX5_stepAcross_30 ⟨Nat.zero_le _, Nat.zero_le _⟩ rfl (fun H locs hH => ?_)
        refine lv_goto (tgt := 41) hx hb dX5_stepAcross_33 (by decide) ?_
        refine lv_iinc (v := s1.2.1 + 1) (lv' := [(3, .int (s1.2.1 + 1)), (2, .int ((0 : Int32))), (0, .ref b), (1, .int a1)]) hx hb dX5_stepAcross_41 hl (k := 1) rfl (congrArg (fun q => s1.2.1 + q) (by decide)) (by decide) rfl (fun ls hl => ?_)
        refine lv_goto (tgt := 4) hx hb dX5_stepAcross_44 (by decide) ?_
        cases hE
        exact hL9 _ rfl H locs ls hH (lv_sub hl [0, 1, 2, 3] rfl)
  · intro H locs ls hH hl
    refine lv_aload_n hx hb dX5_stepAcross_47 rfl (lv_at hl 2 rfl) ?_
    refine lv_dup hx hb dX5_stepAcross_48 rfl ?_
    refine rg_geti F hH.1 0 (ci := 5) rfl (C := RX5) (T := TX5) (N := 6) rfl iwX5_stepAcross_X5 5 (i := 2) rfl (by decide) rfl lkX5_stepAcross_1 rfl dX5_stepAcross_49 ?_
    refine lv_iload_n hx hb dX5_stepAcross_52 rfl (lv_at hl 1 rfl) ?_
    refine lv_if_eq (tgt := 60) hx hb dX5_stepAcross_53 (by decide) (fun c10 => ?_) (fun c10 => ?_)
    · have hE := (if_pos c10).symm.trans hE
      refine lv_iconst (v := 0) hx hb dX5_stepAcross_60 (by decide) ?_
      refine lv_iadd hx hb dX5_stepAcross_61 ?_
      obtain ⟨V11, eV11, hE⟩ := lt_el hE
      refine rg_put F hH (fun q h1 h2 => ⟨h1, h2⟩) 0 (ci := 5) rfl (C := RX5) (T := TX5) (N := 6) rfl iwX5_stepAcross_X5 tyX5 tyX5_ok nmX5 5 (i := 2) rfl (by decide) (by decide) rfl rfl (by decide +kernel) lkX5_stepAcross_1 rfl dX5_stepAcross_62 (fun H locs hH hfr => ?_)
      replace hH := hp_cast eV11 hH
      refine lv_aload_n hx hb dX5_stepAcross_65 rfl (lv_at hl 2 rfl) ?_
      refine lv_dup hx hb dX5_stepAcross_66 rfl ?_
      refine rg_geti F hH.1 0 (ci := 5) rfl (C := RX5) (T := TX5) (N := 6) rfl iwX5_stepAcross_X5 3 (i := 0) rfl (by decide) rfl lkX5_stepAcross_2 rfl dX5_stepAcross_67 ?_
      refine lv_iconst (v := 1) hx hb dX5_stepAcross_70 (by decide) ?_
      refine lv_iadd hx hb dX5_stepAcross_71 ?_
      obtain ⟨V12, eV12, hE⟩ := lt_el hE
      refine rg_put F hH (fun q h1 h2 => ⟨h1, h2⟩) 0 (ci := 5) rfl (C := RX5) (T := TX5) (N := 6) rfl iwX5_stepAcross_X5 tyX5 tyX5_ok nmX5 3 (i := 0) rfl (by decide) (by decide) rfl rfl (by decide +kernel) lkX5_stepAcross_2 rfl dX5_stepAcross_72 (fun H locs hH hfr => ?_)
      replace hH := hp_cast eV12 hH
      have hE := Option.some.inj hE
      subst hE
      exact W.vret hx hb hr (fun t ht _ => mw_post hH ht) hH.2.1.2.2 dX5_stepAcross_75
    · have hE := (if_neg c10).symm.trans hE
      refine lv_iconst (v := 1) hx hb dX5_stepAcross_56 (by decide) ?_
      refine lv_goto (tgt := 61) hx hb dX5_stepAcross_57 (by decide) ?_
      refine lv_iadd hx hb dX5_stepAcross_61 ?_
      obtain ⟨V13, eV13, hE⟩ := lt_el hE
      refine rg_put F hH (fun q h1 h2 => ⟨h1, h2⟩) 0 (ci := 5) rfl (C := RX5) (T := TX5) (N := 6) rfl iwX5_stepAcross_X5 tyX5 tyX5_ok nmX5 5 (i := 2) rfl (by decide) (by decide) rfl rfl (by decide +kernel) lkX5_stepAcross_1 rfl dX5_stepAcross_62 (fun H locs hH hfr => ?_)
      replace hH := hp_cast eV13 hH
      refine lv_aload_n hx hb dX5_stepAcross_65 rfl (lv_at hl 2 rfl) ?_
      refine lv_dup hx hb dX5_stepAcross_66 rfl ?_
      refine rg_geti F hH.1 0 (ci := 5) rfl (C := RX5) (T := TX5) (N := 6) rfl iwX5_stepAcross_X5 3 (i := 0) rfl (by decide) rfl lkX5_stepAcross_2 rfl dX5_stepAcross_67 ?_
      refine lv_iconst (v := 1) hx hb dX5_stepAcross_70 (by decide) ?_
      refine lv_iadd hx hb dX5_stepAcross_71 ?_
      obtain ⟨V14, eV14, hE⟩ := lt_el hE
      refine rg_put F hH (fun q h1 h2 => ⟨h1, h2⟩) 0 (ci := 5) rfl (C := RX5) (T := TX5) (N := 6) rfl iwX5_stepAcross_X5 tyX5 tyX5_ok nmX5 3 (i := 0) rfl (by decide) (by decide) rfl rfl (by decide +kernel) lkX5_stepAcross_2 rfl dX5_stepAcross_72 (fun H locs hH hfr => ?_)
      replace hH := hp_cast eV14 hH
      have hE := Option.some.inj hE
      subst hE
      exact W.vret hx hb hr (fun t ht _ => mw_post hH ht) hH.2.1.2.2 dX5_stepAcross_75
/-- a gate's part of a step: whether no gate was open so far (1), and the world -/
def actC (gap : Int32) (g : Nat) (q : Int32 × Mem) : Int32 × Mem := if fX1_isOpenAcross q.2 (nI g) gap = 0 then (q.1, fX5_sendBack q.2 (nI g)) else (0, fX5_passLetter (fX5_takeWord q.2 (nI g)) (nI g))
def fX5_stepAcross (V : Mem) (a1 : Int32) : Mem := sv (sv (fld (actC a1) 4 (1, V)).2 0 2 ((fld (actC a1) 4 (1, V)).2 0 2 + (if (fld (actC a1) 4 (1, V)).1 = 0 then 0 else 1))) 0 0 ((fld (actC a1) 4 (1, V)).2 0 0 + 1)
theorem tX5_stepAcross (V : Mem) (a1 : Int32) : qX5_stepAcross V a1 = some (fX5_stepAcross V a1) := by
  have h : it (lbX5_stepAcross_4 a1) fuel ((1 : Int32), (0 : Int32), V) = some ((fld (actC a1) 4 (1, V)).1, nI 4, (fld (actC a1) 4 (1, V)).2) := by
    refine it_for (fun i => ((fld (actC a1) i (1, V)).1, nI i, (fld (actC a1) i (1, V)).2)) 4 (fun i hi => ?_) ?_ fuel (fuel_lt (by omega))
    · unfold lbX5_stepAcross_4 lt
      dsimp only
      rw [if_neg (ge4 hi), nI_1]
      have e : fld (actC a1) (i + 1) (1, V) = actC a1 i (fld (actC a1) i (1, V)) := rfl
      rw [e]
      generalize fld (actC a1) i (1, V) = q
      unfold actC
      by_cases h : fX1_isOpenAcross q.2 (nI i) a1 = 0
      · rw [if_pos h, if_pos h]
      · rw [if_neg h, if_neg h]
    · unfold lbX5_stepAcross_4
      dsimp only
      rw [if_pos (show (4 : Int32) ≤ nI 4 from nI_le (Nat.le_refl _) (by omega))]
  unfold qX5_stepAcross fX5_stepAcross lt
  generalize fld (actC a1) 4 (1, V) = q at h ⊢
  rw [h, Option.bind_some]
  dsimp only
  by_cases h : q.1 = 0
  · rw [if_pos h, if_pos h]
    rfl
  · rw [if_neg h, if_neg h]
    rfl
def stps : Nat → Mem → Mem
  | 0, V => V
  | n + 1, V => fX5_stepAcross (stps n V) (fX3_gapAt (stps n V) (stps n V 0 0))

theorem kX5_stepAcross (l : Launch) (X : kX) (b : Nat) (V : Mem) (a1 : Int32) (out : Mem) (hE : fX5_stepAcross V a1 = out) : MW l yX5_stepAcross wsX5_stepAcross rmX5_stepAcross X [.ref b, .int a1] (RP X LW b V) (none) b (b + LW.length) (RP X LW b out) := mX5_stepAcross l X b V a1 out ((tX5_stepAcross V a1).trans (congrArg some hE))
set_option maxRecDepth 20000 in
theorem lkX5_makeSteps_0 : Cond.fieldLink RX5 12 "TideWords$World" "tides" "LTideWords$Tides;" ∈ wsX5_makeSteps := by decide +kernel
set_option maxRecDepth 20000 in
theorem iwX5_makeSteps_X5 : ∀ w ∈ wsX50, w ∈ wsX5_makeSteps := by decide +kernel
set_option maxRecDepth 20000 in
theorem lkX5_makeSteps_1 : Cond.fieldLink RX5 40 "TideWords$World" "steps" "I" ∈ wsX5_makeSteps := by decide +kernel
theorem hvX5_stepAcross : yX5_stepAcross.cls = RX5 ∧ yX5_stepAcross.cls ≠ "java/lang/invoke/MethodHandle" ∧ yX5_stepAcross.cls ≠ "java/lang/invoke/VarHandle" ∧ (parseMethodDescriptor yX5_stepAcross.desc).map (fun d => d.parameters.length) = some 1 := by decide +kernel
def lbX5_makeSteps_2 (a1 : Int32) (s1 : Int32 × Mem) : Option ((Int32 × Mem) ⊕ (Int32 × Mem)) := if a1 ≤ s1.1 then some (.inr (s1.1, s1.2)) else lt (fX3_gapAt s1.2 (s1.2 0 0)) (fun r3 => lt (fX5_stepAcross s1.2 r3) (fun U4 => some (.inl (s1.1 + 1, U4))))
def qX5_makeSteps (V : Mem) (a1 : Int32) : Option (Mem) := (it (lbX5_makeSteps_2 a1) fuel ((0 : Int32), V)).bind (fun s5 => some (s5.2))
abbrev rmX5_makeSteps : Room := { frames := 5, cells := 0, slots := 0, locals := 115 }
set_option maxHeartbeats 4000000 in
set_option maxRecDepth 100000 in
theorem mX5_makeSteps (l : Launch) (X : kX) (b : Nat) (V : Mem) (a1 : Int32) (out : Mem) (hE : qX5_makeSteps V a1 = some out) : MW l yX5_makeSteps wsX5_makeSteps rmX5_makeSteps X [.ref b, .int a1] (RP X LW b V) (none) b (b + LW.length) (RP X LW b out) := by
  refine mt_head (cc := cX5_makeSteps) (maxL := 3) (ret := none) (own := RX5) (by decide) rfl rfl (Nat.le_of_ble_eq_true rfl) ?_
  intro p e s m below meth c ls F hr hlocks hnm hR hl
  have hx := F.1.1
  have hb := F.1.2.1
  have hH : Hp (t_fr b (b + LW.length)) s.heap s.heap.size X LW b V s.heap [] := ⟨hR, va_S.rf, rfl⟩
  have hl : lv_has ls 3 [(0, .ref b), (1, .int a1)] := hl
  unfold qX5_makeSteps at hE
  refine lv_iconst (v := 0) hx hb dX5_makeSteps_0 (by decide) ?_
  refine lv_istore_n (lv' := [(2, .int ((0 : Int32))), (0, .ref b), (1, .int a1)]) hx hb dX5_makeSteps_1 rfl hl (by decide) rfl (fun ls hl => ?_)
  obtain ⟨x6, hx6, hE⟩ := bd_el hE
  refine it_walk2 (body := lbX5_makeSteps_2 a1) (Wh := fun s1 => ∀ (H : Heap) (locs : List Loc) (ls : Array Slot), Hp (t_fr b (b + LW.length)) s.heap s.heap.size X LW b s1.2 H locs → lv_has ls 3 [(2, .int s1.1), (0, .ref b), (1, .int a1)] → W p l e rmX5_makeSteps s m ([.ref b, .int a1] : List Value).toArray below meth c H locs 0 0 (MQ below (cQw (none) b (b + LW.length) (RP X LW b out)) ([.ref b, .int a1] : List Value).toArray s 0 0 (t_fr b (b + LW.length))) (F0 m 2 ls [])) (We := fun s5 => ∀ (H : Heap) (locs : List Loc) (ls : Array Slot), Hp (t_fr b (b + LW.length)) s.heap s.heap.size X LW b s5.2 H locs → lv_has ls 3 [(2, .int s5.1), (0, .ref b), (1, .int a1)] → W p l e rmX5_makeSteps s m ([.ref b, .int a1] : List Value).toArray below meth c H locs 0 0 (MQ below (cQw (none) b (b + LW.length) (RP X LW b out)) ([.ref b, .int a1] : List Value).toArray s 0 0 (t_fr b (b + LW.length))) (F0 m 28 ls [])) ?_ _ _ _ hx6 ?_ s.heap [] ls hH (lv_sub hl [0, 1, 2] rfl)
  · intro s1 r9 hE hL9 hR9 H locs ls hH hl
    unfold lbX5_makeSteps_2 at hE
    refine lv_iload_n hx hb dX5_makeSteps_2 rfl (lv_at hl 0 rfl) ?_
    refine lv_iload_n hx hb dX5_makeSteps_3 rfl (lv_at hl 2 rfl) ?_
    refine lv_icmp_ge (tgt := 28) hx hb dX5_makeSteps_4 (by decide) (fun c2 => ?_) (fun c2 => ?_)
    · have hE := (if_pos c2).symm.trans hE
      cases hE
      exact hR9 _ rfl H locs ls hH (lv_sub hl [0, 1, 2] rfl)
    · have hE := (if_neg c2).symm.trans hE
      refine lv_aload_n hx hb dX5_makeSteps_7 rfl (lv_at hl 1 rfl) ?_
      refine lv_aload_n hx hb dX5_makeSteps_8 rfl (lv_at hl 1 rfl) ?_
      refine rg_getr F hH.1 0 (ci := 5) rfl (C := RX5) (T := TX5) (N := 6) rfl iwX5_makeSteps_X5 0 (d := 1) (n := 1) rfl rfl (by decide) rfl lkX5_makeSteps_0 rfl dX5_makeSteps_9 ?_
      refine lv_aload_n hx hb dX5_makeSteps_12 rfl (lv_at hl 1 rfl) ?_
      refine rg_geti F hH.1 0 (ci := 5) rfl (C := RX5) (T := TX5) (N := 6) rfl iwX5_makeSteps_X5 3 (i := 0) rfl (by decide) rfl lkX5_makeSteps_1 rfl dX5_makeSteps_13 ?_
      obtain ⟨r3, er3, hE⟩ := lt_el hE
      refine rg_callRV (As := [.int (s1.2 0 0)]) (rest := [.ref b]) F (mX3_gapAt l X b s1.2 (s1.2 0 0) r3 er3) (cwV 1 F.1.2.2.2.2 gX5_makeSteps_X3_gapAt rfl rfl rfl hvX3_gapAt ⟨Nat.le_of_ble_eq_true rfl, Nat.le_of_ble_eq_true rfl⟩) (rp_recv F hH.1 1 rfl (C := RX3) (T := TX3) (N := 4) rfl rfl) hH.1 rfl hl.1 (Nat.le_of_ble_eq_true rfl) dX5_makeSteps_16 ⟨Nat.zero_le _, Nat.zero_le _⟩ rfl ?_
      obtain ⟨U4, eU4, hE⟩ := lt_el hE
      refine rg_callWS (As := [.int r3]) (rest := []) F hH (fun q h1 h2 => ⟨h1, h2⟩) (kX5_stepAcross l X b s1.2 r3 U4 eU4) (cwV 1 F.1.2.2.2.2 gX5_makeSteps_X5_stepAcross rfl rfl rfl hvX5_stepAcross ⟨Nat.le_of_ble_eq_true rfl, Nat.le_of_ble_eq_true rfl⟩) (rp_recv F hH.1 0 rfl (C := RX5) (T := TX5) (N := 6) rfl rfl) hH.1 rfl hl.1 (Nat.le_of_ble_eq_true rfl) dX5_makeSteps_19 ⟨Nat.zero_le _, Nat.zero_le _⟩ rfl (fun H locs hH => ?_)
      refine lv_iinc (v := s1.1 + 1) (lv' := [(2, .int (s1.1 + 1)), (0, .ref b), (1, .int a1)]) hx hb dX5_makeSteps_22 hl (k := 0) rfl (congrArg (fun q => s1.1 + q) (by decide)) (by decide) rfl (fun ls hl => ?_)
      refine lv_goto (tgt := 2) hx hb dX5_makeSteps_25 (by decide) ?_
      cases hE
      exact hL9 _ rfl H locs ls hH (lv_sub hl [0, 1, 2] rfl)
  · intro H locs ls hH hl
    have hE := Option.some.inj hE
    subst hE
    exact W.vret hx hb hr (fun t ht _ => mw_post hH ht) hH.2.1.2.2 dX5_makeSteps_28
def fX5_makeSteps (V : Mem) (a1 : Int32) : Mem := stps a1.toNatClampNeg V
theorem tX5_makeSteps (V : Mem) (a1 : Int32) : qX5_makeSteps V a1 = some (fX5_makeSteps V a1) := by
  have h : it (lbX5_makeSteps_2 a1) fuel ((0 : Int32), V) = some (nI a1.toNatClampNeg, stps a1.toNatClampNeg V) := by
    refine it_for (fun i => (nI i, stps i V)) a1.toNatClampNeg (fun i hi => ?_) ?_ fuel (fuel_lt (by have := r32 a1; omega))
    · unfold lbX5_makeSteps_2 lt
      dsimp only
      rw [if_neg (r_lt hi), nI_1]
      rfl
    · unfold lbX5_makeSteps_2
      dsimp only
      rw [if_pos (r_ge a1)]
  unfold qX5_makeSteps fX5_makeSteps
  rw [h]
  rfl

theorem kX5_makeSteps (l : Launch) (X : kX) (b : Nat) (V : Mem) (a1 : Int32) (out : Mem) (hE : fX5_makeSteps V a1 = out) : MW l yX5_makeSteps wsX5_makeSteps rmX5_makeSteps X [.ref b, .int a1] (RP X LW b V) (none) b (b + LW.length) (RP X LW b out) := mX5_makeSteps l X b V a1 out ((tX5_makeSteps V a1).trans (congrArg some hE))
end
section
theorem RP.agree {X : kX} {L : List Kd} {b n : Nat} {V V2 : Mem} {H : Heap} (h : RP X L b V H) (hag : ∀ j, 1 ≤ j → j < n → V j = V2 j) (h0 : ∀ k, L[0]? = some k → ∀ a, kE X k a (V 0) = kE X k a (V2 0)) (hn : L.length = n := by rfl) : RP X L b V2 H := by
  intro j k hj
  have h1 := h j k hj
  rcases Nat.eq_zero_or_pos j with rfl | hp
  · rw [h0 k hj] at h1
    exact h1
  · have hl := (List.getElem?_eq_some_iff.mp hj).1
    rw [hag j hp (by omega)] at h1
    exact h1
theorem ag_pv {V V2 : Mem} {k n : Nat} (h : ∀ j, 1 ≤ j → j < k → V j = V2 j) : ∀ j, 1 ≤ j → j < k + n → pv V k n (gv V2 k) j = V2 j := by
  intro j h1 h2
  unfold pv gv
  by_cases c : k ≤ j ∧ j < k + n
  · rw [if_pos c, show k + (j - k) = j by omega]
  · rw [if_neg c]
    exact h j h1 (by omega)
theorem ag_sv0 {V V2 : Mem} {n i : Nat} {x : Int32} (h : ∀ j, 1 ≤ j → j < n → V j = V2 j) : ∀ j, 1 ≤ j → j < n → sv V 0 i x j = V2 j := by
  intro j h1 h2
  rw [← h j h1 h2]
  funext q
  unfold sv
  rw [if_neg (fun z => by omega)]

set_option maxRecDepth 20000 in
theorem iwX3_copyFrom_X3 : ∀ w ∈ wsX30, w ∈ wsX3_copyFrom := by decide +kernel
set_option maxRecDepth 20000 in
theorem lkX3_copyFrom_0 : Cond.fieldLink RX3 14 "TideWords$Tides" "means" "LTideWords$Cells;" ∈ wsX3_copyFrom := by decide +kernel
theorem hvX0_copyFrom : yX0_copyFrom.cls = RX0 ∧ yX0_copyFrom.cls ≠ "java/lang/invoke/MethodHandle" ∧ yX0_copyFrom.cls ≠ "java/lang/invoke/VarHandle" ∧ (parseMethodDescriptor yX0_copyFrom.desc).map (fun d => d.parameters.length) = some 1 := by decide +kernel
set_option maxRecDepth 20000 in
theorem lkX3_copyFrom_1 : Cond.fieldLink RX3 20 "TideWords$Tides" "swings" "LTideWords$Cells;" ∈ wsX3_copyFrom := by decide +kernel
set_option maxRecDepth 20000 in
theorem lkX3_copyFrom_2 : Cond.fieldLink RX3 23 "TideWords$Tides" "periods" "LTideWords$Cells;" ∈ wsX3_copyFrom := by decide +kernel
set_option maxRecDepth 20000 in
theorem lkX3_copyFrom_3 : Cond.fieldLink RX3 26 "TideWords$Tides" "lies" "LTideWords$Cells;" ∈ wsX3_copyFrom := by decide +kernel
set_option maxRecDepth 20000 in
theorem sb_LT_7_LC2 : sbL LT 7 (LC 2) := sbl_of rfl
abbrev rmX3_copyFrom : Room := { frames := 2, cells := 0, slots := 0, locals := 81 }
set_option maxHeartbeats 4000000 in
set_option maxRecDepth 100000 in
theorem mX3_copyFrom (l : Launch) (X : kX) (b b2 : Nat) (V V2 : Mem) (hdj : b + 9 ≤ b2 ∨ b2 + 9 ≤ b) : MW l yX3_copyFrom wsX3_copyFrom rmX3_copyFrom X [.ref b, .ref b2] (fun H => RP X LT b V H ∧ RP X LT b2 V2 H) none b (b + LT.length) (RP X LT b V2) := by
  refine mt_head (cc := cX3_copyFrom) (maxL := 2) (ret := none) (own := RX3) (by decide) rfl rfl (Nat.le_of_ble_eq_true rfl) ?_
  intro p e s m below meth c ls F hr hlocks hnm hR hl
  have hx := F.1.1
  have hb := F.1.2.1
  obtain ⟨hR, hR2⟩ := hR
  have hH : Hp (t_fr b (b + LT.length)) s.heap s.heap.size X LT b V s.heap [] := ⟨hR, va_S.rf, rfl⟩
  have hl : lv_has ls 2 [(0, .ref b), (1, .ref b2)] := hl
  have hag : ∀ j, 1 ≤ j → j < 1 → V j = V2 j := fun j h1 h2 => by omega
  refine lv_aload_n hx hb dX3_copyFrom_0 rfl (lv_at hl 1 rfl) ?_
  refine lv_ifnull hx hb dX3_copyFrom_1 ?_
  refine lv_aload_n hx hb dX3_copyFrom_4 rfl (lv_at hl 0 rfl) ?_
  refine rg_getr F hH.1 0 (ci := 3) rfl (C := RX3) (T := TX3) (N := 4) rfl iwX3_copyFrom_X3 0 (d := 1) (n := 1) rfl rfl (by decide) rfl lkX3_copyFrom_0 rfl dX3_copyFrom_5 ?_
  refine lv_aload_n hx hb dX3_copyFrom_8 rfl (lv_at hl 1 rfl) ?_
  refine rg_getr F hR2 0 (ci := 3) rfl (C := RX3) (T := TX3) (N := 4) rfl iwX3_copyFrom_X3 0 (d := 1) (n := 1) rfl rfl (by decide) rfl lkX3_copyFrom_0 rfl dX3_copyFrom_9 ?_
  refine rg_callWV (As := [.ref (b2 + 1)]) (rest := []) F hH (fun q h1 h2 => ⟨h1, h2⟩) 1 sb_LT_1_LC2 (mX0_copyFrom l X 2 (by decide) (b + 1) (b2 + 1) _ _ (by omega)) (cwV 1 F.1.2.2.2.2 gX3_copyFrom_X0_copyFrom rfl rfl rfl hvX0_copyFrom ⟨Nat.le_of_ble_eq_true rfl, Nat.le_of_ble_eq_true rfl⟩) (rp_recv F hH.1 1 rfl (C := RX0) (T := TX0) (N := 1) rfl rfl) ⟨hH.1.sub 1 sb_LT_1_LC2, hR2.sub 1 sb_LT_1_LC2⟩ rfl hl.1 (Nat.le_of_ble_eq_true rfl) dX3_copyFrom_12 ⟨Nat.zero_le _, Nat.zero_le _⟩ rfl rfl (fun H locs hH hfr => ?_)
  replace hR2 := hR2.kept (fun q h1 h2 => hfr q (by
    have h3 : q < b2 + 9 := h2
    show q < b + 1 ∨ b + 1 + 2 ≤ q
    omega))
  replace hag := ag_pv (n := 2) hag
  refine lv_aload_n hx hb dX3_copyFrom_15 rfl (lv_at hl 0 rfl) ?_
  refine rg_getr F hH.1 0 (ci := 3) rfl (C := RX3) (T := TX3) (N := 4) rfl iwX3_copyFrom_X3 1 (d := 3) (n := 3) rfl rfl (by decide) rfl lkX3_copyFrom_1 rfl dX3_copyFrom_16 ?_
  refine lv_aload_n hx hb dX3_copyFrom_19 rfl (lv_at hl 1 rfl) ?_
  refine rg_getr F hR2 0 (ci := 3) rfl (C := RX3) (T := TX3) (N := 4) rfl iwX3_copyFrom_X3 1 (d := 3) (n := 3) rfl rfl (by decide) rfl lkX3_copyFrom_1 rfl dX3_copyFrom_20 ?_
  refine rg_callWV (As := [.ref (b2 + 3)]) (rest := []) F hH (fun q h1 h2 => ⟨h1, h2⟩) 3 sb_LT_3_LC2 (mX0_copyFrom l X 2 (by decide) (b + 3) (b2 + 3) _ _ (by omega)) (cwV 1 F.1.2.2.2.2 gX3_copyFrom_X0_copyFrom rfl rfl rfl hvX0_copyFrom ⟨Nat.le_of_ble_eq_true rfl, Nat.le_of_ble_eq_true rfl⟩) (rp_recv F hH.1 3 rfl (C := RX0) (T := TX0) (N := 1) rfl rfl) ⟨hH.1.sub 3 sb_LT_3_LC2, hR2.sub 3 sb_LT_3_LC2⟩ rfl hl.1 (Nat.le_of_ble_eq_true rfl) dX3_copyFrom_23 ⟨Nat.zero_le _, Nat.zero_le _⟩ rfl rfl (fun H locs hH hfr => ?_)
  replace hR2 := hR2.kept (fun q h1 h2 => hfr q (by
    have h3 : q < b2 + 9 := h2
    show q < b + 3 ∨ b + 3 + 2 ≤ q
    omega))
  replace hag := ag_pv (n := 2) hag
  refine lv_aload_n hx hb dX3_copyFrom_26 rfl (lv_at hl 0 rfl) ?_
  refine rg_getr F hH.1 0 (ci := 3) rfl (C := RX3) (T := TX3) (N := 4) rfl iwX3_copyFrom_X3 2 (d := 5) (n := 5) rfl rfl (by decide) rfl lkX3_copyFrom_2 rfl dX3_copyFrom_27 ?_
  refine lv_aload_n hx hb dX3_copyFrom_30 rfl (lv_at hl 1 rfl) ?_
  refine rg_getr F hR2 0 (ci := 3) rfl (C := RX3) (T := TX3) (N := 4) rfl iwX3_copyFrom_X3 2 (d := 5) (n := 5) rfl rfl (by decide) rfl lkX3_copyFrom_2 rfl dX3_copyFrom_31 ?_
  refine rg_callWV (As := [.ref (b2 + 5)]) (rest := []) F hH (fun q h1 h2 => ⟨h1, h2⟩) 5 sb_LT_5_LC2 (mX0_copyFrom l X 2 (by decide) (b + 5) (b2 + 5) _ _ (by omega)) (cwV 1 F.1.2.2.2.2 gX3_copyFrom_X0_copyFrom rfl rfl rfl hvX0_copyFrom ⟨Nat.le_of_ble_eq_true rfl, Nat.le_of_ble_eq_true rfl⟩) (rp_recv F hH.1 5 rfl (C := RX0) (T := TX0) (N := 1) rfl rfl) ⟨hH.1.sub 5 sb_LT_5_LC2, hR2.sub 5 sb_LT_5_LC2⟩ rfl hl.1 (Nat.le_of_ble_eq_true rfl) dX3_copyFrom_34 ⟨Nat.zero_le _, Nat.zero_le _⟩ rfl rfl (fun H locs hH hfr => ?_)
  replace hR2 := hR2.kept (fun q h1 h2 => hfr q (by
    have h3 : q < b2 + 9 := h2
    show q < b + 5 ∨ b + 5 + 2 ≤ q
    omega))
  replace hag := ag_pv (n := 2) hag
  refine lv_aload_n hx hb dX3_copyFrom_37 rfl (lv_at hl 0 rfl) ?_
  refine rg_getr F hH.1 0 (ci := 3) rfl (C := RX3) (T := TX3) (N := 4) rfl iwX3_copyFrom_X3 3 (d := 7) (n := 7) rfl rfl (by decide) rfl lkX3_copyFrom_3 rfl dX3_copyFrom_38 ?_
  refine lv_aload_n hx hb dX3_copyFrom_41 rfl (lv_at hl 1 rfl) ?_
  refine rg_getr F hR2 0 (ci := 3) rfl (C := RX3) (T := TX3) (N := 4) rfl iwX3_copyFrom_X3 3 (d := 7) (n := 7) rfl rfl (by decide) rfl lkX3_copyFrom_3 rfl dX3_copyFrom_42 ?_
  refine rg_callWV (As := [.ref (b2 + 7)]) (rest := []) F hH (fun q h1 h2 => ⟨h1, h2⟩) 7 sb_LT_7_LC2 (mX0_copyFrom l X 2 (by decide) (b + 7) (b2 + 7) _ _ (by omega)) (cwV 1 F.1.2.2.2.2 gX3_copyFrom_X0_copyFrom rfl rfl rfl hvX0_copyFrom ⟨Nat.le_of_ble_eq_true rfl, Nat.le_of_ble_eq_true rfl⟩) (rp_recv F hH.1 7 rfl (C := RX0) (T := TX0) (N := 1) rfl rfl) ⟨hH.1.sub 7 sb_LT_7_LC2, hR2.sub 7 sb_LT_7_LC2⟩ rfl hl.1 (Nat.le_of_ble_eq_true rfl) dX3_copyFrom_45 ⟨Nat.zero_le _, Nat.zero_le _⟩ rfl rfl (fun H locs hH hfr => ?_)
  replace hR2 := hR2.kept (fun q h1 h2 => hfr q (by
    have h3 : q < b2 + 9 := h2
    show q < b + 7 ∨ b + 7 + 2 ≤ q
    omega))
  replace hag := ag_pv (n := 2) hag
  exact W.vret hx hb hr (fun t ht _ => mw_post ⟨RP.agree hH.1 hag (fun k hk a => by cases hk; rfl), hH.2⟩ ht) hH.2.1.2.2 dX3_copyFrom_48
set_option maxRecDepth 20000 in
theorem iwX1_copyFrom_X1 : ∀ w ∈ wsX10, w ∈ wsX1_copyFrom := by decide +kernel
set_option maxRecDepth 20000 in
theorem lkX1_copyFrom_0 : Cond.fieldLink RX1 14 "TideWords$Gates" "sides" "LTideWords$Cells;" ∈ wsX1_copyFrom := by decide +kernel
set_option maxRecDepth 20000 in
theorem lkX1_copyFrom_1 : Cond.fieldLink RX1 20 "TideWords$Gates" "slacks" "LTideWords$Cells;" ∈ wsX1_copyFrom := by decide +kernel
set_option maxRecDepth 20000 in
theorem lkX1_copyFrom_2 : Cond.fieldLink RX1 23 "TideWords$Gates" "ways" "LTideWords$Cells;" ∈ wsX1_copyFrom := by decide +kernel
set_option maxRecDepth 20000 in
theorem lkX1_copyFrom_3 : Cond.fieldLink RX1 26 "TideWords$Gates" "shuts" "LTideWords$Cells;" ∈ wsX1_copyFrom := by decide +kernel
set_option maxRecDepth 20000 in
theorem sb_LG_7_LC4 : sbL LG 7 (LC 4) := sbl_of rfl
set_option maxRecDepth 20000 in
theorem lkX1_copyFrom_4 : Cond.fieldLink RX1 29 "TideWords$Gates" "held" "LTideWords$Cells;" ∈ wsX1_copyFrom := by decide +kernel
set_option maxRecDepth 20000 in
theorem sb_LG_9_LC4 : sbL LG 9 (LC 4) := sbl_of rfl
set_option maxRecDepth 20000 in
theorem lkX1_copyFrom_5 : Cond.fieldLink RX1 32 "TideWords$Gates" "lettersDone" "LTideWords$Cells;" ∈ wsX1_copyFrom := by decide +kernel
set_option maxRecDepth 20000 in
theorem sb_LG_11_LC4 : sbL LG 11 (LC 4) := sbl_of rfl
set_option maxRecDepth 20000 in
theorem lkX1_copyFrom_6 : Cond.fieldLink RX1 35 "TideWords$Gates" "passedWords" "LTideWords$Cells;" ∈ wsX1_copyFrom := by decide +kernel
set_option maxRecDepth 20000 in
theorem sb_LG_13_LC4 : sbL LG 13 (LC 4) := sbl_of rfl
set_option maxRecDepth 20000 in
theorem lkX1_copyFrom_7 : Cond.fieldLink RX1 38 "TideWords$Gates" "vainLetters" "LTideWords$Cells;" ∈ wsX1_copyFrom := by decide +kernel
set_option maxRecDepth 20000 in
theorem sb_LG_15_LC4 : sbL LG 15 (LC 4) := sbl_of rfl
abbrev rmX1_copyFrom : Room := { frames := 2, cells := 0, slots := 0, locals := 81 }
set_option maxHeartbeats 4000000 in
set_option maxRecDepth 100000 in
theorem mX1_copyFrom (l : Launch) (X : kX) (b b2 : Nat) (V V2 : Mem) (hdj : b + 17 ≤ b2 ∨ b2 + 17 ≤ b) : MW l yX1_copyFrom wsX1_copyFrom rmX1_copyFrom X [.ref b, .ref b2] (fun H => RP X LG b V H ∧ RP X LG b2 V2 H) none b (b + LG.length) (RP X LG b V2) := by
  refine mt_head (cc := cX1_copyFrom) (maxL := 2) (ret := none) (own := RX1) (by decide) rfl rfl (Nat.le_of_ble_eq_true rfl) ?_
  intro p e s m below meth c ls F hr hlocks hnm hR hl
  have hx := F.1.1
  have hb := F.1.2.1
  obtain ⟨hR, hR2⟩ := hR
  have hH : Hp (t_fr b (b + LG.length)) s.heap s.heap.size X LG b V s.heap [] := ⟨hR, va_S.rf, rfl⟩
  have hl : lv_has ls 2 [(0, .ref b), (1, .ref b2)] := hl
  have hag : ∀ j, 1 ≤ j → j < 1 → V j = V2 j := fun j h1 h2 => by omega
  refine lv_aload_n hx hb dX1_copyFrom_0 rfl (lv_at hl 1 rfl) ?_
  refine lv_ifnull hx hb dX1_copyFrom_1 ?_
  refine lv_aload_n hx hb dX1_copyFrom_4 rfl (lv_at hl 0 rfl) ?_
  refine rg_getr F hH.1 0 (ci := 1) rfl (C := RX1) (T := TX1) (N := 8) rfl iwX1_copyFrom_X1 0 (d := 1) (n := 1) rfl rfl (by decide) rfl lkX1_copyFrom_0 rfl dX1_copyFrom_5 ?_
  refine lv_aload_n hx hb dX1_copyFrom_8 rfl (lv_at hl 1 rfl) ?_
  refine rg_getr F hR2 0 (ci := 1) rfl (C := RX1) (T := TX1) (N := 8) rfl iwX1_copyFrom_X1 0 (d := 1) (n := 1) rfl rfl (by decide) rfl lkX1_copyFrom_0 rfl dX1_copyFrom_9 ?_
  refine rg_callWV (As := [.ref (b2 + 1)]) (rest := []) F hH (fun q h1 h2 => ⟨h1, h2⟩) 1 sb_LG_1_LC4 (mX0_copyFrom l X 4 (by decide) (b + 1) (b2 + 1) _ _ (by omega)) (cwV 1 F.1.2.2.2.2 gX1_copyFrom_X0_copyFrom rfl rfl rfl hvX0_copyFrom ⟨Nat.le_of_ble_eq_true rfl, Nat.le_of_ble_eq_true rfl⟩) (rp_recv F hH.1 1 rfl (C := RX0) (T := TX0) (N := 1) rfl rfl) ⟨hH.1.sub 1 sb_LG_1_LC4, hR2.sub 1 sb_LG_1_LC4⟩ rfl hl.1 (Nat.le_of_ble_eq_true rfl) dX1_copyFrom_12 ⟨Nat.zero_le _, Nat.zero_le _⟩ rfl rfl (fun H locs hH hfr => ?_)
  replace hR2 := hR2.kept (fun q h1 h2 => hfr q (by
    have h3 : q < b2 + 17 := h2
    show q < b + 1 ∨ b + 1 + 2 ≤ q
    omega))
  replace hag := ag_pv (n := 2) hag
  refine lv_aload_n hx hb dX1_copyFrom_15 rfl (lv_at hl 0 rfl) ?_
  refine rg_getr F hH.1 0 (ci := 1) rfl (C := RX1) (T := TX1) (N := 8) rfl iwX1_copyFrom_X1 1 (d := 3) (n := 3) rfl rfl (by decide) rfl lkX1_copyFrom_1 rfl dX1_copyFrom_16 ?_
  refine lv_aload_n hx hb dX1_copyFrom_19 rfl (lv_at hl 1 rfl) ?_
  refine rg_getr F hR2 0 (ci := 1) rfl (C := RX1) (T := TX1) (N := 8) rfl iwX1_copyFrom_X1 1 (d := 3) (n := 3) rfl rfl (by decide) rfl lkX1_copyFrom_1 rfl dX1_copyFrom_20 ?_
  refine rg_callWV (As := [.ref (b2 + 3)]) (rest := []) F hH (fun q h1 h2 => ⟨h1, h2⟩) 3 sb_LG_3_LC4 (mX0_copyFrom l X 4 (by decide) (b + 3) (b2 + 3) _ _ (by omega)) (cwV 1 F.1.2.2.2.2 gX1_copyFrom_X0_copyFrom rfl rfl rfl hvX0_copyFrom ⟨Nat.le_of_ble_eq_true rfl, Nat.le_of_ble_eq_true rfl⟩) (rp_recv F hH.1 3 rfl (C := RX0) (T := TX0) (N := 1) rfl rfl) ⟨hH.1.sub 3 sb_LG_3_LC4, hR2.sub 3 sb_LG_3_LC4⟩ rfl hl.1 (Nat.le_of_ble_eq_true rfl) dX1_copyFrom_23 ⟨Nat.zero_le _, Nat.zero_le _⟩ rfl rfl (fun H locs hH hfr => ?_)
  replace hR2 := hR2.kept (fun q h1 h2 => hfr q (by
    have h3 : q < b2 + 17 := h2
    show q < b + 3 ∨ b + 3 + 2 ≤ q
    omega))
  replace hag := ag_pv (n := 2) hag
  refine lv_aload_n hx hb dX1_copyFrom_26 rfl (lv_at hl 0 rfl) ?_
  refine rg_getr F hH.1 0 (ci := 1) rfl (C := RX1) (T := TX1) (N := 8) rfl iwX1_copyFrom_X1 2 (d := 5) (n := 5) rfl rfl (by decide) rfl lkX1_copyFrom_2 rfl dX1_copyFrom_27 ?_
  refine lv_aload_n hx hb dX1_copyFrom_30 rfl (lv_at hl 1 rfl) ?_
  refine rg_getr F hR2 0 (ci := 1) rfl (C := RX1) (T := TX1) (N := 8) rfl iwX1_copyFrom_X1 2 (d := 5) (n := 5) rfl rfl (by decide) rfl lkX1_copyFrom_2 rfl dX1_copyFrom_31 ?_
  refine rg_callWV (As := [.ref (b2 + 5)]) (rest := []) F hH (fun q h1 h2 => ⟨h1, h2⟩) 5 sb_LG_5_LC4 (mX0_copyFrom l X 4 (by decide) (b + 5) (b2 + 5) _ _ (by omega)) (cwV 1 F.1.2.2.2.2 gX1_copyFrom_X0_copyFrom rfl rfl rfl hvX0_copyFrom ⟨Nat.le_of_ble_eq_true rfl, Nat.le_of_ble_eq_true rfl⟩) (rp_recv F hH.1 5 rfl (C := RX0) (T := TX0) (N := 1) rfl rfl) ⟨hH.1.sub 5 sb_LG_5_LC4, hR2.sub 5 sb_LG_5_LC4⟩ rfl hl.1 (Nat.le_of_ble_eq_true rfl) dX1_copyFrom_34 ⟨Nat.zero_le _, Nat.zero_le _⟩ rfl rfl (fun H locs hH hfr => ?_)
  replace hR2 := hR2.kept (fun q h1 h2 => hfr q (by
    have h3 : q < b2 + 17 := h2
    show q < b + 5 ∨ b + 5 + 2 ≤ q
    omega))
  replace hag := ag_pv (n := 2) hag
  refine lv_aload_n hx hb dX1_copyFrom_37 rfl (lv_at hl 0 rfl) ?_
  refine rg_getr F hH.1 0 (ci := 1) rfl (C := RX1) (T := TX1) (N := 8) rfl iwX1_copyFrom_X1 3 (d := 7) (n := 7) rfl rfl (by decide) rfl lkX1_copyFrom_3 rfl dX1_copyFrom_38 ?_
  refine lv_aload_n hx hb dX1_copyFrom_41 rfl (lv_at hl 1 rfl) ?_
  refine rg_getr F hR2 0 (ci := 1) rfl (C := RX1) (T := TX1) (N := 8) rfl iwX1_copyFrom_X1 3 (d := 7) (n := 7) rfl rfl (by decide) rfl lkX1_copyFrom_3 rfl dX1_copyFrom_42 ?_
  refine rg_callWV (As := [.ref (b2 + 7)]) (rest := []) F hH (fun q h1 h2 => ⟨h1, h2⟩) 7 sb_LG_7_LC4 (mX0_copyFrom l X 4 (by decide) (b + 7) (b2 + 7) _ _ (by omega)) (cwV 1 F.1.2.2.2.2 gX1_copyFrom_X0_copyFrom rfl rfl rfl hvX0_copyFrom ⟨Nat.le_of_ble_eq_true rfl, Nat.le_of_ble_eq_true rfl⟩) (rp_recv F hH.1 7 rfl (C := RX0) (T := TX0) (N := 1) rfl rfl) ⟨hH.1.sub 7 sb_LG_7_LC4, hR2.sub 7 sb_LG_7_LC4⟩ rfl hl.1 (Nat.le_of_ble_eq_true rfl) dX1_copyFrom_45 ⟨Nat.zero_le _, Nat.zero_le _⟩ rfl rfl (fun H locs hH hfr => ?_)
  replace hR2 := hR2.kept (fun q h1 h2 => hfr q (by
    have h3 : q < b2 + 17 := h2
    show q < b + 7 ∨ b + 7 + 2 ≤ q
    omega))
  replace hag := ag_pv (n := 2) hag
  refine lv_aload_n hx hb dX1_copyFrom_48 rfl (lv_at hl 0 rfl) ?_
  refine rg_getr F hH.1 0 (ci := 1) rfl (C := RX1) (T := TX1) (N := 8) rfl iwX1_copyFrom_X1 4 (d := 9) (n := 9) rfl rfl (by decide) rfl lkX1_copyFrom_4 rfl dX1_copyFrom_49 ?_
  refine lv_aload_n hx hb dX1_copyFrom_52 rfl (lv_at hl 1 rfl) ?_
  refine rg_getr F hR2 0 (ci := 1) rfl (C := RX1) (T := TX1) (N := 8) rfl iwX1_copyFrom_X1 4 (d := 9) (n := 9) rfl rfl (by decide) rfl lkX1_copyFrom_4 rfl dX1_copyFrom_53 ?_
  refine rg_callWV (As := [.ref (b2 + 9)]) (rest := []) F hH (fun q h1 h2 => ⟨h1, h2⟩) 9 sb_LG_9_LC4 (mX0_copyFrom l X 4 (by decide) (b + 9) (b2 + 9) _ _ (by omega)) (cwV 1 F.1.2.2.2.2 gX1_copyFrom_X0_copyFrom rfl rfl rfl hvX0_copyFrom ⟨Nat.le_of_ble_eq_true rfl, Nat.le_of_ble_eq_true rfl⟩) (rp_recv F hH.1 9 rfl (C := RX0) (T := TX0) (N := 1) rfl rfl) ⟨hH.1.sub 9 sb_LG_9_LC4, hR2.sub 9 sb_LG_9_LC4⟩ rfl hl.1 (Nat.le_of_ble_eq_true rfl) dX1_copyFrom_56 ⟨Nat.zero_le _, Nat.zero_le _⟩ rfl rfl (fun H locs hH hfr => ?_)
  replace hR2 := hR2.kept (fun q h1 h2 => hfr q (by
    have h3 : q < b2 + 17 := h2
    show q < b + 9 ∨ b + 9 + 2 ≤ q
    omega))
  replace hag := ag_pv (n := 2) hag
  refine lv_aload_n hx hb dX1_copyFrom_59 rfl (lv_at hl 0 rfl) ?_
  refine rg_getr F hH.1 0 (ci := 1) rfl (C := RX1) (T := TX1) (N := 8) rfl iwX1_copyFrom_X1 5 (d := 11) (n := 11) rfl rfl (by decide) rfl lkX1_copyFrom_5 rfl dX1_copyFrom_60 ?_
  refine lv_aload_n hx hb dX1_copyFrom_63 rfl (lv_at hl 1 rfl) ?_
  refine rg_getr F hR2 0 (ci := 1) rfl (C := RX1) (T := TX1) (N := 8) rfl iwX1_copyFrom_X1 5 (d := 11) (n := 11) rfl rfl (by decide) rfl lkX1_copyFrom_5 rfl dX1_copyFrom_64 ?_
  refine rg_callWV (As := [.ref (b2 + 11)]) (rest := []) F hH (fun q h1 h2 => ⟨h1, h2⟩) 11 sb_LG_11_LC4 (mX0_copyFrom l X 4 (by decide) (b + 11) (b2 + 11) _ _ (by omega)) (cwV 1 F.1.2.2.2.2 gX1_copyFrom_X0_copyFrom rfl rfl rfl hvX0_copyFrom ⟨Nat.le_of_ble_eq_true rfl, Nat.le_of_ble_eq_true rfl⟩) (rp_recv F hH.1 11 rfl (C := RX0) (T := TX0) (N := 1) rfl rfl) ⟨hH.1.sub 11 sb_LG_11_LC4, hR2.sub 11 sb_LG_11_LC4⟩ rfl hl.1 (Nat.le_of_ble_eq_true rfl) dX1_copyFrom_67 ⟨Nat.zero_le _, Nat.zero_le _⟩ rfl rfl (fun H locs hH hfr => ?_)
  replace hR2 := hR2.kept (fun q h1 h2 => hfr q (by
    have h3 : q < b2 + 17 := h2
    show q < b + 11 ∨ b + 11 + 2 ≤ q
    omega))
  replace hag := ag_pv (n := 2) hag
  refine lv_aload_n hx hb dX1_copyFrom_70 rfl (lv_at hl 0 rfl) ?_
  refine rg_getr F hH.1 0 (ci := 1) rfl (C := RX1) (T := TX1) (N := 8) rfl iwX1_copyFrom_X1 6 (d := 13) (n := 13) rfl rfl (by decide) rfl lkX1_copyFrom_6 rfl dX1_copyFrom_71 ?_
  refine lv_aload_n hx hb dX1_copyFrom_74 rfl (lv_at hl 1 rfl) ?_
  refine rg_getr F hR2 0 (ci := 1) rfl (C := RX1) (T := TX1) (N := 8) rfl iwX1_copyFrom_X1 6 (d := 13) (n := 13) rfl rfl (by decide) rfl lkX1_copyFrom_6 rfl dX1_copyFrom_75 ?_
  refine rg_callWV (As := [.ref (b2 + 13)]) (rest := []) F hH (fun q h1 h2 => ⟨h1, h2⟩) 13 sb_LG_13_LC4 (mX0_copyFrom l X 4 (by decide) (b + 13) (b2 + 13) _ _ (by omega)) (cwV 1 F.1.2.2.2.2 gX1_copyFrom_X0_copyFrom rfl rfl rfl hvX0_copyFrom ⟨Nat.le_of_ble_eq_true rfl, Nat.le_of_ble_eq_true rfl⟩) (rp_recv F hH.1 13 rfl (C := RX0) (T := TX0) (N := 1) rfl rfl) ⟨hH.1.sub 13 sb_LG_13_LC4, hR2.sub 13 sb_LG_13_LC4⟩ rfl hl.1 (Nat.le_of_ble_eq_true rfl) dX1_copyFrom_78 ⟨Nat.zero_le _, Nat.zero_le _⟩ rfl rfl (fun H locs hH hfr => ?_)
  replace hR2 := hR2.kept (fun q h1 h2 => hfr q (by
    have h3 : q < b2 + 17 := h2
    show q < b + 13 ∨ b + 13 + 2 ≤ q
    omega))
  replace hag := ag_pv (n := 2) hag
  refine lv_aload_n hx hb dX1_copyFrom_81 rfl (lv_at hl 0 rfl) ?_
  refine rg_getr F hH.1 0 (ci := 1) rfl (C := RX1) (T := TX1) (N := 8) rfl iwX1_copyFrom_X1 7 (d := 15) (n := 15) rfl rfl (by decide) rfl lkX1_copyFrom_7 rfl dX1_copyFrom_82 ?_
  refine lv_aload_n hx hb dX1_copyFrom_85 rfl (lv_at hl 1 rfl) ?_
  refine rg_getr F hR2 0 (ci := 1) rfl (C := RX1) (T := TX1) (N := 8) rfl iwX1_copyFrom_X1 7 (d := 15) (n := 15) rfl rfl (by decide) rfl lkX1_copyFrom_7 rfl dX1_copyFrom_86 ?_
  refine rg_callWV (As := [.ref (b2 + 15)]) (rest := []) F hH (fun q h1 h2 => ⟨h1, h2⟩) 15 sb_LG_15_LC4 (mX0_copyFrom l X 4 (by decide) (b + 15) (b2 + 15) _ _ (by omega)) (cwV 1 F.1.2.2.2.2 gX1_copyFrom_X0_copyFrom rfl rfl rfl hvX0_copyFrom ⟨Nat.le_of_ble_eq_true rfl, Nat.le_of_ble_eq_true rfl⟩) (rp_recv F hH.1 15 rfl (C := RX0) (T := TX0) (N := 1) rfl rfl) ⟨hH.1.sub 15 sb_LG_15_LC4, hR2.sub 15 sb_LG_15_LC4⟩ rfl hl.1 (Nat.le_of_ble_eq_true rfl) dX1_copyFrom_89 ⟨Nat.zero_le _, Nat.zero_le _⟩ rfl rfl (fun H locs hH hfr => ?_)
  replace hR2 := hR2.kept (fun q h1 h2 => hfr q (by
    have h3 : q < b2 + 17 := h2
    show q < b + 15 ∨ b + 15 + 2 ≤ q
    omega))
  replace hag := ag_pv (n := 2) hag
  exact W.vret hx hb hr (fun t ht _ => mw_post ⟨RP.agree hH.1 hag (fun k hk a => by cases hk; rfl), hH.2⟩ ht) hH.2.1.2.2 dX1_copyFrom_92
set_option maxRecDepth 20000 in
theorem iwX4_copyFrom_X4 : ∀ w ∈ wsX40, w ∈ wsX4_copyFrom := by decide +kernel
set_option maxRecDepth 20000 in
theorem lkX4_copyFrom_0 : Cond.fieldLink RX4 14 "TideWords$Words" "lengths" "LTideWords$Cells;" ∈ wsX4_copyFrom := by decide +kernel
set_option maxRecDepth 20000 in
theorem sb_LWd_1_LC12 : sbL LWd 1 (LC 12) := sbl_of rfl
set_option maxRecDepth 20000 in
theorem lkX4_copyFrom_1 : Cond.fieldLink RX4 20 "TideWords$Words" "letters" "LTideWords$Cells;" ∈ wsX4_copyFrom := by decide +kernel
set_option maxRecDepth 20000 in
theorem sb_LWd_3_LC72 : sbL LWd 3 (LC 72) := sbl_of rfl
set_option maxRecDepth 20000 in
theorem lkX4_copyFrom_2 : Cond.fieldLink RX4 23 "TideWords$Words" "passedSteps" "LTideWords$Cells;" ∈ wsX4_copyFrom := by decide +kernel
set_option maxRecDepth 20000 in
theorem sb_LWd_5_LC12 : sbL LWd 5 (LC 12) := sbl_of rfl
set_option maxRecDepth 20000 in
theorem lkX4_copyFrom_3 : Cond.fieldLink RX4 26 "TideWords$Words" "passedGates" "LTideWords$Cells;" ∈ wsX4_copyFrom := by decide +kernel
set_option maxRecDepth 20000 in
theorem sb_LWd_7_LC12 : sbL LWd 7 (LC 12) := sbl_of rfl
set_option maxRecDepth 20000 in
theorem lkX4_copyFrom_4 : Cond.fieldLink RX4 29 "TideWords$Words" "timesBack" "LTideWords$Cells;" ∈ wsX4_copyFrom := by decide +kernel
set_option maxRecDepth 20000 in
theorem sb_LWd_9_LC12 : sbL LWd 9 (LC 12) := sbl_of rfl
set_option maxRecDepth 20000 in
theorem lkX4_copyFrom_5 : Cond.fieldLink RX4 32 "TideWords$Words" "rows" "LTideWords$Cells;" ∈ wsX4_copyFrom := by decide +kernel
set_option maxRecDepth 20000 in
theorem sb_LWd_11_LC24 : sbL LWd 11 (LC 24) := sbl_of rfl
set_option maxRecDepth 20000 in
theorem lkX4_copyFrom_6 : Cond.fieldLink RX4 35 "TideWords$Words" "rowLengths" "LTideWords$Cells;" ∈ wsX4_copyFrom := by decide +kernel
set_option maxRecDepth 20000 in
theorem sb_LWd_13_LC2 : sbL LWd 13 (LC 2) := sbl_of rfl
set_option maxRecDepth 20000 in
theorem lkX4_copyFrom_7 : Cond.fieldLink RX4 38 "TideWords$Words" "total" "I" ∈ wsX4_copyFrom := by decide +kernel
abbrev rmX4_copyFrom : Room := { frames := 2, cells := 0, slots := 0, locals := 81 }
set_option maxHeartbeats 4000000 in
set_option maxRecDepth 100000 in
theorem mX4_copyFrom (l : Launch) (X : kX) (b b2 : Nat) (V V2 : Mem) (hdj : b + 15 ≤ b2 ∨ b2 + 15 ≤ b) : MW l yX4_copyFrom wsX4_copyFrom rmX4_copyFrom X [.ref b, .ref b2] (fun H => RP X LWd b V H ∧ RP X LWd b2 V2 H) none b (b + LWd.length) (RP X LWd b V2) := by
  refine mt_head (cc := cX4_copyFrom) (maxL := 2) (ret := none) (own := RX4) (by decide) rfl rfl (Nat.le_of_ble_eq_true rfl) ?_
  intro p e s m below meth c ls F hr hlocks hnm hR hl
  have hx := F.1.1
  have hb := F.1.2.1
  obtain ⟨hR, hR2⟩ := hR
  have hH : Hp (t_fr b (b + LWd.length)) s.heap s.heap.size X LWd b V s.heap [] := ⟨hR, va_S.rf, rfl⟩
  have hl : lv_has ls 2 [(0, .ref b), (1, .ref b2)] := hl
  have hag : ∀ j, 1 ≤ j → j < 1 → V j = V2 j := fun j h1 h2 => by omega
  refine lv_aload_n hx hb dX4_copyFrom_0 rfl (lv_at hl 1 rfl) ?_
  refine lv_ifnull hx hb dX4_copyFrom_1 ?_
  refine lv_aload_n hx hb dX4_copyFrom_4 rfl (lv_at hl 0 rfl) ?_
  refine rg_getr F hH.1 0 (ci := 4) rfl (C := RX4) (T := TX4) (N := 8) rfl iwX4_copyFrom_X4 0 (d := 1) (n := 1) rfl rfl (by decide) rfl lkX4_copyFrom_0 rfl dX4_copyFrom_5 ?_
  refine lv_aload_n hx hb dX4_copyFrom_8 rfl (lv_at hl 1 rfl) ?_
  refine rg_getr F hR2 0 (ci := 4) rfl (C := RX4) (T := TX4) (N := 8) rfl iwX4_copyFrom_X4 0 (d := 1) (n := 1) rfl rfl (by decide) rfl lkX4_copyFrom_0 rfl dX4_copyFrom_9 ?_
  refine rg_callWV (As := [.ref (b2 + 1)]) (rest := []) F hH (fun q h1 h2 => ⟨h1, h2⟩) 1 sb_LWd_1_LC12 (mX0_copyFrom l X 12 (by decide) (b + 1) (b2 + 1) _ _ (by omega)) (cwV 1 F.1.2.2.2.2 gX4_copyFrom_X0_copyFrom rfl rfl rfl hvX0_copyFrom ⟨Nat.le_of_ble_eq_true rfl, Nat.le_of_ble_eq_true rfl⟩) (rp_recv F hH.1 1 rfl (C := RX0) (T := TX0) (N := 1) rfl rfl) ⟨hH.1.sub 1 sb_LWd_1_LC12, hR2.sub 1 sb_LWd_1_LC12⟩ rfl hl.1 (Nat.le_of_ble_eq_true rfl) dX4_copyFrom_12 ⟨Nat.zero_le _, Nat.zero_le _⟩ rfl rfl (fun H locs hH hfr => ?_)
  replace hR2 := hR2.kept (fun q h1 h2 => hfr q (by
    have h3 : q < b2 + 15 := h2
    show q < b + 1 ∨ b + 1 + 2 ≤ q
    omega))
  replace hag := ag_pv (n := 2) hag
  refine lv_aload_n hx hb dX4_copyFrom_15 rfl (lv_at hl 0 rfl) ?_
  refine rg_getr F hH.1 0 (ci := 4) rfl (C := RX4) (T := TX4) (N := 8) rfl iwX4_copyFrom_X4 1 (d := 3) (n := 3) rfl rfl (by decide) rfl lkX4_copyFrom_1 rfl dX4_copyFrom_16 ?_
  refine lv_aload_n hx hb dX4_copyFrom_19 rfl (lv_at hl 1 rfl) ?_
  refine rg_getr F hR2 0 (ci := 4) rfl (C := RX4) (T := TX4) (N := 8) rfl iwX4_copyFrom_X4 1 (d := 3) (n := 3) rfl rfl (by decide) rfl lkX4_copyFrom_1 rfl dX4_copyFrom_20 ?_
  refine rg_callWV (As := [.ref (b2 + 3)]) (rest := []) F hH (fun q h1 h2 => ⟨h1, h2⟩) 3 sb_LWd_3_LC72 (mX0_copyFrom l X 72 (by decide) (b + 3) (b2 + 3) _ _ (by omega)) (cwV 1 F.1.2.2.2.2 gX4_copyFrom_X0_copyFrom rfl rfl rfl hvX0_copyFrom ⟨Nat.le_of_ble_eq_true rfl, Nat.le_of_ble_eq_true rfl⟩) (rp_recv F hH.1 3 rfl (C := RX0) (T := TX0) (N := 1) rfl rfl) ⟨hH.1.sub 3 sb_LWd_3_LC72, hR2.sub 3 sb_LWd_3_LC72⟩ rfl hl.1 (Nat.le_of_ble_eq_true rfl) dX4_copyFrom_23 ⟨Nat.zero_le _, Nat.zero_le _⟩ rfl rfl (fun H locs hH hfr => ?_)
  replace hR2 := hR2.kept (fun q h1 h2 => hfr q (by
    have h3 : q < b2 + 15 := h2
    show q < b + 3 ∨ b + 3 + 2 ≤ q
    omega))
  replace hag := ag_pv (n := 2) hag
  refine lv_aload_n hx hb dX4_copyFrom_26 rfl (lv_at hl 0 rfl) ?_
  refine rg_getr F hH.1 0 (ci := 4) rfl (C := RX4) (T := TX4) (N := 8) rfl iwX4_copyFrom_X4 2 (d := 5) (n := 5) rfl rfl (by decide) rfl lkX4_copyFrom_2 rfl dX4_copyFrom_27 ?_
  refine lv_aload_n hx hb dX4_copyFrom_30 rfl (lv_at hl 1 rfl) ?_
  refine rg_getr F hR2 0 (ci := 4) rfl (C := RX4) (T := TX4) (N := 8) rfl iwX4_copyFrom_X4 2 (d := 5) (n := 5) rfl rfl (by decide) rfl lkX4_copyFrom_2 rfl dX4_copyFrom_31 ?_
  refine rg_callWV (As := [.ref (b2 + 5)]) (rest := []) F hH (fun q h1 h2 => ⟨h1, h2⟩) 5 sb_LWd_5_LC12 (mX0_copyFrom l X 12 (by decide) (b + 5) (b2 + 5) _ _ (by omega)) (cwV 1 F.1.2.2.2.2 gX4_copyFrom_X0_copyFrom rfl rfl rfl hvX0_copyFrom ⟨Nat.le_of_ble_eq_true rfl, Nat.le_of_ble_eq_true rfl⟩) (rp_recv F hH.1 5 rfl (C := RX0) (T := TX0) (N := 1) rfl rfl) ⟨hH.1.sub 5 sb_LWd_5_LC12, hR2.sub 5 sb_LWd_5_LC12⟩ rfl hl.1 (Nat.le_of_ble_eq_true rfl) dX4_copyFrom_34 ⟨Nat.zero_le _, Nat.zero_le _⟩ rfl rfl (fun H locs hH hfr => ?_)
  replace hR2 := hR2.kept (fun q h1 h2 => hfr q (by
    have h3 : q < b2 + 15 := h2
    show q < b + 5 ∨ b + 5 + 2 ≤ q
    omega))
  replace hag := ag_pv (n := 2) hag
  refine lv_aload_n hx hb dX4_copyFrom_37 rfl (lv_at hl 0 rfl) ?_
  refine rg_getr F hH.1 0 (ci := 4) rfl (C := RX4) (T := TX4) (N := 8) rfl iwX4_copyFrom_X4 3 (d := 7) (n := 7) rfl rfl (by decide) rfl lkX4_copyFrom_3 rfl dX4_copyFrom_38 ?_
  refine lv_aload_n hx hb dX4_copyFrom_41 rfl (lv_at hl 1 rfl) ?_
  refine rg_getr F hR2 0 (ci := 4) rfl (C := RX4) (T := TX4) (N := 8) rfl iwX4_copyFrom_X4 3 (d := 7) (n := 7) rfl rfl (by decide) rfl lkX4_copyFrom_3 rfl dX4_copyFrom_42 ?_
  refine rg_callWV (As := [.ref (b2 + 7)]) (rest := []) F hH (fun q h1 h2 => ⟨h1, h2⟩) 7 sb_LWd_7_LC12 (mX0_copyFrom l X 12 (by decide) (b + 7) (b2 + 7) _ _ (by omega)) (cwV 1 F.1.2.2.2.2 gX4_copyFrom_X0_copyFrom rfl rfl rfl hvX0_copyFrom ⟨Nat.le_of_ble_eq_true rfl, Nat.le_of_ble_eq_true rfl⟩) (rp_recv F hH.1 7 rfl (C := RX0) (T := TX0) (N := 1) rfl rfl) ⟨hH.1.sub 7 sb_LWd_7_LC12, hR2.sub 7 sb_LWd_7_LC12⟩ rfl hl.1 (Nat.le_of_ble_eq_true rfl) dX4_copyFrom_45 ⟨Nat.zero_le _, Nat.zero_le _⟩ rfl rfl (fun H locs hH hfr => ?_)
  replace hR2 := hR2.kept (fun q h1 h2 => hfr q (by
    have h3 : q < b2 + 15 := h2
    show q < b + 7 ∨ b + 7 + 2 ≤ q
    omega))
  replace hag := ag_pv (n := 2) hag
  refine lv_aload_n hx hb dX4_copyFrom_48 rfl (lv_at hl 0 rfl) ?_
  refine rg_getr F hH.1 0 (ci := 4) rfl (C := RX4) (T := TX4) (N := 8) rfl iwX4_copyFrom_X4 4 (d := 9) (n := 9) rfl rfl (by decide) rfl lkX4_copyFrom_4 rfl dX4_copyFrom_49 ?_
  refine lv_aload_n hx hb dX4_copyFrom_52 rfl (lv_at hl 1 rfl) ?_
  refine rg_getr F hR2 0 (ci := 4) rfl (C := RX4) (T := TX4) (N := 8) rfl iwX4_copyFrom_X4 4 (d := 9) (n := 9) rfl rfl (by decide) rfl lkX4_copyFrom_4 rfl dX4_copyFrom_53 ?_
  refine rg_callWV (As := [.ref (b2 + 9)]) (rest := []) F hH (fun q h1 h2 => ⟨h1, h2⟩) 9 sb_LWd_9_LC12 (mX0_copyFrom l X 12 (by decide) (b + 9) (b2 + 9) _ _ (by omega)) (cwV 1 F.1.2.2.2.2 gX4_copyFrom_X0_copyFrom rfl rfl rfl hvX0_copyFrom ⟨Nat.le_of_ble_eq_true rfl, Nat.le_of_ble_eq_true rfl⟩) (rp_recv F hH.1 9 rfl (C := RX0) (T := TX0) (N := 1) rfl rfl) ⟨hH.1.sub 9 sb_LWd_9_LC12, hR2.sub 9 sb_LWd_9_LC12⟩ rfl hl.1 (Nat.le_of_ble_eq_true rfl) dX4_copyFrom_56 ⟨Nat.zero_le _, Nat.zero_le _⟩ rfl rfl (fun H locs hH hfr => ?_)
  replace hR2 := hR2.kept (fun q h1 h2 => hfr q (by
    have h3 : q < b2 + 15 := h2
    show q < b + 9 ∨ b + 9 + 2 ≤ q
    omega))
  replace hag := ag_pv (n := 2) hag
  refine lv_aload_n hx hb dX4_copyFrom_59 rfl (lv_at hl 0 rfl) ?_
  refine rg_getr F hH.1 0 (ci := 4) rfl (C := RX4) (T := TX4) (N := 8) rfl iwX4_copyFrom_X4 5 (d := 11) (n := 11) rfl rfl (by decide) rfl lkX4_copyFrom_5 rfl dX4_copyFrom_60 ?_
  refine lv_aload_n hx hb dX4_copyFrom_63 rfl (lv_at hl 1 rfl) ?_
  refine rg_getr F hR2 0 (ci := 4) rfl (C := RX4) (T := TX4) (N := 8) rfl iwX4_copyFrom_X4 5 (d := 11) (n := 11) rfl rfl (by decide) rfl lkX4_copyFrom_5 rfl dX4_copyFrom_64 ?_
  refine rg_callWV (As := [.ref (b2 + 11)]) (rest := []) F hH (fun q h1 h2 => ⟨h1, h2⟩) 11 sb_LWd_11_LC24 (mX0_copyFrom l X 24 (by decide) (b + 11) (b2 + 11) _ _ (by omega)) (cwV 1 F.1.2.2.2.2 gX4_copyFrom_X0_copyFrom rfl rfl rfl hvX0_copyFrom ⟨Nat.le_of_ble_eq_true rfl, Nat.le_of_ble_eq_true rfl⟩) (rp_recv F hH.1 11 rfl (C := RX0) (T := TX0) (N := 1) rfl rfl) ⟨hH.1.sub 11 sb_LWd_11_LC24, hR2.sub 11 sb_LWd_11_LC24⟩ rfl hl.1 (Nat.le_of_ble_eq_true rfl) dX4_copyFrom_67 ⟨Nat.zero_le _, Nat.zero_le _⟩ rfl rfl (fun H locs hH hfr => ?_)
  replace hR2 := hR2.kept (fun q h1 h2 => hfr q (by
    have h3 : q < b2 + 15 := h2
    show q < b + 11 ∨ b + 11 + 2 ≤ q
    omega))
  replace hag := ag_pv (n := 2) hag
  refine lv_aload_n hx hb dX4_copyFrom_70 rfl (lv_at hl 0 rfl) ?_
  refine rg_getr F hH.1 0 (ci := 4) rfl (C := RX4) (T := TX4) (N := 8) rfl iwX4_copyFrom_X4 6 (d := 13) (n := 13) rfl rfl (by decide) rfl lkX4_copyFrom_6 rfl dX4_copyFrom_71 ?_
  refine lv_aload_n hx hb dX4_copyFrom_74 rfl (lv_at hl 1 rfl) ?_
  refine rg_getr F hR2 0 (ci := 4) rfl (C := RX4) (T := TX4) (N := 8) rfl iwX4_copyFrom_X4 6 (d := 13) (n := 13) rfl rfl (by decide) rfl lkX4_copyFrom_6 rfl dX4_copyFrom_75 ?_
  refine rg_callWV (As := [.ref (b2 + 13)]) (rest := []) F hH (fun q h1 h2 => ⟨h1, h2⟩) 13 sb_LWd_13_LC2 (mX0_copyFrom l X 2 (by decide) (b + 13) (b2 + 13) _ _ (by omega)) (cwV 1 F.1.2.2.2.2 gX4_copyFrom_X0_copyFrom rfl rfl rfl hvX0_copyFrom ⟨Nat.le_of_ble_eq_true rfl, Nat.le_of_ble_eq_true rfl⟩) (rp_recv F hH.1 13 rfl (C := RX0) (T := TX0) (N := 1) rfl rfl) ⟨hH.1.sub 13 sb_LWd_13_LC2, hR2.sub 13 sb_LWd_13_LC2⟩ rfl hl.1 (Nat.le_of_ble_eq_true rfl) dX4_copyFrom_78 ⟨Nat.zero_le _, Nat.zero_le _⟩ rfl rfl (fun H locs hH hfr => ?_)
  replace hR2 := hR2.kept (fun q h1 h2 => hfr q (by
    have h3 : q < b2 + 15 := h2
    show q < b + 13 ∨ b + 13 + 2 ≤ q
    omega))
  replace hag := ag_pv (n := 2) hag
  refine lv_aload_n hx hb dX4_copyFrom_81 rfl (lv_at hl 0 rfl) ?_
  refine lv_aload_n hx hb dX4_copyFrom_82 rfl (lv_at hl 1 rfl) ?_
  refine rg_geti F hR2 0 (ci := 4) rfl (C := RX4) (T := TX4) (N := 8) rfl iwX4_copyFrom_X4 7 (i := 0) rfl (by decide) rfl lkX4_copyFrom_7 rfl dX4_copyFrom_83 ?_
  refine rg_put F hH (fun q h1 h2 => ⟨h1, h2⟩) 0 (ci := 4) rfl (C := RX4) (T := TX4) (N := 8) rfl iwX4_copyFrom_X4 tyX4 tyX4_ok nmX4 7 (i := 0) rfl (by decide) (by decide) rfl rfl (by decide +kernel) lkX4_copyFrom_7 rfl dX4_copyFrom_86 (fun H locs hH hfr => ?_)
  replace hR2 := hR2.kept (fun q h1 h2 => hfr q (by
    have h3 : q < b2 + 15 := h2
    omega))
  replace hag := ag_sv0 (i := 0) (x := V2 0 0) hag
  exact W.vret hx hb hr (fun t ht _ => mw_post ⟨RP.agree hH.1 hag (fun k hk a => by cases hk; rfl), hH.2⟩ ht) hH.2.1.2.2 dX4_copyFrom_89
set_option maxRecDepth 20000 in
theorem iwX5_copyFrom_X5 : ∀ w ∈ wsX50, w ∈ wsX5_copyFrom := by decide +kernel
set_option maxRecDepth 20000 in
theorem lkX5_copyFrom_0 : Cond.fieldLink RX5 12 "TideWords$World" "tides" "LTideWords$Tides;" ∈ wsX5_copyFrom := by decide +kernel
set_option maxRecDepth 20000 in
theorem sb_LW_1_LT : sbL LW 1 LT := sbl_of rfl
theorem hvX3_copyFrom : yX3_copyFrom.cls = RX3 ∧ yX3_copyFrom.cls ≠ "java/lang/invoke/MethodHandle" ∧ yX3_copyFrom.cls ≠ "java/lang/invoke/VarHandle" ∧ (parseMethodDescriptor yX3_copyFrom.desc).map (fun d => d.parameters.length) = some 1 := by decide +kernel
set_option maxRecDepth 20000 in
theorem lkX5_copyFrom_1 : Cond.fieldLink RX5 21 "TideWords$World" "gates" "LTideWords$Gates;" ∈ wsX5_copyFrom := by decide +kernel
set_option maxRecDepth 20000 in
theorem sb_LW_10_LG : sbL LW 10 LG := sbl_of rfl
theorem hvX1_copyFrom : yX1_copyFrom.cls = RX1 ∧ yX1_copyFrom.cls ≠ "java/lang/invoke/MethodHandle" ∧ yX1_copyFrom.cls ≠ "java/lang/invoke/VarHandle" ∧ (parseMethodDescriptor yX1_copyFrom.desc).map (fun d => d.parameters.length) = some 1 := by decide +kernel
set_option maxRecDepth 20000 in
theorem lkX5_copyFrom_2 : Cond.fieldLink RX5 28 "TideWords$World" "words" "LTideWords$Words;" ∈ wsX5_copyFrom := by decide +kernel
set_option maxRecDepth 20000 in
theorem sb_LW_27_LWd : sbL LW 27 LWd := sbl_of rfl
theorem hvX4_copyFrom : yX4_copyFrom.cls = RX4 ∧ yX4_copyFrom.cls ≠ "java/lang/invoke/MethodHandle" ∧ yX4_copyFrom.cls ≠ "java/lang/invoke/VarHandle" ∧ (parseMethodDescriptor yX4_copyFrom.desc).map (fun d => d.parameters.length) = some 1 := by decide +kernel
set_option maxRecDepth 20000 in
theorem lkX5_copyFrom_3 : Cond.fieldLink RX5 40 "TideWords$World" "steps" "I" ∈ wsX5_copyFrom := by decide +kernel
set_option maxRecDepth 20000 in
theorem lkX5_copyFrom_4 : Cond.fieldLink RX5 93 "TideWords$World" "letters" "I" ∈ wsX5_copyFrom := by decide +kernel
set_option maxRecDepth 20000 in
theorem lkX5_copyFrom_5 : Cond.fieldLink RX5 67 "TideWords$World" "idleSteps" "I" ∈ wsX5_copyFrom := by decide +kernel
abbrev rmX5_copyFrom : Room := { frames := 3, cells := 0, slots := 0, locals := 102 }
set_option maxHeartbeats 4000000 in
set_option maxRecDepth 100000 in
theorem mX5_copyFrom (l : Launch) (X : kX) (b b2 : Nat) (V V2 : Mem) (hdj : b + 42 ≤ b2 ∨ b2 + 42 ≤ b) : MW l yX5_copyFrom wsX5_copyFrom rmX5_copyFrom X [.ref b, .ref b2] (fun H => RP X LW b V H ∧ RP X LW b2 V2 H) none b (b + LW.length) (RP X LW b V2) := by
  refine mt_head (cc := cX5_copyFrom) (maxL := 2) (ret := none) (own := RX5) (by decide) rfl rfl (Nat.le_of_ble_eq_true rfl) ?_
  intro p e s m below meth c ls F hr hlocks hnm hR hl
  have hx := F.1.1
  have hb := F.1.2.1
  obtain ⟨hR, hR2⟩ := hR
  have hH : Hp (t_fr b (b + LW.length)) s.heap s.heap.size X LW b V s.heap [] := ⟨hR, va_S.rf, rfl⟩
  have hl : lv_has ls 2 [(0, .ref b), (1, .ref b2)] := hl
  have hag : ∀ j, 1 ≤ j → j < 1 → V j = V2 j := fun j h1 h2 => by omega
  refine lv_aload_n hx hb dX5_copyFrom_0 rfl (lv_at hl 1 rfl) ?_
  refine lv_ifnull hx hb dX5_copyFrom_1 ?_
  refine lv_aload_n hx hb dX5_copyFrom_4 rfl (lv_at hl 0 rfl) ?_
  refine rg_getr F hH.1 0 (ci := 5) rfl (C := RX5) (T := TX5) (N := 6) rfl iwX5_copyFrom_X5 0 (d := 1) (n := 1) rfl rfl (by decide) rfl lkX5_copyFrom_0 rfl dX5_copyFrom_5 ?_
  refine lv_aload_n hx hb dX5_copyFrom_8 rfl (lv_at hl 1 rfl) ?_
  refine rg_getr F hR2 0 (ci := 5) rfl (C := RX5) (T := TX5) (N := 6) rfl iwX5_copyFrom_X5 0 (d := 1) (n := 1) rfl rfl (by decide) rfl lkX5_copyFrom_0 rfl dX5_copyFrom_9 ?_
  refine rg_callWV (As := [.ref (b2 + 1)]) (rest := []) F hH (fun q h1 h2 => ⟨h1, h2⟩) 1 sb_LW_1_LT (mX3_copyFrom l X (b + 1) (b2 + 1) _ _ (by omega)) (cwV 1 F.1.2.2.2.2 gX5_copyFrom_X3_copyFrom rfl rfl rfl hvX3_copyFrom ⟨Nat.le_of_ble_eq_true rfl, Nat.le_of_ble_eq_true rfl⟩) (rp_recv F hH.1 1 rfl (C := RX3) (T := TX3) (N := 4) rfl rfl) ⟨hH.1.sub 1 sb_LW_1_LT, hR2.sub 1 sb_LW_1_LT⟩ rfl hl.1 (Nat.le_of_ble_eq_true rfl) dX5_copyFrom_12 ⟨Nat.zero_le _, Nat.zero_le _⟩ rfl rfl (fun H locs hH hfr => ?_)
  replace hR2 := hR2.kept (fun q h1 h2 => hfr q (by
    have h3 : q < b2 + 42 := h2
    show q < b + 1 ∨ b + 1 + 9 ≤ q
    omega))
  replace hag := ag_pv (n := 9) hag
  refine lv_aload_n hx hb dX5_copyFrom_15 rfl (lv_at hl 0 rfl) ?_
  refine rg_getr F hH.1 0 (ci := 5) rfl (C := RX5) (T := TX5) (N := 6) rfl iwX5_copyFrom_X5 1 (d := 10) (n := 10) rfl rfl (by decide) rfl lkX5_copyFrom_1 rfl dX5_copyFrom_16 ?_
  refine lv_aload_n hx hb dX5_copyFrom_19 rfl (lv_at hl 1 rfl) ?_
  refine rg_getr F hR2 0 (ci := 5) rfl (C := RX5) (T := TX5) (N := 6) rfl iwX5_copyFrom_X5 1 (d := 10) (n := 10) rfl rfl (by decide) rfl lkX5_copyFrom_1 rfl dX5_copyFrom_20 ?_
  refine rg_callWV (As := [.ref (b2 + 10)]) (rest := []) F hH (fun q h1 h2 => ⟨h1, h2⟩) 10 sb_LW_10_LG (mX1_copyFrom l X (b + 10) (b2 + 10) _ _ (by omega)) (cwV 1 F.1.2.2.2.2 gX5_copyFrom_X1_copyFrom rfl rfl rfl hvX1_copyFrom ⟨Nat.le_of_ble_eq_true rfl, Nat.le_of_ble_eq_true rfl⟩) (rp_recv F hH.1 10 rfl (C := RX1) (T := TX1) (N := 8) rfl rfl) ⟨hH.1.sub 10 sb_LW_10_LG, hR2.sub 10 sb_LW_10_LG⟩ rfl hl.1 (Nat.le_of_ble_eq_true rfl) dX5_copyFrom_23 ⟨Nat.zero_le _, Nat.zero_le _⟩ rfl rfl (fun H locs hH hfr => ?_)
  replace hR2 := hR2.kept (fun q h1 h2 => hfr q (by
    have h3 : q < b2 + 42 := h2
    show q < b + 10 ∨ b + 10 + 17 ≤ q
    omega))
  replace hag := ag_pv (n := 17) hag
  refine lv_aload_n hx hb dX5_copyFrom_26 rfl (lv_at hl 0 rfl) ?_
  refine rg_getr F hH.1 0 (ci := 5) rfl (C := RX5) (T := TX5) (N := 6) rfl iwX5_copyFrom_X5 2 (d := 27) (n := 27) rfl rfl (by decide) rfl lkX5_copyFrom_2 rfl dX5_copyFrom_27 ?_
  refine lv_aload_n hx hb dX5_copyFrom_30 rfl (lv_at hl 1 rfl) ?_
  refine rg_getr F hR2 0 (ci := 5) rfl (C := RX5) (T := TX5) (N := 6) rfl iwX5_copyFrom_X5 2 (d := 27) (n := 27) rfl rfl (by decide) rfl lkX5_copyFrom_2 rfl dX5_copyFrom_31 ?_
  refine rg_callWV (As := [.ref (b2 + 27)]) (rest := []) F hH (fun q h1 h2 => ⟨h1, h2⟩) 27 sb_LW_27_LWd (mX4_copyFrom l X (b + 27) (b2 + 27) _ _ (by omega)) (cwV 1 F.1.2.2.2.2 gX5_copyFrom_X4_copyFrom rfl rfl rfl hvX4_copyFrom ⟨Nat.le_of_ble_eq_true rfl, Nat.le_of_ble_eq_true rfl⟩) (rp_recv F hH.1 27 rfl (C := RX4) (T := TX4) (N := 8) rfl rfl) ⟨hH.1.sub 27 sb_LW_27_LWd, hR2.sub 27 sb_LW_27_LWd⟩ rfl hl.1 (Nat.le_of_ble_eq_true rfl) dX5_copyFrom_34 ⟨Nat.zero_le _, Nat.zero_le _⟩ rfl rfl (fun H locs hH hfr => ?_)
  replace hR2 := hR2.kept (fun q h1 h2 => hfr q (by
    have h3 : q < b2 + 42 := h2
    show q < b + 27 ∨ b + 27 + 15 ≤ q
    omega))
  replace hag := ag_pv (n := 15) hag
  refine lv_aload_n hx hb dX5_copyFrom_37 rfl (lv_at hl 0 rfl) ?_
  refine lv_aload_n hx hb dX5_copyFrom_38 rfl (lv_at hl 1 rfl) ?_
  refine rg_geti F hR2 0 (ci := 5) rfl (C := RX5) (T := TX5) (N := 6) rfl iwX5_copyFrom_X5 3 (i := 0) rfl (by decide) rfl lkX5_copyFrom_3 rfl dX5_copyFrom_39 ?_
  refine rg_put F hH (fun q h1 h2 => ⟨h1, h2⟩) 0 (ci := 5) rfl (C := RX5) (T := TX5) (N := 6) rfl iwX5_copyFrom_X5 tyX5 tyX5_ok nmX5 3 (i := 0) rfl (by decide) (by decide) rfl rfl (by decide +kernel) lkX5_copyFrom_3 rfl dX5_copyFrom_42 (fun H locs hH hfr => ?_)
  replace hR2 := hR2.kept (fun q h1 h2 => hfr q (by
    have h3 : q < b2 + 42 := h2
    omega))
  replace hag := ag_sv0 (i := 0) (x := V2 0 0) hag
  refine lv_aload_n hx hb dX5_copyFrom_45 rfl (lv_at hl 0 rfl) ?_
  refine lv_aload_n hx hb dX5_copyFrom_46 rfl (lv_at hl 1 rfl) ?_
  refine rg_geti F hR2 0 (ci := 5) rfl (C := RX5) (T := TX5) (N := 6) rfl iwX5_copyFrom_X5 4 (i := 1) rfl (by decide) rfl lkX5_copyFrom_4 rfl dX5_copyFrom_47 ?_
  refine rg_put F hH (fun q h1 h2 => ⟨h1, h2⟩) 0 (ci := 5) rfl (C := RX5) (T := TX5) (N := 6) rfl iwX5_copyFrom_X5 tyX5 tyX5_ok nmX5 4 (i := 1) rfl (by decide) (by decide) rfl rfl (by decide +kernel) lkX5_copyFrom_4 rfl dX5_copyFrom_50 (fun H locs hH hfr => ?_)
  replace hR2 := hR2.kept (fun q h1 h2 => hfr q (by
    have h3 : q < b2 + 42 := h2
    omega))
  replace hag := ag_sv0 (i := 1) (x := V2 0 1) hag
  refine lv_aload_n hx hb dX5_copyFrom_53 rfl (lv_at hl 0 rfl) ?_
  refine lv_aload_n hx hb dX5_copyFrom_54 rfl (lv_at hl 1 rfl) ?_
  refine rg_geti F hR2 0 (ci := 5) rfl (C := RX5) (T := TX5) (N := 6) rfl iwX5_copyFrom_X5 5 (i := 2) rfl (by decide) rfl lkX5_copyFrom_5 rfl dX5_copyFrom_55 ?_
  refine rg_put F hH (fun q h1 h2 => ⟨h1, h2⟩) 0 (ci := 5) rfl (C := RX5) (T := TX5) (N := 6) rfl iwX5_copyFrom_X5 tyX5 tyX5_ok nmX5 5 (i := 2) rfl (by decide) (by decide) rfl rfl (by decide +kernel) lkX5_copyFrom_5 rfl dX5_copyFrom_58 (fun H locs hH hfr => ?_)
  replace hR2 := hR2.kept (fun q h1 h2 => hfr q (by
    have h3 : q < b2 + 42 := h2
    omega))
  replace hag := ag_sv0 (i := 2) (x := V2 0 2) hag
  exact W.vret hx hb hr (fun t ht _ => mw_post ⟨RP.agree hH.1 hag (fun k hk a => by cases hk; rfl), hH.2⟩ ht) hH.2.1.2.2 dX5_copyFrom_61
end
